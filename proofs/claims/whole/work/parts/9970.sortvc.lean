/-! ===== sortvc ===== -/
section
abbrev m_DualPivotQuicksort_insertionSort : XM := (⟨"java/util/DualPivotQuicksort", "insertionSort", "([JII)V"⟩, prog_46_method_15_code, 7, none, [])
theorem d_DualPivotQuicksort_insertionSort_0 : decode prog_46_method_15_code 0 = .ok (.iload_n 1, 1) := by decide +kernel
theorem d_DualPivotQuicksort_insertionSort_1 : decode prog_46_method_15_code 1 = .ok (.istore 4, 2) := by decide +kernel
theorem v_DualPivotQuicksort_insertionSort_0 {G : XG} {d : Nat} {h : XH} {Q : XV → XH → Prop} {X : Nat → XH → Prop} {x1 x2 : Int} (F : xFix h) (hyp : (xwp G m_DualPivotQuicksort_insertionSort (d + 1) 3 [xR 64, xI x1, xI x2, xZ, xI x1, xZ, xZ] [] h Q X)) : xwp G m_DualPivotQuicksort_insertionSort (d + 1) 0 [xR 64, xI x1, xI x2, xZ, xZ, xZ, xZ] [] h Q X := by
  have hnx9 : (93 : Int) ≤ xnx h := F.2.2
  refine xr_okL (fun hl9 => ?_)
  have r_x1 : -2147483648 ≤ x1 ∧ x1 ≤ 2147483647 := hl9 (xI x1) (.tail _ (.head _)) (Nat.le_of_ble_eq_true rfl)
  have r_x2 : -2147483648 ≤ x2 ∧ x2 ≤ 2147483647 := hl9 (xI x2) (.tail _ (.tail _ (.head _))) (Nat.le_of_ble_eq_true rfl)
  refine xr_iload_n (pc := 0) (i := 1) (hI := d_DualPivotQuicksort_insertionSort_0) (hi := rfl) (hl := rfl) ?_
  refine xr_istore (pc := 1) (i := 4) (L9 := [xR 64, xI x1, xI x2, xZ, xI x1, xZ, xZ]) (hI := d_DualPivotQuicksort_insertionSort_1) (hn := Nat.le_of_ble_eq_true rfl) (hL9 := rfl) ?_
  exact hyp
theorem d_DualPivotQuicksort_insertionSort_3 : decode prog_46_method_15_code 3 = .ok (.iinc 4 1, 3) := by decide +kernel
theorem d_DualPivotQuicksort_insertionSort_6 : decode prog_46_method_15_code 6 = .ok (.iload 4, 2) := by decide +kernel
theorem d_DualPivotQuicksort_insertionSort_8 : decode prog_46_method_15_code 8 = .ok (.iload_n 2, 1) := by decide +kernel
theorem d_DualPivotQuicksort_insertionSort_9 : decode prog_46_method_15_code 9 = .ok (.if_icmp .ge 60, 3) := by decide +kernel
theorem d_DualPivotQuicksort_insertionSort_69 : decode prog_46_method_15_code 69 = .ok (.return_, 1) := by decide +kernel
theorem d_DualPivotQuicksort_insertionSort_12 : decode prog_46_method_15_code 12 = .ok (.aload_n 0, 1) := by decide +kernel
theorem d_DualPivotQuicksort_insertionSort_13 : decode prog_46_method_15_code 13 = .ok (.iload 4, 2) := by decide +kernel
theorem d_DualPivotQuicksort_insertionSort_15 : decode prog_46_method_15_code 15 = .ok (.dup, 1) := by decide +kernel
theorem d_DualPivotQuicksort_insertionSort_16 : decode prog_46_method_15_code 16 = .ok (.istore_n 3, 1) := by decide +kernel
theorem d_DualPivotQuicksort_insertionSort_17 : decode prog_46_method_15_code 17 = .ok (.laload, 1) := by decide +kernel
theorem d_DualPivotQuicksort_insertionSort_18 : decode prog_46_method_15_code 18 = .ok (.lstore 5, 2) := by decide +kernel
theorem d_DualPivotQuicksort_insertionSort_20 : decode prog_46_method_15_code 20 = .ok (.lload 5, 2) := by decide +kernel
theorem d_DualPivotQuicksort_insertionSort_22 : decode prog_46_method_15_code 22 = .ok (.aload_n 0, 1) := by decide +kernel
theorem d_DualPivotQuicksort_insertionSort_23 : decode prog_46_method_15_code 23 = .ok (.iload_n 3, 1) := by decide +kernel
theorem d_DualPivotQuicksort_insertionSort_24 : decode prog_46_method_15_code 24 = .ok (.iconst 1, 1) := by decide +kernel
theorem d_DualPivotQuicksort_insertionSort_25 : decode prog_46_method_15_code 25 = .ok (.isub, 1) := by decide +kernel
theorem d_DualPivotQuicksort_insertionSort_26 : decode prog_46_method_15_code 26 = .ok (.laload, 1) := by decide +kernel
theorem d_DualPivotQuicksort_insertionSort_27 : decode prog_46_method_15_code 27 = .ok (.lcmp, 1) := by decide +kernel
theorem d_DualPivotQuicksort_insertionSort_28 : decode prog_46_method_15_code 28 = .ok (.ifCond .ge 38, 3) := by decide +kernel
theorem d_DualPivotQuicksort_insertionSort_66 : decode prog_46_method_15_code 66 = .ok (.goto (-63), 3) := by decide +kernel
theorem v_DualPivotQuicksort_insertionSort_3 {G : XG} {d : Nat} {h : XH} {Q : XV → XH → Prop} {X : Nat → XH → Prop} {x1 x2 x4 : Int} (F : xFix h) (hyp : xiR (x4 + 1) ∧ ((x2 ≤ (x4 + 1) → (Q xN h)) ∧ (¬ x2 ≤ (x4 + 1) → 0 ≤ (x4 + 1) ∧ (x4 + 1) < 12000 ∧ 0 ≤ ((x4 + 1) - 1) ∧ (((xpl h 64 ((x4 + 1) - 1)) ≤ (xpl h 64 (x4 + 1)) → (xwp G m_DualPivotQuicksort_insertionSort (d + 1) 3 [xR 64, xI x1, xI x2, xZ, xI (x4 + 1), xZ, xZ] [] h Q X)) ∧ (¬ (xpl h 64 ((x4 + 1) - 1)) ≤ (xpl h 64 (x4 + 1)) → (xwp G m_DualPivotQuicksort_insertionSort (d + 1) 31 [xR 64, xI x1, xI x2, xI (x4 + 1), xI (x4 + 1), xL (xpl h 64 (x4 + 1)), xZ] [] h Q X)))))) : xwp G m_DualPivotQuicksort_insertionSort (d + 1) 3 [xR 64, xI x1, xI x2, xZ, xI x4, xZ, xZ] [] h Q X := by
  have hnx9 : (93 : Int) ≤ xnx h := F.2.2
  refine xr_okL (fun hl9 => ?_)
  have r_x1 : -2147483648 ≤ x1 ∧ x1 ≤ 2147483647 := hl9 (xI x1) (.tail _ (.head _)) (Nat.le_of_ble_eq_true rfl)
  have r_x2 : -2147483648 ≤ x2 ∧ x2 ≤ 2147483647 := hl9 (xI x2) (.tail _ (.tail _ (.head _))) (Nat.le_of_ble_eq_true rfl)
  have r_x4 : -2147483648 ≤ x4 ∧ x4 ≤ 2147483647 := hl9 (xI x4) (.tail _ (.tail _ (.tail _ (.tail _ (.head _))))) (Nat.le_of_ble_eq_true rfl)
  obtain ⟨c9, hyp⟩ := hyp
  refine xr_iinc (pc := 3) (i := 4) (L9 := [xR 64, xI x1, xI x2, xZ, xI (x4 + 1), xZ, xZ]) (hI := d_DualPivotQuicksort_insertionSort_3) (hl := rfl) (hn := Nat.le_of_ble_eq_true rfl) (hr := c9) (hL9 := rfl) ?_
  refine xr_iload (pc := 6) (i := 4) (hI := d_DualPivotQuicksort_insertionSort_6) (hl := rfl) ?_
  refine xr_iload_n (pc := 8) (i := 2) (hI := d_DualPivotQuicksort_insertionSort_8) (hi := rfl) (hl := rfl) ?_
  refine xr_icmp_ge (pc := 9) (tgt := 69) (hI := d_DualPivotQuicksort_insertionSort_9) (ht := by decide) (fun q9 => ?_) (fun q9 => ?_)
  · replace hyp := hyp.1 q9
    have q1_ := q9
    clear q9
    refine xr_return (S := []) (pc := 69) (hI := d_DualPivotQuicksort_insertionSort_69) (hr := rfl) ?_
    exact hyp
  · replace hyp := hyp.2 q9
    have q1_ := q9
    clear q9
    refine xr_aload_n (pc := 12) (i := 0) (hI := d_DualPivotQuicksort_insertionSort_12) (hi := rfl) (hl := rfl) ?_
    refine xr_iload (pc := 13) (i := 4) (hI := d_DualPivotQuicksort_insertionSort_13) (hl := rfl) ?_
    refine xr_dup (pc := 15) (hI := d_DualPivotQuicksort_insertionSort_15) (hv := rfl) ?_
    refine xr_istore_n (pc := 16) (i := 3) (L9 := [xR 64, xI x1, xI x2, xI (x4 + 1), xI (x4 + 1), xZ, xZ]) (hI := d_DualPivotQuicksort_insertionSort_16) (hi := rfl) (hn := Nat.le_of_ble_eq_true rfl) (hL9 := rfl) ?_
    obtain ⟨c2_, hyp⟩ := hyp
    obtain ⟨c3_, hyp⟩ := hyp
    refine xg_laload (pc := 17) (v := (xpl h 64 (x4 + 1))) (hI := d_DualPivotQuicksort_insertionSort_17) (ft_64 F) c2_ (xlt_of (fl_64 F) c3_) rfl (fun f4_ => ?_)
    replace f4_ : -9223372036854775808 ≤ (xpl h 64 (x4 + 1)) ∧ (xpl h 64 (x4 + 1)) ≤ 9223372036854775807 := f4_
    refine xr_lstore (pc := 18) (i := 5) (L9 := [xR 64, xI x1, xI x2, xI (x4 + 1), xI (x4 + 1), xL (xpl h 64 (x4 + 1)), xZ]) (hI := d_DualPivotQuicksort_insertionSort_18) (hn := Nat.le_of_ble_eq_true rfl) (hL9 := rfl) ?_
    refine xr_lload (pc := 20) (i := 5) (hI := d_DualPivotQuicksort_insertionSort_20) (hl := rfl) ?_
    refine xr_aload_n (pc := 22) (i := 0) (hI := d_DualPivotQuicksort_insertionSort_22) (hi := rfl) (hl := rfl) ?_
    refine xr_iload_n (pc := 23) (i := 3) (hI := d_DualPivotQuicksort_insertionSort_23) (hi := rfl) (hl := rfl) ?_
    refine xr_iconst (pc := 24) (hI := d_DualPivotQuicksort_insertionSort_24) (hr := by decide) ?_
    refine xr_isub (pc := 25) (hI := d_DualPivotQuicksort_insertionSort_25) (hr := ⟨by clear hyp; omega, by clear hyp; omega⟩) ?_
    obtain ⟨c5_, hyp⟩ := hyp
    refine xg_laload (pc := 26) (v := (xpl h 64 ((x4 + 1) - 1))) (hI := d_DualPivotQuicksort_insertionSort_26) (ft_64 F) c5_ (xlt_of (fl_64 F) (by clear hyp; omega)) rfl (fun f6_ => ?_)
    replace f6_ : -9223372036854775808 ≤ (xpl h 64 ((x4 + 1) - 1)) ∧ (xpl h 64 ((x4 + 1) - 1)) ≤ 9223372036854775807 := f6_
    refine xr_lcmp (pc := 27) (hI := d_DualPivotQuicksort_insertionSort_27) ?_
    refine xg_lif_ge (pc := 28) (tgt := 66) (hI := d_DualPivotQuicksort_insertionSort_28) (ht := by decide) (fun q9 => ?_) (fun q9 => ?_)
    · replace hyp := hyp.1 q9
      have q7_ := q9
      clear q9
      refine xr_goto (pc := 66) (tgt := 3) (hI := d_DualPivotQuicksort_insertionSort_66) (ht := by decide) ?_
      exact xr_drop (L9 := [xR 64, xI x1, xI x2, xZ, xI (x4 + 1), xZ, xZ]) (xdrs (xdrs (xdrs (xdrz (xdrs (xdrz (xdrs xdr0))))))) hyp
    · replace hyp := hyp.2 q9
      have q7_ := q9
      clear q9
      exact hyp
theorem d_DualPivotQuicksort_insertionSort_31 : decode prog_46_method_15_code 31 = .ok (.iinc 3 (-1), 3) := by decide +kernel
theorem d_DualPivotQuicksort_insertionSort_34 : decode prog_46_method_15_code 34 = .ok (.iload_n 3, 1) := by decide +kernel
theorem d_DualPivotQuicksort_insertionSort_35 : decode prog_46_method_15_code 35 = .ok (.iload_n 1, 1) := by decide +kernel
theorem d_DualPivotQuicksort_insertionSort_36 : decode prog_46_method_15_code 36 = .ok (.if_icmp .lt 23, 3) := by decide +kernel
theorem d_DualPivotQuicksort_insertionSort_39 : decode prog_46_method_15_code 39 = .ok (.lload 5, 2) := by decide +kernel
theorem d_DualPivotQuicksort_insertionSort_41 : decode prog_46_method_15_code 41 = .ok (.aload_n 0, 1) := by decide +kernel
theorem d_DualPivotQuicksort_insertionSort_42 : decode prog_46_method_15_code 42 = .ok (.iload_n 3, 1) := by decide +kernel
theorem d_DualPivotQuicksort_insertionSort_43 : decode prog_46_method_15_code 43 = .ok (.laload, 1) := by decide +kernel
theorem d_DualPivotQuicksort_insertionSort_44 : decode prog_46_method_15_code 44 = .ok (.lcmp, 1) := by decide +kernel
theorem d_DualPivotQuicksort_insertionSort_45 : decode prog_46_method_15_code 45 = .ok (.ifCond .ge 14, 3) := by decide +kernel
theorem d_DualPivotQuicksort_insertionSort_48 : decode prog_46_method_15_code 48 = .ok (.aload_n 0, 1) := by decide +kernel
theorem d_DualPivotQuicksort_insertionSort_49 : decode prog_46_method_15_code 49 = .ok (.iload_n 3, 1) := by decide +kernel
theorem d_DualPivotQuicksort_insertionSort_50 : decode prog_46_method_15_code 50 = .ok (.iconst 1, 1) := by decide +kernel
theorem d_DualPivotQuicksort_insertionSort_51 : decode prog_46_method_15_code 51 = .ok (.iadd, 1) := by decide +kernel
theorem d_DualPivotQuicksort_insertionSort_52 : decode prog_46_method_15_code 52 = .ok (.aload_n 0, 1) := by decide +kernel
theorem d_DualPivotQuicksort_insertionSort_53 : decode prog_46_method_15_code 53 = .ok (.iload_n 3, 1) := by decide +kernel
theorem d_DualPivotQuicksort_insertionSort_54 : decode prog_46_method_15_code 54 = .ok (.laload, 1) := by decide +kernel
theorem d_DualPivotQuicksort_insertionSort_55 : decode prog_46_method_15_code 55 = .ok (.lastore, 1) := by decide +kernel
theorem d_DualPivotQuicksort_insertionSort_56 : decode prog_46_method_15_code 56 = .ok (.goto (-25), 3) := by decide +kernel
theorem v_DualPivotQuicksort_insertionSort_31 {G : XG} {d : Nat} {h : XH} {Q : XV → XH → Prop} {X : Nat → XH → Prop} {x1 x2 x3 x4 x5 : Int} (F : xFix h) (hyp : xiR (x3 + (-1)) ∧ (((x3 + (-1)) < x1 → (xwp G m_DualPivotQuicksort_insertionSort (d + 1) 59 [xR 64, xI x1, xI x2, xI (x3 + (-1)), xI x4, xL x5, xZ] [] h Q X)) ∧ (¬ (x3 + (-1)) < x1 → 0 ≤ (x3 + (-1)) ∧ (x3 + (-1)) < 12000 ∧ (((xpl h 64 (x3 + (-1))) ≤ x5 → (xwp G m_DualPivotQuicksort_insertionSort (d + 1) 59 [xR 64, xI x1, xI x2, xI (x3 + (-1)), xI x4, xL x5, xZ] [] h Q X)) ∧ (¬ (xpl h 64 (x3 + (-1))) ≤ x5 → ((x3 + (-1)) + 1) < 12000 ∧ (xFix (xst h 64 ((x3 + (-1)) + 1) (xpl h 64 (x3 + (-1)))) → xwp G m_DualPivotQuicksort_insertionSort (d + 1) 31 [xR 64, xI x1, xI x2, xI (x3 + (-1)), xI x4, xL x5, xZ] [] (xst h 64 ((x3 + (-1)) + 1) (xpl h 64 (x3 + (-1)))) Q X)))))) : xwp G m_DualPivotQuicksort_insertionSort (d + 1) 31 [xR 64, xI x1, xI x2, xI x3, xI x4, xL x5, xZ] [] h Q X := by
  have hnx9 : (93 : Int) ≤ xnx h := F.2.2
  refine xr_okL (fun hl9 => ?_)
  have r_x1 : -2147483648 ≤ x1 ∧ x1 ≤ 2147483647 := hl9 (xI x1) (.tail _ (.head _)) (Nat.le_of_ble_eq_true rfl)
  have r_x2 : -2147483648 ≤ x2 ∧ x2 ≤ 2147483647 := hl9 (xI x2) (.tail _ (.tail _ (.head _))) (Nat.le_of_ble_eq_true rfl)
  have r_x3 : -2147483648 ≤ x3 ∧ x3 ≤ 2147483647 := hl9 (xI x3) (.tail _ (.tail _ (.tail _ (.head _)))) (Nat.le_of_ble_eq_true rfl)
  have r_x4 : -2147483648 ≤ x4 ∧ x4 ≤ 2147483647 := hl9 (xI x4) (.tail _ (.tail _ (.tail _ (.tail _ (.head _))))) (Nat.le_of_ble_eq_true rfl)
  have r_x5 : -9223372036854775808 ≤ x5 ∧ x5 ≤ 9223372036854775807 := hl9 (xL x5) (.tail _ (.tail _ (.tail _ (.tail _ (.tail _ (.head _)))))) (Nat.le_of_ble_eq_true rfl)
  obtain ⟨c9, hyp⟩ := hyp
  refine xr_iinc (pc := 31) (i := 3) (L9 := [xR 64, xI x1, xI x2, xI (x3 + (-1)), xI x4, xL x5, xZ]) (hI := d_DualPivotQuicksort_insertionSort_31) (hl := rfl) (hn := Nat.le_of_ble_eq_true rfl) (hr := c9) (hL9 := rfl) ?_
  refine xr_iload_n (pc := 34) (i := 3) (hI := d_DualPivotQuicksort_insertionSort_34) (hi := rfl) (hl := rfl) ?_
  refine xr_iload_n (pc := 35) (i := 1) (hI := d_DualPivotQuicksort_insertionSort_35) (hi := rfl) (hl := rfl) ?_
  refine xr_icmp_lt (pc := 36) (tgt := 59) (hI := d_DualPivotQuicksort_insertionSort_36) (ht := by decide) (fun q9 => ?_) (fun q9 => ?_)
  · replace hyp := hyp.1 q9
    have q1_ := q9
    clear q9
    exact hyp
  · replace hyp := hyp.2 q9
    have q1_ := q9
    clear q9
    refine xr_lload (pc := 39) (i := 5) (hI := d_DualPivotQuicksort_insertionSort_39) (hl := rfl) ?_
    refine xr_aload_n (pc := 41) (i := 0) (hI := d_DualPivotQuicksort_insertionSort_41) (hi := rfl) (hl := rfl) ?_
    refine xr_iload_n (pc := 42) (i := 3) (hI := d_DualPivotQuicksort_insertionSort_42) (hi := rfl) (hl := rfl) ?_
    obtain ⟨c2_, hyp⟩ := hyp
    obtain ⟨c3_, hyp⟩ := hyp
    refine xg_laload (pc := 43) (v := (xpl h 64 (x3 + (-1)))) (hI := d_DualPivotQuicksort_insertionSort_43) (ft_64 F) c2_ (xlt_of (fl_64 F) c3_) rfl (fun f4_ => ?_)
    replace f4_ : -9223372036854775808 ≤ (xpl h 64 (x3 + (-1))) ∧ (xpl h 64 (x3 + (-1))) ≤ 9223372036854775807 := f4_
    refine xr_lcmp (pc := 44) (hI := d_DualPivotQuicksort_insertionSort_44) ?_
    refine xg_lif_ge (pc := 45) (tgt := 59) (hI := d_DualPivotQuicksort_insertionSort_45) (ht := by decide) (fun q9 => ?_) (fun q9 => ?_)
    · replace hyp := hyp.1 q9
      have q5_ := q9
      clear q9
      exact hyp
    · replace hyp := hyp.2 q9
      have q5_ := q9
      clear q9
      refine xr_aload_n (pc := 48) (i := 0) (hI := d_DualPivotQuicksort_insertionSort_48) (hi := rfl) (hl := rfl) ?_
      refine xr_iload_n (pc := 49) (i := 3) (hI := d_DualPivotQuicksort_insertionSort_49) (hi := rfl) (hl := rfl) ?_
      refine xr_iconst (pc := 50) (hI := d_DualPivotQuicksort_insertionSort_50) (hr := by decide) ?_
      refine xr_iadd (pc := 51) (hI := d_DualPivotQuicksort_insertionSort_51) (hr := ⟨by clear hyp; omega, by clear hyp; omega⟩) ?_
      refine xr_aload_n (pc := 52) (i := 0) (hI := d_DualPivotQuicksort_insertionSort_52) (hi := rfl) (hl := rfl) ?_
      refine xr_iload_n (pc := 53) (i := 3) (hI := d_DualPivotQuicksort_insertionSort_53) (hi := rfl) (hl := rfl) ?_
      refine xg_laload (pc := 54) (v := (xpl h 64 (x3 + (-1)))) (hI := d_DualPivotQuicksort_insertionSort_54) (ft_64 F) (by clear hyp; omega) (xlt_of (fl_64 F) (by clear hyp; omega)) rfl (fun f6_ => ?_)
      replace f6_ : -9223372036854775808 ≤ (xpl h 64 (x3 + (-1))) ∧ (xpl h 64 (x3 + (-1))) ≤ 9223372036854775807 := f6_
      obtain ⟨c7_, hyp⟩ := hyp
      refine xr_lastore (pc := 55) (hI := d_DualPivotQuicksort_insertionSort_55) (ft_64 F) (by decide) (by clear hyp; omega) (xlt_of (fl_64 F) c7_) ?_
      have F8_ : xFix (xst h 64 ((x3 + (-1)) + 1) (xpl h 64 (x3 + (-1)))) := F.stA xfa_64
      refine xr_goto (pc := 56) (tgt := 31) (hI := d_DualPivotQuicksort_insertionSort_56) (ht := by decide) ?_
      exact (hyp F8_)
theorem d_DualPivotQuicksort_insertionSort_59 : decode prog_46_method_15_code 59 = .ok (.aload_n 0, 1) := by decide +kernel
theorem d_DualPivotQuicksort_insertionSort_60 : decode prog_46_method_15_code 60 = .ok (.iload_n 3, 1) := by decide +kernel
theorem d_DualPivotQuicksort_insertionSort_61 : decode prog_46_method_15_code 61 = .ok (.iconst 1, 1) := by decide +kernel
theorem d_DualPivotQuicksort_insertionSort_62 : decode prog_46_method_15_code 62 = .ok (.iadd, 1) := by decide +kernel
theorem d_DualPivotQuicksort_insertionSort_63 : decode prog_46_method_15_code 63 = .ok (.lload 5, 2) := by decide +kernel
theorem d_DualPivotQuicksort_insertionSort_65 : decode prog_46_method_15_code 65 = .ok (.lastore, 1) := by decide +kernel
theorem v_DualPivotQuicksort_insertionSort_59 {G : XG} {d : Nat} {h : XH} {Q : XV → XH → Prop} {X : Nat → XH → Prop} {x1 x2 x3 x4 x5 : Int} (F : xFix h) (hyp : xiR (x3 + 1) ∧ 0 ≤ (x3 + 1) ∧ (x3 + 1) < 12000 ∧ (xFix (xst h 64 (x3 + 1) x5) → xwp G m_DualPivotQuicksort_insertionSort (d + 1) 3 [xR 64, xI x1, xI x2, xZ, xI x4, xZ, xZ] [] (xst h 64 (x3 + 1) x5) Q X)) : xwp G m_DualPivotQuicksort_insertionSort (d + 1) 59 [xR 64, xI x1, xI x2, xI x3, xI x4, xL x5, xZ] [] h Q X := by
  have hnx9 : (93 : Int) ≤ xnx h := F.2.2
  refine xr_okL (fun hl9 => ?_)
  have r_x1 : -2147483648 ≤ x1 ∧ x1 ≤ 2147483647 := hl9 (xI x1) (.tail _ (.head _)) (Nat.le_of_ble_eq_true rfl)
  have r_x2 : -2147483648 ≤ x2 ∧ x2 ≤ 2147483647 := hl9 (xI x2) (.tail _ (.tail _ (.head _))) (Nat.le_of_ble_eq_true rfl)
  have r_x3 : -2147483648 ≤ x3 ∧ x3 ≤ 2147483647 := hl9 (xI x3) (.tail _ (.tail _ (.tail _ (.head _)))) (Nat.le_of_ble_eq_true rfl)
  have r_x4 : -2147483648 ≤ x4 ∧ x4 ≤ 2147483647 := hl9 (xI x4) (.tail _ (.tail _ (.tail _ (.tail _ (.head _))))) (Nat.le_of_ble_eq_true rfl)
  have r_x5 : -9223372036854775808 ≤ x5 ∧ x5 ≤ 9223372036854775807 := hl9 (xL x5) (.tail _ (.tail _ (.tail _ (.tail _ (.tail _ (.head _)))))) (Nat.le_of_ble_eq_true rfl)
  refine xr_aload_n (pc := 59) (i := 0) (hI := d_DualPivotQuicksort_insertionSort_59) (hi := rfl) (hl := rfl) ?_
  refine xr_iload_n (pc := 60) (i := 3) (hI := d_DualPivotQuicksort_insertionSort_60) (hi := rfl) (hl := rfl) ?_
  refine xr_iconst (pc := 61) (hI := d_DualPivotQuicksort_insertionSort_61) (hr := by decide) ?_
  obtain ⟨c9, hyp⟩ := hyp
  refine xr_iadd (pc := 62) (hI := d_DualPivotQuicksort_insertionSort_62) (hr := c9) ?_
  refine xr_lload (pc := 63) (i := 5) (hI := d_DualPivotQuicksort_insertionSort_63) (hl := rfl) ?_
  obtain ⟨c1_, hyp⟩ := hyp
  obtain ⟨c2_, hyp⟩ := hyp
  refine xr_lastore (pc := 65) (hI := d_DualPivotQuicksort_insertionSort_65) (ft_64 F) (by decide) c1_ (xlt_of (fl_64 F) c2_) ?_
  have F3_ : xFix (xst h 64 (x3 + 1) x5) := F.stA xfa_64
  refine xr_goto (pc := 66) (tgt := 3) (hI := d_DualPivotQuicksort_insertionSort_66) (ht := by decide) ?_
  exact xr_drop (L9 := [xR 64, xI x1, xI x2, xZ, xI x4, xZ, xZ]) (xdrs (xdrs (xdrs (xdrz (xdrs (xdrz (xdrs xdr0))))))) (hyp F3_)
abbrev m_DualPivotQuicksort_mixedInsertionSort : XM := (⟨"java/util/DualPivotQuicksort", "mixedInsertionSort", "([JIII)V"⟩, prog_46_method_14_code, 11, none, [])
theorem d_DualPivotQuicksort_mixedInsertionSort_0 : decode prog_46_method_14_code 0 = .ok (.iload_n 2, 1) := by decide +kernel
theorem d_DualPivotQuicksort_mixedInsertionSort_1 : decode prog_46_method_14_code 1 = .ok (.iload_n 3, 1) := by decide +kernel
theorem d_DualPivotQuicksort_mixedInsertionSort_2 : decode prog_46_method_14_code 2 = .ok (.if_icmp .ne 59, 3) := by decide +kernel
theorem d_DualPivotQuicksort_mixedInsertionSort_61 : decode prog_46_method_14_code 61 = .ok (.aload_n 0, 1) := by decide +kernel
theorem d_DualPivotQuicksort_mixedInsertionSort_62 : decode prog_46_method_14_code 62 = .ok (.iload_n 2, 1) := by decide +kernel
theorem d_DualPivotQuicksort_mixedInsertionSort_63 : decode prog_46_method_14_code 63 = .ok (.laload, 1) := by decide +kernel
theorem d_DualPivotQuicksort_mixedInsertionSort_64 : decode prog_46_method_14_code 64 = .ok (.lstore 4, 2) := by decide +kernel
theorem d_DualPivotQuicksort_mixedInsertionSort_66 : decode prog_46_method_14_code 66 = .ok (.iload_n 3, 1) := by decide +kernel
theorem d_DualPivotQuicksort_mixedInsertionSort_67 : decode prog_46_method_14_code 67 = .ok (.istore 7, 2) := by decide +kernel
theorem v_DualPivotQuicksort_mixedInsertionSort_0 {G : XG} {d : Nat} {h : XH} {Q : XV → XH → Prop} {X : Nat → XH → Prop} {x1 x2 x3 : Int} (F : xFix h) (hyp : ((x2 = x3 → (xwp G m_DualPivotQuicksort_mixedInsertionSort (d + 1) 5 [xR 64, xI x1, xI x2, xZ, xZ, xZ, xZ, xZ, xZ, xZ, xZ] [] h Q X)) ∧ (¬ x2 = x3 → 0 ≤ x2 ∧ x2 < 12000 ∧ (xwp G m_DualPivotQuicksort_mixedInsertionSort (d + 1) 69 [xR 64, xI x1, xI x2, xI x3, xL (xpl h 64 x2), xZ, xZ, xI x3, xZ, xZ, xZ] [] h Q X)))) : xwp G m_DualPivotQuicksort_mixedInsertionSort (d + 1) 0 [xR 64, xI x1, xI x2, xI x3, xZ, xZ, xZ, xZ, xZ, xZ, xZ] [] h Q X := by
  have hnx9 : (93 : Int) ≤ xnx h := F.2.2
  refine xr_okL (fun hl9 => ?_)
  have r_x1 : -2147483648 ≤ x1 ∧ x1 ≤ 2147483647 := hl9 (xI x1) (.tail _ (.head _)) (Nat.le_of_ble_eq_true rfl)
  have r_x2 : -2147483648 ≤ x2 ∧ x2 ≤ 2147483647 := hl9 (xI x2) (.tail _ (.tail _ (.head _))) (Nat.le_of_ble_eq_true rfl)
  have r_x3 : -2147483648 ≤ x3 ∧ x3 ≤ 2147483647 := hl9 (xI x3) (.tail _ (.tail _ (.tail _ (.head _)))) (Nat.le_of_ble_eq_true rfl)
  refine xr_iload_n (pc := 0) (i := 2) (hI := d_DualPivotQuicksort_mixedInsertionSort_0) (hi := rfl) (hl := rfl) ?_
  refine xr_iload_n (pc := 1) (i := 3) (hI := d_DualPivotQuicksort_mixedInsertionSort_1) (hi := rfl) (hl := rfl) ?_
  refine xr_icmp_ne (pc := 2) (tgt := 61) (hI := d_DualPivotQuicksort_mixedInsertionSort_2) (ht := by decide) (fun q9 => ?_) (fun q9 => ?_)
  · replace hyp := hyp.2 q9
    have q1_ := q9
    clear q9
    refine xr_aload_n (pc := 61) (i := 0) (hI := d_DualPivotQuicksort_mixedInsertionSort_61) (hi := rfl) (hl := rfl) ?_
    refine xr_iload_n (pc := 62) (i := 2) (hI := d_DualPivotQuicksort_mixedInsertionSort_62) (hi := rfl) (hl := rfl) ?_
    obtain ⟨c2_, hyp⟩ := hyp
    obtain ⟨c3_, hyp⟩ := hyp
    refine xg_laload (pc := 63) (v := (xpl h 64 x2)) (hI := d_DualPivotQuicksort_mixedInsertionSort_63) (ft_64 F) c2_ (xlt_of (fl_64 F) c3_) rfl (fun f4_ => ?_)
    replace f4_ : -9223372036854775808 ≤ (xpl h 64 x2) ∧ (xpl h 64 x2) ≤ 9223372036854775807 := f4_
    refine xr_lstore (pc := 64) (i := 4) (L9 := [xR 64, xI x1, xI x2, xI x3, xL (xpl h 64 x2), xZ, xZ, xZ, xZ, xZ, xZ]) (hI := d_DualPivotQuicksort_mixedInsertionSort_64) (hn := Nat.le_of_ble_eq_true rfl) (hL9 := rfl) ?_
    refine xr_iload_n (pc := 66) (i := 3) (hI := d_DualPivotQuicksort_mixedInsertionSort_66) (hi := rfl) (hl := rfl) ?_
    refine xr_istore (pc := 67) (i := 7) (L9 := [xR 64, xI x1, xI x2, xI x3, xL (xpl h 64 x2), xZ, xZ, xI x3, xZ, xZ, xZ]) (hI := d_DualPivotQuicksort_mixedInsertionSort_67) (hn := Nat.le_of_ble_eq_true rfl) (hL9 := rfl) ?_
    exact hyp
  · replace hyp := hyp.1 q9
    have q1_ := q9
    clear q9
    exact xr_drop (L9 := [xR 64, xI x1, xI x2, xZ, xZ, xZ, xZ, xZ, xZ, xZ, xZ]) (xdrs (xdrs (xdrs (xdrz (xdrs (xdrs (xdrs (xdrs (xdrs (xdrs (xdrs xdr0))))))))))) hyp
theorem d_DualPivotQuicksort_mixedInsertionSort_5 : decode prog_46_method_14_code 5 = .ok (.iinc 1 1, 3) := by decide +kernel
theorem d_DualPivotQuicksort_mixedInsertionSort_8 : decode prog_46_method_14_code 8 = .ok (.iload_n 1, 1) := by decide +kernel
theorem d_DualPivotQuicksort_mixedInsertionSort_9 : decode prog_46_method_14_code 9 = .ok (.iload_n 2, 1) := by decide +kernel
theorem d_DualPivotQuicksort_mixedInsertionSort_10 : decode prog_46_method_14_code 10 = .ok (.if_icmp .ge 48, 3) := by decide +kernel
theorem d_DualPivotQuicksort_mixedInsertionSort_58 : decode prog_46_method_14_code 58 = .ok (.goto 368, 3) := by decide +kernel
theorem d_DualPivotQuicksort_mixedInsertionSort_426 : decode prog_46_method_14_code 426 = .ok (.return_, 1) := by decide +kernel
theorem d_DualPivotQuicksort_mixedInsertionSort_13 : decode prog_46_method_14_code 13 = .ok (.aload_n 0, 1) := by decide +kernel
theorem d_DualPivotQuicksort_mixedInsertionSort_14 : decode prog_46_method_14_code 14 = .ok (.iload_n 1, 1) := by decide +kernel
theorem d_DualPivotQuicksort_mixedInsertionSort_15 : decode prog_46_method_14_code 15 = .ok (.dup, 1) := by decide +kernel
theorem d_DualPivotQuicksort_mixedInsertionSort_16 : decode prog_46_method_14_code 16 = .ok (.istore 4, 2) := by decide +kernel
theorem d_DualPivotQuicksort_mixedInsertionSort_18 : decode prog_46_method_14_code 18 = .ok (.laload, 1) := by decide +kernel
theorem d_DualPivotQuicksort_mixedInsertionSort_19 : decode prog_46_method_14_code 19 = .ok (.lstore 5, 2) := by decide +kernel
theorem v_DualPivotQuicksort_mixedInsertionSort_5 {G : XG} {d : Nat} {h : XH} {Q : XV → XH → Prop} {X : Nat → XH → Prop} {x1 x2 : Int} (F : xFix h) (hyp : xiR (x1 + 1) ∧ ((x2 ≤ (x1 + 1) → (Q xN h)) ∧ (¬ x2 ≤ (x1 + 1) → 0 ≤ (x1 + 1) ∧ (x1 + 1) < 12000 ∧ (xwp G m_DualPivotQuicksort_mixedInsertionSort (d + 1) 21 [xR 64, xI (x1 + 1), xI x2, xZ, xI (x1 + 1), xL (xpl h 64 (x1 + 1)), xZ, xZ, xZ, xZ, xZ] [] h Q X)))) : xwp G m_DualPivotQuicksort_mixedInsertionSort (d + 1) 5 [xR 64, xI x1, xI x2, xZ, xZ, xZ, xZ, xZ, xZ, xZ, xZ] [] h Q X := by
  have hnx9 : (93 : Int) ≤ xnx h := F.2.2
  refine xr_okL (fun hl9 => ?_)
  have r_x1 : -2147483648 ≤ x1 ∧ x1 ≤ 2147483647 := hl9 (xI x1) (.tail _ (.head _)) (Nat.le_of_ble_eq_true rfl)
  have r_x2 : -2147483648 ≤ x2 ∧ x2 ≤ 2147483647 := hl9 (xI x2) (.tail _ (.tail _ (.head _))) (Nat.le_of_ble_eq_true rfl)
  obtain ⟨c9, hyp⟩ := hyp
  refine xr_iinc (pc := 5) (i := 1) (L9 := [xR 64, xI (x1 + 1), xI x2, xZ, xZ, xZ, xZ, xZ, xZ, xZ, xZ]) (hI := d_DualPivotQuicksort_mixedInsertionSort_5) (hl := rfl) (hn := Nat.le_of_ble_eq_true rfl) (hr := c9) (hL9 := rfl) ?_
  refine xr_iload_n (pc := 8) (i := 1) (hI := d_DualPivotQuicksort_mixedInsertionSort_8) (hi := rfl) (hl := rfl) ?_
  refine xr_iload_n (pc := 9) (i := 2) (hI := d_DualPivotQuicksort_mixedInsertionSort_9) (hi := rfl) (hl := rfl) ?_
  refine xr_icmp_ge (pc := 10) (tgt := 58) (hI := d_DualPivotQuicksort_mixedInsertionSort_10) (ht := by decide) (fun q9 => ?_) (fun q9 => ?_)
  · replace hyp := hyp.1 q9
    have q1_ := q9
    clear q9
    refine xr_goto (pc := 58) (tgt := 426) (hI := d_DualPivotQuicksort_mixedInsertionSort_58) (ht := by decide) ?_
    refine xr_return (S := []) (pc := 426) (hI := d_DualPivotQuicksort_mixedInsertionSort_426) (hr := rfl) ?_
    exact hyp
  · replace hyp := hyp.2 q9
    have q1_ := q9
    clear q9
    refine xr_aload_n (pc := 13) (i := 0) (hI := d_DualPivotQuicksort_mixedInsertionSort_13) (hi := rfl) (hl := rfl) ?_
    refine xr_iload_n (pc := 14) (i := 1) (hI := d_DualPivotQuicksort_mixedInsertionSort_14) (hi := rfl) (hl := rfl) ?_
    refine xr_dup (pc := 15) (hI := d_DualPivotQuicksort_mixedInsertionSort_15) (hv := rfl) ?_
    refine xr_istore (pc := 16) (i := 4) (L9 := [xR 64, xI (x1 + 1), xI x2, xZ, xI (x1 + 1), xZ, xZ, xZ, xZ, xZ, xZ]) (hI := d_DualPivotQuicksort_mixedInsertionSort_16) (hn := Nat.le_of_ble_eq_true rfl) (hL9 := rfl) ?_
    obtain ⟨c2_, hyp⟩ := hyp
    obtain ⟨c3_, hyp⟩ := hyp
    refine xg_laload (pc := 18) (v := (xpl h 64 (x1 + 1))) (hI := d_DualPivotQuicksort_mixedInsertionSort_18) (ft_64 F) c2_ (xlt_of (fl_64 F) c3_) rfl (fun f4_ => ?_)
    replace f4_ : -9223372036854775808 ≤ (xpl h 64 (x1 + 1)) ∧ (xpl h 64 (x1 + 1)) ≤ 9223372036854775807 := f4_
    refine xr_lstore (pc := 19) (i := 5) (L9 := [xR 64, xI (x1 + 1), xI x2, xZ, xI (x1 + 1), xL (xpl h 64 (x1 + 1)), xZ, xZ, xZ, xZ, xZ]) (hI := d_DualPivotQuicksort_mixedInsertionSort_19) (hn := Nat.le_of_ble_eq_true rfl) (hL9 := rfl) ?_
    exact hyp
theorem d_DualPivotQuicksort_mixedInsertionSort_21 : decode prog_46_method_14_code 21 = .ok (.lload 5, 2) := by decide +kernel
theorem d_DualPivotQuicksort_mixedInsertionSort_23 : decode prog_46_method_14_code 23 = .ok (.aload_n 0, 1) := by decide +kernel
theorem d_DualPivotQuicksort_mixedInsertionSort_24 : decode prog_46_method_14_code 24 = .ok (.iinc 4 (-1), 3) := by decide +kernel
theorem d_DualPivotQuicksort_mixedInsertionSort_27 : decode prog_46_method_14_code 27 = .ok (.iload 4, 2) := by decide +kernel
theorem d_DualPivotQuicksort_mixedInsertionSort_29 : decode prog_46_method_14_code 29 = .ok (.laload, 1) := by decide +kernel
theorem d_DualPivotQuicksort_mixedInsertionSort_30 : decode prog_46_method_14_code 30 = .ok (.lcmp, 1) := by decide +kernel
theorem d_DualPivotQuicksort_mixedInsertionSort_31 : decode prog_46_method_14_code 31 = .ok (.ifCond .ge 16, 3) := by decide +kernel
theorem d_DualPivotQuicksort_mixedInsertionSort_47 : decode prog_46_method_14_code 47 = .ok (.aload_n 0, 1) := by decide +kernel
theorem d_DualPivotQuicksort_mixedInsertionSort_48 : decode prog_46_method_14_code 48 = .ok (.iload 4, 2) := by decide +kernel
theorem d_DualPivotQuicksort_mixedInsertionSort_50 : decode prog_46_method_14_code 50 = .ok (.iconst 1, 1) := by decide +kernel
theorem d_DualPivotQuicksort_mixedInsertionSort_51 : decode prog_46_method_14_code 51 = .ok (.iadd, 1) := by decide +kernel
theorem d_DualPivotQuicksort_mixedInsertionSort_52 : decode prog_46_method_14_code 52 = .ok (.lload 5, 2) := by decide +kernel
theorem d_DualPivotQuicksort_mixedInsertionSort_54 : decode prog_46_method_14_code 54 = .ok (.lastore, 1) := by decide +kernel
theorem d_DualPivotQuicksort_mixedInsertionSort_55 : decode prog_46_method_14_code 55 = .ok (.goto (-50), 3) := by decide +kernel
theorem d_DualPivotQuicksort_mixedInsertionSort_34 : decode prog_46_method_14_code 34 = .ok (.aload_n 0, 1) := by decide +kernel
theorem d_DualPivotQuicksort_mixedInsertionSort_35 : decode prog_46_method_14_code 35 = .ok (.iload 4, 2) := by decide +kernel
theorem d_DualPivotQuicksort_mixedInsertionSort_37 : decode prog_46_method_14_code 37 = .ok (.iconst 1, 1) := by decide +kernel
theorem d_DualPivotQuicksort_mixedInsertionSort_38 : decode prog_46_method_14_code 38 = .ok (.iadd, 1) := by decide +kernel
theorem d_DualPivotQuicksort_mixedInsertionSort_39 : decode prog_46_method_14_code 39 = .ok (.aload_n 0, 1) := by decide +kernel
theorem d_DualPivotQuicksort_mixedInsertionSort_40 : decode prog_46_method_14_code 40 = .ok (.iload 4, 2) := by decide +kernel
theorem d_DualPivotQuicksort_mixedInsertionSort_42 : decode prog_46_method_14_code 42 = .ok (.laload, 1) := by decide +kernel
theorem d_DualPivotQuicksort_mixedInsertionSort_43 : decode prog_46_method_14_code 43 = .ok (.lastore, 1) := by decide +kernel
theorem d_DualPivotQuicksort_mixedInsertionSort_44 : decode prog_46_method_14_code 44 = .ok (.goto (-23), 3) := by decide +kernel
theorem v_DualPivotQuicksort_mixedInsertionSort_21 {G : XG} {d : Nat} {h : XH} {Q : XV → XH → Prop} {X : Nat → XH → Prop} {x1 x2 x4 x5 : Int} (F : xFix h) (hyp : xiR (x4 + (-1)) ∧ 0 ≤ (x4 + (-1)) ∧ (x4 + (-1)) < 12000 ∧ (((xpl h 64 (x4 + (-1))) ≤ x5 → ((x4 + (-1)) + 1) < 12000 ∧ (xFix (xst h 64 ((x4 + (-1)) + 1) x5) → xwp G m_DualPivotQuicksort_mixedInsertionSort (d + 1) 5 [xR 64, xI x1, xI x2, xZ, xZ, xZ, xZ, xZ, xZ, xZ, xZ] [] (xst h 64 ((x4 + (-1)) + 1) x5) Q X)) ∧ (¬ (xpl h 64 (x4 + (-1))) ≤ x5 → ((x4 + (-1)) + 1) < 12000 ∧ (xFix (xst h 64 ((x4 + (-1)) + 1) (xpl h 64 (x4 + (-1)))) → xwp G m_DualPivotQuicksort_mixedInsertionSort (d + 1) 21 [xR 64, xI x1, xI x2, xZ, xI (x4 + (-1)), xL x5, xZ, xZ, xZ, xZ, xZ] [] (xst h 64 ((x4 + (-1)) + 1) (xpl h 64 (x4 + (-1)))) Q X)))) : xwp G m_DualPivotQuicksort_mixedInsertionSort (d + 1) 21 [xR 64, xI x1, xI x2, xZ, xI x4, xL x5, xZ, xZ, xZ, xZ, xZ] [] h Q X := by
  have hnx9 : (93 : Int) ≤ xnx h := F.2.2
  refine xr_okL (fun hl9 => ?_)
  have r_x1 : -2147483648 ≤ x1 ∧ x1 ≤ 2147483647 := hl9 (xI x1) (.tail _ (.head _)) (Nat.le_of_ble_eq_true rfl)
  have r_x2 : -2147483648 ≤ x2 ∧ x2 ≤ 2147483647 := hl9 (xI x2) (.tail _ (.tail _ (.head _))) (Nat.le_of_ble_eq_true rfl)
  have r_x4 : -2147483648 ≤ x4 ∧ x4 ≤ 2147483647 := hl9 (xI x4) (.tail _ (.tail _ (.tail _ (.tail _ (.head _))))) (Nat.le_of_ble_eq_true rfl)
  have r_x5 : -9223372036854775808 ≤ x5 ∧ x5 ≤ 9223372036854775807 := hl9 (xL x5) (.tail _ (.tail _ (.tail _ (.tail _ (.tail _ (.head _)))))) (Nat.le_of_ble_eq_true rfl)
  refine xr_lload (pc := 21) (i := 5) (hI := d_DualPivotQuicksort_mixedInsertionSort_21) (hl := rfl) ?_
  refine xr_aload_n (pc := 23) (i := 0) (hI := d_DualPivotQuicksort_mixedInsertionSort_23) (hi := rfl) (hl := rfl) ?_
  obtain ⟨c9, hyp⟩ := hyp
  refine xr_iinc (pc := 24) (i := 4) (L9 := [xR 64, xI x1, xI x2, xZ, xI (x4 + (-1)), xL x5, xZ, xZ, xZ, xZ, xZ]) (hI := d_DualPivotQuicksort_mixedInsertionSort_24) (hl := rfl) (hn := Nat.le_of_ble_eq_true rfl) (hr := c9) (hL9 := rfl) ?_
  refine xr_iload (pc := 27) (i := 4) (hI := d_DualPivotQuicksort_mixedInsertionSort_27) (hl := rfl) ?_
  obtain ⟨c1_, hyp⟩ := hyp
  obtain ⟨c2_, hyp⟩ := hyp
  refine xg_laload (pc := 29) (v := (xpl h 64 (x4 + (-1)))) (hI := d_DualPivotQuicksort_mixedInsertionSort_29) (ft_64 F) c1_ (xlt_of (fl_64 F) c2_) rfl (fun f3_ => ?_)
  replace f3_ : -9223372036854775808 ≤ (xpl h 64 (x4 + (-1))) ∧ (xpl h 64 (x4 + (-1))) ≤ 9223372036854775807 := f3_
  refine xr_lcmp (pc := 30) (hI := d_DualPivotQuicksort_mixedInsertionSort_30) ?_
  refine xg_lif_ge (pc := 31) (tgt := 47) (hI := d_DualPivotQuicksort_mixedInsertionSort_31) (ht := by decide) (fun q9 => ?_) (fun q9 => ?_)
  · replace hyp := hyp.1 q9
    have q4_ := q9
    clear q9
    refine xr_aload_n (pc := 47) (i := 0) (hI := d_DualPivotQuicksort_mixedInsertionSort_47) (hi := rfl) (hl := rfl) ?_
    refine xr_iload (pc := 48) (i := 4) (hI := d_DualPivotQuicksort_mixedInsertionSort_48) (hl := rfl) ?_
    refine xr_iconst (pc := 50) (hI := d_DualPivotQuicksort_mixedInsertionSort_50) (hr := by decide) ?_
    refine xr_iadd (pc := 51) (hI := d_DualPivotQuicksort_mixedInsertionSort_51) (hr := ⟨by clear hyp; omega, by clear hyp; omega⟩) ?_
    refine xr_lload (pc := 52) (i := 5) (hI := d_DualPivotQuicksort_mixedInsertionSort_52) (hl := rfl) ?_
    obtain ⟨c5_, hyp⟩ := hyp
    refine xr_lastore (pc := 54) (hI := d_DualPivotQuicksort_mixedInsertionSort_54) (ft_64 F) (by decide) (by clear hyp; omega) (xlt_of (fl_64 F) c5_) ?_
    have F6_ : xFix (xst h 64 ((x4 + (-1)) + 1) x5) := F.stA xfa_64
    refine xr_goto (pc := 55) (tgt := 5) (hI := d_DualPivotQuicksort_mixedInsertionSort_55) (ht := by decide) ?_
    exact xr_drop (L9 := [xR 64, xI x1, xI x2, xZ, xZ, xZ, xZ, xZ, xZ, xZ, xZ]) (xdrs (xdrs (xdrs (xdrs (xdrz (xdrz (xdrs (xdrs (xdrs (xdrs (xdrs xdr0))))))))))) (hyp F6_)
  · replace hyp := hyp.2 q9
    have q4_ := q9
    clear q9
    refine xr_aload_n (pc := 34) (i := 0) (hI := d_DualPivotQuicksort_mixedInsertionSort_34) (hi := rfl) (hl := rfl) ?_
    refine xr_iload (pc := 35) (i := 4) (hI := d_DualPivotQuicksort_mixedInsertionSort_35) (hl := rfl) ?_
    refine xr_iconst (pc := 37) (hI := d_DualPivotQuicksort_mixedInsertionSort_37) (hr := by decide) ?_
    refine xr_iadd (pc := 38) (hI := d_DualPivotQuicksort_mixedInsertionSort_38) (hr := ⟨by clear hyp; omega, by clear hyp; omega⟩) ?_
    refine xr_aload_n (pc := 39) (i := 0) (hI := d_DualPivotQuicksort_mixedInsertionSort_39) (hi := rfl) (hl := rfl) ?_
    refine xr_iload (pc := 40) (i := 4) (hI := d_DualPivotQuicksort_mixedInsertionSort_40) (hl := rfl) ?_
    refine xg_laload (pc := 42) (v := (xpl h 64 (x4 + (-1)))) (hI := d_DualPivotQuicksort_mixedInsertionSort_42) (ft_64 F) (by clear hyp; omega) (xlt_of (fl_64 F) (by clear hyp; omega)) rfl (fun f7_ => ?_)
    replace f7_ : -9223372036854775808 ≤ (xpl h 64 (x4 + (-1))) ∧ (xpl h 64 (x4 + (-1))) ≤ 9223372036854775807 := f7_
    obtain ⟨c8_, hyp⟩ := hyp
    refine xr_lastore (pc := 43) (hI := d_DualPivotQuicksort_mixedInsertionSort_43) (ft_64 F) (by decide) (by clear hyp; omega) (xlt_of (fl_64 F) c8_) ?_
    have F9_ : xFix (xst h 64 ((x4 + (-1)) + 1) (xpl h 64 (x4 + (-1)))) := F.stA xfa_64
    refine xr_goto (pc := 44) (tgt := 21) (hI := d_DualPivotQuicksort_mixedInsertionSort_44) (ht := by decide) ?_
    exact (hyp F9_)
theorem d_DualPivotQuicksort_mixedInsertionSort_69 : decode prog_46_method_14_code 69 = .ok (.iinc 1 1, 3) := by decide +kernel
theorem d_DualPivotQuicksort_mixedInsertionSort_72 : decode prog_46_method_14_code 72 = .ok (.iload_n 1, 1) := by decide +kernel
theorem d_DualPivotQuicksort_mixedInsertionSort_73 : decode prog_46_method_14_code 73 = .ok (.iload_n 2, 1) := by decide +kernel
theorem d_DualPivotQuicksort_mixedInsertionSort_74 : decode prog_46_method_14_code 74 = .ok (.if_icmp .ge 160, 3) := by decide +kernel
theorem d_DualPivotQuicksort_mixedInsertionSort_77 : decode prog_46_method_14_code 77 = .ok (.aload_n 0, 1) := by decide +kernel
theorem d_DualPivotQuicksort_mixedInsertionSort_78 : decode prog_46_method_14_code 78 = .ok (.iload_n 1, 1) := by decide +kernel
theorem d_DualPivotQuicksort_mixedInsertionSort_79 : decode prog_46_method_14_code 79 = .ok (.dup, 1) := by decide +kernel
theorem d_DualPivotQuicksort_mixedInsertionSort_80 : decode prog_46_method_14_code 80 = .ok (.istore 6, 2) := by decide +kernel
theorem d_DualPivotQuicksort_mixedInsertionSort_82 : decode prog_46_method_14_code 82 = .ok (.laload, 1) := by decide +kernel
theorem d_DualPivotQuicksort_mixedInsertionSort_83 : decode prog_46_method_14_code 83 = .ok (.lstore 8, 2) := by decide +kernel
theorem d_DualPivotQuicksort_mixedInsertionSort_85 : decode prog_46_method_14_code 85 = .ok (.lload 8, 2) := by decide +kernel
theorem d_DualPivotQuicksort_mixedInsertionSort_87 : decode prog_46_method_14_code 87 = .ok (.aload_n 0, 1) := by decide +kernel
theorem d_DualPivotQuicksort_mixedInsertionSort_88 : decode prog_46_method_14_code 88 = .ok (.iload 6, 2) := by decide +kernel
theorem d_DualPivotQuicksort_mixedInsertionSort_90 : decode prog_46_method_14_code 90 = .ok (.iconst 1, 1) := by decide +kernel
theorem d_DualPivotQuicksort_mixedInsertionSort_91 : decode prog_46_method_14_code 91 = .ok (.isub, 1) := by decide +kernel
theorem d_DualPivotQuicksort_mixedInsertionSort_92 : decode prog_46_method_14_code 92 = .ok (.laload, 1) := by decide +kernel
theorem d_DualPivotQuicksort_mixedInsertionSort_93 : decode prog_46_method_14_code 93 = .ok (.lcmp, 1) := by decide +kernel
theorem d_DualPivotQuicksort_mixedInsertionSort_94 : decode prog_46_method_14_code 94 = .ok (.ifCond .ge 51, 3) := by decide +kernel
theorem d_DualPivotQuicksort_mixedInsertionSort_145 : decode prog_46_method_14_code 145 = .ok (.iload 7, 2) := by decide +kernel
theorem d_DualPivotQuicksort_mixedInsertionSort_147 : decode prog_46_method_14_code 147 = .ok (.iload 6, 2) := by decide +kernel
theorem d_DualPivotQuicksort_mixedInsertionSort_149 : decode prog_46_method_14_code 149 = .ok (.if_icmp .le 82, 3) := by decide +kernel
theorem d_DualPivotQuicksort_mixedInsertionSort_231 : decode prog_46_method_14_code 231 = .ok (.goto (-162), 3) := by decide +kernel
theorem d_DualPivotQuicksort_mixedInsertionSort_152 : decode prog_46_method_14_code 152 = .ok (.lload 8, 2) := by decide +kernel
theorem d_DualPivotQuicksort_mixedInsertionSort_154 : decode prog_46_method_14_code 154 = .ok (.lload 4, 2) := by decide +kernel
theorem d_DualPivotQuicksort_mixedInsertionSort_156 : decode prog_46_method_14_code 156 = .ok (.lcmp, 1) := by decide +kernel
theorem d_DualPivotQuicksort_mixedInsertionSort_157 : decode prog_46_method_14_code 157 = .ok (.ifCond .le 74, 3) := by decide +kernel
theorem d_DualPivotQuicksort_mixedInsertionSort_97 : decode prog_46_method_14_code 97 = .ok (.aload_n 0, 1) := by decide +kernel
theorem d_DualPivotQuicksort_mixedInsertionSort_98 : decode prog_46_method_14_code 98 = .ok (.iload 6, 2) := by decide +kernel
theorem d_DualPivotQuicksort_mixedInsertionSort_100 : decode prog_46_method_14_code 100 = .ok (.aload_n 0, 1) := by decide +kernel
theorem d_DualPivotQuicksort_mixedInsertionSort_101 : decode prog_46_method_14_code 101 = .ok (.iinc 6 (-1), 3) := by decide +kernel
theorem d_DualPivotQuicksort_mixedInsertionSort_104 : decode prog_46_method_14_code 104 = .ok (.iload 6, 2) := by decide +kernel
theorem d_DualPivotQuicksort_mixedInsertionSort_106 : decode prog_46_method_14_code 106 = .ok (.laload, 1) := by decide +kernel
theorem d_DualPivotQuicksort_mixedInsertionSort_107 : decode prog_46_method_14_code 107 = .ok (.lastore, 1) := by decide +kernel
theorem v_DualPivotQuicksort_mixedInsertionSort_69 {G : XG} {d : Nat} {h : XH} {Q : XV → XH → Prop} {X : Nat → XH → Prop} {x1 x2 x3 x4 x7 : Int} (F : xFix h) (hyp : xiR (x1 + 1) ∧ ((x2 ≤ (x1 + 1) → (xwp G m_DualPivotQuicksort_mixedInsertionSort (d + 1) 234 [xR 64, xI (x1 + 1), xZ, xI x3, xZ, xZ, xZ, xZ, xZ, xZ, xZ] [] h Q X)) ∧ (¬ x2 ≤ (x1 + 1) → 0 ≤ (x1 + 1) ∧ (x1 + 1) < 12000 ∧ 0 ≤ ((x1 + 1) - 1) ∧ (((xpl h 64 ((x1 + 1) - 1)) ≤ (xpl h 64 (x1 + 1)) → ((x7 ≤ (x1 + 1) → (xwp G m_DualPivotQuicksort_mixedInsertionSort (d + 1) 69 [xR 64, xI (x1 + 1), xI x2, xI x3, xL x4, xZ, xZ, xI x7, xZ, xZ, xZ] [] h Q X)) ∧ (¬ x7 ≤ (x1 + 1) → (((xpl h 64 (x1 + 1)) ≤ x4 → (xwp G m_DualPivotQuicksort_mixedInsertionSort (d + 1) 69 [xR 64, xI (x1 + 1), xI x2, xI x3, xL x4, xZ, xZ, xI x7, xZ, xZ, xZ] [] h Q X)) ∧ (¬ (xpl h 64 (x1 + 1)) ≤ x4 → (xwp G m_DualPivotQuicksort_mixedInsertionSort (d + 1) 160 [xR 64, xI (x1 + 1), xI x2, xI x3, xL x4, xZ, xI (x1 + 1), xI x7, xL (xpl h 64 (x1 + 1)), xZ, xZ] [] h Q X)))))) ∧ (¬ (xpl h 64 ((x1 + 1) - 1)) ≤ (xpl h 64 (x1 + 1)) → (xFix (xst h 64 (x1 + 1) (xpl h 64 ((x1 + 1) + (-1)))) → xwp G m_DualPivotQuicksort_mixedInsertionSort (d + 1) 108 [xR 64, xI (x1 + 1), xI x2, xI x3, xL x4, xZ, xI ((x1 + 1) + (-1)), xI x7, xL (xpl h 64 (x1 + 1)), xZ, xZ] [] (xst h 64 (x1 + 1) (xpl h 64 ((x1 + 1) + (-1)))) Q X)))))) : xwp G m_DualPivotQuicksort_mixedInsertionSort (d + 1) 69 [xR 64, xI x1, xI x2, xI x3, xL x4, xZ, xZ, xI x7, xZ, xZ, xZ] [] h Q X := by
  have hnx9 : (93 : Int) ≤ xnx h := F.2.2
  refine xr_okL (fun hl9 => ?_)
  have r_x1 : -2147483648 ≤ x1 ∧ x1 ≤ 2147483647 := hl9 (xI x1) (.tail _ (.head _)) (Nat.le_of_ble_eq_true rfl)
  have r_x2 : -2147483648 ≤ x2 ∧ x2 ≤ 2147483647 := hl9 (xI x2) (.tail _ (.tail _ (.head _))) (Nat.le_of_ble_eq_true rfl)
  have r_x3 : -2147483648 ≤ x3 ∧ x3 ≤ 2147483647 := hl9 (xI x3) (.tail _ (.tail _ (.tail _ (.head _)))) (Nat.le_of_ble_eq_true rfl)
  have r_x4 : -9223372036854775808 ≤ x4 ∧ x4 ≤ 9223372036854775807 := hl9 (xL x4) (.tail _ (.tail _ (.tail _ (.tail _ (.head _))))) (Nat.le_of_ble_eq_true rfl)
  have r_x7 : -2147483648 ≤ x7 ∧ x7 ≤ 2147483647 := hl9 (xI x7) (.tail _ (.tail _ (.tail _ (.tail _ (.tail _ (.tail _ (.tail _ (.head _)))))))) (Nat.le_of_ble_eq_true rfl)
  obtain ⟨c9, hyp⟩ := hyp
  refine xr_iinc (pc := 69) (i := 1) (L9 := [xR 64, xI (x1 + 1), xI x2, xI x3, xL x4, xZ, xZ, xI x7, xZ, xZ, xZ]) (hI := d_DualPivotQuicksort_mixedInsertionSort_69) (hl := rfl) (hn := Nat.le_of_ble_eq_true rfl) (hr := c9) (hL9 := rfl) ?_
  refine xr_iload_n (pc := 72) (i := 1) (hI := d_DualPivotQuicksort_mixedInsertionSort_72) (hi := rfl) (hl := rfl) ?_
  refine xr_iload_n (pc := 73) (i := 2) (hI := d_DualPivotQuicksort_mixedInsertionSort_73) (hi := rfl) (hl := rfl) ?_
  refine xr_icmp_ge (pc := 74) (tgt := 234) (hI := d_DualPivotQuicksort_mixedInsertionSort_74) (ht := by decide) (fun q9 => ?_) (fun q9 => ?_)
  · replace hyp := hyp.1 q9
    have q1_ := q9
    clear q9
    exact xr_drop (L9 := [xR 64, xI (x1 + 1), xZ, xI x3, xZ, xZ, xZ, xZ, xZ, xZ, xZ]) (xdrs (xdrs (xdrz (xdrs (xdrz (xdrs (xdrs (xdrz (xdrs (xdrs (xdrs xdr0))))))))))) hyp
  · replace hyp := hyp.2 q9
    have q1_ := q9
    clear q9
    refine xr_aload_n (pc := 77) (i := 0) (hI := d_DualPivotQuicksort_mixedInsertionSort_77) (hi := rfl) (hl := rfl) ?_
    refine xr_iload_n (pc := 78) (i := 1) (hI := d_DualPivotQuicksort_mixedInsertionSort_78) (hi := rfl) (hl := rfl) ?_
    refine xr_dup (pc := 79) (hI := d_DualPivotQuicksort_mixedInsertionSort_79) (hv := rfl) ?_
    refine xr_istore (pc := 80) (i := 6) (L9 := [xR 64, xI (x1 + 1), xI x2, xI x3, xL x4, xZ, xI (x1 + 1), xI x7, xZ, xZ, xZ]) (hI := d_DualPivotQuicksort_mixedInsertionSort_80) (hn := Nat.le_of_ble_eq_true rfl) (hL9 := rfl) ?_
    obtain ⟨c2_, hyp⟩ := hyp
    obtain ⟨c3_, hyp⟩ := hyp
    refine xg_laload (pc := 82) (v := (xpl h 64 (x1 + 1))) (hI := d_DualPivotQuicksort_mixedInsertionSort_82) (ft_64 F) c2_ (xlt_of (fl_64 F) c3_) rfl (fun f4_ => ?_)
    replace f4_ : -9223372036854775808 ≤ (xpl h 64 (x1 + 1)) ∧ (xpl h 64 (x1 + 1)) ≤ 9223372036854775807 := f4_
    refine xr_lstore (pc := 83) (i := 8) (L9 := [xR 64, xI (x1 + 1), xI x2, xI x3, xL x4, xZ, xI (x1 + 1), xI x7, xL (xpl h 64 (x1 + 1)), xZ, xZ]) (hI := d_DualPivotQuicksort_mixedInsertionSort_83) (hn := Nat.le_of_ble_eq_true rfl) (hL9 := rfl) ?_
    refine xr_lload (pc := 85) (i := 8) (hI := d_DualPivotQuicksort_mixedInsertionSort_85) (hl := rfl) ?_
    refine xr_aload_n (pc := 87) (i := 0) (hI := d_DualPivotQuicksort_mixedInsertionSort_87) (hi := rfl) (hl := rfl) ?_
    refine xr_iload (pc := 88) (i := 6) (hI := d_DualPivotQuicksort_mixedInsertionSort_88) (hl := rfl) ?_
    refine xr_iconst (pc := 90) (hI := d_DualPivotQuicksort_mixedInsertionSort_90) (hr := by decide) ?_
    refine xr_isub (pc := 91) (hI := d_DualPivotQuicksort_mixedInsertionSort_91) (hr := ⟨by clear hyp; omega, by clear hyp; omega⟩) ?_
    obtain ⟨c5_, hyp⟩ := hyp
    refine xg_laload (pc := 92) (v := (xpl h 64 ((x1 + 1) - 1))) (hI := d_DualPivotQuicksort_mixedInsertionSort_92) (ft_64 F) c5_ (xlt_of (fl_64 F) (by clear hyp; omega)) rfl (fun f6_ => ?_)
    replace f6_ : -9223372036854775808 ≤ (xpl h 64 ((x1 + 1) - 1)) ∧ (xpl h 64 ((x1 + 1) - 1)) ≤ 9223372036854775807 := f6_
    refine xr_lcmp (pc := 93) (hI := d_DualPivotQuicksort_mixedInsertionSort_93) ?_
    refine xg_lif_ge (pc := 94) (tgt := 145) (hI := d_DualPivotQuicksort_mixedInsertionSort_94) (ht := by decide) (fun q9 => ?_) (fun q9 => ?_)
    · replace hyp := hyp.1 q9
      have q7_ := q9
      clear q9
      refine xr_iload (pc := 145) (i := 7) (hI := d_DualPivotQuicksort_mixedInsertionSort_145) (hl := rfl) ?_
      refine xr_iload (pc := 147) (i := 6) (hI := d_DualPivotQuicksort_mixedInsertionSort_147) (hl := rfl) ?_
      refine xr_icmp_le (pc := 149) (tgt := 231) (hI := d_DualPivotQuicksort_mixedInsertionSort_149) (ht := by decide) (fun q9 => ?_) (fun q9 => ?_)
      · replace hyp := hyp.1 q9
        have q8_ := q9
        clear q9
        refine xr_goto (pc := 231) (tgt := 69) (hI := d_DualPivotQuicksort_mixedInsertionSort_231) (ht := by decide) ?_
        exact xr_drop (L9 := [xR 64, xI (x1 + 1), xI x2, xI x3, xL x4, xZ, xZ, xI x7, xZ, xZ, xZ]) (xdrs (xdrs (xdrs (xdrs (xdrs (xdrs (xdrz (xdrs (xdrz (xdrs (xdrs xdr0))))))))))) hyp
      · replace hyp := hyp.2 q9
        have q8_ := q9
        clear q9
        refine xr_lload (pc := 152) (i := 8) (hI := d_DualPivotQuicksort_mixedInsertionSort_152) (hl := rfl) ?_
        refine xr_lload (pc := 154) (i := 4) (hI := d_DualPivotQuicksort_mixedInsertionSort_154) (hl := rfl) ?_
        refine xr_lcmp (pc := 156) (hI := d_DualPivotQuicksort_mixedInsertionSort_156) ?_
        refine xg_lif_le (pc := 157) (tgt := 231) (hI := d_DualPivotQuicksort_mixedInsertionSort_157) (ht := by decide) (fun q9 => ?_) (fun q9 => ?_)
        · replace hyp := hyp.1 q9
          have q9_ := q9
          clear q9
          refine xr_goto (pc := 231) (tgt := 69) (hI := d_DualPivotQuicksort_mixedInsertionSort_231) (ht := by decide) ?_
          exact xr_drop (L9 := [xR 64, xI (x1 + 1), xI x2, xI x3, xL x4, xZ, xZ, xI x7, xZ, xZ, xZ]) (xdrs (xdrs (xdrs (xdrs (xdrs (xdrs (xdrz (xdrs (xdrz (xdrs (xdrs xdr0))))))))))) hyp
        · replace hyp := hyp.2 q9
          have q9_ := q9
          clear q9
          exact hyp
    · replace hyp := hyp.2 q9
      have q7_ := q9
      clear q9
      refine xr_aload_n (pc := 97) (i := 0) (hI := d_DualPivotQuicksort_mixedInsertionSort_97) (hi := rfl) (hl := rfl) ?_
      refine xr_iload (pc := 98) (i := 6) (hI := d_DualPivotQuicksort_mixedInsertionSort_98) (hl := rfl) ?_
      refine xr_aload_n (pc := 100) (i := 0) (hI := d_DualPivotQuicksort_mixedInsertionSort_100) (hi := rfl) (hl := rfl) ?_
      refine xr_iinc (pc := 101) (i := 6) (L9 := [xR 64, xI (x1 + 1), xI x2, xI x3, xL x4, xZ, xI ((x1 + 1) + (-1)), xI x7, xL (xpl h 64 (x1 + 1)), xZ, xZ]) (hI := d_DualPivotQuicksort_mixedInsertionSort_101) (hl := rfl) (hn := Nat.le_of_ble_eq_true rfl) (hr := ⟨by clear hyp; omega, by clear hyp; omega⟩) (hL9 := rfl) ?_
      refine xr_iload (pc := 104) (i := 6) (hI := d_DualPivotQuicksort_mixedInsertionSort_104) (hl := rfl) ?_
      refine xg_laload (pc := 106) (v := (xpl h 64 ((x1 + 1) + (-1)))) (hI := d_DualPivotQuicksort_mixedInsertionSort_106) (ft_64 F) (by clear hyp; omega) (xlt_of (fl_64 F) (by clear hyp; omega)) rfl (fun f10_ => ?_)
      replace f10_ : -9223372036854775808 ≤ (xpl h 64 ((x1 + 1) + (-1))) ∧ (xpl h 64 ((x1 + 1) + (-1))) ≤ 9223372036854775807 := f10_
      refine xr_lastore (pc := 107) (hI := d_DualPivotQuicksort_mixedInsertionSort_107) (ft_64 F) (by decide) (by clear hyp; omega) (xlt_of (fl_64 F) (by clear hyp; omega)) ?_
      have F11_ : xFix (xst h 64 (x1 + 1) (xpl h 64 ((x1 + 1) + (-1)))) := F.stA xfa_64
      exact (hyp F11_)
theorem d_DualPivotQuicksort_mixedInsertionSort_108 : decode prog_46_method_14_code 108 = .ok (.lload 8, 2) := by decide +kernel
theorem d_DualPivotQuicksort_mixedInsertionSort_110 : decode prog_46_method_14_code 110 = .ok (.aload_n 0, 1) := by decide +kernel
theorem d_DualPivotQuicksort_mixedInsertionSort_111 : decode prog_46_method_14_code 111 = .ok (.iinc 6 (-1), 3) := by decide +kernel
theorem d_DualPivotQuicksort_mixedInsertionSort_114 : decode prog_46_method_14_code 114 = .ok (.iload 6, 2) := by decide +kernel
theorem d_DualPivotQuicksort_mixedInsertionSort_116 : decode prog_46_method_14_code 116 = .ok (.laload, 1) := by decide +kernel
theorem d_DualPivotQuicksort_mixedInsertionSort_117 : decode prog_46_method_14_code 117 = .ok (.lcmp, 1) := by decide +kernel
theorem d_DualPivotQuicksort_mixedInsertionSort_118 : decode prog_46_method_14_code 118 = .ok (.ifCond .ge 16, 3) := by decide +kernel
theorem d_DualPivotQuicksort_mixedInsertionSort_134 : decode prog_46_method_14_code 134 = .ok (.aload_n 0, 1) := by decide +kernel
theorem d_DualPivotQuicksort_mixedInsertionSort_135 : decode prog_46_method_14_code 135 = .ok (.iload 6, 2) := by decide +kernel
theorem d_DualPivotQuicksort_mixedInsertionSort_137 : decode prog_46_method_14_code 137 = .ok (.iconst 1, 1) := by decide +kernel
theorem d_DualPivotQuicksort_mixedInsertionSort_138 : decode prog_46_method_14_code 138 = .ok (.iadd, 1) := by decide +kernel
theorem d_DualPivotQuicksort_mixedInsertionSort_139 : decode prog_46_method_14_code 139 = .ok (.lload 8, 2) := by decide +kernel
theorem d_DualPivotQuicksort_mixedInsertionSort_141 : decode prog_46_method_14_code 141 = .ok (.lastore, 1) := by decide +kernel
theorem d_DualPivotQuicksort_mixedInsertionSort_142 : decode prog_46_method_14_code 142 = .ok (.goto 89, 3) := by decide +kernel
theorem d_DualPivotQuicksort_mixedInsertionSort_121 : decode prog_46_method_14_code 121 = .ok (.aload_n 0, 1) := by decide +kernel
theorem d_DualPivotQuicksort_mixedInsertionSort_122 : decode prog_46_method_14_code 122 = .ok (.iload 6, 2) := by decide +kernel
theorem d_DualPivotQuicksort_mixedInsertionSort_124 : decode prog_46_method_14_code 124 = .ok (.iconst 1, 1) := by decide +kernel
theorem d_DualPivotQuicksort_mixedInsertionSort_125 : decode prog_46_method_14_code 125 = .ok (.iadd, 1) := by decide +kernel
theorem d_DualPivotQuicksort_mixedInsertionSort_126 : decode prog_46_method_14_code 126 = .ok (.aload_n 0, 1) := by decide +kernel
theorem d_DualPivotQuicksort_mixedInsertionSort_127 : decode prog_46_method_14_code 127 = .ok (.iload 6, 2) := by decide +kernel
theorem d_DualPivotQuicksort_mixedInsertionSort_129 : decode prog_46_method_14_code 129 = .ok (.laload, 1) := by decide +kernel
theorem d_DualPivotQuicksort_mixedInsertionSort_130 : decode prog_46_method_14_code 130 = .ok (.lastore, 1) := by decide +kernel
theorem d_DualPivotQuicksort_mixedInsertionSort_131 : decode prog_46_method_14_code 131 = .ok (.goto (-23), 3) := by decide +kernel
theorem v_DualPivotQuicksort_mixedInsertionSort_108 {G : XG} {d : Nat} {h : XH} {Q : XV → XH → Prop} {X : Nat → XH → Prop} {x1 x2 x3 x4 x6 x7 x8 : Int} (F : xFix h) (hyp : xiR (x6 + (-1)) ∧ 0 ≤ (x6 + (-1)) ∧ (x6 + (-1)) < 12000 ∧ (((xpl h 64 (x6 + (-1))) ≤ x8 → ((x6 + (-1)) + 1) < 12000 ∧ (xFix (xst h 64 ((x6 + (-1)) + 1) x8) → xwp G m_DualPivotQuicksort_mixedInsertionSort (d + 1) 69 [xR 64, xI x1, xI x2, xI x3, xL x4, xZ, xZ, xI x7, xZ, xZ, xZ] [] (xst h 64 ((x6 + (-1)) + 1) x8) Q X)) ∧ (¬ (xpl h 64 (x6 + (-1))) ≤ x8 → ((x6 + (-1)) + 1) < 12000 ∧ (xFix (xst h 64 ((x6 + (-1)) + 1) (xpl h 64 (x6 + (-1)))) → xwp G m_DualPivotQuicksort_mixedInsertionSort (d + 1) 108 [xR 64, xI x1, xI x2, xI x3, xL x4, xZ, xI (x6 + (-1)), xI x7, xL x8, xZ, xZ] [] (xst h 64 ((x6 + (-1)) + 1) (xpl h 64 (x6 + (-1)))) Q X)))) : xwp G m_DualPivotQuicksort_mixedInsertionSort (d + 1) 108 [xR 64, xI x1, xI x2, xI x3, xL x4, xZ, xI x6, xI x7, xL x8, xZ, xZ] [] h Q X := by
  have hnx9 : (93 : Int) ≤ xnx h := F.2.2
  refine xr_okL (fun hl9 => ?_)
  have r_x1 : -2147483648 ≤ x1 ∧ x1 ≤ 2147483647 := hl9 (xI x1) (.tail _ (.head _)) (Nat.le_of_ble_eq_true rfl)
  have r_x2 : -2147483648 ≤ x2 ∧ x2 ≤ 2147483647 := hl9 (xI x2) (.tail _ (.tail _ (.head _))) (Nat.le_of_ble_eq_true rfl)
  have r_x3 : -2147483648 ≤ x3 ∧ x3 ≤ 2147483647 := hl9 (xI x3) (.tail _ (.tail _ (.tail _ (.head _)))) (Nat.le_of_ble_eq_true rfl)
  have r_x4 : -9223372036854775808 ≤ x4 ∧ x4 ≤ 9223372036854775807 := hl9 (xL x4) (.tail _ (.tail _ (.tail _ (.tail _ (.head _))))) (Nat.le_of_ble_eq_true rfl)
  have r_x6 : -2147483648 ≤ x6 ∧ x6 ≤ 2147483647 := hl9 (xI x6) (.tail _ (.tail _ (.tail _ (.tail _ (.tail _ (.tail _ (.head _))))))) (Nat.le_of_ble_eq_true rfl)
  have r_x7 : -2147483648 ≤ x7 ∧ x7 ≤ 2147483647 := hl9 (xI x7) (.tail _ (.tail _ (.tail _ (.tail _ (.tail _ (.tail _ (.tail _ (.head _)))))))) (Nat.le_of_ble_eq_true rfl)
  have r_x8 : -9223372036854775808 ≤ x8 ∧ x8 ≤ 9223372036854775807 := hl9 (xL x8) (.tail _ (.tail _ (.tail _ (.tail _ (.tail _ (.tail _ (.tail _ (.tail _ (.head _))))))))) (Nat.le_of_ble_eq_true rfl)
  refine xr_lload (pc := 108) (i := 8) (hI := d_DualPivotQuicksort_mixedInsertionSort_108) (hl := rfl) ?_
  refine xr_aload_n (pc := 110) (i := 0) (hI := d_DualPivotQuicksort_mixedInsertionSort_110) (hi := rfl) (hl := rfl) ?_
  obtain ⟨c9, hyp⟩ := hyp
  refine xr_iinc (pc := 111) (i := 6) (L9 := [xR 64, xI x1, xI x2, xI x3, xL x4, xZ, xI (x6 + (-1)), xI x7, xL x8, xZ, xZ]) (hI := d_DualPivotQuicksort_mixedInsertionSort_111) (hl := rfl) (hn := Nat.le_of_ble_eq_true rfl) (hr := c9) (hL9 := rfl) ?_
  refine xr_iload (pc := 114) (i := 6) (hI := d_DualPivotQuicksort_mixedInsertionSort_114) (hl := rfl) ?_
  obtain ⟨c1_, hyp⟩ := hyp
  obtain ⟨c2_, hyp⟩ := hyp
  refine xg_laload (pc := 116) (v := (xpl h 64 (x6 + (-1)))) (hI := d_DualPivotQuicksort_mixedInsertionSort_116) (ft_64 F) c1_ (xlt_of (fl_64 F) c2_) rfl (fun f3_ => ?_)
  replace f3_ : -9223372036854775808 ≤ (xpl h 64 (x6 + (-1))) ∧ (xpl h 64 (x6 + (-1))) ≤ 9223372036854775807 := f3_
  refine xr_lcmp (pc := 117) (hI := d_DualPivotQuicksort_mixedInsertionSort_117) ?_
  refine xg_lif_ge (pc := 118) (tgt := 134) (hI := d_DualPivotQuicksort_mixedInsertionSort_118) (ht := by decide) (fun q9 => ?_) (fun q9 => ?_)
  · replace hyp := hyp.1 q9
    have q4_ := q9
    clear q9
    refine xr_aload_n (pc := 134) (i := 0) (hI := d_DualPivotQuicksort_mixedInsertionSort_134) (hi := rfl) (hl := rfl) ?_
    refine xr_iload (pc := 135) (i := 6) (hI := d_DualPivotQuicksort_mixedInsertionSort_135) (hl := rfl) ?_
    refine xr_iconst (pc := 137) (hI := d_DualPivotQuicksort_mixedInsertionSort_137) (hr := by decide) ?_
    refine xr_iadd (pc := 138) (hI := d_DualPivotQuicksort_mixedInsertionSort_138) (hr := ⟨by clear hyp; omega, by clear hyp; omega⟩) ?_
    refine xr_lload (pc := 139) (i := 8) (hI := d_DualPivotQuicksort_mixedInsertionSort_139) (hl := rfl) ?_
    obtain ⟨c5_, hyp⟩ := hyp
    refine xr_lastore (pc := 141) (hI := d_DualPivotQuicksort_mixedInsertionSort_141) (ft_64 F) (by decide) (by clear hyp; omega) (xlt_of (fl_64 F) c5_) ?_
    have F6_ : xFix (xst h 64 ((x6 + (-1)) + 1) x8) := F.stA xfa_64
    refine xr_goto (pc := 142) (tgt := 231) (hI := d_DualPivotQuicksort_mixedInsertionSort_142) (ht := by decide) ?_
    refine xr_goto (pc := 231) (tgt := 69) (hI := d_DualPivotQuicksort_mixedInsertionSort_231) (ht := by decide) ?_
    exact xr_drop (L9 := [xR 64, xI x1, xI x2, xI x3, xL x4, xZ, xZ, xI x7, xZ, xZ, xZ]) (xdrs (xdrs (xdrs (xdrs (xdrs (xdrs (xdrz (xdrs (xdrz (xdrs (xdrs xdr0))))))))))) (hyp F6_)
  · replace hyp := hyp.2 q9
    have q4_ := q9
    clear q9
    refine xr_aload_n (pc := 121) (i := 0) (hI := d_DualPivotQuicksort_mixedInsertionSort_121) (hi := rfl) (hl := rfl) ?_
    refine xr_iload (pc := 122) (i := 6) (hI := d_DualPivotQuicksort_mixedInsertionSort_122) (hl := rfl) ?_
    refine xr_iconst (pc := 124) (hI := d_DualPivotQuicksort_mixedInsertionSort_124) (hr := by decide) ?_
    refine xr_iadd (pc := 125) (hI := d_DualPivotQuicksort_mixedInsertionSort_125) (hr := ⟨by clear hyp; omega, by clear hyp; omega⟩) ?_
    refine xr_aload_n (pc := 126) (i := 0) (hI := d_DualPivotQuicksort_mixedInsertionSort_126) (hi := rfl) (hl := rfl) ?_
    refine xr_iload (pc := 127) (i := 6) (hI := d_DualPivotQuicksort_mixedInsertionSort_127) (hl := rfl) ?_
    refine xg_laload (pc := 129) (v := (xpl h 64 (x6 + (-1)))) (hI := d_DualPivotQuicksort_mixedInsertionSort_129) (ft_64 F) (by clear hyp; omega) (xlt_of (fl_64 F) (by clear hyp; omega)) rfl (fun f7_ => ?_)
    replace f7_ : -9223372036854775808 ≤ (xpl h 64 (x6 + (-1))) ∧ (xpl h 64 (x6 + (-1))) ≤ 9223372036854775807 := f7_
    obtain ⟨c8_, hyp⟩ := hyp
    refine xr_lastore (pc := 130) (hI := d_DualPivotQuicksort_mixedInsertionSort_130) (ft_64 F) (by decide) (by clear hyp; omega) (xlt_of (fl_64 F) c8_) ?_
    have F9_ : xFix (xst h 64 ((x6 + (-1)) + 1) (xpl h 64 (x6 + (-1)))) := F.stA xfa_64
    refine xr_goto (pc := 131) (tgt := 108) (hI := d_DualPivotQuicksort_mixedInsertionSort_131) (ht := by decide) ?_
    exact (hyp F9_)
theorem d_DualPivotQuicksort_mixedInsertionSort_160 : decode prog_46_method_14_code 160 = .ok (.aload_n 0, 1) := by decide +kernel
theorem d_DualPivotQuicksort_mixedInsertionSort_161 : decode prog_46_method_14_code 161 = .ok (.iinc 7 (-1), 3) := by decide +kernel
theorem d_DualPivotQuicksort_mixedInsertionSort_164 : decode prog_46_method_14_code 164 = .ok (.iload 7, 2) := by decide +kernel
theorem d_DualPivotQuicksort_mixedInsertionSort_166 : decode prog_46_method_14_code 166 = .ok (.laload, 1) := by decide +kernel
theorem d_DualPivotQuicksort_mixedInsertionSort_167 : decode prog_46_method_14_code 167 = .ok (.lload 4, 2) := by decide +kernel
theorem d_DualPivotQuicksort_mixedInsertionSort_169 : decode prog_46_method_14_code 169 = .ok (.lcmp, 1) := by decide +kernel
theorem d_DualPivotQuicksort_mixedInsertionSort_170 : decode prog_46_method_14_code 170 = .ok (.ifCond .le 6, 3) := by decide +kernel
theorem d_DualPivotQuicksort_mixedInsertionSort_176 : decode prog_46_method_14_code 176 = .ok (.iload 7, 2) := by decide +kernel
theorem d_DualPivotQuicksort_mixedInsertionSort_178 : decode prog_46_method_14_code 178 = .ok (.iload 6, 2) := by decide +kernel
theorem d_DualPivotQuicksort_mixedInsertionSort_180 : decode prog_46_method_14_code 180 = .ok (.if_icmp .le 17, 3) := by decide +kernel
theorem d_DualPivotQuicksort_mixedInsertionSort_183 : decode prog_46_method_14_code 183 = .ok (.aload_n 0, 1) := by decide +kernel
theorem d_DualPivotQuicksort_mixedInsertionSort_184 : decode prog_46_method_14_code 184 = .ok (.iload 7, 2) := by decide +kernel
theorem d_DualPivotQuicksort_mixedInsertionSort_186 : decode prog_46_method_14_code 186 = .ok (.laload, 1) := by decide +kernel
theorem d_DualPivotQuicksort_mixedInsertionSort_187 : decode prog_46_method_14_code 187 = .ok (.lstore 8, 2) := by decide +kernel
theorem d_DualPivotQuicksort_mixedInsertionSort_189 : decode prog_46_method_14_code 189 = .ok (.aload_n 0, 1) := by decide +kernel
theorem d_DualPivotQuicksort_mixedInsertionSort_190 : decode prog_46_method_14_code 190 = .ok (.iload 7, 2) := by decide +kernel
theorem d_DualPivotQuicksort_mixedInsertionSort_192 : decode prog_46_method_14_code 192 = .ok (.aload_n 0, 1) := by decide +kernel
theorem d_DualPivotQuicksort_mixedInsertionSort_193 : decode prog_46_method_14_code 193 = .ok (.iload 6, 2) := by decide +kernel
theorem d_DualPivotQuicksort_mixedInsertionSort_195 : decode prog_46_method_14_code 195 = .ok (.laload, 1) := by decide +kernel
theorem d_DualPivotQuicksort_mixedInsertionSort_196 : decode prog_46_method_14_code 196 = .ok (.lastore, 1) := by decide +kernel
theorem d_DualPivotQuicksort_mixedInsertionSort_173 : decode prog_46_method_14_code 173 = .ok (.goto (-13), 3) := by decide +kernel
theorem v_DualPivotQuicksort_mixedInsertionSort_160 {G : XG} {d : Nat} {h : XH} {Q : XV → XH → Prop} {X : Nat → XH → Prop} {x1 x2 x3 x4 x6 x7 x8 : Int} (F : xFix h) (hyp : xiR (x7 + (-1)) ∧ 0 ≤ (x7 + (-1)) ∧ (x7 + (-1)) < 12000 ∧ (((xpl h 64 (x7 + (-1))) ≤ x4 → (((x7 + (-1)) ≤ x6 → (xwp G m_DualPivotQuicksort_mixedInsertionSort (d + 1) 197 [xR 64, xI x1, xI x2, xI x3, xL x4, xZ, xI x6, xI (x7 + (-1)), xL x8, xZ, xZ] [] h Q X)) ∧ (¬ (x7 + (-1)) ≤ x6 → 0 ≤ x6 ∧ (xFix (xst h 64 (x7 + (-1)) (xpl h 64 x6)) → xwp G m_DualPivotQuicksort_mixedInsertionSort (d + 1) 197 [xR 64, xI x1, xI x2, xI x3, xL x4, xZ, xI x6, xI (x7 + (-1)), xL (xpl h 64 (x7 + (-1))), xZ, xZ] [] (xst h 64 (x7 + (-1)) (xpl h 64 x6)) Q X)))) ∧ (¬ (xpl h 64 (x7 + (-1))) ≤ x4 → (xwp G m_DualPivotQuicksort_mixedInsertionSort (d + 1) 160 [xR 64, xI x1, xI x2, xI x3, xL x4, xZ, xI x6, xI (x7 + (-1)), xL x8, xZ, xZ] [] h Q X)))) : xwp G m_DualPivotQuicksort_mixedInsertionSort (d + 1) 160 [xR 64, xI x1, xI x2, xI x3, xL x4, xZ, xI x6, xI x7, xL x8, xZ, xZ] [] h Q X := by
  have hnx9 : (93 : Int) ≤ xnx h := F.2.2
  refine xr_okL (fun hl9 => ?_)
  have r_x1 : -2147483648 ≤ x1 ∧ x1 ≤ 2147483647 := hl9 (xI x1) (.tail _ (.head _)) (Nat.le_of_ble_eq_true rfl)
  have r_x2 : -2147483648 ≤ x2 ∧ x2 ≤ 2147483647 := hl9 (xI x2) (.tail _ (.tail _ (.head _))) (Nat.le_of_ble_eq_true rfl)
  have r_x3 : -2147483648 ≤ x3 ∧ x3 ≤ 2147483647 := hl9 (xI x3) (.tail _ (.tail _ (.tail _ (.head _)))) (Nat.le_of_ble_eq_true rfl)
  have r_x4 : -9223372036854775808 ≤ x4 ∧ x4 ≤ 9223372036854775807 := hl9 (xL x4) (.tail _ (.tail _ (.tail _ (.tail _ (.head _))))) (Nat.le_of_ble_eq_true rfl)
  have r_x6 : -2147483648 ≤ x6 ∧ x6 ≤ 2147483647 := hl9 (xI x6) (.tail _ (.tail _ (.tail _ (.tail _ (.tail _ (.tail _ (.head _))))))) (Nat.le_of_ble_eq_true rfl)
  have r_x7 : -2147483648 ≤ x7 ∧ x7 ≤ 2147483647 := hl9 (xI x7) (.tail _ (.tail _ (.tail _ (.tail _ (.tail _ (.tail _ (.tail _ (.head _)))))))) (Nat.le_of_ble_eq_true rfl)
  have r_x8 : -9223372036854775808 ≤ x8 ∧ x8 ≤ 9223372036854775807 := hl9 (xL x8) (.tail _ (.tail _ (.tail _ (.tail _ (.tail _ (.tail _ (.tail _ (.tail _ (.head _))))))))) (Nat.le_of_ble_eq_true rfl)
  refine xr_aload_n (pc := 160) (i := 0) (hI := d_DualPivotQuicksort_mixedInsertionSort_160) (hi := rfl) (hl := rfl) ?_
  obtain ⟨c9, hyp⟩ := hyp
  refine xr_iinc (pc := 161) (i := 7) (L9 := [xR 64, xI x1, xI x2, xI x3, xL x4, xZ, xI x6, xI (x7 + (-1)), xL x8, xZ, xZ]) (hI := d_DualPivotQuicksort_mixedInsertionSort_161) (hl := rfl) (hn := Nat.le_of_ble_eq_true rfl) (hr := c9) (hL9 := rfl) ?_
  refine xr_iload (pc := 164) (i := 7) (hI := d_DualPivotQuicksort_mixedInsertionSort_164) (hl := rfl) ?_
  obtain ⟨c1_, hyp⟩ := hyp
  obtain ⟨c2_, hyp⟩ := hyp
  refine xg_laload (pc := 166) (v := (xpl h 64 (x7 + (-1)))) (hI := d_DualPivotQuicksort_mixedInsertionSort_166) (ft_64 F) c1_ (xlt_of (fl_64 F) c2_) rfl (fun f3_ => ?_)
  replace f3_ : -9223372036854775808 ≤ (xpl h 64 (x7 + (-1))) ∧ (xpl h 64 (x7 + (-1))) ≤ 9223372036854775807 := f3_
  refine xr_lload (pc := 167) (i := 4) (hI := d_DualPivotQuicksort_mixedInsertionSort_167) (hl := rfl) ?_
  refine xr_lcmp (pc := 169) (hI := d_DualPivotQuicksort_mixedInsertionSort_169) ?_
  refine xg_lif_le (pc := 170) (tgt := 176) (hI := d_DualPivotQuicksort_mixedInsertionSort_170) (ht := by decide) (fun q9 => ?_) (fun q9 => ?_)
  · replace hyp := hyp.1 q9
    have q4_ := q9
    clear q9
    refine xr_iload (pc := 176) (i := 7) (hI := d_DualPivotQuicksort_mixedInsertionSort_176) (hl := rfl) ?_
    refine xr_iload (pc := 178) (i := 6) (hI := d_DualPivotQuicksort_mixedInsertionSort_178) (hl := rfl) ?_
    refine xr_icmp_le (pc := 180) (tgt := 197) (hI := d_DualPivotQuicksort_mixedInsertionSort_180) (ht := by decide) (fun q9 => ?_) (fun q9 => ?_)
    · replace hyp := hyp.1 q9
      have q5_ := q9
      clear q9
      exact hyp
    · replace hyp := hyp.2 q9
      have q5_ := q9
      clear q9
      refine xr_aload_n (pc := 183) (i := 0) (hI := d_DualPivotQuicksort_mixedInsertionSort_183) (hi := rfl) (hl := rfl) ?_
      refine xr_iload (pc := 184) (i := 7) (hI := d_DualPivotQuicksort_mixedInsertionSort_184) (hl := rfl) ?_
      refine xg_laload (pc := 186) (v := (xpl h 64 (x7 + (-1)))) (hI := d_DualPivotQuicksort_mixedInsertionSort_186) (ft_64 F) (by clear hyp; omega) (xlt_of (fl_64 F) (by clear hyp; omega)) rfl (fun f6_ => ?_)
      replace f6_ : -9223372036854775808 ≤ (xpl h 64 (x7 + (-1))) ∧ (xpl h 64 (x7 + (-1))) ≤ 9223372036854775807 := f6_
      refine xr_lstore (pc := 187) (i := 8) (L9 := [xR 64, xI x1, xI x2, xI x3, xL x4, xZ, xI x6, xI (x7 + (-1)), xL (xpl h 64 (x7 + (-1))), xZ, xZ]) (hI := d_DualPivotQuicksort_mixedInsertionSort_187) (hn := Nat.le_of_ble_eq_true rfl) (hL9 := rfl) ?_
      refine xr_aload_n (pc := 189) (i := 0) (hI := d_DualPivotQuicksort_mixedInsertionSort_189) (hi := rfl) (hl := rfl) ?_
      refine xr_iload (pc := 190) (i := 7) (hI := d_DualPivotQuicksort_mixedInsertionSort_190) (hl := rfl) ?_
      refine xr_aload_n (pc := 192) (i := 0) (hI := d_DualPivotQuicksort_mixedInsertionSort_192) (hi := rfl) (hl := rfl) ?_
      refine xr_iload (pc := 193) (i := 6) (hI := d_DualPivotQuicksort_mixedInsertionSort_193) (hl := rfl) ?_
      obtain ⟨c7_, hyp⟩ := hyp
      refine xg_laload (pc := 195) (v := (xpl h 64 x6)) (hI := d_DualPivotQuicksort_mixedInsertionSort_195) (ft_64 F) c7_ (xlt_of (fl_64 F) (by clear hyp; omega)) rfl (fun f8_ => ?_)
      replace f8_ : -9223372036854775808 ≤ (xpl h 64 x6) ∧ (xpl h 64 x6) ≤ 9223372036854775807 := f8_
      refine xr_lastore (pc := 196) (hI := d_DualPivotQuicksort_mixedInsertionSort_196) (ft_64 F) (by decide) (by clear hyp; omega) (xlt_of (fl_64 F) (by clear hyp; omega)) ?_
      have F9_ : xFix (xst h 64 (x7 + (-1)) (xpl h 64 x6)) := F.stA xfa_64
      exact (hyp F9_)
  · replace hyp := hyp.2 q9
    have q4_ := q9
    clear q9
    refine xr_goto (pc := 173) (tgt := 160) (hI := d_DualPivotQuicksort_mixedInsertionSort_173) (ht := by decide) ?_
    exact hyp
theorem d_DualPivotQuicksort_mixedInsertionSort_197 : decode prog_46_method_14_code 197 = .ok (.lload 8, 2) := by decide +kernel
theorem d_DualPivotQuicksort_mixedInsertionSort_199 : decode prog_46_method_14_code 199 = .ok (.aload_n 0, 1) := by decide +kernel
theorem d_DualPivotQuicksort_mixedInsertionSort_200 : decode prog_46_method_14_code 200 = .ok (.iinc 6 (-1), 3) := by decide +kernel
theorem d_DualPivotQuicksort_mixedInsertionSort_203 : decode prog_46_method_14_code 203 = .ok (.iload 6, 2) := by decide +kernel
theorem d_DualPivotQuicksort_mixedInsertionSort_205 : decode prog_46_method_14_code 205 = .ok (.laload, 1) := by decide +kernel
theorem d_DualPivotQuicksort_mixedInsertionSort_206 : decode prog_46_method_14_code 206 = .ok (.lcmp, 1) := by decide +kernel
theorem d_DualPivotQuicksort_mixedInsertionSort_207 : decode prog_46_method_14_code 207 = .ok (.ifCond .ge 16, 3) := by decide +kernel
theorem d_DualPivotQuicksort_mixedInsertionSort_223 : decode prog_46_method_14_code 223 = .ok (.aload_n 0, 1) := by decide +kernel
theorem d_DualPivotQuicksort_mixedInsertionSort_224 : decode prog_46_method_14_code 224 = .ok (.iload 6, 2) := by decide +kernel
theorem d_DualPivotQuicksort_mixedInsertionSort_226 : decode prog_46_method_14_code 226 = .ok (.iconst 1, 1) := by decide +kernel
theorem d_DualPivotQuicksort_mixedInsertionSort_227 : decode prog_46_method_14_code 227 = .ok (.iadd, 1) := by decide +kernel
theorem d_DualPivotQuicksort_mixedInsertionSort_228 : decode prog_46_method_14_code 228 = .ok (.lload 8, 2) := by decide +kernel
theorem d_DualPivotQuicksort_mixedInsertionSort_230 : decode prog_46_method_14_code 230 = .ok (.lastore, 1) := by decide +kernel
theorem d_DualPivotQuicksort_mixedInsertionSort_210 : decode prog_46_method_14_code 210 = .ok (.aload_n 0, 1) := by decide +kernel
theorem d_DualPivotQuicksort_mixedInsertionSort_211 : decode prog_46_method_14_code 211 = .ok (.iload 6, 2) := by decide +kernel
theorem d_DualPivotQuicksort_mixedInsertionSort_213 : decode prog_46_method_14_code 213 = .ok (.iconst 1, 1) := by decide +kernel
theorem d_DualPivotQuicksort_mixedInsertionSort_214 : decode prog_46_method_14_code 214 = .ok (.iadd, 1) := by decide +kernel
theorem d_DualPivotQuicksort_mixedInsertionSort_215 : decode prog_46_method_14_code 215 = .ok (.aload_n 0, 1) := by decide +kernel
theorem d_DualPivotQuicksort_mixedInsertionSort_216 : decode prog_46_method_14_code 216 = .ok (.iload 6, 2) := by decide +kernel
theorem d_DualPivotQuicksort_mixedInsertionSort_218 : decode prog_46_method_14_code 218 = .ok (.laload, 1) := by decide +kernel
theorem d_DualPivotQuicksort_mixedInsertionSort_219 : decode prog_46_method_14_code 219 = .ok (.lastore, 1) := by decide +kernel
theorem d_DualPivotQuicksort_mixedInsertionSort_220 : decode prog_46_method_14_code 220 = .ok (.goto (-23), 3) := by decide +kernel
theorem v_DualPivotQuicksort_mixedInsertionSort_197 {G : XG} {d : Nat} {h : XH} {Q : XV → XH → Prop} {X : Nat → XH → Prop} {x1 x2 x3 x4 x6 x7 x8 : Int} (F : xFix h) (hyp : xiR (x6 + (-1)) ∧ 0 ≤ (x6 + (-1)) ∧ (x6 + (-1)) < 12000 ∧ (((xpl h 64 (x6 + (-1))) ≤ x8 → ((x6 + (-1)) + 1) < 12000 ∧ (xFix (xst h 64 ((x6 + (-1)) + 1) x8) → xwp G m_DualPivotQuicksort_mixedInsertionSort (d + 1) 69 [xR 64, xI x1, xI x2, xI x3, xL x4, xZ, xZ, xI x7, xZ, xZ, xZ] [] (xst h 64 ((x6 + (-1)) + 1) x8) Q X)) ∧ (¬ (xpl h 64 (x6 + (-1))) ≤ x8 → ((x6 + (-1)) + 1) < 12000 ∧ (xFix (xst h 64 ((x6 + (-1)) + 1) (xpl h 64 (x6 + (-1)))) → xwp G m_DualPivotQuicksort_mixedInsertionSort (d + 1) 197 [xR 64, xI x1, xI x2, xI x3, xL x4, xZ, xI (x6 + (-1)), xI x7, xL x8, xZ, xZ] [] (xst h 64 ((x6 + (-1)) + 1) (xpl h 64 (x6 + (-1)))) Q X)))) : xwp G m_DualPivotQuicksort_mixedInsertionSort (d + 1) 197 [xR 64, xI x1, xI x2, xI x3, xL x4, xZ, xI x6, xI x7, xL x8, xZ, xZ] [] h Q X := by
  have hnx9 : (93 : Int) ≤ xnx h := F.2.2
  refine xr_okL (fun hl9 => ?_)
  have r_x1 : -2147483648 ≤ x1 ∧ x1 ≤ 2147483647 := hl9 (xI x1) (.tail _ (.head _)) (Nat.le_of_ble_eq_true rfl)
  have r_x2 : -2147483648 ≤ x2 ∧ x2 ≤ 2147483647 := hl9 (xI x2) (.tail _ (.tail _ (.head _))) (Nat.le_of_ble_eq_true rfl)
  have r_x3 : -2147483648 ≤ x3 ∧ x3 ≤ 2147483647 := hl9 (xI x3) (.tail _ (.tail _ (.tail _ (.head _)))) (Nat.le_of_ble_eq_true rfl)
  have r_x4 : -9223372036854775808 ≤ x4 ∧ x4 ≤ 9223372036854775807 := hl9 (xL x4) (.tail _ (.tail _ (.tail _ (.tail _ (.head _))))) (Nat.le_of_ble_eq_true rfl)
  have r_x6 : -2147483648 ≤ x6 ∧ x6 ≤ 2147483647 := hl9 (xI x6) (.tail _ (.tail _ (.tail _ (.tail _ (.tail _ (.tail _ (.head _))))))) (Nat.le_of_ble_eq_true rfl)
  have r_x7 : -2147483648 ≤ x7 ∧ x7 ≤ 2147483647 := hl9 (xI x7) (.tail _ (.tail _ (.tail _ (.tail _ (.tail _ (.tail _ (.tail _ (.head _)))))))) (Nat.le_of_ble_eq_true rfl)
  have r_x8 : -9223372036854775808 ≤ x8 ∧ x8 ≤ 9223372036854775807 := hl9 (xL x8) (.tail _ (.tail _ (.tail _ (.tail _ (.tail _ (.tail _ (.tail _ (.tail _ (.head _))))))))) (Nat.le_of_ble_eq_true rfl)
  refine xr_lload (pc := 197) (i := 8) (hI := d_DualPivotQuicksort_mixedInsertionSort_197) (hl := rfl) ?_
  refine xr_aload_n (pc := 199) (i := 0) (hI := d_DualPivotQuicksort_mixedInsertionSort_199) (hi := rfl) (hl := rfl) ?_
  obtain ⟨c9, hyp⟩ := hyp
  refine xr_iinc (pc := 200) (i := 6) (L9 := [xR 64, xI x1, xI x2, xI x3, xL x4, xZ, xI (x6 + (-1)), xI x7, xL x8, xZ, xZ]) (hI := d_DualPivotQuicksort_mixedInsertionSort_200) (hl := rfl) (hn := Nat.le_of_ble_eq_true rfl) (hr := c9) (hL9 := rfl) ?_
  refine xr_iload (pc := 203) (i := 6) (hI := d_DualPivotQuicksort_mixedInsertionSort_203) (hl := rfl) ?_
  obtain ⟨c1_, hyp⟩ := hyp
  obtain ⟨c2_, hyp⟩ := hyp
  refine xg_laload (pc := 205) (v := (xpl h 64 (x6 + (-1)))) (hI := d_DualPivotQuicksort_mixedInsertionSort_205) (ft_64 F) c1_ (xlt_of (fl_64 F) c2_) rfl (fun f3_ => ?_)
  replace f3_ : -9223372036854775808 ≤ (xpl h 64 (x6 + (-1))) ∧ (xpl h 64 (x6 + (-1))) ≤ 9223372036854775807 := f3_
  refine xr_lcmp (pc := 206) (hI := d_DualPivotQuicksort_mixedInsertionSort_206) ?_
  refine xg_lif_ge (pc := 207) (tgt := 223) (hI := d_DualPivotQuicksort_mixedInsertionSort_207) (ht := by decide) (fun q9 => ?_) (fun q9 => ?_)
  · replace hyp := hyp.1 q9
    have q4_ := q9
    clear q9
    refine xr_aload_n (pc := 223) (i := 0) (hI := d_DualPivotQuicksort_mixedInsertionSort_223) (hi := rfl) (hl := rfl) ?_
    refine xr_iload (pc := 224) (i := 6) (hI := d_DualPivotQuicksort_mixedInsertionSort_224) (hl := rfl) ?_
    refine xr_iconst (pc := 226) (hI := d_DualPivotQuicksort_mixedInsertionSort_226) (hr := by decide) ?_
    refine xr_iadd (pc := 227) (hI := d_DualPivotQuicksort_mixedInsertionSort_227) (hr := ⟨by clear hyp; omega, by clear hyp; omega⟩) ?_
    refine xr_lload (pc := 228) (i := 8) (hI := d_DualPivotQuicksort_mixedInsertionSort_228) (hl := rfl) ?_
    obtain ⟨c5_, hyp⟩ := hyp
    refine xr_lastore (pc := 230) (hI := d_DualPivotQuicksort_mixedInsertionSort_230) (ft_64 F) (by decide) (by clear hyp; omega) (xlt_of (fl_64 F) c5_) ?_
    have F6_ : xFix (xst h 64 ((x6 + (-1)) + 1) x8) := F.stA xfa_64
    refine xr_goto (pc := 231) (tgt := 69) (hI := d_DualPivotQuicksort_mixedInsertionSort_231) (ht := by decide) ?_
    exact xr_drop (L9 := [xR 64, xI x1, xI x2, xI x3, xL x4, xZ, xZ, xI x7, xZ, xZ, xZ]) (xdrs (xdrs (xdrs (xdrs (xdrs (xdrs (xdrz (xdrs (xdrz (xdrs (xdrs xdr0))))))))))) (hyp F6_)
  · replace hyp := hyp.2 q9
    have q4_ := q9
    clear q9
    refine xr_aload_n (pc := 210) (i := 0) (hI := d_DualPivotQuicksort_mixedInsertionSort_210) (hi := rfl) (hl := rfl) ?_
    refine xr_iload (pc := 211) (i := 6) (hI := d_DualPivotQuicksort_mixedInsertionSort_211) (hl := rfl) ?_
    refine xr_iconst (pc := 213) (hI := d_DualPivotQuicksort_mixedInsertionSort_213) (hr := by decide) ?_
    refine xr_iadd (pc := 214) (hI := d_DualPivotQuicksort_mixedInsertionSort_214) (hr := ⟨by clear hyp; omega, by clear hyp; omega⟩) ?_
    refine xr_aload_n (pc := 215) (i := 0) (hI := d_DualPivotQuicksort_mixedInsertionSort_215) (hi := rfl) (hl := rfl) ?_
    refine xr_iload (pc := 216) (i := 6) (hI := d_DualPivotQuicksort_mixedInsertionSort_216) (hl := rfl) ?_
    refine xg_laload (pc := 218) (v := (xpl h 64 (x6 + (-1)))) (hI := d_DualPivotQuicksort_mixedInsertionSort_218) (ft_64 F) (by clear hyp; omega) (xlt_of (fl_64 F) (by clear hyp; omega)) rfl (fun f7_ => ?_)
    replace f7_ : -9223372036854775808 ≤ (xpl h 64 (x6 + (-1))) ∧ (xpl h 64 (x6 + (-1))) ≤ 9223372036854775807 := f7_
    obtain ⟨c8_, hyp⟩ := hyp
    refine xr_lastore (pc := 219) (hI := d_DualPivotQuicksort_mixedInsertionSort_219) (ft_64 F) (by decide) (by clear hyp; omega) (xlt_of (fl_64 F) c8_) ?_
    have F9_ : xFix (xst h 64 ((x6 + (-1)) + 1) (xpl h 64 (x6 + (-1)))) := F.stA xfa_64
    refine xr_goto (pc := 220) (tgt := 197) (hI := d_DualPivotQuicksort_mixedInsertionSort_220) (ht := by decide) ?_
    exact (hyp F9_)
theorem d_DualPivotQuicksort_mixedInsertionSort_234 : decode prog_46_method_14_code 234 = .ok (.iload_n 1, 1) := by decide +kernel
theorem d_DualPivotQuicksort_mixedInsertionSort_235 : decode prog_46_method_14_code 235 = .ok (.iload_n 3, 1) := by decide +kernel
theorem d_DualPivotQuicksort_mixedInsertionSort_236 : decode prog_46_method_14_code 236 = .ok (.if_icmp .ge 190, 3) := by decide +kernel
theorem d_DualPivotQuicksort_mixedInsertionSort_239 : decode prog_46_method_14_code 239 = .ok (.aload_n 0, 1) := by decide +kernel
theorem d_DualPivotQuicksort_mixedInsertionSort_240 : decode prog_46_method_14_code 240 = .ok (.iload_n 1, 1) := by decide +kernel
theorem d_DualPivotQuicksort_mixedInsertionSort_241 : decode prog_46_method_14_code 241 = .ok (.dup, 1) := by decide +kernel
theorem d_DualPivotQuicksort_mixedInsertionSort_242 : decode prog_46_method_14_code 242 = .ok (.istore 6, 2) := by decide +kernel
theorem d_DualPivotQuicksort_mixedInsertionSort_244 : decode prog_46_method_14_code 244 = .ok (.laload, 1) := by decide +kernel
theorem d_DualPivotQuicksort_mixedInsertionSort_245 : decode prog_46_method_14_code 245 = .ok (.lstore 7, 2) := by decide +kernel
theorem d_DualPivotQuicksort_mixedInsertionSort_247 : decode prog_46_method_14_code 247 = .ok (.aload_n 0, 1) := by decide +kernel
theorem d_DualPivotQuicksort_mixedInsertionSort_248 : decode prog_46_method_14_code 248 = .ok (.iinc 1 1, 3) := by decide +kernel
theorem d_DualPivotQuicksort_mixedInsertionSort_251 : decode prog_46_method_14_code 251 = .ok (.iload_n 1, 1) := by decide +kernel
theorem d_DualPivotQuicksort_mixedInsertionSort_252 : decode prog_46_method_14_code 252 = .ok (.laload, 1) := by decide +kernel
theorem d_DualPivotQuicksort_mixedInsertionSort_253 : decode prog_46_method_14_code 253 = .ok (.lstore 9, 2) := by decide +kernel
theorem d_DualPivotQuicksort_mixedInsertionSort_255 : decode prog_46_method_14_code 255 = .ok (.lload 7, 2) := by decide +kernel
theorem d_DualPivotQuicksort_mixedInsertionSort_257 : decode prog_46_method_14_code 257 = .ok (.lload 9, 2) := by decide +kernel
theorem d_DualPivotQuicksort_mixedInsertionSort_259 : decode prog_46_method_14_code 259 = .ok (.lcmp, 1) := by decide +kernel
theorem d_DualPivotQuicksort_mixedInsertionSort_260 : decode prog_46_method_14_code 260 = .ok (.ifCond .le 77, 3) := by decide +kernel
theorem d_DualPivotQuicksort_mixedInsertionSort_337 : decode prog_46_method_14_code 337 = .ok (.lload 7, 2) := by decide +kernel
theorem d_DualPivotQuicksort_mixedInsertionSort_339 : decode prog_46_method_14_code 339 = .ok (.aload_n 0, 1) := by decide +kernel
theorem d_DualPivotQuicksort_mixedInsertionSort_340 : decode prog_46_method_14_code 340 = .ok (.iload 6, 2) := by decide +kernel
theorem d_DualPivotQuicksort_mixedInsertionSort_342 : decode prog_46_method_14_code 342 = .ok (.iconst 1, 1) := by decide +kernel
theorem d_DualPivotQuicksort_mixedInsertionSort_343 : decode prog_46_method_14_code 343 = .ok (.isub, 1) := by decide +kernel
theorem d_DualPivotQuicksort_mixedInsertionSort_344 : decode prog_46_method_14_code 344 = .ok (.laload, 1) := by decide +kernel
theorem d_DualPivotQuicksort_mixedInsertionSort_345 : decode prog_46_method_14_code 345 = .ok (.lcmp, 1) := by decide +kernel
theorem d_DualPivotQuicksort_mixedInsertionSort_346 : decode prog_46_method_14_code 346 = .ok (.ifCond .ge 74, 3) := by decide +kernel
theorem d_DualPivotQuicksort_mixedInsertionSort_420 : decode prog_46_method_14_code 420 = .ok (.iinc 1 1, 3) := by decide +kernel
theorem d_DualPivotQuicksort_mixedInsertionSort_423 : decode prog_46_method_14_code 423 = .ok (.goto (-189), 3) := by decide +kernel
theorem v_DualPivotQuicksort_mixedInsertionSort_234 {G : XG} {d : Nat} {h : XH} {Q : XV → XH → Prop} {X : Nat → XH → Prop} {x1 x3 : Int} (F : xFix h) (hyp : ((x3 ≤ x1 → (Q xN h)) ∧ (¬ x3 ≤ x1 → 0 ≤ x1 ∧ x1 < 12000 ∧ (x1 + 1) < 12000 ∧ (((xpl h 64 x1) ≤ (xpl h 64 (x1 + 1)) → 0 ≤ (x1 - 1) ∧ (((xpl h 64 (x1 - 1)) ≤ (xpl h 64 x1) → (xwp G m_DualPivotQuicksort_mixedInsertionSort (d + 1) 234 [xR 64, xI ((x1 + 1) + 1), xZ, xI x3, xZ, xZ, xZ, xZ, xZ, xZ, xZ] [] h Q X)) ∧ (¬ (xpl h 64 (x1 - 1)) ≤ (xpl h 64 x1) → (xwp G m_DualPivotQuicksort_mixedInsertionSort (d + 1) 349 [xR 64, xI (x1 + 1), xZ, xI x3, xZ, xZ, xI x1, xL (xpl h 64 x1), xZ, xL (xpl h 64 (x1 + 1)), xZ] [] h Q X)))) ∧ (¬ (xpl h 64 x1) ≤ (xpl h 64 (x1 + 1)) → (xwp G m_DualPivotQuicksort_mixedInsertionSort (d + 1) 263 [xR 64, xI (x1 + 1), xZ, xI x3, xZ, xZ, xI x1, xL (xpl h 64 x1), xZ, xL (xpl h 64 (x1 + 1)), xZ] [] h Q X)))))) : xwp G m_DualPivotQuicksort_mixedInsertionSort (d + 1) 234 [xR 64, xI x1, xZ, xI x3, xZ, xZ, xZ, xZ, xZ, xZ, xZ] [] h Q X := by
  have hnx9 : (93 : Int) ≤ xnx h := F.2.2
  refine xr_okL (fun hl9 => ?_)
  have r_x1 : -2147483648 ≤ x1 ∧ x1 ≤ 2147483647 := hl9 (xI x1) (.tail _ (.head _)) (Nat.le_of_ble_eq_true rfl)
  have r_x3 : -2147483648 ≤ x3 ∧ x3 ≤ 2147483647 := hl9 (xI x3) (.tail _ (.tail _ (.tail _ (.head _)))) (Nat.le_of_ble_eq_true rfl)
  refine xr_iload_n (pc := 234) (i := 1) (hI := d_DualPivotQuicksort_mixedInsertionSort_234) (hi := rfl) (hl := rfl) ?_
  refine xr_iload_n (pc := 235) (i := 3) (hI := d_DualPivotQuicksort_mixedInsertionSort_235) (hi := rfl) (hl := rfl) ?_
  refine xr_icmp_ge (pc := 236) (tgt := 426) (hI := d_DualPivotQuicksort_mixedInsertionSort_236) (ht := by decide) (fun q9 => ?_) (fun q9 => ?_)
  · replace hyp := hyp.1 q9
    have q1_ := q9
    clear q9
    refine xr_return (S := []) (pc := 426) (hI := d_DualPivotQuicksort_mixedInsertionSort_426) (hr := rfl) ?_
    exact hyp
  · replace hyp := hyp.2 q9
    have q1_ := q9
    clear q9
    refine xr_aload_n (pc := 239) (i := 0) (hI := d_DualPivotQuicksort_mixedInsertionSort_239) (hi := rfl) (hl := rfl) ?_
    refine xr_iload_n (pc := 240) (i := 1) (hI := d_DualPivotQuicksort_mixedInsertionSort_240) (hi := rfl) (hl := rfl) ?_
    refine xr_dup (pc := 241) (hI := d_DualPivotQuicksort_mixedInsertionSort_241) (hv := rfl) ?_
    refine xr_istore (pc := 242) (i := 6) (L9 := [xR 64, xI x1, xZ, xI x3, xZ, xZ, xI x1, xZ, xZ, xZ, xZ]) (hI := d_DualPivotQuicksort_mixedInsertionSort_242) (hn := Nat.le_of_ble_eq_true rfl) (hL9 := rfl) ?_
    obtain ⟨c2_, hyp⟩ := hyp
    obtain ⟨c3_, hyp⟩ := hyp
    refine xg_laload (pc := 244) (v := (xpl h 64 x1)) (hI := d_DualPivotQuicksort_mixedInsertionSort_244) (ft_64 F) c2_ (xlt_of (fl_64 F) c3_) rfl (fun f4_ => ?_)
    replace f4_ : -9223372036854775808 ≤ (xpl h 64 x1) ∧ (xpl h 64 x1) ≤ 9223372036854775807 := f4_
    refine xr_lstore (pc := 245) (i := 7) (L9 := [xR 64, xI x1, xZ, xI x3, xZ, xZ, xI x1, xL (xpl h 64 x1), xZ, xZ, xZ]) (hI := d_DualPivotQuicksort_mixedInsertionSort_245) (hn := Nat.le_of_ble_eq_true rfl) (hL9 := rfl) ?_
    refine xr_aload_n (pc := 247) (i := 0) (hI := d_DualPivotQuicksort_mixedInsertionSort_247) (hi := rfl) (hl := rfl) ?_
    refine xr_iinc (pc := 248) (i := 1) (L9 := [xR 64, xI (x1 + 1), xZ, xI x3, xZ, xZ, xI x1, xL (xpl h 64 x1), xZ, xZ, xZ]) (hI := d_DualPivotQuicksort_mixedInsertionSort_248) (hl := rfl) (hn := Nat.le_of_ble_eq_true rfl) (hr := ⟨by clear hyp; omega, by clear hyp; omega⟩) (hL9 := rfl) ?_
    refine xr_iload_n (pc := 251) (i := 1) (hI := d_DualPivotQuicksort_mixedInsertionSort_251) (hi := rfl) (hl := rfl) ?_
    obtain ⟨c5_, hyp⟩ := hyp
    refine xg_laload (pc := 252) (v := (xpl h 64 (x1 + 1))) (hI := d_DualPivotQuicksort_mixedInsertionSort_252) (ft_64 F) (by clear hyp; omega) (xlt_of (fl_64 F) c5_) rfl (fun f6_ => ?_)
    replace f6_ : -9223372036854775808 ≤ (xpl h 64 (x1 + 1)) ∧ (xpl h 64 (x1 + 1)) ≤ 9223372036854775807 := f6_
    refine xr_lstore (pc := 253) (i := 9) (L9 := [xR 64, xI (x1 + 1), xZ, xI x3, xZ, xZ, xI x1, xL (xpl h 64 x1), xZ, xL (xpl h 64 (x1 + 1)), xZ]) (hI := d_DualPivotQuicksort_mixedInsertionSort_253) (hn := Nat.le_of_ble_eq_true rfl) (hL9 := rfl) ?_
    refine xr_lload (pc := 255) (i := 7) (hI := d_DualPivotQuicksort_mixedInsertionSort_255) (hl := rfl) ?_
    refine xr_lload (pc := 257) (i := 9) (hI := d_DualPivotQuicksort_mixedInsertionSort_257) (hl := rfl) ?_
    refine xr_lcmp (pc := 259) (hI := d_DualPivotQuicksort_mixedInsertionSort_259) ?_
    refine xg_lif_le (pc := 260) (tgt := 337) (hI := d_DualPivotQuicksort_mixedInsertionSort_260) (ht := by decide) (fun q9 => ?_) (fun q9 => ?_)
    · replace hyp := hyp.1 q9
      have q7_ := q9
      clear q9
      refine xr_lload (pc := 337) (i := 7) (hI := d_DualPivotQuicksort_mixedInsertionSort_337) (hl := rfl) ?_
      refine xr_aload_n (pc := 339) (i := 0) (hI := d_DualPivotQuicksort_mixedInsertionSort_339) (hi := rfl) (hl := rfl) ?_
      refine xr_iload (pc := 340) (i := 6) (hI := d_DualPivotQuicksort_mixedInsertionSort_340) (hl := rfl) ?_
      refine xr_iconst (pc := 342) (hI := d_DualPivotQuicksort_mixedInsertionSort_342) (hr := by decide) ?_
      refine xr_isub (pc := 343) (hI := d_DualPivotQuicksort_mixedInsertionSort_343) (hr := ⟨by clear hyp; omega, by clear hyp; omega⟩) ?_
      obtain ⟨c8_, hyp⟩ := hyp
      refine xg_laload (pc := 344) (v := (xpl h 64 (x1 - 1))) (hI := d_DualPivotQuicksort_mixedInsertionSort_344) (ft_64 F) c8_ (xlt_of (fl_64 F) (by clear hyp; omega)) rfl (fun f9_ => ?_)
      replace f9_ : -9223372036854775808 ≤ (xpl h 64 (x1 - 1)) ∧ (xpl h 64 (x1 - 1)) ≤ 9223372036854775807 := f9_
      refine xr_lcmp (pc := 345) (hI := d_DualPivotQuicksort_mixedInsertionSort_345) ?_
      refine xg_lif_ge (pc := 346) (tgt := 420) (hI := d_DualPivotQuicksort_mixedInsertionSort_346) (ht := by decide) (fun q9 => ?_) (fun q9 => ?_)
      · replace hyp := hyp.1 q9
        have q10_ := q9
        clear q9
        refine xr_iinc (pc := 420) (i := 1) (L9 := [xR 64, xI ((x1 + 1) + 1), xZ, xI x3, xZ, xZ, xI x1, xL (xpl h 64 x1), xZ, xL (xpl h 64 (x1 + 1)), xZ]) (hI := d_DualPivotQuicksort_mixedInsertionSort_420) (hl := rfl) (hn := Nat.le_of_ble_eq_true rfl) (hr := ⟨by clear hyp; omega, by clear hyp; omega⟩) (hL9 := rfl) ?_
        refine xr_goto (pc := 423) (tgt := 234) (hI := d_DualPivotQuicksort_mixedInsertionSort_423) (ht := by decide) ?_
        exact xr_drop (L9 := [xR 64, xI ((x1 + 1) + 1), xZ, xI x3, xZ, xZ, xZ, xZ, xZ, xZ, xZ]) (xdrs (xdrs (xdrs (xdrs (xdrs (xdrs (xdrz (xdrz (xdrs (xdrz (xdrs xdr0))))))))))) hyp
      · replace hyp := hyp.2 q9
        have q10_ := q9
        clear q9
        exact hyp
    · replace hyp := hyp.2 q9
      have q7_ := q9
      clear q9
      exact hyp
theorem d_DualPivotQuicksort_mixedInsertionSort_263 : decode prog_46_method_14_code 263 = .ok (.lload 7, 2) := by decide +kernel
theorem d_DualPivotQuicksort_mixedInsertionSort_265 : decode prog_46_method_14_code 265 = .ok (.aload_n 0, 1) := by decide +kernel
theorem d_DualPivotQuicksort_mixedInsertionSort_266 : decode prog_46_method_14_code 266 = .ok (.iinc 6 (-1), 3) := by decide +kernel
theorem d_DualPivotQuicksort_mixedInsertionSort_269 : decode prog_46_method_14_code 269 = .ok (.iload 6, 2) := by decide +kernel
theorem d_DualPivotQuicksort_mixedInsertionSort_271 : decode prog_46_method_14_code 271 = .ok (.laload, 1) := by decide +kernel
theorem d_DualPivotQuicksort_mixedInsertionSort_272 : decode prog_46_method_14_code 272 = .ok (.lcmp, 1) := by decide +kernel
theorem d_DualPivotQuicksort_mixedInsertionSort_273 : decode prog_46_method_14_code 273 = .ok (.ifCond .ge 16, 3) := by decide +kernel
theorem d_DualPivotQuicksort_mixedInsertionSort_289 : decode prog_46_method_14_code 289 = .ok (.aload_n 0, 1) := by decide +kernel
theorem d_DualPivotQuicksort_mixedInsertionSort_290 : decode prog_46_method_14_code 290 = .ok (.iinc 6 1, 3) := by decide +kernel
theorem d_DualPivotQuicksort_mixedInsertionSort_293 : decode prog_46_method_14_code 293 = .ok (.iload 6, 2) := by decide +kernel
theorem d_DualPivotQuicksort_mixedInsertionSort_295 : decode prog_46_method_14_code 295 = .ok (.iconst 1, 1) := by decide +kernel
theorem d_DualPivotQuicksort_mixedInsertionSort_296 : decode prog_46_method_14_code 296 = .ok (.iadd, 1) := by decide +kernel
theorem d_DualPivotQuicksort_mixedInsertionSort_297 : decode prog_46_method_14_code 297 = .ok (.lload 7, 2) := by decide +kernel
theorem d_DualPivotQuicksort_mixedInsertionSort_299 : decode prog_46_method_14_code 299 = .ok (.lastore, 1) := by decide +kernel
theorem d_DualPivotQuicksort_mixedInsertionSort_276 : decode prog_46_method_14_code 276 = .ok (.aload_n 0, 1) := by decide +kernel
theorem d_DualPivotQuicksort_mixedInsertionSort_277 : decode prog_46_method_14_code 277 = .ok (.iload 6, 2) := by decide +kernel
theorem d_DualPivotQuicksort_mixedInsertionSort_279 : decode prog_46_method_14_code 279 = .ok (.iconst 2, 1) := by decide +kernel
theorem d_DualPivotQuicksort_mixedInsertionSort_280 : decode prog_46_method_14_code 280 = .ok (.iadd, 1) := by decide +kernel
theorem d_DualPivotQuicksort_mixedInsertionSort_281 : decode prog_46_method_14_code 281 = .ok (.aload_n 0, 1) := by decide +kernel
theorem d_DualPivotQuicksort_mixedInsertionSort_282 : decode prog_46_method_14_code 282 = .ok (.iload 6, 2) := by decide +kernel
theorem d_DualPivotQuicksort_mixedInsertionSort_284 : decode prog_46_method_14_code 284 = .ok (.laload, 1) := by decide +kernel
theorem d_DualPivotQuicksort_mixedInsertionSort_285 : decode prog_46_method_14_code 285 = .ok (.lastore, 1) := by decide +kernel
theorem d_DualPivotQuicksort_mixedInsertionSort_286 : decode prog_46_method_14_code 286 = .ok (.goto (-23), 3) := by decide +kernel
theorem v_DualPivotQuicksort_mixedInsertionSort_263 {G : XG} {d : Nat} {h : XH} {Q : XV → XH → Prop} {X : Nat → XH → Prop} {x1 x3 x6 x7 x9 : Int} (F : xFix h) (hyp : xiR (x6 + (-1)) ∧ 0 ≤ (x6 + (-1)) ∧ (x6 + (-1)) < 12000 ∧ (((xpl h 64 (x6 + (-1))) ≤ x7 → (((x6 + (-1)) + 1) + 1) < 12000 ∧ (xFix (xst h 64 (((x6 + (-1)) + 1) + 1) x7) → xwp G m_DualPivotQuicksort_mixedInsertionSort (d + 1) 300 [xR 64, xI x1, xZ, xI x3, xZ, xZ, xI ((x6 + (-1)) + 1), xZ, xZ, xL x9, xZ] [] (xst h 64 (((x6 + (-1)) + 1) + 1) x7) Q X)) ∧ (¬ (xpl h 64 (x6 + (-1))) ≤ x7 → ((x6 + (-1)) + 2) < 12000 ∧ (xFix (xst h 64 ((x6 + (-1)) + 2) (xpl h 64 (x6 + (-1)))) → xwp G m_DualPivotQuicksort_mixedInsertionSort (d + 1) 263 [xR 64, xI x1, xZ, xI x3, xZ, xZ, xI (x6 + (-1)), xL x7, xZ, xL x9, xZ] [] (xst h 64 ((x6 + (-1)) + 2) (xpl h 64 (x6 + (-1)))) Q X)))) : xwp G m_DualPivotQuicksort_mixedInsertionSort (d + 1) 263 [xR 64, xI x1, xZ, xI x3, xZ, xZ, xI x6, xL x7, xZ, xL x9, xZ] [] h Q X := by
  have hnx9 : (93 : Int) ≤ xnx h := F.2.2
  refine xr_okL (fun hl9 => ?_)
  have r_x1 : -2147483648 ≤ x1 ∧ x1 ≤ 2147483647 := hl9 (xI x1) (.tail _ (.head _)) (Nat.le_of_ble_eq_true rfl)
  have r_x3 : -2147483648 ≤ x3 ∧ x3 ≤ 2147483647 := hl9 (xI x3) (.tail _ (.tail _ (.tail _ (.head _)))) (Nat.le_of_ble_eq_true rfl)
  have r_x6 : -2147483648 ≤ x6 ∧ x6 ≤ 2147483647 := hl9 (xI x6) (.tail _ (.tail _ (.tail _ (.tail _ (.tail _ (.tail _ (.head _))))))) (Nat.le_of_ble_eq_true rfl)
  have r_x7 : -9223372036854775808 ≤ x7 ∧ x7 ≤ 9223372036854775807 := hl9 (xL x7) (.tail _ (.tail _ (.tail _ (.tail _ (.tail _ (.tail _ (.tail _ (.head _)))))))) (Nat.le_of_ble_eq_true rfl)
  have r_x9 : -9223372036854775808 ≤ x9 ∧ x9 ≤ 9223372036854775807 := hl9 (xL x9) (.tail _ (.tail _ (.tail _ (.tail _ (.tail _ (.tail _ (.tail _ (.tail _ (.tail _ (.head _)))))))))) (Nat.le_of_ble_eq_true rfl)
  refine xr_lload (pc := 263) (i := 7) (hI := d_DualPivotQuicksort_mixedInsertionSort_263) (hl := rfl) ?_
  refine xr_aload_n (pc := 265) (i := 0) (hI := d_DualPivotQuicksort_mixedInsertionSort_265) (hi := rfl) (hl := rfl) ?_
  obtain ⟨c9, hyp⟩ := hyp
  refine xr_iinc (pc := 266) (i := 6) (L9 := [xR 64, xI x1, xZ, xI x3, xZ, xZ, xI (x6 + (-1)), xL x7, xZ, xL x9, xZ]) (hI := d_DualPivotQuicksort_mixedInsertionSort_266) (hl := rfl) (hn := Nat.le_of_ble_eq_true rfl) (hr := c9) (hL9 := rfl) ?_
  refine xr_iload (pc := 269) (i := 6) (hI := d_DualPivotQuicksort_mixedInsertionSort_269) (hl := rfl) ?_
  obtain ⟨c1_, hyp⟩ := hyp
  obtain ⟨c2_, hyp⟩ := hyp
  refine xg_laload (pc := 271) (v := (xpl h 64 (x6 + (-1)))) (hI := d_DualPivotQuicksort_mixedInsertionSort_271) (ft_64 F) c1_ (xlt_of (fl_64 F) c2_) rfl (fun f3_ => ?_)
  replace f3_ : -9223372036854775808 ≤ (xpl h 64 (x6 + (-1))) ∧ (xpl h 64 (x6 + (-1))) ≤ 9223372036854775807 := f3_
  refine xr_lcmp (pc := 272) (hI := d_DualPivotQuicksort_mixedInsertionSort_272) ?_
  refine xg_lif_ge (pc := 273) (tgt := 289) (hI := d_DualPivotQuicksort_mixedInsertionSort_273) (ht := by decide) (fun q9 => ?_) (fun q9 => ?_)
  · replace hyp := hyp.1 q9
    have q4_ := q9
    clear q9
    refine xr_aload_n (pc := 289) (i := 0) (hI := d_DualPivotQuicksort_mixedInsertionSort_289) (hi := rfl) (hl := rfl) ?_
    refine xr_iinc (pc := 290) (i := 6) (L9 := [xR 64, xI x1, xZ, xI x3, xZ, xZ, xI ((x6 + (-1)) + 1), xL x7, xZ, xL x9, xZ]) (hI := d_DualPivotQuicksort_mixedInsertionSort_290) (hl := rfl) (hn := Nat.le_of_ble_eq_true rfl) (hr := ⟨by clear hyp; omega, by clear hyp; omega⟩) (hL9 := rfl) ?_
    refine xr_iload (pc := 293) (i := 6) (hI := d_DualPivotQuicksort_mixedInsertionSort_293) (hl := rfl) ?_
    refine xr_iconst (pc := 295) (hI := d_DualPivotQuicksort_mixedInsertionSort_295) (hr := by decide) ?_
    refine xr_iadd (pc := 296) (hI := d_DualPivotQuicksort_mixedInsertionSort_296) (hr := ⟨by clear hyp; omega, by clear hyp; omega⟩) ?_
    refine xr_lload (pc := 297) (i := 7) (hI := d_DualPivotQuicksort_mixedInsertionSort_297) (hl := rfl) ?_
    obtain ⟨c5_, hyp⟩ := hyp
    refine xr_lastore (pc := 299) (hI := d_DualPivotQuicksort_mixedInsertionSort_299) (ft_64 F) (by decide) (by clear hyp; omega) (xlt_of (fl_64 F) c5_) ?_
    have F6_ : xFix (xst h 64 (((x6 + (-1)) + 1) + 1) x7) := F.stA xfa_64
    exact xr_drop (L9 := [xR 64, xI x1, xZ, xI x3, xZ, xZ, xI ((x6 + (-1)) + 1), xZ, xZ, xL x9, xZ]) (xdrs (xdrs (xdrs (xdrs (xdrs (xdrs (xdrs (xdrz (xdrs (xdrs (xdrs xdr0))))))))))) (hyp F6_)
  · replace hyp := hyp.2 q9
    have q4_ := q9
    clear q9
    refine xr_aload_n (pc := 276) (i := 0) (hI := d_DualPivotQuicksort_mixedInsertionSort_276) (hi := rfl) (hl := rfl) ?_
    refine xr_iload (pc := 277) (i := 6) (hI := d_DualPivotQuicksort_mixedInsertionSort_277) (hl := rfl) ?_
    refine xr_iconst (pc := 279) (hI := d_DualPivotQuicksort_mixedInsertionSort_279) (hr := by decide) ?_
    refine xr_iadd (pc := 280) (hI := d_DualPivotQuicksort_mixedInsertionSort_280) (hr := ⟨by clear hyp; omega, by clear hyp; omega⟩) ?_
    refine xr_aload_n (pc := 281) (i := 0) (hI := d_DualPivotQuicksort_mixedInsertionSort_281) (hi := rfl) (hl := rfl) ?_
    refine xr_iload (pc := 282) (i := 6) (hI := d_DualPivotQuicksort_mixedInsertionSort_282) (hl := rfl) ?_
    refine xg_laload (pc := 284) (v := (xpl h 64 (x6 + (-1)))) (hI := d_DualPivotQuicksort_mixedInsertionSort_284) (ft_64 F) (by clear hyp; omega) (xlt_of (fl_64 F) (by clear hyp; omega)) rfl (fun f7_ => ?_)
    replace f7_ : -9223372036854775808 ≤ (xpl h 64 (x6 + (-1))) ∧ (xpl h 64 (x6 + (-1))) ≤ 9223372036854775807 := f7_
    obtain ⟨c8_, hyp⟩ := hyp
    refine xr_lastore (pc := 285) (hI := d_DualPivotQuicksort_mixedInsertionSort_285) (ft_64 F) (by decide) (by clear hyp; omega) (xlt_of (fl_64 F) c8_) ?_
    have F9_ : xFix (xst h 64 ((x6 + (-1)) + 2) (xpl h 64 (x6 + (-1)))) := F.stA xfa_64
    refine xr_goto (pc := 286) (tgt := 263) (hI := d_DualPivotQuicksort_mixedInsertionSort_286) (ht := by decide) ?_
    exact (hyp F9_)
theorem d_DualPivotQuicksort_mixedInsertionSort_300 : decode prog_46_method_14_code 300 = .ok (.lload 9, 2) := by decide +kernel
theorem d_DualPivotQuicksort_mixedInsertionSort_302 : decode prog_46_method_14_code 302 = .ok (.aload_n 0, 1) := by decide +kernel
theorem d_DualPivotQuicksort_mixedInsertionSort_303 : decode prog_46_method_14_code 303 = .ok (.iinc 6 (-1), 3) := by decide +kernel
theorem d_DualPivotQuicksort_mixedInsertionSort_306 : decode prog_46_method_14_code 306 = .ok (.iload 6, 2) := by decide +kernel
theorem d_DualPivotQuicksort_mixedInsertionSort_308 : decode prog_46_method_14_code 308 = .ok (.laload, 1) := by decide +kernel
theorem d_DualPivotQuicksort_mixedInsertionSort_309 : decode prog_46_method_14_code 309 = .ok (.lcmp, 1) := by decide +kernel
theorem d_DualPivotQuicksort_mixedInsertionSort_310 : decode prog_46_method_14_code 310 = .ok (.ifCond .ge 16, 3) := by decide +kernel
theorem d_DualPivotQuicksort_mixedInsertionSort_326 : decode prog_46_method_14_code 326 = .ok (.aload_n 0, 1) := by decide +kernel
theorem d_DualPivotQuicksort_mixedInsertionSort_327 : decode prog_46_method_14_code 327 = .ok (.iload 6, 2) := by decide +kernel
theorem d_DualPivotQuicksort_mixedInsertionSort_329 : decode prog_46_method_14_code 329 = .ok (.iconst 1, 1) := by decide +kernel
theorem d_DualPivotQuicksort_mixedInsertionSort_330 : decode prog_46_method_14_code 330 = .ok (.iadd, 1) := by decide +kernel
theorem d_DualPivotQuicksort_mixedInsertionSort_331 : decode prog_46_method_14_code 331 = .ok (.lload 9, 2) := by decide +kernel
theorem d_DualPivotQuicksort_mixedInsertionSort_333 : decode prog_46_method_14_code 333 = .ok (.lastore, 1) := by decide +kernel
theorem d_DualPivotQuicksort_mixedInsertionSort_334 : decode prog_46_method_14_code 334 = .ok (.goto 86, 3) := by decide +kernel
theorem d_DualPivotQuicksort_mixedInsertionSort_313 : decode prog_46_method_14_code 313 = .ok (.aload_n 0, 1) := by decide +kernel
theorem d_DualPivotQuicksort_mixedInsertionSort_314 : decode prog_46_method_14_code 314 = .ok (.iload 6, 2) := by decide +kernel
theorem d_DualPivotQuicksort_mixedInsertionSort_316 : decode prog_46_method_14_code 316 = .ok (.iconst 1, 1) := by decide +kernel
theorem d_DualPivotQuicksort_mixedInsertionSort_317 : decode prog_46_method_14_code 317 = .ok (.iadd, 1) := by decide +kernel
theorem d_DualPivotQuicksort_mixedInsertionSort_318 : decode prog_46_method_14_code 318 = .ok (.aload_n 0, 1) := by decide +kernel
theorem d_DualPivotQuicksort_mixedInsertionSort_319 : decode prog_46_method_14_code 319 = .ok (.iload 6, 2) := by decide +kernel
theorem d_DualPivotQuicksort_mixedInsertionSort_321 : decode prog_46_method_14_code 321 = .ok (.laload, 1) := by decide +kernel
theorem d_DualPivotQuicksort_mixedInsertionSort_322 : decode prog_46_method_14_code 322 = .ok (.lastore, 1) := by decide +kernel
theorem d_DualPivotQuicksort_mixedInsertionSort_323 : decode prog_46_method_14_code 323 = .ok (.goto (-23), 3) := by decide +kernel
theorem v_DualPivotQuicksort_mixedInsertionSort_300 {G : XG} {d : Nat} {h : XH} {Q : XV → XH → Prop} {X : Nat → XH → Prop} {x1 x3 x6 x9 : Int} (F : xFix h) (hyp : xiR (x6 + (-1)) ∧ 0 ≤ (x6 + (-1)) ∧ (x6 + (-1)) < 12000 ∧ (((xpl h 64 (x6 + (-1))) ≤ x9 → ((x6 + (-1)) + 1) < 12000 ∧ xiR (x1 + 1) ∧ (xFix (xst h 64 ((x6 + (-1)) + 1) x9) → xwp G m_DualPivotQuicksort_mixedInsertionSort (d + 1) 234 [xR 64, xI (x1 + 1), xZ, xI x3, xZ, xZ, xZ, xZ, xZ, xZ, xZ] [] (xst h 64 ((x6 + (-1)) + 1) x9) Q X)) ∧ (¬ (xpl h 64 (x6 + (-1))) ≤ x9 → ((x6 + (-1)) + 1) < 12000 ∧ (xFix (xst h 64 ((x6 + (-1)) + 1) (xpl h 64 (x6 + (-1)))) → xwp G m_DualPivotQuicksort_mixedInsertionSort (d + 1) 300 [xR 64, xI x1, xZ, xI x3, xZ, xZ, xI (x6 + (-1)), xZ, xZ, xL x9, xZ] [] (xst h 64 ((x6 + (-1)) + 1) (xpl h 64 (x6 + (-1)))) Q X)))) : xwp G m_DualPivotQuicksort_mixedInsertionSort (d + 1) 300 [xR 64, xI x1, xZ, xI x3, xZ, xZ, xI x6, xZ, xZ, xL x9, xZ] [] h Q X := by
  have hnx9 : (93 : Int) ≤ xnx h := F.2.2
  refine xr_okL (fun hl9 => ?_)
  have r_x1 : -2147483648 ≤ x1 ∧ x1 ≤ 2147483647 := hl9 (xI x1) (.tail _ (.head _)) (Nat.le_of_ble_eq_true rfl)
  have r_x3 : -2147483648 ≤ x3 ∧ x3 ≤ 2147483647 := hl9 (xI x3) (.tail _ (.tail _ (.tail _ (.head _)))) (Nat.le_of_ble_eq_true rfl)
  have r_x6 : -2147483648 ≤ x6 ∧ x6 ≤ 2147483647 := hl9 (xI x6) (.tail _ (.tail _ (.tail _ (.tail _ (.tail _ (.tail _ (.head _))))))) (Nat.le_of_ble_eq_true rfl)
  have r_x9 : -9223372036854775808 ≤ x9 ∧ x9 ≤ 9223372036854775807 := hl9 (xL x9) (.tail _ (.tail _ (.tail _ (.tail _ (.tail _ (.tail _ (.tail _ (.tail _ (.tail _ (.head _)))))))))) (Nat.le_of_ble_eq_true rfl)
  refine xr_lload (pc := 300) (i := 9) (hI := d_DualPivotQuicksort_mixedInsertionSort_300) (hl := rfl) ?_
  refine xr_aload_n (pc := 302) (i := 0) (hI := d_DualPivotQuicksort_mixedInsertionSort_302) (hi := rfl) (hl := rfl) ?_
  obtain ⟨c9, hyp⟩ := hyp
  refine xr_iinc (pc := 303) (i := 6) (L9 := [xR 64, xI x1, xZ, xI x3, xZ, xZ, xI (x6 + (-1)), xZ, xZ, xL x9, xZ]) (hI := d_DualPivotQuicksort_mixedInsertionSort_303) (hl := rfl) (hn := Nat.le_of_ble_eq_true rfl) (hr := c9) (hL9 := rfl) ?_
  refine xr_iload (pc := 306) (i := 6) (hI := d_DualPivotQuicksort_mixedInsertionSort_306) (hl := rfl) ?_
  obtain ⟨c1_, hyp⟩ := hyp
  obtain ⟨c2_, hyp⟩ := hyp
  refine xg_laload (pc := 308) (v := (xpl h 64 (x6 + (-1)))) (hI := d_DualPivotQuicksort_mixedInsertionSort_308) (ft_64 F) c1_ (xlt_of (fl_64 F) c2_) rfl (fun f3_ => ?_)
  replace f3_ : -9223372036854775808 ≤ (xpl h 64 (x6 + (-1))) ∧ (xpl h 64 (x6 + (-1))) ≤ 9223372036854775807 := f3_
  refine xr_lcmp (pc := 309) (hI := d_DualPivotQuicksort_mixedInsertionSort_309) ?_
  refine xg_lif_ge (pc := 310) (tgt := 326) (hI := d_DualPivotQuicksort_mixedInsertionSort_310) (ht := by decide) (fun q9 => ?_) (fun q9 => ?_)
  · replace hyp := hyp.1 q9
    have q4_ := q9
    clear q9
    refine xr_aload_n (pc := 326) (i := 0) (hI := d_DualPivotQuicksort_mixedInsertionSort_326) (hi := rfl) (hl := rfl) ?_
    refine xr_iload (pc := 327) (i := 6) (hI := d_DualPivotQuicksort_mixedInsertionSort_327) (hl := rfl) ?_
    refine xr_iconst (pc := 329) (hI := d_DualPivotQuicksort_mixedInsertionSort_329) (hr := by decide) ?_
    refine xr_iadd (pc := 330) (hI := d_DualPivotQuicksort_mixedInsertionSort_330) (hr := ⟨by clear hyp; omega, by clear hyp; omega⟩) ?_
    refine xr_lload (pc := 331) (i := 9) (hI := d_DualPivotQuicksort_mixedInsertionSort_331) (hl := rfl) ?_
    obtain ⟨c5_, hyp⟩ := hyp
    refine xr_lastore (pc := 333) (hI := d_DualPivotQuicksort_mixedInsertionSort_333) (ft_64 F) (by decide) (by clear hyp; omega) (xlt_of (fl_64 F) c5_) ?_
    have F6_ : xFix (xst h 64 ((x6 + (-1)) + 1) x9) := F.stA xfa_64
    refine xr_goto (pc := 334) (tgt := 420) (hI := d_DualPivotQuicksort_mixedInsertionSort_334) (ht := by decide) ?_
    obtain ⟨c9, hyp⟩ := hyp
    refine xr_iinc (pc := 420) (i := 1) (L9 := [xR 64, xI (x1 + 1), xZ, xI x3, xZ, xZ, xI (x6 + (-1)), xZ, xZ, xL x9, xZ]) (hI := d_DualPivotQuicksort_mixedInsertionSort_420) (hl := rfl) (hn := Nat.le_of_ble_eq_true rfl) (hr := c9) (hL9 := rfl) ?_
    refine xr_goto (pc := 423) (tgt := 234) (hI := d_DualPivotQuicksort_mixedInsertionSort_423) (ht := by decide) ?_
    exact xr_drop (L9 := [xR 64, xI (x1 + 1), xZ, xI x3, xZ, xZ, xZ, xZ, xZ, xZ, xZ]) (xdrs (xdrs (xdrs (xdrs (xdrs (xdrs (xdrz (xdrs (xdrs (xdrz (xdrs xdr0))))))))))) (hyp F6_)
  · replace hyp := hyp.2 q9
    have q4_ := q9
    clear q9
    refine xr_aload_n (pc := 313) (i := 0) (hI := d_DualPivotQuicksort_mixedInsertionSort_313) (hi := rfl) (hl := rfl) ?_
    refine xr_iload (pc := 314) (i := 6) (hI := d_DualPivotQuicksort_mixedInsertionSort_314) (hl := rfl) ?_
    refine xr_iconst (pc := 316) (hI := d_DualPivotQuicksort_mixedInsertionSort_316) (hr := by decide) ?_
    refine xr_iadd (pc := 317) (hI := d_DualPivotQuicksort_mixedInsertionSort_317) (hr := ⟨by clear hyp; omega, by clear hyp; omega⟩) ?_
    refine xr_aload_n (pc := 318) (i := 0) (hI := d_DualPivotQuicksort_mixedInsertionSort_318) (hi := rfl) (hl := rfl) ?_
    refine xr_iload (pc := 319) (i := 6) (hI := d_DualPivotQuicksort_mixedInsertionSort_319) (hl := rfl) ?_
    refine xg_laload (pc := 321) (v := (xpl h 64 (x6 + (-1)))) (hI := d_DualPivotQuicksort_mixedInsertionSort_321) (ft_64 F) (by clear hyp; omega) (xlt_of (fl_64 F) (by clear hyp; omega)) rfl (fun f7_ => ?_)
    replace f7_ : -9223372036854775808 ≤ (xpl h 64 (x6 + (-1))) ∧ (xpl h 64 (x6 + (-1))) ≤ 9223372036854775807 := f7_
    obtain ⟨c8_, hyp⟩ := hyp
    refine xr_lastore (pc := 322) (hI := d_DualPivotQuicksort_mixedInsertionSort_322) (ft_64 F) (by decide) (by clear hyp; omega) (xlt_of (fl_64 F) c8_) ?_
    have F9_ : xFix (xst h 64 ((x6 + (-1)) + 1) (xpl h 64 (x6 + (-1)))) := F.stA xfa_64
    refine xr_goto (pc := 323) (tgt := 300) (hI := d_DualPivotQuicksort_mixedInsertionSort_323) (ht := by decide) ?_
    exact (hyp F9_)
theorem d_DualPivotQuicksort_mixedInsertionSort_349 : decode prog_46_method_14_code 349 = .ok (.lload 9, 2) := by decide +kernel
theorem d_DualPivotQuicksort_mixedInsertionSort_351 : decode prog_46_method_14_code 351 = .ok (.aload_n 0, 1) := by decide +kernel
theorem d_DualPivotQuicksort_mixedInsertionSort_352 : decode prog_46_method_14_code 352 = .ok (.iinc 6 (-1), 3) := by decide +kernel
theorem d_DualPivotQuicksort_mixedInsertionSort_355 : decode prog_46_method_14_code 355 = .ok (.iload 6, 2) := by decide +kernel
theorem d_DualPivotQuicksort_mixedInsertionSort_357 : decode prog_46_method_14_code 357 = .ok (.laload, 1) := by decide +kernel
theorem d_DualPivotQuicksort_mixedInsertionSort_358 : decode prog_46_method_14_code 358 = .ok (.lcmp, 1) := by decide +kernel
theorem d_DualPivotQuicksort_mixedInsertionSort_359 : decode prog_46_method_14_code 359 = .ok (.ifCond .ge 16, 3) := by decide +kernel
theorem d_DualPivotQuicksort_mixedInsertionSort_375 : decode prog_46_method_14_code 375 = .ok (.aload_n 0, 1) := by decide +kernel
theorem d_DualPivotQuicksort_mixedInsertionSort_376 : decode prog_46_method_14_code 376 = .ok (.iinc 6 1, 3) := by decide +kernel
theorem d_DualPivotQuicksort_mixedInsertionSort_379 : decode prog_46_method_14_code 379 = .ok (.iload 6, 2) := by decide +kernel
theorem d_DualPivotQuicksort_mixedInsertionSort_381 : decode prog_46_method_14_code 381 = .ok (.iconst 1, 1) := by decide +kernel
theorem d_DualPivotQuicksort_mixedInsertionSort_382 : decode prog_46_method_14_code 382 = .ok (.iadd, 1) := by decide +kernel
theorem d_DualPivotQuicksort_mixedInsertionSort_383 : decode prog_46_method_14_code 383 = .ok (.lload 9, 2) := by decide +kernel
theorem d_DualPivotQuicksort_mixedInsertionSort_385 : decode prog_46_method_14_code 385 = .ok (.lastore, 1) := by decide +kernel
theorem d_DualPivotQuicksort_mixedInsertionSort_362 : decode prog_46_method_14_code 362 = .ok (.aload_n 0, 1) := by decide +kernel
theorem d_DualPivotQuicksort_mixedInsertionSort_363 : decode prog_46_method_14_code 363 = .ok (.iload 6, 2) := by decide +kernel
theorem d_DualPivotQuicksort_mixedInsertionSort_365 : decode prog_46_method_14_code 365 = .ok (.iconst 2, 1) := by decide +kernel
theorem d_DualPivotQuicksort_mixedInsertionSort_366 : decode prog_46_method_14_code 366 = .ok (.iadd, 1) := by decide +kernel
theorem d_DualPivotQuicksort_mixedInsertionSort_367 : decode prog_46_method_14_code 367 = .ok (.aload_n 0, 1) := by decide +kernel
theorem d_DualPivotQuicksort_mixedInsertionSort_368 : decode prog_46_method_14_code 368 = .ok (.iload 6, 2) := by decide +kernel
theorem d_DualPivotQuicksort_mixedInsertionSort_370 : decode prog_46_method_14_code 370 = .ok (.laload, 1) := by decide +kernel
theorem d_DualPivotQuicksort_mixedInsertionSort_371 : decode prog_46_method_14_code 371 = .ok (.lastore, 1) := by decide +kernel
theorem d_DualPivotQuicksort_mixedInsertionSort_372 : decode prog_46_method_14_code 372 = .ok (.goto (-23), 3) := by decide +kernel
theorem v_DualPivotQuicksort_mixedInsertionSort_349 {G : XG} {d : Nat} {h : XH} {Q : XV → XH → Prop} {X : Nat → XH → Prop} {x1 x3 x6 x7 x9 : Int} (F : xFix h) (hyp : xiR (x6 + (-1)) ∧ 0 ≤ (x6 + (-1)) ∧ (x6 + (-1)) < 12000 ∧ (((xpl h 64 (x6 + (-1))) ≤ x9 → (((x6 + (-1)) + 1) + 1) < 12000 ∧ (xFix (xst h 64 (((x6 + (-1)) + 1) + 1) x9) → xwp G m_DualPivotQuicksort_mixedInsertionSort (d + 1) 386 [xR 64, xI x1, xZ, xI x3, xZ, xZ, xI ((x6 + (-1)) + 1), xL x7, xZ, xZ, xZ] [] (xst h 64 (((x6 + (-1)) + 1) + 1) x9) Q X)) ∧ (¬ (xpl h 64 (x6 + (-1))) ≤ x9 → ((x6 + (-1)) + 2) < 12000 ∧ (xFix (xst h 64 ((x6 + (-1)) + 2) (xpl h 64 (x6 + (-1)))) → xwp G m_DualPivotQuicksort_mixedInsertionSort (d + 1) 349 [xR 64, xI x1, xZ, xI x3, xZ, xZ, xI (x6 + (-1)), xL x7, xZ, xL x9, xZ] [] (xst h 64 ((x6 + (-1)) + 2) (xpl h 64 (x6 + (-1)))) Q X)))) : xwp G m_DualPivotQuicksort_mixedInsertionSort (d + 1) 349 [xR 64, xI x1, xZ, xI x3, xZ, xZ, xI x6, xL x7, xZ, xL x9, xZ] [] h Q X := by
  have hnx9 : (93 : Int) ≤ xnx h := F.2.2
  refine xr_okL (fun hl9 => ?_)
  have r_x1 : -2147483648 ≤ x1 ∧ x1 ≤ 2147483647 := hl9 (xI x1) (.tail _ (.head _)) (Nat.le_of_ble_eq_true rfl)
  have r_x3 : -2147483648 ≤ x3 ∧ x3 ≤ 2147483647 := hl9 (xI x3) (.tail _ (.tail _ (.tail _ (.head _)))) (Nat.le_of_ble_eq_true rfl)
  have r_x6 : -2147483648 ≤ x6 ∧ x6 ≤ 2147483647 := hl9 (xI x6) (.tail _ (.tail _ (.tail _ (.tail _ (.tail _ (.tail _ (.head _))))))) (Nat.le_of_ble_eq_true rfl)
  have r_x7 : -9223372036854775808 ≤ x7 ∧ x7 ≤ 9223372036854775807 := hl9 (xL x7) (.tail _ (.tail _ (.tail _ (.tail _ (.tail _ (.tail _ (.tail _ (.head _)))))))) (Nat.le_of_ble_eq_true rfl)
  have r_x9 : -9223372036854775808 ≤ x9 ∧ x9 ≤ 9223372036854775807 := hl9 (xL x9) (.tail _ (.tail _ (.tail _ (.tail _ (.tail _ (.tail _ (.tail _ (.tail _ (.tail _ (.head _)))))))))) (Nat.le_of_ble_eq_true rfl)
  refine xr_lload (pc := 349) (i := 9) (hI := d_DualPivotQuicksort_mixedInsertionSort_349) (hl := rfl) ?_
  refine xr_aload_n (pc := 351) (i := 0) (hI := d_DualPivotQuicksort_mixedInsertionSort_351) (hi := rfl) (hl := rfl) ?_
  obtain ⟨c9, hyp⟩ := hyp
  refine xr_iinc (pc := 352) (i := 6) (L9 := [xR 64, xI x1, xZ, xI x3, xZ, xZ, xI (x6 + (-1)), xL x7, xZ, xL x9, xZ]) (hI := d_DualPivotQuicksort_mixedInsertionSort_352) (hl := rfl) (hn := Nat.le_of_ble_eq_true rfl) (hr := c9) (hL9 := rfl) ?_
  refine xr_iload (pc := 355) (i := 6) (hI := d_DualPivotQuicksort_mixedInsertionSort_355) (hl := rfl) ?_
  obtain ⟨c1_, hyp⟩ := hyp
  obtain ⟨c2_, hyp⟩ := hyp
  refine xg_laload (pc := 357) (v := (xpl h 64 (x6 + (-1)))) (hI := d_DualPivotQuicksort_mixedInsertionSort_357) (ft_64 F) c1_ (xlt_of (fl_64 F) c2_) rfl (fun f3_ => ?_)
  replace f3_ : -9223372036854775808 ≤ (xpl h 64 (x6 + (-1))) ∧ (xpl h 64 (x6 + (-1))) ≤ 9223372036854775807 := f3_
  refine xr_lcmp (pc := 358) (hI := d_DualPivotQuicksort_mixedInsertionSort_358) ?_
  refine xg_lif_ge (pc := 359) (tgt := 375) (hI := d_DualPivotQuicksort_mixedInsertionSort_359) (ht := by decide) (fun q9 => ?_) (fun q9 => ?_)
  · replace hyp := hyp.1 q9
    have q4_ := q9
    clear q9
    refine xr_aload_n (pc := 375) (i := 0) (hI := d_DualPivotQuicksort_mixedInsertionSort_375) (hi := rfl) (hl := rfl) ?_
    refine xr_iinc (pc := 376) (i := 6) (L9 := [xR 64, xI x1, xZ, xI x3, xZ, xZ, xI ((x6 + (-1)) + 1), xL x7, xZ, xL x9, xZ]) (hI := d_DualPivotQuicksort_mixedInsertionSort_376) (hl := rfl) (hn := Nat.le_of_ble_eq_true rfl) (hr := ⟨by clear hyp; omega, by clear hyp; omega⟩) (hL9 := rfl) ?_
    refine xr_iload (pc := 379) (i := 6) (hI := d_DualPivotQuicksort_mixedInsertionSort_379) (hl := rfl) ?_
    refine xr_iconst (pc := 381) (hI := d_DualPivotQuicksort_mixedInsertionSort_381) (hr := by decide) ?_
    refine xr_iadd (pc := 382) (hI := d_DualPivotQuicksort_mixedInsertionSort_382) (hr := ⟨by clear hyp; omega, by clear hyp; omega⟩) ?_
    refine xr_lload (pc := 383) (i := 9) (hI := d_DualPivotQuicksort_mixedInsertionSort_383) (hl := rfl) ?_
    obtain ⟨c5_, hyp⟩ := hyp
    refine xr_lastore (pc := 385) (hI := d_DualPivotQuicksort_mixedInsertionSort_385) (ft_64 F) (by decide) (by clear hyp; omega) (xlt_of (fl_64 F) c5_) ?_
    have F6_ : xFix (xst h 64 (((x6 + (-1)) + 1) + 1) x9) := F.stA xfa_64
    exact xr_drop (L9 := [xR 64, xI x1, xZ, xI x3, xZ, xZ, xI ((x6 + (-1)) + 1), xL x7, xZ, xZ, xZ]) (xdrs (xdrs (xdrs (xdrs (xdrs (xdrs (xdrs (xdrs (xdrs (xdrz (xdrs xdr0))))))))))) (hyp F6_)
  · replace hyp := hyp.2 q9
    have q4_ := q9
    clear q9
    refine xr_aload_n (pc := 362) (i := 0) (hI := d_DualPivotQuicksort_mixedInsertionSort_362) (hi := rfl) (hl := rfl) ?_
    refine xr_iload (pc := 363) (i := 6) (hI := d_DualPivotQuicksort_mixedInsertionSort_363) (hl := rfl) ?_
    refine xr_iconst (pc := 365) (hI := d_DualPivotQuicksort_mixedInsertionSort_365) (hr := by decide) ?_
    refine xr_iadd (pc := 366) (hI := d_DualPivotQuicksort_mixedInsertionSort_366) (hr := ⟨by clear hyp; omega, by clear hyp; omega⟩) ?_
    refine xr_aload_n (pc := 367) (i := 0) (hI := d_DualPivotQuicksort_mixedInsertionSort_367) (hi := rfl) (hl := rfl) ?_
    refine xr_iload (pc := 368) (i := 6) (hI := d_DualPivotQuicksort_mixedInsertionSort_368) (hl := rfl) ?_
    refine xg_laload (pc := 370) (v := (xpl h 64 (x6 + (-1)))) (hI := d_DualPivotQuicksort_mixedInsertionSort_370) (ft_64 F) (by clear hyp; omega) (xlt_of (fl_64 F) (by clear hyp; omega)) rfl (fun f7_ => ?_)
    replace f7_ : -9223372036854775808 ≤ (xpl h 64 (x6 + (-1))) ∧ (xpl h 64 (x6 + (-1))) ≤ 9223372036854775807 := f7_
    obtain ⟨c8_, hyp⟩ := hyp
    refine xr_lastore (pc := 371) (hI := d_DualPivotQuicksort_mixedInsertionSort_371) (ft_64 F) (by decide) (by clear hyp; omega) (xlt_of (fl_64 F) c8_) ?_
    have F9_ : xFix (xst h 64 ((x6 + (-1)) + 2) (xpl h 64 (x6 + (-1)))) := F.stA xfa_64
    refine xr_goto (pc := 372) (tgt := 349) (hI := d_DualPivotQuicksort_mixedInsertionSort_372) (ht := by decide) ?_
    exact (hyp F9_)
theorem d_DualPivotQuicksort_mixedInsertionSort_386 : decode prog_46_method_14_code 386 = .ok (.lload 7, 2) := by decide +kernel
theorem d_DualPivotQuicksort_mixedInsertionSort_388 : decode prog_46_method_14_code 388 = .ok (.aload_n 0, 1) := by decide +kernel
theorem d_DualPivotQuicksort_mixedInsertionSort_389 : decode prog_46_method_14_code 389 = .ok (.iinc 6 (-1), 3) := by decide +kernel
theorem d_DualPivotQuicksort_mixedInsertionSort_392 : decode prog_46_method_14_code 392 = .ok (.iload 6, 2) := by decide +kernel
theorem d_DualPivotQuicksort_mixedInsertionSort_394 : decode prog_46_method_14_code 394 = .ok (.laload, 1) := by decide +kernel
theorem d_DualPivotQuicksort_mixedInsertionSort_395 : decode prog_46_method_14_code 395 = .ok (.lcmp, 1) := by decide +kernel
theorem d_DualPivotQuicksort_mixedInsertionSort_396 : decode prog_46_method_14_code 396 = .ok (.ifCond .ge 16, 3) := by decide +kernel
theorem d_DualPivotQuicksort_mixedInsertionSort_412 : decode prog_46_method_14_code 412 = .ok (.aload_n 0, 1) := by decide +kernel
theorem d_DualPivotQuicksort_mixedInsertionSort_413 : decode prog_46_method_14_code 413 = .ok (.iload 6, 2) := by decide +kernel
theorem d_DualPivotQuicksort_mixedInsertionSort_415 : decode prog_46_method_14_code 415 = .ok (.iconst 1, 1) := by decide +kernel
theorem d_DualPivotQuicksort_mixedInsertionSort_416 : decode prog_46_method_14_code 416 = .ok (.iadd, 1) := by decide +kernel
theorem d_DualPivotQuicksort_mixedInsertionSort_417 : decode prog_46_method_14_code 417 = .ok (.lload 7, 2) := by decide +kernel
theorem d_DualPivotQuicksort_mixedInsertionSort_419 : decode prog_46_method_14_code 419 = .ok (.lastore, 1) := by decide +kernel
theorem d_DualPivotQuicksort_mixedInsertionSort_399 : decode prog_46_method_14_code 399 = .ok (.aload_n 0, 1) := by decide +kernel
theorem d_DualPivotQuicksort_mixedInsertionSort_400 : decode prog_46_method_14_code 400 = .ok (.iload 6, 2) := by decide +kernel
theorem d_DualPivotQuicksort_mixedInsertionSort_402 : decode prog_46_method_14_code 402 = .ok (.iconst 1, 1) := by decide +kernel
theorem d_DualPivotQuicksort_mixedInsertionSort_403 : decode prog_46_method_14_code 403 = .ok (.iadd, 1) := by decide +kernel
theorem d_DualPivotQuicksort_mixedInsertionSort_404 : decode prog_46_method_14_code 404 = .ok (.aload_n 0, 1) := by decide +kernel
theorem d_DualPivotQuicksort_mixedInsertionSort_405 : decode prog_46_method_14_code 405 = .ok (.iload 6, 2) := by decide +kernel
theorem d_DualPivotQuicksort_mixedInsertionSort_407 : decode prog_46_method_14_code 407 = .ok (.laload, 1) := by decide +kernel
theorem d_DualPivotQuicksort_mixedInsertionSort_408 : decode prog_46_method_14_code 408 = .ok (.lastore, 1) := by decide +kernel
theorem d_DualPivotQuicksort_mixedInsertionSort_409 : decode prog_46_method_14_code 409 = .ok (.goto (-23), 3) := by decide +kernel
theorem v_DualPivotQuicksort_mixedInsertionSort_386 {G : XG} {d : Nat} {h : XH} {Q : XV → XH → Prop} {X : Nat → XH → Prop} {x1 x3 x6 x7 : Int} (F : xFix h) (hyp : xiR (x6 + (-1)) ∧ 0 ≤ (x6 + (-1)) ∧ (x6 + (-1)) < 12000 ∧ (((xpl h 64 (x6 + (-1))) ≤ x7 → ((x6 + (-1)) + 1) < 12000 ∧ xiR (x1 + 1) ∧ (xFix (xst h 64 ((x6 + (-1)) + 1) x7) → xwp G m_DualPivotQuicksort_mixedInsertionSort (d + 1) 234 [xR 64, xI (x1 + 1), xZ, xI x3, xZ, xZ, xZ, xZ, xZ, xZ, xZ] [] (xst h 64 ((x6 + (-1)) + 1) x7) Q X)) ∧ (¬ (xpl h 64 (x6 + (-1))) ≤ x7 → ((x6 + (-1)) + 1) < 12000 ∧ (xFix (xst h 64 ((x6 + (-1)) + 1) (xpl h 64 (x6 + (-1)))) → xwp G m_DualPivotQuicksort_mixedInsertionSort (d + 1) 386 [xR 64, xI x1, xZ, xI x3, xZ, xZ, xI (x6 + (-1)), xL x7, xZ, xZ, xZ] [] (xst h 64 ((x6 + (-1)) + 1) (xpl h 64 (x6 + (-1)))) Q X)))) : xwp G m_DualPivotQuicksort_mixedInsertionSort (d + 1) 386 [xR 64, xI x1, xZ, xI x3, xZ, xZ, xI x6, xL x7, xZ, xZ, xZ] [] h Q X := by
  have hnx9 : (93 : Int) ≤ xnx h := F.2.2
  refine xr_okL (fun hl9 => ?_)
  have r_x1 : -2147483648 ≤ x1 ∧ x1 ≤ 2147483647 := hl9 (xI x1) (.tail _ (.head _)) (Nat.le_of_ble_eq_true rfl)
  have r_x3 : -2147483648 ≤ x3 ∧ x3 ≤ 2147483647 := hl9 (xI x3) (.tail _ (.tail _ (.tail _ (.head _)))) (Nat.le_of_ble_eq_true rfl)
  have r_x6 : -2147483648 ≤ x6 ∧ x6 ≤ 2147483647 := hl9 (xI x6) (.tail _ (.tail _ (.tail _ (.tail _ (.tail _ (.tail _ (.head _))))))) (Nat.le_of_ble_eq_true rfl)
  have r_x7 : -9223372036854775808 ≤ x7 ∧ x7 ≤ 9223372036854775807 := hl9 (xL x7) (.tail _ (.tail _ (.tail _ (.tail _ (.tail _ (.tail _ (.tail _ (.head _)))))))) (Nat.le_of_ble_eq_true rfl)
  refine xr_lload (pc := 386) (i := 7) (hI := d_DualPivotQuicksort_mixedInsertionSort_386) (hl := rfl) ?_
  refine xr_aload_n (pc := 388) (i := 0) (hI := d_DualPivotQuicksort_mixedInsertionSort_388) (hi := rfl) (hl := rfl) ?_
  obtain ⟨c9, hyp⟩ := hyp
  refine xr_iinc (pc := 389) (i := 6) (L9 := [xR 64, xI x1, xZ, xI x3, xZ, xZ, xI (x6 + (-1)), xL x7, xZ, xZ, xZ]) (hI := d_DualPivotQuicksort_mixedInsertionSort_389) (hl := rfl) (hn := Nat.le_of_ble_eq_true rfl) (hr := c9) (hL9 := rfl) ?_
  refine xr_iload (pc := 392) (i := 6) (hI := d_DualPivotQuicksort_mixedInsertionSort_392) (hl := rfl) ?_
  obtain ⟨c1_, hyp⟩ := hyp
  obtain ⟨c2_, hyp⟩ := hyp
  refine xg_laload (pc := 394) (v := (xpl h 64 (x6 + (-1)))) (hI := d_DualPivotQuicksort_mixedInsertionSort_394) (ft_64 F) c1_ (xlt_of (fl_64 F) c2_) rfl (fun f3_ => ?_)
  replace f3_ : -9223372036854775808 ≤ (xpl h 64 (x6 + (-1))) ∧ (xpl h 64 (x6 + (-1))) ≤ 9223372036854775807 := f3_
  refine xr_lcmp (pc := 395) (hI := d_DualPivotQuicksort_mixedInsertionSort_395) ?_
  refine xg_lif_ge (pc := 396) (tgt := 412) (hI := d_DualPivotQuicksort_mixedInsertionSort_396) (ht := by decide) (fun q9 => ?_) (fun q9 => ?_)
  · replace hyp := hyp.1 q9
    have q4_ := q9
    clear q9
    refine xr_aload_n (pc := 412) (i := 0) (hI := d_DualPivotQuicksort_mixedInsertionSort_412) (hi := rfl) (hl := rfl) ?_
    refine xr_iload (pc := 413) (i := 6) (hI := d_DualPivotQuicksort_mixedInsertionSort_413) (hl := rfl) ?_
    refine xr_iconst (pc := 415) (hI := d_DualPivotQuicksort_mixedInsertionSort_415) (hr := by decide) ?_
    refine xr_iadd (pc := 416) (hI := d_DualPivotQuicksort_mixedInsertionSort_416) (hr := ⟨by clear hyp; omega, by clear hyp; omega⟩) ?_
    refine xr_lload (pc := 417) (i := 7) (hI := d_DualPivotQuicksort_mixedInsertionSort_417) (hl := rfl) ?_
    obtain ⟨c5_, hyp⟩ := hyp
    refine xr_lastore (pc := 419) (hI := d_DualPivotQuicksort_mixedInsertionSort_419) (ft_64 F) (by decide) (by clear hyp; omega) (xlt_of (fl_64 F) c5_) ?_
    have F6_ : xFix (xst h 64 ((x6 + (-1)) + 1) x7) := F.stA xfa_64
    obtain ⟨c9, hyp⟩ := hyp
    refine xr_iinc (pc := 420) (i := 1) (L9 := [xR 64, xI (x1 + 1), xZ, xI x3, xZ, xZ, xI (x6 + (-1)), xL x7, xZ, xZ, xZ]) (hI := d_DualPivotQuicksort_mixedInsertionSort_420) (hl := rfl) (hn := Nat.le_of_ble_eq_true rfl) (hr := c9) (hL9 := rfl) ?_
    refine xr_goto (pc := 423) (tgt := 234) (hI := d_DualPivotQuicksort_mixedInsertionSort_423) (ht := by decide) ?_
    exact xr_drop (L9 := [xR 64, xI (x1 + 1), xZ, xI x3, xZ, xZ, xZ, xZ, xZ, xZ, xZ]) (xdrs (xdrs (xdrs (xdrs (xdrs (xdrs (xdrz (xdrz (xdrs (xdrs (xdrs xdr0))))))))))) (hyp F6_)
  · replace hyp := hyp.2 q9
    have q4_ := q9
    clear q9
    refine xr_aload_n (pc := 399) (i := 0) (hI := d_DualPivotQuicksort_mixedInsertionSort_399) (hi := rfl) (hl := rfl) ?_
    refine xr_iload (pc := 400) (i := 6) (hI := d_DualPivotQuicksort_mixedInsertionSort_400) (hl := rfl) ?_
    refine xr_iconst (pc := 402) (hI := d_DualPivotQuicksort_mixedInsertionSort_402) (hr := by decide) ?_
    refine xr_iadd (pc := 403) (hI := d_DualPivotQuicksort_mixedInsertionSort_403) (hr := ⟨by clear hyp; omega, by clear hyp; omega⟩) ?_
    refine xr_aload_n (pc := 404) (i := 0) (hI := d_DualPivotQuicksort_mixedInsertionSort_404) (hi := rfl) (hl := rfl) ?_
    refine xr_iload (pc := 405) (i := 6) (hI := d_DualPivotQuicksort_mixedInsertionSort_405) (hl := rfl) ?_
    refine xg_laload (pc := 407) (v := (xpl h 64 (x6 + (-1)))) (hI := d_DualPivotQuicksort_mixedInsertionSort_407) (ft_64 F) (by clear hyp; omega) (xlt_of (fl_64 F) (by clear hyp; omega)) rfl (fun f7_ => ?_)
    replace f7_ : -9223372036854775808 ≤ (xpl h 64 (x6 + (-1))) ∧ (xpl h 64 (x6 + (-1))) ≤ 9223372036854775807 := f7_
    obtain ⟨c8_, hyp⟩ := hyp
    refine xr_lastore (pc := 408) (hI := d_DualPivotQuicksort_mixedInsertionSort_408) (ft_64 F) (by decide) (by clear hyp; omega) (xlt_of (fl_64 F) c8_) ?_
    have F9_ : xFix (xst h 64 ((x6 + (-1)) + 1) (xpl h 64 (x6 + (-1)))) := F.stA xfa_64
    refine xr_goto (pc := 409) (tgt := 386) (hI := d_DualPivotQuicksort_mixedInsertionSort_409) (ht := by decide) ?_
    exact (hyp F9_)
abbrev m_DualPivotQuicksort_pushDown : XM := (⟨"java/util/DualPivotQuicksort", "pushDown", "([JIJII)V"⟩, prog_46_method_17_code, 7, none, [])
theorem d_DualPivotQuicksort_pushDown_0 : decode prog_46_method_17_code 0 = .ok (.iload_n 1, 1) := by decide +kernel
theorem d_DualPivotQuicksort_pushDown_1 : decode prog_46_method_17_code 1 = .ok (.iconst 1, 1) := by decide +kernel
theorem d_DualPivotQuicksort_pushDown_2 : decode prog_46_method_17_code 2 = .ok (.ishl, 1) := by decide +kernel
theorem d_DualPivotQuicksort_pushDown_3 : decode prog_46_method_17_code 3 = .ok (.iload 4, 2) := by decide +kernel
theorem d_DualPivotQuicksort_pushDown_5 : decode prog_46_method_17_code 5 = .ok (.isub, 1) := by decide +kernel
theorem d_DualPivotQuicksort_pushDown_6 : decode prog_46_method_17_code 6 = .ok (.iconst 2, 1) := by decide +kernel
theorem d_DualPivotQuicksort_pushDown_7 : decode prog_46_method_17_code 7 = .ok (.iadd, 1) := by decide +kernel
theorem d_DualPivotQuicksort_pushDown_8 : decode prog_46_method_17_code 8 = .ok (.istore 6, 2) := by decide +kernel
theorem d_DualPivotQuicksort_pushDown_10 : decode prog_46_method_17_code 10 = .ok (.iload 6, 2) := by decide +kernel
theorem d_DualPivotQuicksort_pushDown_12 : decode prog_46_method_17_code 12 = .ok (.iload 5, 2) := by decide +kernel
theorem d_DualPivotQuicksort_pushDown_14 : decode prog_46_method_17_code 14 = .ok (.if_icmp .le 6, 3) := by decide +kernel
theorem d_DualPivotQuicksort_pushDown_20 : decode prog_46_method_17_code 20 = .ok (.iload 6, 2) := by decide +kernel
theorem d_DualPivotQuicksort_pushDown_22 : decode prog_46_method_17_code 22 = .ok (.iload 5, 2) := by decide +kernel
theorem d_DualPivotQuicksort_pushDown_24 : decode prog_46_method_17_code 24 = .ok (.if_icmp .eq 17, 3) := by decide +kernel
theorem d_DualPivotQuicksort_pushDown_27 : decode prog_46_method_17_code 27 = .ok (.aload_n 0, 1) := by decide +kernel
theorem d_DualPivotQuicksort_pushDown_28 : decode prog_46_method_17_code 28 = .ok (.iload 6, 2) := by decide +kernel
theorem d_DualPivotQuicksort_pushDown_30 : decode prog_46_method_17_code 30 = .ok (.laload, 1) := by decide +kernel
theorem d_DualPivotQuicksort_pushDown_31 : decode prog_46_method_17_code 31 = .ok (.aload_n 0, 1) := by decide +kernel
theorem d_DualPivotQuicksort_pushDown_32 : decode prog_46_method_17_code 32 = .ok (.iload 6, 2) := by decide +kernel
theorem d_DualPivotQuicksort_pushDown_34 : decode prog_46_method_17_code 34 = .ok (.iconst 1, 1) := by decide +kernel
theorem d_DualPivotQuicksort_pushDown_35 : decode prog_46_method_17_code 35 = .ok (.isub, 1) := by decide +kernel
theorem d_DualPivotQuicksort_pushDown_36 : decode prog_46_method_17_code 36 = .ok (.laload, 1) := by decide +kernel
theorem d_DualPivotQuicksort_pushDown_37 : decode prog_46_method_17_code 37 = .ok (.lcmp, 1) := by decide +kernel
theorem d_DualPivotQuicksort_pushDown_38 : decode prog_46_method_17_code 38 = .ok (.ifCond .ge 6, 3) := by decide +kernel
theorem d_DualPivotQuicksort_pushDown_17 : decode prog_46_method_17_code 17 = .ok (.goto 51, 3) := by decide +kernel
theorem d_DualPivotQuicksort_pushDown_68 : decode prog_46_method_17_code 68 = .ok (.aload_n 0, 1) := by decide +kernel
theorem d_DualPivotQuicksort_pushDown_69 : decode prog_46_method_17_code 69 = .ok (.iload_n 1, 1) := by decide +kernel
theorem d_DualPivotQuicksort_pushDown_70 : decode prog_46_method_17_code 70 = .ok (.lload_n 2, 1) := by decide +kernel
theorem d_DualPivotQuicksort_pushDown_71 : decode prog_46_method_17_code 71 = .ok (.lastore, 1) := by decide +kernel
theorem d_DualPivotQuicksort_pushDown_72 : decode prog_46_method_17_code 72 = .ok (.return_, 1) := by decide +kernel
theorem v_DualPivotQuicksort_pushDown_0 {G : XG} {d : Nat} {h : XH} {Q : XV → XH → Prop} {X : Nat → XH → Prop} {x1 x2 x4 x5 : Int} (F : xFix h) (hyp : xiR ((xshl x1 1) - x4) ∧ xiR (((xshl x1 1) - x4) + 2) ∧ (((((xshl x1 1) - x4) + 2) ≤ x5 → (((((xshl x1 1) - x4) + 2) = x5 → (xwp G m_DualPivotQuicksort_pushDown (d + 1) 41 [xR 64, xI x1, xL x2, xZ, xI x4, xI x5, xI (((xshl x1 1) - x4) + 2)] [] h Q X)) ∧ (¬ (((xshl x1 1) - x4) + 2) = x5 → 0 ≤ (((xshl x1 1) - x4) + 2) ∧ (((xshl x1 1) - x4) + 2) < 12000 ∧ 0 ≤ ((((xshl x1 1) - x4) + 2) - 1) ∧ (((xpl h 64 ((((xshl x1 1) - x4) + 2) - 1)) ≤ (xpl h 64 (((xshl x1 1) - x4) + 2)) → (xwp G m_DualPivotQuicksort_pushDown (d + 1) 44 [xR 64, xI x1, xL x2, xZ, xI x4, xI x5, xI (((xshl x1 1) - x4) + 2)] [] h Q X)) ∧ (¬ (xpl h 64 ((((xshl x1 1) - x4) + 2) - 1)) ≤ (xpl h 64 (((xshl x1 1) - x4) + 2)) → (xwp G m_DualPivotQuicksort_pushDown (d + 1) 41 [xR 64, xI x1, xL x2, xZ, xI x4, xI x5, xI (((xshl x1 1) - x4) + 2)] [] h Q X)))))) ∧ (¬ (((xshl x1 1) - x4) + 2) ≤ x5 → 0 ≤ x1 ∧ x1 < 12000 ∧ (xFix (xst h 64 x1 x2) → Q xN (xst h 64 x1 x2))))) : xwp G m_DualPivotQuicksort_pushDown (d + 1) 0 [xR 64, xI x1, xL x2, xZ, xI x4, xI x5, xZ] [] h Q X := by
  have hnx9 : (93 : Int) ≤ xnx h := F.2.2
  refine xr_okL (fun hl9 => ?_)
  have r_x1 : -2147483648 ≤ x1 ∧ x1 ≤ 2147483647 := hl9 (xI x1) (.tail _ (.head _)) (Nat.le_of_ble_eq_true rfl)
  have r_x2 : -9223372036854775808 ≤ x2 ∧ x2 ≤ 9223372036854775807 := hl9 (xL x2) (.tail _ (.tail _ (.head _))) (Nat.le_of_ble_eq_true rfl)
  have r_x4 : -2147483648 ≤ x4 ∧ x4 ≤ 2147483647 := hl9 (xI x4) (.tail _ (.tail _ (.tail _ (.tail _ (.head _))))) (Nat.le_of_ble_eq_true rfl)
  have r_x5 : -2147483648 ≤ x5 ∧ x5 ≤ 2147483647 := hl9 (xI x5) (.tail _ (.tail _ (.tail _ (.tail _ (.tail _ (.head _)))))) (Nat.le_of_ble_eq_true rfl)
  refine xr_iload_n (pc := 0) (i := 1) (hI := d_DualPivotQuicksort_pushDown_0) (hi := rfl) (hl := rfl) ?_
  refine xr_iconst (pc := 1) (hI := d_DualPivotQuicksort_pushDown_1) (hr := by decide) ?_
  refine xr_ishl (pc := 2) (hI := d_DualPivotQuicksort_pushDown_2) ?_
  have f1_ : -2147483648 ≤ (xshl x1 1) ∧ (xshl x1 1) ≤ 2147483647 := xi_toR _
  refine xr_iload (pc := 3) (i := 4) (hI := d_DualPivotQuicksort_pushDown_3) (hl := rfl) ?_
  obtain ⟨c9, hyp⟩ := hyp
  refine xr_isub (pc := 5) (hI := d_DualPivotQuicksort_pushDown_5) (hr := c9) ?_
  refine xr_iconst (pc := 6) (hI := d_DualPivotQuicksort_pushDown_6) (hr := by decide) ?_
  obtain ⟨c9, hyp⟩ := hyp
  refine xr_iadd (pc := 7) (hI := d_DualPivotQuicksort_pushDown_7) (hr := c9) ?_
  refine xr_istore (pc := 8) (i := 6) (L9 := [xR 64, xI x1, xL x2, xZ, xI x4, xI x5, xI (((xshl x1 1) - x4) + 2)]) (hI := d_DualPivotQuicksort_pushDown_8) (hn := Nat.le_of_ble_eq_true rfl) (hL9 := rfl) ?_
  refine xr_iload (pc := 10) (i := 6) (hI := d_DualPivotQuicksort_pushDown_10) (hl := rfl) ?_
  refine xr_iload (pc := 12) (i := 5) (hI := d_DualPivotQuicksort_pushDown_12) (hl := rfl) ?_
  refine xr_icmp_le (pc := 14) (tgt := 20) (hI := d_DualPivotQuicksort_pushDown_14) (ht := by decide) (fun q9 => ?_) (fun q9 => ?_)
  · replace hyp := hyp.1 q9
    have q2_ := q9
    clear q9
    refine xr_iload (pc := 20) (i := 6) (hI := d_DualPivotQuicksort_pushDown_20) (hl := rfl) ?_
    refine xr_iload (pc := 22) (i := 5) (hI := d_DualPivotQuicksort_pushDown_22) (hl := rfl) ?_
    refine xr_icmp_eq (pc := 24) (tgt := 41) (hI := d_DualPivotQuicksort_pushDown_24) (ht := by decide) (fun q9 => ?_) (fun q9 => ?_)
    · replace hyp := hyp.1 q9
      have q3_ := q9
      clear q9
      exact hyp
    · replace hyp := hyp.2 q9
      have q3_ := q9
      clear q9
      refine xr_aload_n (pc := 27) (i := 0) (hI := d_DualPivotQuicksort_pushDown_27) (hi := rfl) (hl := rfl) ?_
      refine xr_iload (pc := 28) (i := 6) (hI := d_DualPivotQuicksort_pushDown_28) (hl := rfl) ?_
      obtain ⟨c4_, hyp⟩ := hyp
      obtain ⟨c5_, hyp⟩ := hyp
      refine xg_laload (pc := 30) (v := (xpl h 64 (((xshl x1 1) - x4) + 2))) (hI := d_DualPivotQuicksort_pushDown_30) (ft_64 F) c4_ (xlt_of (fl_64 F) c5_) rfl (fun f6_ => ?_)
      replace f6_ : -9223372036854775808 ≤ (xpl h 64 (((xshl x1 1) - x4) + 2)) ∧ (xpl h 64 (((xshl x1 1) - x4) + 2)) ≤ 9223372036854775807 := f6_
      refine xr_aload_n (pc := 31) (i := 0) (hI := d_DualPivotQuicksort_pushDown_31) (hi := rfl) (hl := rfl) ?_
      refine xr_iload (pc := 32) (i := 6) (hI := d_DualPivotQuicksort_pushDown_32) (hl := rfl) ?_
      refine xr_iconst (pc := 34) (hI := d_DualPivotQuicksort_pushDown_34) (hr := by decide) ?_
      refine xr_isub (pc := 35) (hI := d_DualPivotQuicksort_pushDown_35) (hr := ⟨by clear hyp; omega, by clear hyp; omega⟩) ?_
      obtain ⟨c7_, hyp⟩ := hyp
      refine xg_laload (pc := 36) (v := (xpl h 64 ((((xshl x1 1) - x4) + 2) - 1))) (hI := d_DualPivotQuicksort_pushDown_36) (ft_64 F) c7_ (xlt_of (fl_64 F) (by clear hyp; omega)) rfl (fun f8_ => ?_)
      replace f8_ : -9223372036854775808 ≤ (xpl h 64 ((((xshl x1 1) - x4) + 2) - 1)) ∧ (xpl h 64 ((((xshl x1 1) - x4) + 2) - 1)) ≤ 9223372036854775807 := f8_
      refine xr_lcmp (pc := 37) (hI := d_DualPivotQuicksort_pushDown_37) ?_
      refine xg_lif_ge (pc := 38) (tgt := 44) (hI := d_DualPivotQuicksort_pushDown_38) (ht := by decide) (fun q9 => ?_) (fun q9 => ?_)
      · replace hyp := hyp.1 q9
        have q9_ := q9
        clear q9
        exact hyp
      · replace hyp := hyp.2 q9
        have q9_ := q9
        clear q9
        exact hyp
  · replace hyp := hyp.2 q9
    have q2_ := q9
    clear q9
    refine xr_goto (pc := 17) (tgt := 68) (hI := d_DualPivotQuicksort_pushDown_17) (ht := by decide) ?_
    refine xr_aload_n (pc := 68) (i := 0) (hI := d_DualPivotQuicksort_pushDown_68) (hi := rfl) (hl := rfl) ?_
    refine xr_iload_n (pc := 69) (i := 1) (hI := d_DualPivotQuicksort_pushDown_69) (hi := rfl) (hl := rfl) ?_
    refine xr_lload_n (pc := 70) (i := 2) (hI := d_DualPivotQuicksort_pushDown_70) (hi := rfl) (hl := rfl) ?_
    obtain ⟨c10_, hyp⟩ := hyp
    obtain ⟨c11_, hyp⟩ := hyp
    refine xr_lastore (pc := 71) (hI := d_DualPivotQuicksort_pushDown_71) (ft_64 F) (by decide) c10_ (xlt_of (fl_64 F) c11_) ?_
    have F12_ : xFix (xst h 64 x1 x2) := F.stA xfa_64
    refine xr_return (S := []) (pc := 72) (hI := d_DualPivotQuicksort_pushDown_72) (hr := rfl) ?_
    exact hyp F12_
theorem d_DualPivotQuicksort_pushDown_41 : decode prog_46_method_17_code 41 = .ok (.iinc 6 (-1), 3) := by decide +kernel
theorem v_DualPivotQuicksort_pushDown_41 {G : XG} {d : Nat} {h : XH} {Q : XV → XH → Prop} {X : Nat → XH → Prop} {x1 x2 x4 x5 x6 : Int} (F : xFix h) (hyp : xiR (x6 + (-1)) ∧ (xwp G m_DualPivotQuicksort_pushDown (d + 1) 44 [xR 64, xI x1, xL x2, xZ, xI x4, xI x5, xI (x6 + (-1))] [] h Q X)) : xwp G m_DualPivotQuicksort_pushDown (d + 1) 41 [xR 64, xI x1, xL x2, xZ, xI x4, xI x5, xI x6] [] h Q X := by
  have hnx9 : (93 : Int) ≤ xnx h := F.2.2
  refine xr_okL (fun hl9 => ?_)
  have r_x1 : -2147483648 ≤ x1 ∧ x1 ≤ 2147483647 := hl9 (xI x1) (.tail _ (.head _)) (Nat.le_of_ble_eq_true rfl)
  have r_x2 : -9223372036854775808 ≤ x2 ∧ x2 ≤ 9223372036854775807 := hl9 (xL x2) (.tail _ (.tail _ (.head _))) (Nat.le_of_ble_eq_true rfl)
  have r_x4 : -2147483648 ≤ x4 ∧ x4 ≤ 2147483647 := hl9 (xI x4) (.tail _ (.tail _ (.tail _ (.tail _ (.head _))))) (Nat.le_of_ble_eq_true rfl)
  have r_x5 : -2147483648 ≤ x5 ∧ x5 ≤ 2147483647 := hl9 (xI x5) (.tail _ (.tail _ (.tail _ (.tail _ (.tail _ (.head _)))))) (Nat.le_of_ble_eq_true rfl)
  have r_x6 : -2147483648 ≤ x6 ∧ x6 ≤ 2147483647 := hl9 (xI x6) (.tail _ (.tail _ (.tail _ (.tail _ (.tail _ (.tail _ (.head _))))))) (Nat.le_of_ble_eq_true rfl)
  obtain ⟨c9, hyp⟩ := hyp
  refine xr_iinc (pc := 41) (i := 6) (L9 := [xR 64, xI x1, xL x2, xZ, xI x4, xI x5, xI (x6 + (-1))]) (hI := d_DualPivotQuicksort_pushDown_41) (hl := rfl) (hn := Nat.le_of_ble_eq_true rfl) (hr := c9) (hL9 := rfl) ?_
  exact hyp
theorem d_DualPivotQuicksort_pushDown_44 : decode prog_46_method_17_code 44 = .ok (.aload_n 0, 1) := by decide +kernel
theorem d_DualPivotQuicksort_pushDown_45 : decode prog_46_method_17_code 45 = .ok (.iload 6, 2) := by decide +kernel
theorem d_DualPivotQuicksort_pushDown_47 : decode prog_46_method_17_code 47 = .ok (.laload, 1) := by decide +kernel
theorem d_DualPivotQuicksort_pushDown_48 : decode prog_46_method_17_code 48 = .ok (.lload_n 2, 1) := by decide +kernel
theorem d_DualPivotQuicksort_pushDown_49 : decode prog_46_method_17_code 49 = .ok (.lcmp, 1) := by decide +kernel
theorem d_DualPivotQuicksort_pushDown_50 : decode prog_46_method_17_code 50 = .ok (.ifCond .gt 6, 3) := by decide +kernel
theorem d_DualPivotQuicksort_pushDown_56 : decode prog_46_method_17_code 56 = .ok (.aload_n 0, 1) := by decide +kernel
theorem d_DualPivotQuicksort_pushDown_57 : decode prog_46_method_17_code 57 = .ok (.iload_n 1, 1) := by decide +kernel
theorem d_DualPivotQuicksort_pushDown_58 : decode prog_46_method_17_code 58 = .ok (.aload_n 0, 1) := by decide +kernel
theorem d_DualPivotQuicksort_pushDown_59 : decode prog_46_method_17_code 59 = .ok (.iload 6, 2) := by decide +kernel
theorem d_DualPivotQuicksort_pushDown_61 : decode prog_46_method_17_code 61 = .ok (.dup, 1) := by decide +kernel
theorem d_DualPivotQuicksort_pushDown_62 : decode prog_46_method_17_code 62 = .ok (.istore_n 1, 1) := by decide +kernel
theorem d_DualPivotQuicksort_pushDown_63 : decode prog_46_method_17_code 63 = .ok (.laload, 1) := by decide +kernel
theorem d_DualPivotQuicksort_pushDown_64 : decode prog_46_method_17_code 64 = .ok (.lastore, 1) := by decide +kernel
theorem d_DualPivotQuicksort_pushDown_65 : decode prog_46_method_17_code 65 = .ok (.goto (-65), 3) := by decide +kernel
theorem d_DualPivotQuicksort_pushDown_53 : decode prog_46_method_17_code 53 = .ok (.goto 15, 3) := by decide +kernel
theorem v_DualPivotQuicksort_pushDown_44 {G : XG} {d : Nat} {h : XH} {Q : XV → XH → Prop} {X : Nat → XH → Prop} {x1 x2 x4 x5 x6 : Int} (F : xFix h) (hyp : 0 ≤ x6 ∧ x6 < 12000 ∧ ((x2 < (xpl h 64 x6) → 0 ≤ x1 ∧ x1 < 12000 ∧ (xFix (xst h 64 x1 (xpl h 64 x6)) → xwp G m_DualPivotQuicksort_pushDown (d + 1) 0 [xR 64, xI x6, xL x2, xZ, xI x4, xI x5, xZ] [] (xst h 64 x1 (xpl h 64 x6)) Q X)) ∧ (¬ x2 < (xpl h 64 x6) → 0 ≤ x1 ∧ x1 < 12000 ∧ (xFix (xst h 64 x1 x2) → Q xN (xst h 64 x1 x2))))) : xwp G m_DualPivotQuicksort_pushDown (d + 1) 44 [xR 64, xI x1, xL x2, xZ, xI x4, xI x5, xI x6] [] h Q X := by
  have hnx9 : (93 : Int) ≤ xnx h := F.2.2
  refine xr_okL (fun hl9 => ?_)
  have r_x1 : -2147483648 ≤ x1 ∧ x1 ≤ 2147483647 := hl9 (xI x1) (.tail _ (.head _)) (Nat.le_of_ble_eq_true rfl)
  have r_x2 : -9223372036854775808 ≤ x2 ∧ x2 ≤ 9223372036854775807 := hl9 (xL x2) (.tail _ (.tail _ (.head _))) (Nat.le_of_ble_eq_true rfl)
  have r_x4 : -2147483648 ≤ x4 ∧ x4 ≤ 2147483647 := hl9 (xI x4) (.tail _ (.tail _ (.tail _ (.tail _ (.head _))))) (Nat.le_of_ble_eq_true rfl)
  have r_x5 : -2147483648 ≤ x5 ∧ x5 ≤ 2147483647 := hl9 (xI x5) (.tail _ (.tail _ (.tail _ (.tail _ (.tail _ (.head _)))))) (Nat.le_of_ble_eq_true rfl)
  have r_x6 : -2147483648 ≤ x6 ∧ x6 ≤ 2147483647 := hl9 (xI x6) (.tail _ (.tail _ (.tail _ (.tail _ (.tail _ (.tail _ (.head _))))))) (Nat.le_of_ble_eq_true rfl)
  refine xr_aload_n (pc := 44) (i := 0) (hI := d_DualPivotQuicksort_pushDown_44) (hi := rfl) (hl := rfl) ?_
  refine xr_iload (pc := 45) (i := 6) (hI := d_DualPivotQuicksort_pushDown_45) (hl := rfl) ?_
  obtain ⟨c1_, hyp⟩ := hyp
  obtain ⟨c2_, hyp⟩ := hyp
  refine xg_laload (pc := 47) (v := (xpl h 64 x6)) (hI := d_DualPivotQuicksort_pushDown_47) (ft_64 F) c1_ (xlt_of (fl_64 F) c2_) rfl (fun f3_ => ?_)
  replace f3_ : -9223372036854775808 ≤ (xpl h 64 x6) ∧ (xpl h 64 x6) ≤ 9223372036854775807 := f3_
  refine xr_lload_n (pc := 48) (i := 2) (hI := d_DualPivotQuicksort_pushDown_48) (hi := rfl) (hl := rfl) ?_
  refine xr_lcmp (pc := 49) (hI := d_DualPivotQuicksort_pushDown_49) ?_
  refine xg_lif_gt (pc := 50) (tgt := 56) (hI := d_DualPivotQuicksort_pushDown_50) (ht := by decide) (fun q9 => ?_) (fun q9 => ?_)
  · replace hyp := hyp.1 q9
    have q4_ := q9
    clear q9
    refine xr_aload_n (pc := 56) (i := 0) (hI := d_DualPivotQuicksort_pushDown_56) (hi := rfl) (hl := rfl) ?_
    refine xr_iload_n (pc := 57) (i := 1) (hI := d_DualPivotQuicksort_pushDown_57) (hi := rfl) (hl := rfl) ?_
    refine xr_aload_n (pc := 58) (i := 0) (hI := d_DualPivotQuicksort_pushDown_58) (hi := rfl) (hl := rfl) ?_
    refine xr_iload (pc := 59) (i := 6) (hI := d_DualPivotQuicksort_pushDown_59) (hl := rfl) ?_
    refine xr_dup (pc := 61) (hI := d_DualPivotQuicksort_pushDown_61) (hv := rfl) ?_
    refine xr_istore_n (pc := 62) (i := 1) (L9 := [xR 64, xI x6, xL x2, xZ, xI x4, xI x5, xI x6]) (hI := d_DualPivotQuicksort_pushDown_62) (hi := rfl) (hn := Nat.le_of_ble_eq_true rfl) (hL9 := rfl) ?_
    refine xg_laload (pc := 63) (v := (xpl h 64 x6)) (hI := d_DualPivotQuicksort_pushDown_63) (ft_64 F) (by clear hyp; omega) (xlt_of (fl_64 F) (by clear hyp; omega)) rfl (fun f5_ => ?_)
    replace f5_ : -9223372036854775808 ≤ (xpl h 64 x6) ∧ (xpl h 64 x6) ≤ 9223372036854775807 := f5_
    obtain ⟨c6_, hyp⟩ := hyp
    obtain ⟨c7_, hyp⟩ := hyp
    refine xr_lastore (pc := 64) (hI := d_DualPivotQuicksort_pushDown_64) (ft_64 F) (by decide) c6_ (xlt_of (fl_64 F) c7_) ?_
    have F8_ : xFix (xst h 64 x1 (xpl h 64 x6)) := F.stA xfa_64
    refine xr_goto (pc := 65) (tgt := 0) (hI := d_DualPivotQuicksort_pushDown_65) (ht := by decide) ?_
    exact xr_drop (L9 := [xR 64, xI x6, xL x2, xZ, xI x4, xI x5, xZ]) (xdrs (xdrs (xdrs (xdrs (xdrs (xdrs (xdrz xdr0))))))) (hyp F8_)
  · replace hyp := hyp.2 q9
    have q4_ := q9
    clear q9
    refine xr_goto (pc := 53) (tgt := 68) (hI := d_DualPivotQuicksort_pushDown_53) (ht := by decide) ?_
    refine xr_aload_n (pc := 68) (i := 0) (hI := d_DualPivotQuicksort_pushDown_68) (hi := rfl) (hl := rfl) ?_
    refine xr_iload_n (pc := 69) (i := 1) (hI := d_DualPivotQuicksort_pushDown_69) (hi := rfl) (hl := rfl) ?_
    refine xr_lload_n (pc := 70) (i := 2) (hI := d_DualPivotQuicksort_pushDown_70) (hi := rfl) (hl := rfl) ?_
    obtain ⟨c9_, hyp⟩ := hyp
    obtain ⟨c10_, hyp⟩ := hyp
    refine xr_lastore (pc := 71) (hI := d_DualPivotQuicksort_pushDown_71) (ft_64 F) (by decide) c9_ (xlt_of (fl_64 F) c10_) ?_
    have F11_ : xFix (xst h 64 x1 x2) := F.stA xfa_64
    refine xr_return (S := []) (pc := 72) (hI := d_DualPivotQuicksort_pushDown_72) (hr := rfl) ?_
    exact hyp F11_
abbrev m_DualPivotQuicksort_heapSort : XM := (⟨"java/util/DualPivotQuicksort", "heapSort", "([JII)V"⟩, prog_46_method_16_code, 5, none, [])
theorem d_DualPivotQuicksort_heapSort_0 : decode prog_46_method_16_code 0 = .ok (.iload_n 1, 1) := by decide +kernel
theorem d_DualPivotQuicksort_heapSort_1 : decode prog_46_method_16_code 1 = .ok (.iload_n 2, 1) := by decide +kernel
theorem d_DualPivotQuicksort_heapSort_2 : decode prog_46_method_16_code 2 = .ok (.iadd, 1) := by decide +kernel
theorem d_DualPivotQuicksort_heapSort_3 : decode prog_46_method_16_code 3 = .ok (.iconst 1, 1) := by decide +kernel
theorem d_DualPivotQuicksort_heapSort_4 : decode prog_46_method_16_code 4 = .ok (.iushr, 1) := by decide +kernel
theorem d_DualPivotQuicksort_heapSort_5 : decode prog_46_method_16_code 5 = .ok (.istore_n 3, 1) := by decide +kernel
theorem v_DualPivotQuicksort_heapSort_0 {G : XG} {d : Nat} {h : XH} {Q : XV → XH → Prop} {X : Nat → XH → Prop} {x1 x2 : Int} (F : xFix h) (hyp : xiR (x1 + x2) ∧ (xwp G m_DualPivotQuicksort_heapSort (d + 2) 6 [xR 64, xI x1, xI x2, xI (xushr (x1 + x2) 1), xZ] [] h Q X)) : xwp G m_DualPivotQuicksort_heapSort (d + 2) 0 [xR 64, xI x1, xI x2, xZ, xZ] [] h Q X := by
  have hnx9 : (93 : Int) ≤ xnx h := F.2.2
  refine xr_okL (fun hl9 => ?_)
  have r_x1 : -2147483648 ≤ x1 ∧ x1 ≤ 2147483647 := hl9 (xI x1) (.tail _ (.head _)) (Nat.le_of_ble_eq_true rfl)
  have r_x2 : -2147483648 ≤ x2 ∧ x2 ≤ 2147483647 := hl9 (xI x2) (.tail _ (.tail _ (.head _))) (Nat.le_of_ble_eq_true rfl)
  refine xr_iload_n (pc := 0) (i := 1) (hI := d_DualPivotQuicksort_heapSort_0) (hi := rfl) (hl := rfl) ?_
  refine xr_iload_n (pc := 1) (i := 2) (hI := d_DualPivotQuicksort_heapSort_1) (hi := rfl) (hl := rfl) ?_
  obtain ⟨c9, hyp⟩ := hyp
  refine xr_iadd (pc := 2) (hI := d_DualPivotQuicksort_heapSort_2) (hr := c9) ?_
  refine xr_iconst (pc := 3) (hI := d_DualPivotQuicksort_heapSort_3) (hr := by decide) ?_
  refine xr_iushr (pc := 4) (hI := d_DualPivotQuicksort_heapSort_4) ?_
  have f1_ : -2147483648 ≤ (xushr (x1 + x2) 1) ∧ (xushr (x1 + x2) 1) ≤ 2147483647 := xi_toR _
  refine xr_istore_n (pc := 5) (i := 3) (L9 := [xR 64, xI x1, xI x2, xI (xushr (x1 + x2) 1), xZ]) (hI := d_DualPivotQuicksort_heapSort_5) (hi := rfl) (hn := Nat.le_of_ble_eq_true rfl) (hL9 := rfl) ?_
  exact hyp
theorem d_DualPivotQuicksort_heapSort_6 : decode prog_46_method_16_code 6 = .ok (.iload_n 3, 1) := by decide +kernel
theorem d_DualPivotQuicksort_heapSort_7 : decode prog_46_method_16_code 7 = .ok (.iload_n 1, 1) := by decide +kernel
theorem d_DualPivotQuicksort_heapSort_8 : decode prog_46_method_16_code 8 = .ok (.if_icmp .le 19, 3) := by decide +kernel
theorem d_DualPivotQuicksort_heapSort_11 : decode prog_46_method_16_code 11 = .ok (.aload_n 0, 1) := by decide +kernel
theorem d_DualPivotQuicksort_heapSort_12 : decode prog_46_method_16_code 12 = .ok (.iinc 3 (-1), 3) := by decide +kernel
theorem d_DualPivotQuicksort_heapSort_15 : decode prog_46_method_16_code 15 = .ok (.iload_n 3, 1) := by decide +kernel
theorem d_DualPivotQuicksort_heapSort_16 : decode prog_46_method_16_code 16 = .ok (.aload_n 0, 1) := by decide +kernel
theorem d_DualPivotQuicksort_heapSort_17 : decode prog_46_method_16_code 17 = .ok (.iload_n 3, 1) := by decide +kernel
theorem d_DualPivotQuicksort_heapSort_18 : decode prog_46_method_16_code 18 = .ok (.laload, 1) := by decide +kernel
theorem d_DualPivotQuicksort_heapSort_19 : decode prog_46_method_16_code 19 = .ok (.iload_n 1, 1) := by decide +kernel
theorem d_DualPivotQuicksort_heapSort_20 : decode prog_46_method_16_code 20 = .ok (.iload_n 2, 1) := by decide +kernel
theorem d_DualPivotQuicksort_heapSort_21 : decode prog_46_method_16_code 21 = .ok (.invokestatic 113, 3) := by decide +kernel
theorem w_38 : Cond.initialized "java/util/DualPivotQuicksort" ∈ lw_tbl := List.mem_append_right _ (List.mem_of_getElem? (i := 38) (by decide +kernel))
theorem k_DualPivotQuicksort_pushDown : xCal m_DualPivotQuicksort_pushDown 5 := ⟨List.mem_append_right _ (List.mem_of_getElem? (i := 2170) (by decide +kernel)), w_38, Nat.le_of_ble_eq_true rfl, ⟨by decide +kernel, by decide +kernel⟩, by decide +kernel, by decide +kernel, rfl⟩
theorem w_2168 : Cond.methodLink "java/util/DualPivotQuicksort" 113 ⟨"java/util/DualPivotQuicksort", "pushDown", "([JIJII)V"⟩ ∈ lw_tbl := List.mem_append_right _ (List.mem_of_getElem? (i := 2168) (by decide +kernel))
theorem w_2169 : Cond.static ⟨"java/util/DualPivotQuicksort", "pushDown", "([JIJII)V"⟩ ∈ lw_tbl := List.mem_append_right _ (List.mem_of_getElem? (i := 2169) (by decide +kernel))
theorem v_DualPivotQuicksort_heapSort_6 {G : XG} {d : Nat} {h : XH} {Q : XV → XH → Prop} {X : Nat → XH → Prop} {x1 x2 x3 : Int} (F : xFix h) (hyp : ((x3 ≤ x1 → (xwp G m_DualPivotQuicksort_heapSort (d + 2) 27 [xR 64, xI x1, xI x2, xZ, xZ] [] h Q X)) ∧ (¬ x3 ≤ x1 → 0 ≤ (x3 + (-1)) ∧ (x3 + (-1)) < 12000 ∧ (xwp G m_DualPivotQuicksort_pushDown (d + 1) 0 [xR 64, xI (x3 + (-1)), xL (xpl h 64 (x3 + (-1))), xZ, xI x1, xI x2, xZ] [] h (fun v9 h9 => xwp G m_DualPivotQuicksort_heapSort (d + 2) 24 [xR 64, xI x1, xI x2, xI (x3 + (-1)), xZ] (xpush v9 []) h9 Q X) X)))) : xwp G m_DualPivotQuicksort_heapSort (d + 2) 6 [xR 64, xI x1, xI x2, xI x3, xZ] [] h Q X := by
  have hnx9 : (93 : Int) ≤ xnx h := F.2.2
  refine xr_okL (fun hl9 => ?_)
  have r_x1 : -2147483648 ≤ x1 ∧ x1 ≤ 2147483647 := hl9 (xI x1) (.tail _ (.head _)) (Nat.le_of_ble_eq_true rfl)
  have r_x2 : -2147483648 ≤ x2 ∧ x2 ≤ 2147483647 := hl9 (xI x2) (.tail _ (.tail _ (.head _))) (Nat.le_of_ble_eq_true rfl)
  have r_x3 : -2147483648 ≤ x3 ∧ x3 ≤ 2147483647 := hl9 (xI x3) (.tail _ (.tail _ (.tail _ (.head _)))) (Nat.le_of_ble_eq_true rfl)
  refine xr_iload_n (pc := 6) (i := 3) (hI := d_DualPivotQuicksort_heapSort_6) (hi := rfl) (hl := rfl) ?_
  refine xr_iload_n (pc := 7) (i := 1) (hI := d_DualPivotQuicksort_heapSort_7) (hi := rfl) (hl := rfl) ?_
  refine xr_icmp_le (pc := 8) (tgt := 27) (hI := d_DualPivotQuicksort_heapSort_8) (ht := by decide) (fun q9 => ?_) (fun q9 => ?_)
  · replace hyp := hyp.1 q9
    have q1_ := q9
    clear q9
    exact xr_drop (L9 := [xR 64, xI x1, xI x2, xZ, xZ]) (xdrs (xdrs (xdrs (xdrz (xdrs xdr0))))) hyp
  · replace hyp := hyp.2 q9
    have q1_ := q9
    clear q9
    refine xr_aload_n (pc := 11) (i := 0) (hI := d_DualPivotQuicksort_heapSort_11) (hi := rfl) (hl := rfl) ?_
    refine xr_iinc (pc := 12) (i := 3) (L9 := [xR 64, xI x1, xI x2, xI (x3 + (-1)), xZ]) (hI := d_DualPivotQuicksort_heapSort_12) (hl := rfl) (hn := Nat.le_of_ble_eq_true rfl) (hr := ⟨by clear hyp; omega, by clear hyp; omega⟩) (hL9 := rfl) ?_
    refine xr_iload_n (pc := 15) (i := 3) (hI := d_DualPivotQuicksort_heapSort_15) (hi := rfl) (hl := rfl) ?_
    refine xr_aload_n (pc := 16) (i := 0) (hI := d_DualPivotQuicksort_heapSort_16) (hi := rfl) (hl := rfl) ?_
    refine xr_iload_n (pc := 17) (i := 3) (hI := d_DualPivotQuicksort_heapSort_17) (hi := rfl) (hl := rfl) ?_
    obtain ⟨c2_, hyp⟩ := hyp
    obtain ⟨c3_, hyp⟩ := hyp
    refine xg_laload (pc := 18) (v := (xpl h 64 (x3 + (-1)))) (hI := d_DualPivotQuicksort_heapSort_18) (ft_64 F) c2_ (xlt_of (fl_64 F) c3_) rfl (fun f4_ => ?_)
    replace f4_ : -9223372036854775808 ≤ (xpl h 64 (x3 + (-1))) ∧ (xpl h 64 (x3 + (-1))) ≤ 9223372036854775807 := f4_
    refine xr_iload_n (pc := 19) (i := 1) (hI := d_DualPivotQuicksort_heapSort_19) (hi := rfl) (hl := rfl) ?_
    refine xr_iload_n (pc := 20) (i := 2) (hI := d_DualPivotQuicksort_heapSort_20) (hi := rfl) (hl := rfl) ?_
    exact xq_callS (pc := 21) (index := 113) (K := m_DualPivotQuicksort_pushDown) (As := [xR 64, xI (x3 + (-1)), xL (xpl h 64 (x3 + (-1))), xI x1, xI x2]) (S := []) (L0 := [xR 64, xI (x3 + (-1)), xL (xpl h 64 (x3 + (-1))), xZ, xI x1, xI x2, xZ]) (hI := d_DualPivotQuicksort_heapSort_21) (hK := k_DualPivotQuicksort_pushDown) (hlk := w_2168) (hnoM := rfl) (hS8 := Nat.le_of_ble_eq_true rfl) (hstat := w_2169) (hlen := Nat.le_of_ble_eq_true rfl) (hst := rfl) (hL0 := rfl)  hyp
theorem d_DualPivotQuicksort_heapSort_24 : decode prog_46_method_16_code 24 = .ok (.goto (-18), 3) := by decide +kernel
theorem v_DualPivotQuicksort_heapSort_24 {G : XG} {d : Nat} {h : XH} {Q : XV → XH → Prop} {X : Nat → XH → Prop} {x1 x2 x3 : Int} (F : xFix h) (hyp : (xwp G m_DualPivotQuicksort_heapSort (d + 2) 6 [xR 64, xI x1, xI x2, xI x3, xZ] [] h Q X)) : xwp G m_DualPivotQuicksort_heapSort (d + 2) 24 [xR 64, xI x1, xI x2, xI x3, xZ] [] h Q X := by
  have hnx9 : (93 : Int) ≤ xnx h := F.2.2
  refine xr_okL (fun hl9 => ?_)
  have r_x1 : -2147483648 ≤ x1 ∧ x1 ≤ 2147483647 := hl9 (xI x1) (.tail _ (.head _)) (Nat.le_of_ble_eq_true rfl)
  have r_x2 : -2147483648 ≤ x2 ∧ x2 ≤ 2147483647 := hl9 (xI x2) (.tail _ (.tail _ (.head _))) (Nat.le_of_ble_eq_true rfl)
  have r_x3 : -2147483648 ≤ x3 ∧ x3 ≤ 2147483647 := hl9 (xI x3) (.tail _ (.tail _ (.tail _ (.head _)))) (Nat.le_of_ble_eq_true rfl)
  refine xr_goto (pc := 24) (tgt := 6) (hI := d_DualPivotQuicksort_heapSort_24) (ht := by decide) ?_
  exact hyp
theorem d_DualPivotQuicksort_heapSort_27 : decode prog_46_method_16_code 27 = .ok (.iinc 2 (-1), 3) := by decide +kernel
theorem d_DualPivotQuicksort_heapSort_30 : decode prog_46_method_16_code 30 = .ok (.iload_n 2, 1) := by decide +kernel
theorem d_DualPivotQuicksort_heapSort_31 : decode prog_46_method_16_code 31 = .ok (.iload_n 1, 1) := by decide +kernel
theorem d_DualPivotQuicksort_heapSort_32 : decode prog_46_method_16_code 32 = .ok (.if_icmp .le 24, 3) := by decide +kernel
theorem d_DualPivotQuicksort_heapSort_56 : decode prog_46_method_16_code 56 = .ok (.return_, 1) := by decide +kernel
theorem d_DualPivotQuicksort_heapSort_35 : decode prog_46_method_16_code 35 = .ok (.aload_n 0, 1) := by decide +kernel
theorem d_DualPivotQuicksort_heapSort_36 : decode prog_46_method_16_code 36 = .ok (.iload_n 1, 1) := by decide +kernel
theorem d_DualPivotQuicksort_heapSort_37 : decode prog_46_method_16_code 37 = .ok (.laload, 1) := by decide +kernel
theorem d_DualPivotQuicksort_heapSort_38 : decode prog_46_method_16_code 38 = .ok (.lstore_n 3, 1) := by decide +kernel
theorem d_DualPivotQuicksort_heapSort_39 : decode prog_46_method_16_code 39 = .ok (.aload_n 0, 1) := by decide +kernel
theorem d_DualPivotQuicksort_heapSort_40 : decode prog_46_method_16_code 40 = .ok (.iload_n 1, 1) := by decide +kernel
theorem d_DualPivotQuicksort_heapSort_41 : decode prog_46_method_16_code 41 = .ok (.aload_n 0, 1) := by decide +kernel
theorem d_DualPivotQuicksort_heapSort_42 : decode prog_46_method_16_code 42 = .ok (.iload_n 2, 1) := by decide +kernel
theorem d_DualPivotQuicksort_heapSort_43 : decode prog_46_method_16_code 43 = .ok (.laload, 1) := by decide +kernel
theorem d_DualPivotQuicksort_heapSort_44 : decode prog_46_method_16_code 44 = .ok (.iload_n 1, 1) := by decide +kernel
theorem d_DualPivotQuicksort_heapSort_45 : decode prog_46_method_16_code 45 = .ok (.iload_n 2, 1) := by decide +kernel
theorem d_DualPivotQuicksort_heapSort_46 : decode prog_46_method_16_code 46 = .ok (.invokestatic 113, 3) := by decide +kernel
theorem v_DualPivotQuicksort_heapSort_27 {G : XG} {d : Nat} {h : XH} {Q : XV → XH → Prop} {X : Nat → XH → Prop} {x1 x2 : Int} (F : xFix h) (hyp : xiR (x2 + (-1)) ∧ (((x2 + (-1)) ≤ x1 → (Q xN h)) ∧ (¬ (x2 + (-1)) ≤ x1 → 0 ≤ x1 ∧ x1 < 12000 ∧ (x2 + (-1)) < 12000 ∧ (xwp G m_DualPivotQuicksort_pushDown (d + 1) 0 [xR 64, xI x1, xL (xpl h 64 (x2 + (-1))), xZ, xI x1, xI (x2 + (-1)), xZ] [] h (fun v9 h9 => xwp G m_DualPivotQuicksort_heapSort (d + 2) 49 [xR 64, xI x1, xI (x2 + (-1)), xL (xpl h 64 x1), xZ] (xpush v9 []) h9 Q X) X)))) : xwp G m_DualPivotQuicksort_heapSort (d + 2) 27 [xR 64, xI x1, xI x2, xZ, xZ] [] h Q X := by
  have hnx9 : (93 : Int) ≤ xnx h := F.2.2
  refine xr_okL (fun hl9 => ?_)
  have r_x1 : -2147483648 ≤ x1 ∧ x1 ≤ 2147483647 := hl9 (xI x1) (.tail _ (.head _)) (Nat.le_of_ble_eq_true rfl)
  have r_x2 : -2147483648 ≤ x2 ∧ x2 ≤ 2147483647 := hl9 (xI x2) (.tail _ (.tail _ (.head _))) (Nat.le_of_ble_eq_true rfl)
  obtain ⟨c9, hyp⟩ := hyp
  refine xr_iinc (pc := 27) (i := 2) (L9 := [xR 64, xI x1, xI (x2 + (-1)), xZ, xZ]) (hI := d_DualPivotQuicksort_heapSort_27) (hl := rfl) (hn := Nat.le_of_ble_eq_true rfl) (hr := c9) (hL9 := rfl) ?_
  refine xr_iload_n (pc := 30) (i := 2) (hI := d_DualPivotQuicksort_heapSort_30) (hi := rfl) (hl := rfl) ?_
  refine xr_iload_n (pc := 31) (i := 1) (hI := d_DualPivotQuicksort_heapSort_31) (hi := rfl) (hl := rfl) ?_
  refine xr_icmp_le (pc := 32) (tgt := 56) (hI := d_DualPivotQuicksort_heapSort_32) (ht := by decide) (fun q9 => ?_) (fun q9 => ?_)
  · replace hyp := hyp.1 q9
    have q1_ := q9
    clear q9
    refine xr_return (S := []) (pc := 56) (hI := d_DualPivotQuicksort_heapSort_56) (hr := rfl) ?_
    exact hyp
  · replace hyp := hyp.2 q9
    have q1_ := q9
    clear q9
    refine xr_aload_n (pc := 35) (i := 0) (hI := d_DualPivotQuicksort_heapSort_35) (hi := rfl) (hl := rfl) ?_
    refine xr_iload_n (pc := 36) (i := 1) (hI := d_DualPivotQuicksort_heapSort_36) (hi := rfl) (hl := rfl) ?_
    obtain ⟨c2_, hyp⟩ := hyp
    obtain ⟨c3_, hyp⟩ := hyp
    refine xg_laload (pc := 37) (v := (xpl h 64 x1)) (hI := d_DualPivotQuicksort_heapSort_37) (ft_64 F) c2_ (xlt_of (fl_64 F) c3_) rfl (fun f4_ => ?_)
    replace f4_ : -9223372036854775808 ≤ (xpl h 64 x1) ∧ (xpl h 64 x1) ≤ 9223372036854775807 := f4_
    refine xr_lstore_n (pc := 38) (i := 3) (L9 := [xR 64, xI x1, xI (x2 + (-1)), xL (xpl h 64 x1), xZ]) (hI := d_DualPivotQuicksort_heapSort_38) (hi := rfl) (hn := Nat.le_of_ble_eq_true rfl) (hL9 := rfl) ?_
    refine xr_aload_n (pc := 39) (i := 0) (hI := d_DualPivotQuicksort_heapSort_39) (hi := rfl) (hl := rfl) ?_
    refine xr_iload_n (pc := 40) (i := 1) (hI := d_DualPivotQuicksort_heapSort_40) (hi := rfl) (hl := rfl) ?_
    refine xr_aload_n (pc := 41) (i := 0) (hI := d_DualPivotQuicksort_heapSort_41) (hi := rfl) (hl := rfl) ?_
    refine xr_iload_n (pc := 42) (i := 2) (hI := d_DualPivotQuicksort_heapSort_42) (hi := rfl) (hl := rfl) ?_
    obtain ⟨c5_, hyp⟩ := hyp
    refine xg_laload (pc := 43) (v := (xpl h 64 (x2 + (-1)))) (hI := d_DualPivotQuicksort_heapSort_43) (ft_64 F) (by clear hyp; omega) (xlt_of (fl_64 F) c5_) rfl (fun f6_ => ?_)
    replace f6_ : -9223372036854775808 ≤ (xpl h 64 (x2 + (-1))) ∧ (xpl h 64 (x2 + (-1))) ≤ 9223372036854775807 := f6_
    refine xr_iload_n (pc := 44) (i := 1) (hI := d_DualPivotQuicksort_heapSort_44) (hi := rfl) (hl := rfl) ?_
    refine xr_iload_n (pc := 45) (i := 2) (hI := d_DualPivotQuicksort_heapSort_45) (hi := rfl) (hl := rfl) ?_
    exact xq_callS (pc := 46) (index := 113) (K := m_DualPivotQuicksort_pushDown) (As := [xR 64, xI x1, xL (xpl h 64 (x2 + (-1))), xI x1, xI (x2 + (-1))]) (S := []) (L0 := [xR 64, xI x1, xL (xpl h 64 (x2 + (-1))), xZ, xI x1, xI (x2 + (-1)), xZ]) (hI := d_DualPivotQuicksort_heapSort_46) (hK := k_DualPivotQuicksort_pushDown) (hlk := w_2168) (hnoM := rfl) (hS8 := Nat.le_of_ble_eq_true rfl) (hstat := w_2169) (hlen := Nat.le_of_ble_eq_true rfl) (hst := rfl) (hL0 := rfl)  hyp
theorem d_DualPivotQuicksort_heapSort_49 : decode prog_46_method_16_code 49 = .ok (.aload_n 0, 1) := by decide +kernel
theorem d_DualPivotQuicksort_heapSort_50 : decode prog_46_method_16_code 50 = .ok (.iload_n 2, 1) := by decide +kernel
theorem d_DualPivotQuicksort_heapSort_51 : decode prog_46_method_16_code 51 = .ok (.lload_n 3, 1) := by decide +kernel
theorem d_DualPivotQuicksort_heapSort_52 : decode prog_46_method_16_code 52 = .ok (.lastore, 1) := by decide +kernel
theorem d_DualPivotQuicksort_heapSort_53 : decode prog_46_method_16_code 53 = .ok (.goto (-26), 3) := by decide +kernel
theorem v_DualPivotQuicksort_heapSort_49 {G : XG} {d : Nat} {h : XH} {Q : XV → XH → Prop} {X : Nat → XH → Prop} {x1 x2 x3 : Int} (F : xFix h) (hyp : 0 ≤ x2 ∧ x2 < 12000 ∧ (xFix (xst h 64 x2 x3) → xwp G m_DualPivotQuicksort_heapSort (d + 2) 27 [xR 64, xI x1, xI x2, xZ, xZ] [] (xst h 64 x2 x3) Q X)) : xwp G m_DualPivotQuicksort_heapSort (d + 2) 49 [xR 64, xI x1, xI x2, xL x3, xZ] [] h Q X := by
  have hnx9 : (93 : Int) ≤ xnx h := F.2.2
  refine xr_okL (fun hl9 => ?_)
  have r_x1 : -2147483648 ≤ x1 ∧ x1 ≤ 2147483647 := hl9 (xI x1) (.tail _ (.head _)) (Nat.le_of_ble_eq_true rfl)
  have r_x2 : -2147483648 ≤ x2 ∧ x2 ≤ 2147483647 := hl9 (xI x2) (.tail _ (.tail _ (.head _))) (Nat.le_of_ble_eq_true rfl)
  have r_x3 : -9223372036854775808 ≤ x3 ∧ x3 ≤ 9223372036854775807 := hl9 (xL x3) (.tail _ (.tail _ (.tail _ (.head _)))) (Nat.le_of_ble_eq_true rfl)
  refine xr_aload_n (pc := 49) (i := 0) (hI := d_DualPivotQuicksort_heapSort_49) (hi := rfl) (hl := rfl) ?_
  refine xr_iload_n (pc := 50) (i := 2) (hI := d_DualPivotQuicksort_heapSort_50) (hi := rfl) (hl := rfl) ?_
  refine xr_lload_n (pc := 51) (i := 3) (hI := d_DualPivotQuicksort_heapSort_51) (hi := rfl) (hl := rfl) ?_
  obtain ⟨c1_, hyp⟩ := hyp
  obtain ⟨c2_, hyp⟩ := hyp
  refine xr_lastore (pc := 52) (hI := d_DualPivotQuicksort_heapSort_52) (ft_64 F) (by decide) c1_ (xlt_of (fl_64 F) c2_) ?_
  have F3_ : xFix (xst h 64 x2 x3) := F.stA xfa_64
  refine xr_goto (pc := 53) (tgt := 27) (hI := d_DualPivotQuicksort_heapSort_53) (ht := by decide) ?_
  exact xr_drop (L9 := [xR 64, xI x1, xI x2, xZ, xZ]) (xdrs (xdrs (xdrs (xdrz (xdrs xdr0))))) (hyp F3_)
abbrev m_DualPivotQuicksort_mergeParts : XM := (⟨"java/util/DualPivotQuicksort", "mergeParts", "(Ljava/util/DualPivotQuicksort$Merger;[JI[JII[JII)V"⟩, prog_46_method_20_code, 15, none, [])
theorem d_DualPivotQuicksort_mergeParts_0 : decode prog_46_method_20_code 0 = .ok (.aload_n 0, 1) := by decide +kernel
theorem d_DualPivotQuicksort_mergeParts_1 : decode prog_46_method_20_code 1 = .ok (.ifnull 170, 3) := by decide +kernel
theorem v_DualPivotQuicksort_mergeParts_0 {G : XG} {d : Nat} {h : XH} {Q : XV → XH → Prop} {X : Nat → XH → Prop} {x1 x2 x3 x4 x5 x6 x7 x8 : Int} (F : xFix h) (hyp : (xwp G m_DualPivotQuicksort_mergeParts (d + 1) 171 [xZ, xR x1, xI x2, xR x3, xI x4, xI x5, xR x6, xI x7, xI x8, xZ, xZ, xZ, xZ, xZ, xZ] [] h Q X)) : xwp G m_DualPivotQuicksort_mergeParts (d + 1) 0 [xR (-1), xR x1, xI x2, xR x3, xI x4, xI x5, xR x6, xI x7, xI x8, xZ, xZ, xZ, xZ, xZ, xZ] [] h Q X := by
  have hnx9 : (93 : Int) ≤ xnx h := F.2.2
  refine xr_okL (fun hl9 => ?_)
  have r_x2 : -2147483648 ≤ x2 ∧ x2 ≤ 2147483647 := hl9 (xI x2) (.tail _ (.tail _ (.head _))) (Nat.le_of_ble_eq_true rfl)
  have r_x4 : -2147483648 ≤ x4 ∧ x4 ≤ 2147483647 := hl9 (xI x4) (.tail _ (.tail _ (.tail _ (.tail _ (.head _))))) (Nat.le_of_ble_eq_true rfl)
  have r_x5 : -2147483648 ≤ x5 ∧ x5 ≤ 2147483647 := hl9 (xI x5) (.tail _ (.tail _ (.tail _ (.tail _ (.tail _ (.head _)))))) (Nat.le_of_ble_eq_true rfl)
  have r_x7 : -2147483648 ≤ x7 ∧ x7 ≤ 2147483647 := hl9 (xI x7) (.tail _ (.tail _ (.tail _ (.tail _ (.tail _ (.tail _ (.tail _ (.head _)))))))) (Nat.le_of_ble_eq_true rfl)
  have r_x8 : -2147483648 ≤ x8 ∧ x8 ≤ 2147483647 := hl9 (xI x8) (.tail _ (.tail _ (.tail _ (.tail _ (.tail _ (.tail _ (.tail _ (.tail _ (.head _))))))))) (Nat.le_of_ble_eq_true rfl)
  refine xr_aload_n (pc := 0) (i := 0) (hI := d_DualPivotQuicksort_mergeParts_0) (hi := rfl) (hl := rfl) ?_
  refine xr_ifnull (pc := 1) (tgt := 171) (hI := d_DualPivotQuicksort_mergeParts_1) (ht := by decide) (fun q9 => ?_) (fun q9 => ?_)
  · clear q9
    exact xr_drop (L9 := [xZ, xR x1, xI x2, xR x3, xI x4, xI x5, xR x6, xI x7, xI x8, xZ, xZ, xZ, xZ, xZ, xZ]) (xdrz (xdrs (xdrs (xdrs (xdrs (xdrs (xdrs (xdrs (xdrs (xdrs (xdrs (xdrs (xdrs (xdrs (xdrs xdr0))))))))))))))) hyp
  · exact absurd q9 (by decide)
theorem d_DualPivotQuicksort_mergeParts_10 : decode prog_46_method_20_code 10 = .ok (.iload 5, 2) := by decide +kernel
theorem d_DualPivotQuicksort_mergeParts_12 : decode prog_46_method_20_code 12 = .ok (.iload 4, 2) := by decide +kernel
theorem d_DualPivotQuicksort_mergeParts_14 : decode prog_46_method_20_code 14 = .ok (.isub, 1) := by decide +kernel
theorem d_DualPivotQuicksort_mergeParts_15 : decode prog_46_method_20_code 15 = .ok (.iload 8, 2) := by decide +kernel
theorem d_DualPivotQuicksort_mergeParts_17 : decode prog_46_method_20_code 17 = .ok (.iload 7, 2) := by decide +kernel
theorem d_DualPivotQuicksort_mergeParts_19 : decode prog_46_method_20_code 19 = .ok (.isub, 1) := by decide +kernel
theorem d_DualPivotQuicksort_mergeParts_20 : decode prog_46_method_20_code 20 = .ok (.if_icmp .ge 27, 3) := by decide +kernel
theorem d_DualPivotQuicksort_mergeParts_23 : decode prog_46_method_20_code 23 = .ok (.iload 4, 2) := by decide +kernel
theorem d_DualPivotQuicksort_mergeParts_25 : decode prog_46_method_20_code 25 = .ok (.istore 9, 2) := by decide +kernel
theorem d_DualPivotQuicksort_mergeParts_27 : decode prog_46_method_20_code 27 = .ok (.iload 7, 2) := by decide +kernel
theorem d_DualPivotQuicksort_mergeParts_29 : decode prog_46_method_20_code 29 = .ok (.istore 4, 2) := by decide +kernel
theorem d_DualPivotQuicksort_mergeParts_31 : decode prog_46_method_20_code 31 = .ok (.iload 9, 2) := by decide +kernel
theorem d_DualPivotQuicksort_mergeParts_33 : decode prog_46_method_20_code 33 = .ok (.istore 7, 2) := by decide +kernel
theorem d_DualPivotQuicksort_mergeParts_35 : decode prog_46_method_20_code 35 = .ok (.iload 5, 2) := by decide +kernel
theorem d_DualPivotQuicksort_mergeParts_37 : decode prog_46_method_20_code 37 = .ok (.istore 10, 2) := by decide +kernel
theorem d_DualPivotQuicksort_mergeParts_39 : decode prog_46_method_20_code 39 = .ok (.iload 8, 2) := by decide +kernel
theorem d_DualPivotQuicksort_mergeParts_41 : decode prog_46_method_20_code 41 = .ok (.istore 5, 2) := by decide +kernel
theorem d_DualPivotQuicksort_mergeParts_43 : decode prog_46_method_20_code 43 = .ok (.iload 10, 2) := by decide +kernel
theorem d_DualPivotQuicksort_mergeParts_45 : decode prog_46_method_20_code 45 = .ok (.istore 8, 2) := by decide +kernel
theorem v_DualPivotQuicksort_mergeParts_10 {G : XG} {d : Nat} {h : XH} {Q : XV → XH → Prop} {X : Nat → XH → Prop} {x1 x2 x3 x4 x5 x6 x7 x8 : Int} (F : xFix h) (hyp : xiR (x5 - x4) ∧ xiR (x8 - x7) ∧ (((x8 - x7) ≤ (x5 - x4) → (xwp G m_DualPivotQuicksort_mergeParts (d + 1) 47 [xR (-1), xR x1, xI x2, xR x3, xI x4, xI x5, xR x6, xI x7, xI x8, xZ, xZ, xZ, xZ, xZ, xZ] [] h Q X)) ∧ (¬ (x8 - x7) ≤ (x5 - x4) → (xwp G m_DualPivotQuicksort_mergeParts (d + 1) 47 [xR (-1), xR x1, xI x2, xR x3, xI x7, xI x8, xR x6, xI x4, xI x5, xZ, xZ, xZ, xZ, xZ, xZ] [] h Q X)))) : xwp G m_DualPivotQuicksort_mergeParts (d + 1) 10 [xR (-1), xR x1, xI x2, xR x3, xI x4, xI x5, xR x6, xI x7, xI x8, xZ, xZ, xZ, xZ, xZ, xZ] [] h Q X := by
  have hnx9 : (93 : Int) ≤ xnx h := F.2.2
  refine xr_okL (fun hl9 => ?_)
  have r_x2 : -2147483648 ≤ x2 ∧ x2 ≤ 2147483647 := hl9 (xI x2) (.tail _ (.tail _ (.head _))) (Nat.le_of_ble_eq_true rfl)
  have r_x4 : -2147483648 ≤ x4 ∧ x4 ≤ 2147483647 := hl9 (xI x4) (.tail _ (.tail _ (.tail _ (.tail _ (.head _))))) (Nat.le_of_ble_eq_true rfl)
  have r_x5 : -2147483648 ≤ x5 ∧ x5 ≤ 2147483647 := hl9 (xI x5) (.tail _ (.tail _ (.tail _ (.tail _ (.tail _ (.head _)))))) (Nat.le_of_ble_eq_true rfl)
  have r_x7 : -2147483648 ≤ x7 ∧ x7 ≤ 2147483647 := hl9 (xI x7) (.tail _ (.tail _ (.tail _ (.tail _ (.tail _ (.tail _ (.tail _ (.head _)))))))) (Nat.le_of_ble_eq_true rfl)
  have r_x8 : -2147483648 ≤ x8 ∧ x8 ≤ 2147483647 := hl9 (xI x8) (.tail _ (.tail _ (.tail _ (.tail _ (.tail _ (.tail _ (.tail _ (.tail _ (.head _))))))))) (Nat.le_of_ble_eq_true rfl)
  refine xr_iload (pc := 10) (i := 5) (hI := d_DualPivotQuicksort_mergeParts_10) (hl := rfl) ?_
  refine xr_iload (pc := 12) (i := 4) (hI := d_DualPivotQuicksort_mergeParts_12) (hl := rfl) ?_
  obtain ⟨c9, hyp⟩ := hyp
  refine xr_isub (pc := 14) (hI := d_DualPivotQuicksort_mergeParts_14) (hr := c9) ?_
  refine xr_iload (pc := 15) (i := 8) (hI := d_DualPivotQuicksort_mergeParts_15) (hl := rfl) ?_
  refine xr_iload (pc := 17) (i := 7) (hI := d_DualPivotQuicksort_mergeParts_17) (hl := rfl) ?_
  obtain ⟨c9, hyp⟩ := hyp
  refine xr_isub (pc := 19) (hI := d_DualPivotQuicksort_mergeParts_19) (hr := c9) ?_
  refine xr_icmp_ge (pc := 20) (tgt := 47) (hI := d_DualPivotQuicksort_mergeParts_20) (ht := by decide) (fun q9 => ?_) (fun q9 => ?_)
  · replace hyp := hyp.1 q9
    have q1_ := q9
    clear q9
    exact hyp
  · replace hyp := hyp.2 q9
    have q1_ := q9
    clear q9
    refine xr_iload (pc := 23) (i := 4) (hI := d_DualPivotQuicksort_mergeParts_23) (hl := rfl) ?_
    refine xr_istore (pc := 25) (i := 9) (L9 := [xR (-1), xR x1, xI x2, xR x3, xI x4, xI x5, xR x6, xI x7, xI x8, xI x4, xZ, xZ, xZ, xZ, xZ]) (hI := d_DualPivotQuicksort_mergeParts_25) (hn := Nat.le_of_ble_eq_true rfl) (hL9 := rfl) ?_
    refine xr_iload (pc := 27) (i := 7) (hI := d_DualPivotQuicksort_mergeParts_27) (hl := rfl) ?_
    refine xr_istore (pc := 29) (i := 4) (L9 := [xR (-1), xR x1, xI x2, xR x3, xI x7, xI x5, xR x6, xI x7, xI x8, xI x4, xZ, xZ, xZ, xZ, xZ]) (hI := d_DualPivotQuicksort_mergeParts_29) (hn := Nat.le_of_ble_eq_true rfl) (hL9 := rfl) ?_
    refine xr_iload (pc := 31) (i := 9) (hI := d_DualPivotQuicksort_mergeParts_31) (hl := rfl) ?_
    refine xr_istore (pc := 33) (i := 7) (L9 := [xR (-1), xR x1, xI x2, xR x3, xI x7, xI x5, xR x6, xI x4, xI x8, xI x4, xZ, xZ, xZ, xZ, xZ]) (hI := d_DualPivotQuicksort_mergeParts_33) (hn := Nat.le_of_ble_eq_true rfl) (hL9 := rfl) ?_
    refine xr_iload (pc := 35) (i := 5) (hI := d_DualPivotQuicksort_mergeParts_35) (hl := rfl) ?_
    refine xr_istore (pc := 37) (i := 10) (L9 := [xR (-1), xR x1, xI x2, xR x3, xI x7, xI x5, xR x6, xI x4, xI x8, xI x4, xI x5, xZ, xZ, xZ, xZ]) (hI := d_DualPivotQuicksort_mergeParts_37) (hn := Nat.le_of_ble_eq_true rfl) (hL9 := rfl) ?_
    refine xr_iload (pc := 39) (i := 8) (hI := d_DualPivotQuicksort_mergeParts_39) (hl := rfl) ?_
    refine xr_istore (pc := 41) (i := 5) (L9 := [xR (-1), xR x1, xI x2, xR x3, xI x7, xI x8, xR x6, xI x4, xI x8, xI x4, xI x5, xZ, xZ, xZ, xZ]) (hI := d_DualPivotQuicksort_mergeParts_41) (hn := Nat.le_of_ble_eq_true rfl) (hL9 := rfl) ?_
    refine xr_iload (pc := 43) (i := 10) (hI := d_DualPivotQuicksort_mergeParts_43) (hl := rfl) ?_
    refine xr_istore (pc := 45) (i := 8) (L9 := [xR (-1), xR x1, xI x2, xR x3, xI x7, xI x8, xR x6, xI x4, xI x5, xI x4, xI x5, xZ, xZ, xZ, xZ]) (hI := d_DualPivotQuicksort_mergeParts_45) (hn := Nat.le_of_ble_eq_true rfl) (hL9 := rfl) ?_
    exact xr_drop (L9 := [xR (-1), xR x1, xI x2, xR x3, xI x7, xI x8, xR x6, xI x4, xI x5, xZ, xZ, xZ, xZ, xZ, xZ]) (xdrs (xdrs (xdrs (xdrs (xdrs (xdrs (xdrs (xdrs (xdrs (xdrz (xdrz (xdrs (xdrs (xdrs (xdrs xdr0))))))))))))))) hyp
theorem d_DualPivotQuicksort_mergeParts_47 : decode prog_46_method_20_code 47 = .ok (.iload 5, 2) := by decide +kernel
theorem d_DualPivotQuicksort_mergeParts_49 : decode prog_46_method_20_code 49 = .ok (.iload 4, 2) := by decide +kernel
theorem d_DualPivotQuicksort_mergeParts_51 : decode prog_46_method_20_code 51 = .ok (.isub, 1) := by decide +kernel
theorem d_DualPivotQuicksort_mergeParts_52 : decode prog_46_method_20_code 52 = .ok (.sipush 4096, 3) := by decide +kernel
theorem d_DualPivotQuicksort_mergeParts_55 : decode prog_46_method_20_code 55 = .ok (.if_icmp .ge 6, 3) := by decide +kernel
theorem d_DualPivotQuicksort_mergeParts_61 : decode prog_46_method_20_code 61 = .ok (.iload 4, 2) := by decide +kernel
theorem d_DualPivotQuicksort_mergeParts_63 : decode prog_46_method_20_code 63 = .ok (.iload 5, 2) := by decide +kernel
theorem d_DualPivotQuicksort_mergeParts_65 : decode prog_46_method_20_code 65 = .ok (.iadd, 1) := by decide +kernel
theorem d_DualPivotQuicksort_mergeParts_66 : decode prog_46_method_20_code 66 = .ok (.iconst 1, 1) := by decide +kernel
theorem d_DualPivotQuicksort_mergeParts_67 : decode prog_46_method_20_code 67 = .ok (.iushr, 1) := by decide +kernel
theorem d_DualPivotQuicksort_mergeParts_68 : decode prog_46_method_20_code 68 = .ok (.istore 9, 2) := by decide +kernel
theorem d_DualPivotQuicksort_mergeParts_70 : decode prog_46_method_20_code 70 = .ok (.aload_n 3, 1) := by decide +kernel
theorem d_DualPivotQuicksort_mergeParts_71 : decode prog_46_method_20_code 71 = .ok (.iload 9, 2) := by decide +kernel
theorem d_DualPivotQuicksort_mergeParts_73 : decode prog_46_method_20_code 73 = .ok (.laload, 1) := by decide +kernel
theorem d_DualPivotQuicksort_mergeParts_74 : decode prog_46_method_20_code 74 = .ok (.lstore 10, 2) := by decide +kernel
theorem d_DualPivotQuicksort_mergeParts_76 : decode prog_46_method_20_code 76 = .ok (.iload 8, 2) := by decide +kernel
theorem d_DualPivotQuicksort_mergeParts_78 : decode prog_46_method_20_code 78 = .ok (.istore 12, 2) := by decide +kernel
theorem d_DualPivotQuicksort_mergeParts_80 : decode prog_46_method_20_code 80 = .ok (.iload 7, 2) := by decide +kernel
theorem d_DualPivotQuicksort_mergeParts_82 : decode prog_46_method_20_code 82 = .ok (.istore 13, 2) := by decide +kernel
theorem d_DualPivotQuicksort_mergeParts_58 : decode prog_46_method_20_code 58 = .ok (.goto 113, 3) := by decide +kernel
theorem v_DualPivotQuicksort_mergeParts_47 {G : XG} {d : Nat} {h : XH} {Q : XV → XH → Prop} {X : Nat → XH → Prop} {x1 x2 x3 x4 x5 x6 x7 x8 : Int} (F : xFix h) (hyp : xiR (x5 - x4) ∧ (((4096 : Int) ≤ (x5 - x4) → xiR (x4 + x5) ∧ xtg h x3 = 101 ∧ 0 ≤ (xushr (x4 + x5) 1) ∧ (xushr (x4 + x5) 1) < (xln h x3) ∧ (xwp G m_DualPivotQuicksort_mergeParts (d + 1) 84 [xR (-1), xR x1, xI x2, xR x3, xI x4, xI x5, xR x6, xI x7, xI x8, xI (xushr (x4 + x5) 1), xL (xpl h x3 (xushr (x4 + x5) 1)), xZ, xI x8, xI x7, xZ] [] h Q X)) ∧ (¬ (4096 : Int) ≤ (x5 - x4) → (xwp G m_DualPivotQuicksort_mergeParts (d + 1) 171 [xZ, xR x1, xI x2, xR x3, xI x4, xI x5, xR x6, xI x7, xI x8, xZ, xZ, xZ, xZ, xZ, xZ] [] h Q X)))) : xwp G m_DualPivotQuicksort_mergeParts (d + 1) 47 [xR (-1), xR x1, xI x2, xR x3, xI x4, xI x5, xR x6, xI x7, xI x8, xZ, xZ, xZ, xZ, xZ, xZ] [] h Q X := by
  have hnx9 : (93 : Int) ≤ xnx h := F.2.2
  refine xr_okL (fun hl9 => ?_)
  have r_x2 : -2147483648 ≤ x2 ∧ x2 ≤ 2147483647 := hl9 (xI x2) (.tail _ (.tail _ (.head _))) (Nat.le_of_ble_eq_true rfl)
  have r_x4 : -2147483648 ≤ x4 ∧ x4 ≤ 2147483647 := hl9 (xI x4) (.tail _ (.tail _ (.tail _ (.tail _ (.head _))))) (Nat.le_of_ble_eq_true rfl)
  have r_x5 : -2147483648 ≤ x5 ∧ x5 ≤ 2147483647 := hl9 (xI x5) (.tail _ (.tail _ (.tail _ (.tail _ (.tail _ (.head _)))))) (Nat.le_of_ble_eq_true rfl)
  have r_x7 : -2147483648 ≤ x7 ∧ x7 ≤ 2147483647 := hl9 (xI x7) (.tail _ (.tail _ (.tail _ (.tail _ (.tail _ (.tail _ (.tail _ (.head _)))))))) (Nat.le_of_ble_eq_true rfl)
  have r_x8 : -2147483648 ≤ x8 ∧ x8 ≤ 2147483647 := hl9 (xI x8) (.tail _ (.tail _ (.tail _ (.tail _ (.tail _ (.tail _ (.tail _ (.tail _ (.head _))))))))) (Nat.le_of_ble_eq_true rfl)
  refine xr_iload (pc := 47) (i := 5) (hI := d_DualPivotQuicksort_mergeParts_47) (hl := rfl) ?_
  refine xr_iload (pc := 49) (i := 4) (hI := d_DualPivotQuicksort_mergeParts_49) (hl := rfl) ?_
  obtain ⟨c9, hyp⟩ := hyp
  refine xr_isub (pc := 51) (hI := d_DualPivotQuicksort_mergeParts_51) (hr := c9) ?_
  refine xr_sipush (pc := 52) (hI := d_DualPivotQuicksort_mergeParts_52) (hr := by decide) (hv := by decide) ?_
  refine xr_icmp_ge (pc := 55) (tgt := 61) (hI := d_DualPivotQuicksort_mergeParts_55) (ht := by decide) (fun q9 => ?_) (fun q9 => ?_)
  · replace hyp := hyp.1 q9
    have q1_ := q9
    clear q9
    refine xr_iload (pc := 61) (i := 4) (hI := d_DualPivotQuicksort_mergeParts_61) (hl := rfl) ?_
    refine xr_iload (pc := 63) (i := 5) (hI := d_DualPivotQuicksort_mergeParts_63) (hl := rfl) ?_
    obtain ⟨c9, hyp⟩ := hyp
    refine xr_iadd (pc := 65) (hI := d_DualPivotQuicksort_mergeParts_65) (hr := c9) ?_
    refine xr_iconst (pc := 66) (hI := d_DualPivotQuicksort_mergeParts_66) (hr := by decide) ?_
    refine xr_iushr (pc := 67) (hI := d_DualPivotQuicksort_mergeParts_67) ?_
    have f2_ : -2147483648 ≤ (xushr (x4 + x5) 1) ∧ (xushr (x4 + x5) 1) ≤ 2147483647 := xi_toR _
    refine xr_istore (pc := 68) (i := 9) (L9 := [xR (-1), xR x1, xI x2, xR x3, xI x4, xI x5, xR x6, xI x7, xI x8, xI (xushr (x4 + x5) 1), xZ, xZ, xZ, xZ, xZ]) (hI := d_DualPivotQuicksort_mergeParts_68) (hn := Nat.le_of_ble_eq_true rfl) (hL9 := rfl) ?_
    refine xr_aload_n (pc := 70) (i := 3) (hI := d_DualPivotQuicksort_mergeParts_70) (hi := rfl) (hl := rfl) ?_
    refine xr_iload (pc := 71) (i := 9) (hI := d_DualPivotQuicksort_mergeParts_71) (hl := rfl) ?_
    obtain ⟨c9, hyp⟩ := hyp
    have t3_ := c9
    clear c9
    obtain ⟨c4_, hyp⟩ := hyp
    obtain ⟨c5_, hyp⟩ := hyp
    refine xg_laload (pc := 73) (v := (xpl h x3 (xushr (x4 + x5) 1))) (hI := d_DualPivotQuicksort_mergeParts_73) t3_ c4_ (xlt_of rfl c5_) rfl (fun f6_ => ?_)
    replace f6_ : -9223372036854775808 ≤ (xpl h x3 (xushr (x4 + x5) 1)) ∧ (xpl h x3 (xushr (x4 + x5) 1)) ≤ 9223372036854775807 := f6_
    refine xr_lstore (pc := 74) (i := 10) (L9 := [xR (-1), xR x1, xI x2, xR x3, xI x4, xI x5, xR x6, xI x7, xI x8, xI (xushr (x4 + x5) 1), xL (xpl h x3 (xushr (x4 + x5) 1)), xZ, xZ, xZ, xZ]) (hI := d_DualPivotQuicksort_mergeParts_74) (hn := Nat.le_of_ble_eq_true rfl) (hL9 := rfl) ?_
    refine xr_iload (pc := 76) (i := 8) (hI := d_DualPivotQuicksort_mergeParts_76) (hl := rfl) ?_
    refine xr_istore (pc := 78) (i := 12) (L9 := [xR (-1), xR x1, xI x2, xR x3, xI x4, xI x5, xR x6, xI x7, xI x8, xI (xushr (x4 + x5) 1), xL (xpl h x3 (xushr (x4 + x5) 1)), xZ, xI x8, xZ, xZ]) (hI := d_DualPivotQuicksort_mergeParts_78) (hn := Nat.le_of_ble_eq_true rfl) (hL9 := rfl) ?_
    refine xr_iload (pc := 80) (i := 7) (hI := d_DualPivotQuicksort_mergeParts_80) (hl := rfl) ?_
    refine xr_istore (pc := 82) (i := 13) (L9 := [xR (-1), xR x1, xI x2, xR x3, xI x4, xI x5, xR x6, xI x7, xI x8, xI (xushr (x4 + x5) 1), xL (xpl h x3 (xushr (x4 + x5) 1)), xZ, xI x8, xI x7, xZ]) (hI := d_DualPivotQuicksort_mergeParts_82) (hn := Nat.le_of_ble_eq_true rfl) (hL9 := rfl) ?_
    exact hyp
  · replace hyp := hyp.2 q9
    have q1_ := q9
    clear q9
    refine xr_goto (pc := 58) (tgt := 171) (hI := d_DualPivotQuicksort_mergeParts_58) (ht := by decide) ?_
    exact xr_drop (L9 := [xZ, xR x1, xI x2, xR x3, xI x4, xI x5, xR x6, xI x7, xI x8, xZ, xZ, xZ, xZ, xZ, xZ]) (xdrz (xdrs (xdrs (xdrs (xdrs (xdrs (xdrs (xdrs (xdrs (xdrs (xdrs (xdrs (xdrs (xdrs (xdrs xdr0))))))))))))))) hyp
theorem d_DualPivotQuicksort_mergeParts_84 : decode prog_46_method_20_code 84 = .ok (.iload 13, 2) := by decide +kernel
theorem d_DualPivotQuicksort_mergeParts_86 : decode prog_46_method_20_code 86 = .ok (.iload 12, 2) := by decide +kernel
theorem d_DualPivotQuicksort_mergeParts_88 : decode prog_46_method_20_code 88 = .ok (.if_icmp .ge 39, 3) := by decide +kernel
theorem d_DualPivotQuicksort_mergeParts_127 : decode prog_46_method_20_code 127 = .ok (.iload 12, 2) := by decide +kernel
theorem d_DualPivotQuicksort_mergeParts_129 : decode prog_46_method_20_code 129 = .ok (.iload 7, 2) := by decide +kernel
theorem d_DualPivotQuicksort_mergeParts_131 : decode prog_46_method_20_code 131 = .ok (.isub, 1) := by decide +kernel
theorem d_DualPivotQuicksort_mergeParts_132 : decode prog_46_method_20_code 132 = .ok (.iload 9, 2) := by decide +kernel
theorem d_DualPivotQuicksort_mergeParts_134 : decode prog_46_method_20_code 134 = .ok (.iadd, 1) := by decide +kernel
theorem d_DualPivotQuicksort_mergeParts_135 : decode prog_46_method_20_code 135 = .ok (.iload 4, 2) := by decide +kernel
theorem d_DualPivotQuicksort_mergeParts_137 : decode prog_46_method_20_code 137 = .ok (.isub, 1) := by decide +kernel
theorem d_DualPivotQuicksort_mergeParts_138 : decode prog_46_method_20_code 138 = .ok (.istore 13, 2) := by decide +kernel
theorem d_DualPivotQuicksort_mergeParts_140 : decode prog_46_method_20_code 140 = .ok (.aload_n 0, 1) := by decide +kernel
theorem d_DualPivotQuicksort_mergeParts_141 : decode prog_46_method_20_code 141 = .ok (.aload_n 1, 1) := by decide +kernel
theorem d_DualPivotQuicksort_mergeParts_142 : decode prog_46_method_20_code 142 = .ok (.iload_n 2, 1) := by decide +kernel
theorem d_DualPivotQuicksort_mergeParts_143 : decode prog_46_method_20_code 143 = .ok (.iload 13, 2) := by decide +kernel
theorem d_DualPivotQuicksort_mergeParts_145 : decode prog_46_method_20_code 145 = .ok (.iadd, 1) := by decide +kernel
theorem d_DualPivotQuicksort_mergeParts_146 : decode prog_46_method_20_code 146 = .ok (.aload_n 3, 1) := by decide +kernel
theorem d_DualPivotQuicksort_mergeParts_147 : decode prog_46_method_20_code 147 = .ok (.iload 9, 2) := by decide +kernel
theorem d_DualPivotQuicksort_mergeParts_149 : decode prog_46_method_20_code 149 = .ok (.iload 5, 2) := by decide +kernel
theorem d_DualPivotQuicksort_mergeParts_151 : decode prog_46_method_20_code 151 = .ok (.aload 6, 2) := by decide +kernel
theorem d_DualPivotQuicksort_mergeParts_153 : decode prog_46_method_20_code 153 = .ok (.iload 12, 2) := by decide +kernel
theorem d_DualPivotQuicksort_mergeParts_155 : decode prog_46_method_20_code 155 = .ok (.iload 8, 2) := by decide +kernel
theorem d_DualPivotQuicksort_mergeParts_157 : decode prog_46_method_20_code 157 = .ok (.invokevirtual 95, 3) := by decide +kernel
theorem d_DualPivotQuicksort_mergeParts_91 : decode prog_46_method_20_code 91 = .ok (.iload 13, 2) := by decide +kernel
theorem d_DualPivotQuicksort_mergeParts_93 : decode prog_46_method_20_code 93 = .ok (.iload 12, 2) := by decide +kernel
theorem d_DualPivotQuicksort_mergeParts_95 : decode prog_46_method_20_code 95 = .ok (.iadd, 1) := by decide +kernel
theorem d_DualPivotQuicksort_mergeParts_96 : decode prog_46_method_20_code 96 = .ok (.iconst 1, 1) := by decide +kernel
theorem d_DualPivotQuicksort_mergeParts_97 : decode prog_46_method_20_code 97 = .ok (.iushr, 1) := by decide +kernel
theorem d_DualPivotQuicksort_mergeParts_98 : decode prog_46_method_20_code 98 = .ok (.istore 14, 2) := by decide +kernel
theorem d_DualPivotQuicksort_mergeParts_100 : decode prog_46_method_20_code 100 = .ok (.lload 10, 2) := by decide +kernel
theorem d_DualPivotQuicksort_mergeParts_102 : decode prog_46_method_20_code 102 = .ok (.aload 6, 2) := by decide +kernel
theorem d_DualPivotQuicksort_mergeParts_104 : decode prog_46_method_20_code 104 = .ok (.iload 14, 2) := by decide +kernel
theorem d_DualPivotQuicksort_mergeParts_106 : decode prog_46_method_20_code 106 = .ok (.laload, 1) := by decide +kernel
theorem d_DualPivotQuicksort_mergeParts_107 : decode prog_46_method_20_code 107 = .ok (.lcmp, 1) := by decide +kernel
theorem d_DualPivotQuicksort_mergeParts_108 : decode prog_46_method_20_code 108 = .ok (.ifCond .le 12, 3) := by decide +kernel
theorem d_DualPivotQuicksort_mergeParts_120 : decode prog_46_method_20_code 120 = .ok (.iload 14, 2) := by decide +kernel
theorem d_DualPivotQuicksort_mergeParts_122 : decode prog_46_method_20_code 122 = .ok (.istore 12, 2) := by decide +kernel
theorem d_DualPivotQuicksort_mergeParts_124 : decode prog_46_method_20_code 124 = .ok (.goto (-40), 3) := by decide +kernel
theorem d_DualPivotQuicksort_mergeParts_111 : decode prog_46_method_20_code 111 = .ok (.iload 14, 2) := by decide +kernel
theorem d_DualPivotQuicksort_mergeParts_113 : decode prog_46_method_20_code 113 = .ok (.iconst 1, 1) := by decide +kernel
theorem d_DualPivotQuicksort_mergeParts_114 : decode prog_46_method_20_code 114 = .ok (.iadd, 1) := by decide +kernel
theorem d_DualPivotQuicksort_mergeParts_115 : decode prog_46_method_20_code 115 = .ok (.istore 13, 2) := by decide +kernel
theorem d_DualPivotQuicksort_mergeParts_117 : decode prog_46_method_20_code 117 = .ok (.goto 7, 3) := by decide +kernel
theorem v_DualPivotQuicksort_mergeParts_84 {G : XG} {d : Nat} {h : XH} {Q : XV → XH → Prop} {X : Nat → XH → Prop} {x1 x2 x3 x4 x5 x6 x7 x8 x9 x10 x12 x13 : Int} (F : xFix h) (hyp : ((x12 ≤ x13 → xiR (x12 - x7) ∧ xiR ((x12 - x7) + x9) ∧ xiR (((x12 - x7) + x9) - x4) ∧ xiR (x2 + (((x12 - x7) + x9) - x4)) ∧ False) ∧ (¬ x12 ≤ x13 → xiR (x13 + x12) ∧ xtg h x6 = 101 ∧ 0 ≤ (xushr (x13 + x12) 1) ∧ (xushr (x13 + x12) 1) < (xln h x6) ∧ ((x10 ≤ (xpl h x6 (xushr (x13 + x12) 1)) → (xwp G m_DualPivotQuicksort_mergeParts (d + 1) 84 [xR (-1), xR x1, xI x2, xR x3, xI x4, xI x5, xR x6, xI x7, xI x8, xI x9, xL x10, xZ, xI (xushr (x13 + x12) 1), xI x13, xZ] [] h Q X)) ∧ (¬ x10 ≤ (xpl h x6 (xushr (x13 + x12) 1)) → xiR ((xushr (x13 + x12) 1) + 1) ∧ (xwp G m_DualPivotQuicksort_mergeParts (d + 1) 84 [xR (-1), xR x1, xI x2, xR x3, xI x4, xI x5, xR x6, xI x7, xI x8, xI x9, xL x10, xZ, xI x12, xI ((xushr (x13 + x12) 1) + 1), xZ] [] h Q X)))))) : xwp G m_DualPivotQuicksort_mergeParts (d + 1) 84 [xR (-1), xR x1, xI x2, xR x3, xI x4, xI x5, xR x6, xI x7, xI x8, xI x9, xL x10, xZ, xI x12, xI x13, xZ] [] h Q X := by
  have hnx9 : (93 : Int) ≤ xnx h := F.2.2
  refine xr_okL (fun hl9 => ?_)
  have r_x2 : -2147483648 ≤ x2 ∧ x2 ≤ 2147483647 := hl9 (xI x2) (.tail _ (.tail _ (.head _))) (Nat.le_of_ble_eq_true rfl)
  have r_x4 : -2147483648 ≤ x4 ∧ x4 ≤ 2147483647 := hl9 (xI x4) (.tail _ (.tail _ (.tail _ (.tail _ (.head _))))) (Nat.le_of_ble_eq_true rfl)
  have r_x5 : -2147483648 ≤ x5 ∧ x5 ≤ 2147483647 := hl9 (xI x5) (.tail _ (.tail _ (.tail _ (.tail _ (.tail _ (.head _)))))) (Nat.le_of_ble_eq_true rfl)
  have r_x7 : -2147483648 ≤ x7 ∧ x7 ≤ 2147483647 := hl9 (xI x7) (.tail _ (.tail _ (.tail _ (.tail _ (.tail _ (.tail _ (.tail _ (.head _)))))))) (Nat.le_of_ble_eq_true rfl)
  have r_x8 : -2147483648 ≤ x8 ∧ x8 ≤ 2147483647 := hl9 (xI x8) (.tail _ (.tail _ (.tail _ (.tail _ (.tail _ (.tail _ (.tail _ (.tail _ (.head _))))))))) (Nat.le_of_ble_eq_true rfl)
  have r_x9 : -2147483648 ≤ x9 ∧ x9 ≤ 2147483647 := hl9 (xI x9) (.tail _ (.tail _ (.tail _ (.tail _ (.tail _ (.tail _ (.tail _ (.tail _ (.tail _ (.head _)))))))))) (Nat.le_of_ble_eq_true rfl)
  have r_x10 : -9223372036854775808 ≤ x10 ∧ x10 ≤ 9223372036854775807 := hl9 (xL x10) (.tail _ (.tail _ (.tail _ (.tail _ (.tail _ (.tail _ (.tail _ (.tail _ (.tail _ (.tail _ (.head _))))))))))) (Nat.le_of_ble_eq_true rfl)
  have r_x12 : -2147483648 ≤ x12 ∧ x12 ≤ 2147483647 := hl9 (xI x12) (.tail _ (.tail _ (.tail _ (.tail _ (.tail _ (.tail _ (.tail _ (.tail _ (.tail _ (.tail _ (.tail _ (.tail _ (.head _))))))))))))) (Nat.le_of_ble_eq_true rfl)
  have r_x13 : -2147483648 ≤ x13 ∧ x13 ≤ 2147483647 := hl9 (xI x13) (.tail _ (.tail _ (.tail _ (.tail _ (.tail _ (.tail _ (.tail _ (.tail _ (.tail _ (.tail _ (.tail _ (.tail _ (.tail _ (.head _)))))))))))))) (Nat.le_of_ble_eq_true rfl)
  refine xr_iload (pc := 84) (i := 13) (hI := d_DualPivotQuicksort_mergeParts_84) (hl := rfl) ?_
  refine xr_iload (pc := 86) (i := 12) (hI := d_DualPivotQuicksort_mergeParts_86) (hl := rfl) ?_
  refine xr_icmp_ge (pc := 88) (tgt := 127) (hI := d_DualPivotQuicksort_mergeParts_88) (ht := by decide) (fun q9 => ?_) (fun q9 => ?_)
  · replace hyp := hyp.1 q9
    have q1_ := q9
    clear q9
    refine xr_iload (pc := 127) (i := 12) (hI := d_DualPivotQuicksort_mergeParts_127) (hl := rfl) ?_
    refine xr_iload (pc := 129) (i := 7) (hI := d_DualPivotQuicksort_mergeParts_129) (hl := rfl) ?_
    obtain ⟨c9, hyp⟩ := hyp
    refine xr_isub (pc := 131) (hI := d_DualPivotQuicksort_mergeParts_131) (hr := c9) ?_
    refine xr_iload (pc := 132) (i := 9) (hI := d_DualPivotQuicksort_mergeParts_132) (hl := rfl) ?_
    obtain ⟨c9, hyp⟩ := hyp
    refine xr_iadd (pc := 134) (hI := d_DualPivotQuicksort_mergeParts_134) (hr := c9) ?_
    refine xr_iload (pc := 135) (i := 4) (hI := d_DualPivotQuicksort_mergeParts_135) (hl := rfl) ?_
    obtain ⟨c9, hyp⟩ := hyp
    refine xr_isub (pc := 137) (hI := d_DualPivotQuicksort_mergeParts_137) (hr := c9) ?_
    refine xr_istore (pc := 138) (i := 13) (L9 := [xR (-1), xR x1, xI x2, xR x3, xI x4, xI x5, xR x6, xI x7, xI x8, xI x9, xL x10, xZ, xI x12, xI (((x12 - x7) + x9) - x4), xZ]) (hI := d_DualPivotQuicksort_mergeParts_138) (hn := Nat.le_of_ble_eq_true rfl) (hL9 := rfl) ?_
    refine xr_aload_n (pc := 140) (i := 0) (hI := d_DualPivotQuicksort_mergeParts_140) (hi := rfl) (hl := rfl) ?_
    refine xr_aload_n (pc := 141) (i := 1) (hI := d_DualPivotQuicksort_mergeParts_141) (hi := rfl) (hl := rfl) ?_
    refine xr_iload_n (pc := 142) (i := 2) (hI := d_DualPivotQuicksort_mergeParts_142) (hi := rfl) (hl := rfl) ?_
    refine xr_iload (pc := 143) (i := 13) (hI := d_DualPivotQuicksort_mergeParts_143) (hl := rfl) ?_
    obtain ⟨c9, hyp⟩ := hyp
    refine xr_iadd (pc := 145) (hI := d_DualPivotQuicksort_mergeParts_145) (hr := c9) ?_
    refine xr_aload_n (pc := 146) (i := 3) (hI := d_DualPivotQuicksort_mergeParts_146) (hi := rfl) (hl := rfl) ?_
    refine xr_iload (pc := 147) (i := 9) (hI := d_DualPivotQuicksort_mergeParts_147) (hl := rfl) ?_
    refine xr_iload (pc := 149) (i := 5) (hI := d_DualPivotQuicksort_mergeParts_149) (hl := rfl) ?_
    refine xr_aload (pc := 151) (i := 6) (hI := d_DualPivotQuicksort_mergeParts_151) (hl := rfl) ?_
    refine xr_iload (pc := 153) (i := 12) (hI := d_DualPivotQuicksort_mergeParts_153) (hl := rfl) ?_
    refine xr_iload (pc := 155) (i := 8) (hI := d_DualPivotQuicksort_mergeParts_155) (hl := rfl) ?_
    exact hyp.elim
  · replace hyp := hyp.2 q9
    have q1_ := q9
    clear q9
    refine xr_iload (pc := 91) (i := 13) (hI := d_DualPivotQuicksort_mergeParts_91) (hl := rfl) ?_
    refine xr_iload (pc := 93) (i := 12) (hI := d_DualPivotQuicksort_mergeParts_93) (hl := rfl) ?_
    obtain ⟨c9, hyp⟩ := hyp
    refine xr_iadd (pc := 95) (hI := d_DualPivotQuicksort_mergeParts_95) (hr := c9) ?_
    refine xr_iconst (pc := 96) (hI := d_DualPivotQuicksort_mergeParts_96) (hr := by decide) ?_
    refine xr_iushr (pc := 97) (hI := d_DualPivotQuicksort_mergeParts_97) ?_
    have f2_ : -2147483648 ≤ (xushr (x13 + x12) 1) ∧ (xushr (x13 + x12) 1) ≤ 2147483647 := xi_toR _
    refine xr_istore (pc := 98) (i := 14) (L9 := [xR (-1), xR x1, xI x2, xR x3, xI x4, xI x5, xR x6, xI x7, xI x8, xI x9, xL x10, xZ, xI x12, xI x13, xI (xushr (x13 + x12) 1)]) (hI := d_DualPivotQuicksort_mergeParts_98) (hn := Nat.le_of_ble_eq_true rfl) (hL9 := rfl) ?_
    refine xr_lload (pc := 100) (i := 10) (hI := d_DualPivotQuicksort_mergeParts_100) (hl := rfl) ?_
    refine xr_aload (pc := 102) (i := 6) (hI := d_DualPivotQuicksort_mergeParts_102) (hl := rfl) ?_
    refine xr_iload (pc := 104) (i := 14) (hI := d_DualPivotQuicksort_mergeParts_104) (hl := rfl) ?_
    obtain ⟨c9, hyp⟩ := hyp
    have t3_ := c9
    clear c9
    obtain ⟨c4_, hyp⟩ := hyp
    obtain ⟨c5_, hyp⟩ := hyp
    refine xg_laload (pc := 106) (v := (xpl h x6 (xushr (x13 + x12) 1))) (hI := d_DualPivotQuicksort_mergeParts_106) t3_ c4_ (xlt_of rfl c5_) rfl (fun f6_ => ?_)
    replace f6_ : -9223372036854775808 ≤ (xpl h x6 (xushr (x13 + x12) 1)) ∧ (xpl h x6 (xushr (x13 + x12) 1)) ≤ 9223372036854775807 := f6_
    refine xr_lcmp (pc := 107) (hI := d_DualPivotQuicksort_mergeParts_107) ?_
    refine xg_lif_le (pc := 108) (tgt := 120) (hI := d_DualPivotQuicksort_mergeParts_108) (ht := by decide) (fun q9 => ?_) (fun q9 => ?_)
    · replace hyp := hyp.1 q9
      have q7_ := q9
      clear q9
      refine xr_iload (pc := 120) (i := 14) (hI := d_DualPivotQuicksort_mergeParts_120) (hl := rfl) ?_
      refine xr_istore (pc := 122) (i := 12) (L9 := [xR (-1), xR x1, xI x2, xR x3, xI x4, xI x5, xR x6, xI x7, xI x8, xI x9, xL x10, xZ, xI (xushr (x13 + x12) 1), xI x13, xI (xushr (x13 + x12) 1)]) (hI := d_DualPivotQuicksort_mergeParts_122) (hn := Nat.le_of_ble_eq_true rfl) (hL9 := rfl) ?_
      refine xr_goto (pc := 124) (tgt := 84) (hI := d_DualPivotQuicksort_mergeParts_124) (ht := by decide) ?_
      exact xr_drop (L9 := [xR (-1), xR x1, xI x2, xR x3, xI x4, xI x5, xR x6, xI x7, xI x8, xI x9, xL x10, xZ, xI (xushr (x13 + x12) 1), xI x13, xZ]) (xdrs (xdrs (xdrs (xdrs (xdrs (xdrs (xdrs (xdrs (xdrs (xdrs (xdrs (xdrs (xdrs (xdrs (xdrz xdr0))))))))))))))) hyp
    · replace hyp := hyp.2 q9
      have q7_ := q9
      clear q9
      refine xr_iload (pc := 111) (i := 14) (hI := d_DualPivotQuicksort_mergeParts_111) (hl := rfl) ?_
      refine xr_iconst (pc := 113) (hI := d_DualPivotQuicksort_mergeParts_113) (hr := by decide) ?_
      obtain ⟨c9, hyp⟩ := hyp
      refine xr_iadd (pc := 114) (hI := d_DualPivotQuicksort_mergeParts_114) (hr := c9) ?_
      refine xr_istore (pc := 115) (i := 13) (L9 := [xR (-1), xR x1, xI x2, xR x3, xI x4, xI x5, xR x6, xI x7, xI x8, xI x9, xL x10, xZ, xI x12, xI ((xushr (x13 + x12) 1) + 1), xI (xushr (x13 + x12) 1)]) (hI := d_DualPivotQuicksort_mergeParts_115) (hn := Nat.le_of_ble_eq_true rfl) (hL9 := rfl) ?_
      refine xr_goto (pc := 117) (tgt := 124) (hI := d_DualPivotQuicksort_mergeParts_117) (ht := by decide) ?_
      refine xr_goto (pc := 124) (tgt := 84) (hI := d_DualPivotQuicksort_mergeParts_124) (ht := by decide) ?_
      exact xr_drop (L9 := [xR (-1), xR x1, xI x2, xR x3, xI x4, xI x5, xR x6, xI x7, xI x8, xI x9, xL x10, xZ, xI x12, xI ((xushr (x13 + x12) 1) + 1), xZ]) (xdrs (xdrs (xdrs (xdrs (xdrs (xdrs (xdrs (xdrs (xdrs (xdrs (xdrs (xdrs (xdrs (xdrs (xdrz xdr0))))))))))))))) hyp
theorem d_DualPivotQuicksort_mergeParts_171 : decode prog_46_method_20_code 171 = .ok (.iload 4, 2) := by decide +kernel
theorem d_DualPivotQuicksort_mergeParts_173 : decode prog_46_method_20_code 173 = .ok (.iload 5, 2) := by decide +kernel
theorem d_DualPivotQuicksort_mergeParts_175 : decode prog_46_method_20_code 175 = .ok (.if_icmp .ge 50, 3) := by decide +kernel
theorem d_DualPivotQuicksort_mergeParts_178 : decode prog_46_method_20_code 178 = .ok (.iload 7, 2) := by decide +kernel
theorem d_DualPivotQuicksort_mergeParts_180 : decode prog_46_method_20_code 180 = .ok (.iload 8, 2) := by decide +kernel
theorem d_DualPivotQuicksort_mergeParts_182 : decode prog_46_method_20_code 182 = .ok (.if_icmp .ge 43, 3) := by decide +kernel
theorem d_DualPivotQuicksort_mergeParts_185 : decode prog_46_method_20_code 185 = .ok (.aload_n 1, 1) := by decide +kernel
theorem d_DualPivotQuicksort_mergeParts_186 : decode prog_46_method_20_code 186 = .ok (.iload_n 2, 1) := by decide +kernel
theorem d_DualPivotQuicksort_mergeParts_187 : decode prog_46_method_20_code 187 = .ok (.iinc 2 1, 3) := by decide +kernel
theorem d_DualPivotQuicksort_mergeParts_190 : decode prog_46_method_20_code 190 = .ok (.aload_n 3, 1) := by decide +kernel
theorem d_DualPivotQuicksort_mergeParts_191 : decode prog_46_method_20_code 191 = .ok (.iload 4, 2) := by decide +kernel
theorem d_DualPivotQuicksort_mergeParts_193 : decode prog_46_method_20_code 193 = .ok (.laload, 1) := by decide +kernel
theorem d_DualPivotQuicksort_mergeParts_194 : decode prog_46_method_20_code 194 = .ok (.aload 6, 2) := by decide +kernel
theorem d_DualPivotQuicksort_mergeParts_196 : decode prog_46_method_20_code 196 = .ok (.iload 7, 2) := by decide +kernel
theorem d_DualPivotQuicksort_mergeParts_198 : decode prog_46_method_20_code 198 = .ok (.laload, 1) := by decide +kernel
theorem d_DualPivotQuicksort_mergeParts_199 : decode prog_46_method_20_code 199 = .ok (.lcmp, 1) := by decide +kernel
theorem d_DualPivotQuicksort_mergeParts_200 : decode prog_46_method_20_code 200 = .ok (.ifCond .ge 13, 3) := by decide +kernel
theorem d_DualPivotQuicksort_mergeParts_213 : decode prog_46_method_20_code 213 = .ok (.aload 6, 2) := by decide +kernel
theorem d_DualPivotQuicksort_mergeParts_215 : decode prog_46_method_20_code 215 = .ok (.iload 7, 2) := by decide +kernel
theorem d_DualPivotQuicksort_mergeParts_217 : decode prog_46_method_20_code 217 = .ok (.iinc 7 1, 3) := by decide +kernel
theorem d_DualPivotQuicksort_mergeParts_220 : decode prog_46_method_20_code 220 = .ok (.laload, 1) := by decide +kernel
theorem d_DualPivotQuicksort_mergeParts_221 : decode prog_46_method_20_code 221 = .ok (.lastore, 1) := by decide +kernel
theorem d_DualPivotQuicksort_mergeParts_222 : decode prog_46_method_20_code 222 = .ok (.goto (-51), 3) := by decide +kernel
theorem d_DualPivotQuicksort_mergeParts_203 : decode prog_46_method_20_code 203 = .ok (.aload_n 3, 1) := by decide +kernel
theorem d_DualPivotQuicksort_mergeParts_204 : decode prog_46_method_20_code 204 = .ok (.iload 4, 2) := by decide +kernel
theorem d_DualPivotQuicksort_mergeParts_206 : decode prog_46_method_20_code 206 = .ok (.iinc 4 1, 3) := by decide +kernel
theorem d_DualPivotQuicksort_mergeParts_209 : decode prog_46_method_20_code 209 = .ok (.laload, 1) := by decide +kernel
theorem d_DualPivotQuicksort_mergeParts_210 : decode prog_46_method_20_code 210 = .ok (.goto 11, 3) := by decide +kernel
theorem v_DualPivotQuicksort_mergeParts_171 {G : XG} {d : Nat} {h : XH} {Q : XV → XH → Prop} {X : Nat → XH → Prop} {x1 x2 x3 x4 x5 x6 x7 x8 : Int} (F : xFix h) (hyp : ((x5 ≤ x4 → (xwp G m_DualPivotQuicksort_mergeParts (d + 1) 225 [xZ, xR x1, xI x2, xR x3, xI x4, xI x5, xR x6, xI x7, xI x8, xZ, xZ, xZ, xZ, xZ, xZ] [] h Q X)) ∧ (¬ x5 ≤ x4 → ((x8 ≤ x7 → (xwp G m_DualPivotQuicksort_mergeParts (d + 1) 225 [xZ, xR x1, xI x2, xR x3, xI x4, xI x5, xR x6, xI x7, xI x8, xZ, xZ, xZ, xZ, xZ, xZ] [] h Q X)) ∧ (¬ x8 ≤ x7 → xiR (x2 + 1) ∧ xtg h x3 = 101 ∧ 0 ≤ x4 ∧ x4 < (xln h x3) ∧ xtg h x6 = 101 ∧ 0 ≤ x7 ∧ x7 < (xln h x6) ∧ (((xpl h x6 x7) ≤ (xpl h x3 x4) → xtg h x1 = 101 ∧ 0 ≤ x1 ∧ 0 ≤ x2 ∧ x2 < (xln h x1) ∧ (xFix (xst h x1 x2 (xpl h x6 x7)) → xwp G m_DualPivotQuicksort_mergeParts (d + 1) 171 [xZ, xR x1, xI (x2 + 1), xR x3, xI x4, xI x5, xR x6, xI (x7 + 1), xI x8, xZ, xZ, xZ, xZ, xZ, xZ] [] (xst h x1 x2 (xpl h x6 x7)) Q X)) ∧ (¬ (xpl h x6 x7) ≤ (xpl h x3 x4) → xtg h x1 = 101 ∧ 0 ≤ x1 ∧ 0 ≤ x2 ∧ x2 < (xln h x1) ∧ (xFix (xst h x1 x2 (xpl h x3 x4)) → xwp G m_DualPivotQuicksort_mergeParts (d + 1) 171 [xZ, xR x1, xI (x2 + 1), xR x3, xI (x4 + 1), xI x5, xR x6, xI x7, xI x8, xZ, xZ, xZ, xZ, xZ, xZ] [] (xst h x1 x2 (xpl h x3 x4)) Q X)))))))) : xwp G m_DualPivotQuicksort_mergeParts (d + 1) 171 [xZ, xR x1, xI x2, xR x3, xI x4, xI x5, xR x6, xI x7, xI x8, xZ, xZ, xZ, xZ, xZ, xZ] [] h Q X := by
  have hnx9 : (93 : Int) ≤ xnx h := F.2.2
  refine xr_okL (fun hl9 => ?_)
  have r_x2 : -2147483648 ≤ x2 ∧ x2 ≤ 2147483647 := hl9 (xI x2) (.tail _ (.tail _ (.head _))) (Nat.le_of_ble_eq_true rfl)
  have r_x4 : -2147483648 ≤ x4 ∧ x4 ≤ 2147483647 := hl9 (xI x4) (.tail _ (.tail _ (.tail _ (.tail _ (.head _))))) (Nat.le_of_ble_eq_true rfl)
  have r_x5 : -2147483648 ≤ x5 ∧ x5 ≤ 2147483647 := hl9 (xI x5) (.tail _ (.tail _ (.tail _ (.tail _ (.tail _ (.head _)))))) (Nat.le_of_ble_eq_true rfl)
  have r_x7 : -2147483648 ≤ x7 ∧ x7 ≤ 2147483647 := hl9 (xI x7) (.tail _ (.tail _ (.tail _ (.tail _ (.tail _ (.tail _ (.tail _ (.head _)))))))) (Nat.le_of_ble_eq_true rfl)
  have r_x8 : -2147483648 ≤ x8 ∧ x8 ≤ 2147483647 := hl9 (xI x8) (.tail _ (.tail _ (.tail _ (.tail _ (.tail _ (.tail _ (.tail _ (.tail _ (.head _))))))))) (Nat.le_of_ble_eq_true rfl)
  refine xr_iload (pc := 171) (i := 4) (hI := d_DualPivotQuicksort_mergeParts_171) (hl := rfl) ?_
  refine xr_iload (pc := 173) (i := 5) (hI := d_DualPivotQuicksort_mergeParts_173) (hl := rfl) ?_
  refine xr_icmp_ge (pc := 175) (tgt := 225) (hI := d_DualPivotQuicksort_mergeParts_175) (ht := by decide) (fun q9 => ?_) (fun q9 => ?_)
  · replace hyp := hyp.1 q9
    have q1_ := q9
    clear q9
    exact hyp
  · replace hyp := hyp.2 q9
    have q1_ := q9
    clear q9
    refine xr_iload (pc := 178) (i := 7) (hI := d_DualPivotQuicksort_mergeParts_178) (hl := rfl) ?_
    refine xr_iload (pc := 180) (i := 8) (hI := d_DualPivotQuicksort_mergeParts_180) (hl := rfl) ?_
    refine xr_icmp_ge (pc := 182) (tgt := 225) (hI := d_DualPivotQuicksort_mergeParts_182) (ht := by decide) (fun q9 => ?_) (fun q9 => ?_)
    · replace hyp := hyp.1 q9
      have q2_ := q9
      clear q9
      exact hyp
    · replace hyp := hyp.2 q9
      have q2_ := q9
      clear q9
      refine xr_aload_n (pc := 185) (i := 1) (hI := d_DualPivotQuicksort_mergeParts_185) (hi := rfl) (hl := rfl) ?_
      refine xr_iload_n (pc := 186) (i := 2) (hI := d_DualPivotQuicksort_mergeParts_186) (hi := rfl) (hl := rfl) ?_
      obtain ⟨c9, hyp⟩ := hyp
      refine xr_iinc (pc := 187) (i := 2) (L9 := [xZ, xR x1, xI (x2 + 1), xR x3, xI x4, xI x5, xR x6, xI x7, xI x8, xZ, xZ, xZ, xZ, xZ, xZ]) (hI := d_DualPivotQuicksort_mergeParts_187) (hl := rfl) (hn := Nat.le_of_ble_eq_true rfl) (hr := c9) (hL9 := rfl) ?_
      refine xr_aload_n (pc := 190) (i := 3) (hI := d_DualPivotQuicksort_mergeParts_190) (hi := rfl) (hl := rfl) ?_
      refine xr_iload (pc := 191) (i := 4) (hI := d_DualPivotQuicksort_mergeParts_191) (hl := rfl) ?_
      obtain ⟨c9, hyp⟩ := hyp
      have t3_ := c9
      clear c9
      obtain ⟨c4_, hyp⟩ := hyp
      obtain ⟨c5_, hyp⟩ := hyp
      refine xg_laload (pc := 193) (v := (xpl h x3 x4)) (hI := d_DualPivotQuicksort_mergeParts_193) t3_ c4_ (xlt_of rfl c5_) rfl (fun f6_ => ?_)
      replace f6_ : -9223372036854775808 ≤ (xpl h x3 x4) ∧ (xpl h x3 x4) ≤ 9223372036854775807 := f6_
      refine xr_aload (pc := 194) (i := 6) (hI := d_DualPivotQuicksort_mergeParts_194) (hl := rfl) ?_
      refine xr_iload (pc := 196) (i := 7) (hI := d_DualPivotQuicksort_mergeParts_196) (hl := rfl) ?_
      obtain ⟨c9, hyp⟩ := hyp
      have t7_ := c9
      clear c9
      obtain ⟨c8_, hyp⟩ := hyp
      obtain ⟨c9_, hyp⟩ := hyp
      refine xg_laload (pc := 198) (v := (xpl h x6 x7)) (hI := d_DualPivotQuicksort_mergeParts_198) t7_ c8_ (xlt_of rfl c9_) rfl (fun f10_ => ?_)
      replace f10_ : -9223372036854775808 ≤ (xpl h x6 x7) ∧ (xpl h x6 x7) ≤ 9223372036854775807 := f10_
      refine xr_lcmp (pc := 199) (hI := d_DualPivotQuicksort_mergeParts_199) ?_
      refine xg_lif_ge (pc := 200) (tgt := 213) (hI := d_DualPivotQuicksort_mergeParts_200) (ht := by decide) (fun q9 => ?_) (fun q9 => ?_)
      · replace hyp := hyp.1 q9
        have q11_ := q9
        clear q9
        refine xr_aload (pc := 213) (i := 6) (hI := d_DualPivotQuicksort_mergeParts_213) (hl := rfl) ?_
        refine xr_iload (pc := 215) (i := 7) (hI := d_DualPivotQuicksort_mergeParts_215) (hl := rfl) ?_
        refine xr_iinc (pc := 217) (i := 7) (L9 := [xZ, xR x1, xI (x2 + 1), xR x3, xI x4, xI x5, xR x6, xI (x7 + 1), xI x8, xZ, xZ, xZ, xZ, xZ, xZ]) (hI := d_DualPivotQuicksort_mergeParts_217) (hl := rfl) (hn := Nat.le_of_ble_eq_true rfl) (hr := ⟨by clear hyp; omega, by clear hyp; omega⟩) (hL9 := rfl) ?_
        refine xg_laload (pc := 220) (v := (xpl h x6 x7)) (hI := d_DualPivotQuicksort_mergeParts_220) t7_ (by clear hyp; omega) (xlt_of rfl (by clear hyp; omega)) rfl (fun f12_ => ?_)
        replace f12_ : -9223372036854775808 ≤ (xpl h x6 x7) ∧ (xpl h x6 x7) ≤ 9223372036854775807 := f12_
        obtain ⟨c9, hyp⟩ := hyp
        have t13_ := c9
        clear c9
        obtain ⟨c14_, hyp⟩ := hyp
        obtain ⟨c15_, hyp⟩ := hyp
        obtain ⟨c16_, hyp⟩ := hyp
        refine xr_lastore (pc := 221) (hI := d_DualPivotQuicksort_mergeParts_221) t13_ c14_ c15_ (xlt_of rfl c16_) ?_
        have F17_ : xFix (xst h x1 x2 (xpl h x6 x7)) := F.stTA (t := 101) c14_ t13_ xta_101
        refine xr_goto (pc := 222) (tgt := 171) (hI := d_DualPivotQuicksort_mergeParts_222) (ht := by decide) ?_
        exact (hyp F17_)
      · replace hyp := hyp.2 q9
        have q11_ := q9
        clear q9
        refine xr_aload_n (pc := 203) (i := 3) (hI := d_DualPivotQuicksort_mergeParts_203) (hi := rfl) (hl := rfl) ?_
        refine xr_iload (pc := 204) (i := 4) (hI := d_DualPivotQuicksort_mergeParts_204) (hl := rfl) ?_
        refine xr_iinc (pc := 206) (i := 4) (L9 := [xZ, xR x1, xI (x2 + 1), xR x3, xI (x4 + 1), xI x5, xR x6, xI x7, xI x8, xZ, xZ, xZ, xZ, xZ, xZ]) (hI := d_DualPivotQuicksort_mergeParts_206) (hl := rfl) (hn := Nat.le_of_ble_eq_true rfl) (hr := ⟨by clear hyp; omega, by clear hyp; omega⟩) (hL9 := rfl) ?_
        refine xg_laload (pc := 209) (v := (xpl h x3 x4)) (hI := d_DualPivotQuicksort_mergeParts_209) t3_ (by clear hyp; omega) (xlt_of rfl (by clear hyp; omega)) rfl (fun f18_ => ?_)
        replace f18_ : -9223372036854775808 ≤ (xpl h x3 x4) ∧ (xpl h x3 x4) ≤ 9223372036854775807 := f18_
        refine xr_goto (pc := 210) (tgt := 221) (hI := d_DualPivotQuicksort_mergeParts_210) (ht := by decide) ?_
        obtain ⟨c9, hyp⟩ := hyp
        have t19_ := c9
        clear c9
        obtain ⟨c20_, hyp⟩ := hyp
        obtain ⟨c21_, hyp⟩ := hyp
        obtain ⟨c22_, hyp⟩ := hyp
        refine xr_lastore (pc := 221) (hI := d_DualPivotQuicksort_mergeParts_221) t19_ c20_ c21_ (xlt_of rfl c22_) ?_
        have F23_ : xFix (xst h x1 x2 (xpl h x3 x4)) := F.stTA (t := 101) c20_ t19_ xta_101
        refine xr_goto (pc := 222) (tgt := 171) (hI := d_DualPivotQuicksort_mergeParts_222) (ht := by decide) ?_
        exact (hyp F23_)
theorem d_DualPivotQuicksort_mergeParts_225 : decode prog_46_method_20_code 225 = .ok (.aload_n 1, 1) := by decide +kernel
theorem d_DualPivotQuicksort_mergeParts_226 : decode prog_46_method_20_code 226 = .ok (.aload_n 3, 1) := by decide +kernel
theorem d_DualPivotQuicksort_mergeParts_227 : decode prog_46_method_20_code 227 = .ok (.if_acmp .ne 9, 3) := by decide +kernel
theorem d_DualPivotQuicksort_mergeParts_230 : decode prog_46_method_20_code 230 = .ok (.iload_n 2, 1) := by decide +kernel
theorem d_DualPivotQuicksort_mergeParts_231 : decode prog_46_method_20_code 231 = .ok (.iload 4, 2) := by decide +kernel
theorem d_DualPivotQuicksort_mergeParts_233 : decode prog_46_method_20_code 233 = .ok (.if_icmp .ge 26, 3) := by decide +kernel
theorem v_DualPivotQuicksort_mergeParts_225 {G : XG} {d : Nat} {h : XH} {Q : XV → XH → Prop} {X : Nat → XH → Prop} {x1 x2 x3 x4 x5 x6 x7 x8 : Int} (F : xFix h) (hyp : (x1 = x3 ∨ ((-1 ≤ x1 ∨ -1 ≤ x3) ∧ (-1 ≤ x1 ∨ xtg h x1 < 200) ∧ (-1 ≤ x3 ∨ xtg h x3 < 200))) ∧ ((x1 = x3 → ((x4 ≤ x2 → (xwp G m_DualPivotQuicksort_mergeParts (d + 1) 259 [xZ, xR x1, xI x2, xZ, xZ, xZ, xR x6, xI x7, xI x8, xZ, xZ, xZ, xZ, xZ, xZ] [] h Q X)) ∧ (¬ x4 ≤ x2 → (xwp G m_DualPivotQuicksort_mergeParts (d + 1) 236 [xZ, xR x1, xI x2, xR x3, xI x4, xI x5, xR x6, xI x7, xI x8, xZ, xZ, xZ, xZ, xZ, xZ] [] h Q X)))) ∧ (¬ x1 = x3 → (xwp G m_DualPivotQuicksort_mergeParts (d + 1) 236 [xZ, xR x1, xI x2, xR x3, xI x4, xI x5, xR x6, xI x7, xI x8, xZ, xZ, xZ, xZ, xZ, xZ] [] h Q X)))) : xwp G m_DualPivotQuicksort_mergeParts (d + 1) 225 [xZ, xR x1, xI x2, xR x3, xI x4, xI x5, xR x6, xI x7, xI x8, xZ, xZ, xZ, xZ, xZ, xZ] [] h Q X := by
  have hnx9 : (93 : Int) ≤ xnx h := F.2.2
  refine xr_okL (fun hl9 => ?_)
  have r_x2 : -2147483648 ≤ x2 ∧ x2 ≤ 2147483647 := hl9 (xI x2) (.tail _ (.tail _ (.head _))) (Nat.le_of_ble_eq_true rfl)
  have r_x4 : -2147483648 ≤ x4 ∧ x4 ≤ 2147483647 := hl9 (xI x4) (.tail _ (.tail _ (.tail _ (.tail _ (.head _))))) (Nat.le_of_ble_eq_true rfl)
  have r_x5 : -2147483648 ≤ x5 ∧ x5 ≤ 2147483647 := hl9 (xI x5) (.tail _ (.tail _ (.tail _ (.tail _ (.tail _ (.head _)))))) (Nat.le_of_ble_eq_true rfl)
  have r_x7 : -2147483648 ≤ x7 ∧ x7 ≤ 2147483647 := hl9 (xI x7) (.tail _ (.tail _ (.tail _ (.tail _ (.tail _ (.tail _ (.tail _ (.head _)))))))) (Nat.le_of_ble_eq_true rfl)
  have r_x8 : -2147483648 ≤ x8 ∧ x8 ≤ 2147483647 := hl9 (xI x8) (.tail _ (.tail _ (.tail _ (.tail _ (.tail _ (.tail _ (.tail _ (.tail _ (.head _))))))))) (Nat.le_of_ble_eq_true rfl)
  refine xr_aload_n (pc := 225) (i := 1) (hI := d_DualPivotQuicksort_mergeParts_225) (hi := rfl) (hl := rfl) ?_
  refine xr_aload_n (pc := 226) (i := 3) (hI := d_DualPivotQuicksort_mergeParts_226) (hi := rfl) (hl := rfl) ?_
  obtain ⟨c9, hyp⟩ := hyp
  refine xr_acmp_ne (pc := 227) (tgt := 236) (hI := d_DualPivotQuicksort_mergeParts_227) (ht := by decide) (h1 := c9) (fun q9 => ?_) (fun q9 => ?_)
  · replace hyp := hyp.2 q9
    have q1_ := q9
    clear q9
    exact hyp
  · replace hyp := hyp.1 q9
    have q1_ := q9
    clear q9
    refine xr_iload_n (pc := 230) (i := 2) (hI := d_DualPivotQuicksort_mergeParts_230) (hi := rfl) (hl := rfl) ?_
    refine xr_iload (pc := 231) (i := 4) (hI := d_DualPivotQuicksort_mergeParts_231) (hl := rfl) ?_
    refine xr_icmp_ge (pc := 233) (tgt := 259) (hI := d_DualPivotQuicksort_mergeParts_233) (ht := by decide) (fun q9 => ?_) (fun q9 => ?_)
    · replace hyp := hyp.1 q9
      have q2_ := q9
      clear q9
      exact xr_drop (L9 := [xZ, xR x1, xI x2, xZ, xZ, xZ, xR x6, xI x7, xI x8, xZ, xZ, xZ, xZ, xZ, xZ]) (xdrs (xdrs (xdrs (xdrz (xdrz (xdrz (xdrs (xdrs (xdrs (xdrs (xdrs (xdrs (xdrs (xdrs (xdrs xdr0))))))))))))))) hyp
    · replace hyp := hyp.2 q9
      have q2_ := q9
      clear q9
      exact hyp
theorem d_DualPivotQuicksort_mergeParts_236 : decode prog_46_method_20_code 236 = .ok (.iload 4, 2) := by decide +kernel
theorem d_DualPivotQuicksort_mergeParts_238 : decode prog_46_method_20_code 238 = .ok (.iload 5, 2) := by decide +kernel
theorem d_DualPivotQuicksort_mergeParts_240 : decode prog_46_method_20_code 240 = .ok (.if_icmp .ge 19, 3) := by decide +kernel
theorem d_DualPivotQuicksort_mergeParts_243 : decode prog_46_method_20_code 243 = .ok (.aload_n 1, 1) := by decide +kernel
theorem d_DualPivotQuicksort_mergeParts_244 : decode prog_46_method_20_code 244 = .ok (.iload_n 2, 1) := by decide +kernel
theorem d_DualPivotQuicksort_mergeParts_245 : decode prog_46_method_20_code 245 = .ok (.iinc 2 1, 3) := by decide +kernel
theorem d_DualPivotQuicksort_mergeParts_248 : decode prog_46_method_20_code 248 = .ok (.aload_n 3, 1) := by decide +kernel
theorem d_DualPivotQuicksort_mergeParts_249 : decode prog_46_method_20_code 249 = .ok (.iload 4, 2) := by decide +kernel
theorem d_DualPivotQuicksort_mergeParts_251 : decode prog_46_method_20_code 251 = .ok (.iinc 4 1, 3) := by decide +kernel
theorem d_DualPivotQuicksort_mergeParts_254 : decode prog_46_method_20_code 254 = .ok (.laload, 1) := by decide +kernel
theorem d_DualPivotQuicksort_mergeParts_255 : decode prog_46_method_20_code 255 = .ok (.lastore, 1) := by decide +kernel
theorem d_DualPivotQuicksort_mergeParts_256 : decode prog_46_method_20_code 256 = .ok (.goto (-20), 3) := by decide +kernel
theorem v_DualPivotQuicksort_mergeParts_236 {G : XG} {d : Nat} {h : XH} {Q : XV → XH → Prop} {X : Nat → XH → Prop} {x1 x2 x3 x4 x5 x6 x7 x8 : Int} (F : xFix h) (hyp : ((x5 ≤ x4 → (xwp G m_DualPivotQuicksort_mergeParts (d + 1) 259 [xZ, xR x1, xI x2, xZ, xZ, xZ, xR x6, xI x7, xI x8, xZ, xZ, xZ, xZ, xZ, xZ] [] h Q X)) ∧ (¬ x5 ≤ x4 → xiR (x2 + 1) ∧ xtg h x3 = 101 ∧ 0 ≤ x4 ∧ x4 < (xln h x3) ∧ xtg h x1 = 101 ∧ 0 ≤ x1 ∧ 0 ≤ x2 ∧ x2 < (xln h x1) ∧ (xFix (xst h x1 x2 (xpl h x3 x4)) → xwp G m_DualPivotQuicksort_mergeParts (d + 1) 236 [xZ, xR x1, xI (x2 + 1), xR x3, xI (x4 + 1), xI x5, xR x6, xI x7, xI x8, xZ, xZ, xZ, xZ, xZ, xZ] [] (xst h x1 x2 (xpl h x3 x4)) Q X)))) : xwp G m_DualPivotQuicksort_mergeParts (d + 1) 236 [xZ, xR x1, xI x2, xR x3, xI x4, xI x5, xR x6, xI x7, xI x8, xZ, xZ, xZ, xZ, xZ, xZ] [] h Q X := by
  have hnx9 : (93 : Int) ≤ xnx h := F.2.2
  refine xr_okL (fun hl9 => ?_)
  have r_x2 : -2147483648 ≤ x2 ∧ x2 ≤ 2147483647 := hl9 (xI x2) (.tail _ (.tail _ (.head _))) (Nat.le_of_ble_eq_true rfl)
  have r_x4 : -2147483648 ≤ x4 ∧ x4 ≤ 2147483647 := hl9 (xI x4) (.tail _ (.tail _ (.tail _ (.tail _ (.head _))))) (Nat.le_of_ble_eq_true rfl)
  have r_x5 : -2147483648 ≤ x5 ∧ x5 ≤ 2147483647 := hl9 (xI x5) (.tail _ (.tail _ (.tail _ (.tail _ (.tail _ (.head _)))))) (Nat.le_of_ble_eq_true rfl)
  have r_x7 : -2147483648 ≤ x7 ∧ x7 ≤ 2147483647 := hl9 (xI x7) (.tail _ (.tail _ (.tail _ (.tail _ (.tail _ (.tail _ (.tail _ (.head _)))))))) (Nat.le_of_ble_eq_true rfl)
  have r_x8 : -2147483648 ≤ x8 ∧ x8 ≤ 2147483647 := hl9 (xI x8) (.tail _ (.tail _ (.tail _ (.tail _ (.tail _ (.tail _ (.tail _ (.tail _ (.head _))))))))) (Nat.le_of_ble_eq_true rfl)
  refine xr_iload (pc := 236) (i := 4) (hI := d_DualPivotQuicksort_mergeParts_236) (hl := rfl) ?_
  refine xr_iload (pc := 238) (i := 5) (hI := d_DualPivotQuicksort_mergeParts_238) (hl := rfl) ?_
  refine xr_icmp_ge (pc := 240) (tgt := 259) (hI := d_DualPivotQuicksort_mergeParts_240) (ht := by decide) (fun q9 => ?_) (fun q9 => ?_)
  · replace hyp := hyp.1 q9
    have q1_ := q9
    clear q9
    exact xr_drop (L9 := [xZ, xR x1, xI x2, xZ, xZ, xZ, xR x6, xI x7, xI x8, xZ, xZ, xZ, xZ, xZ, xZ]) (xdrs (xdrs (xdrs (xdrz (xdrz (xdrz (xdrs (xdrs (xdrs (xdrs (xdrs (xdrs (xdrs (xdrs (xdrs xdr0))))))))))))))) hyp
  · replace hyp := hyp.2 q9
    have q1_ := q9
    clear q9
    refine xr_aload_n (pc := 243) (i := 1) (hI := d_DualPivotQuicksort_mergeParts_243) (hi := rfl) (hl := rfl) ?_
    refine xr_iload_n (pc := 244) (i := 2) (hI := d_DualPivotQuicksort_mergeParts_244) (hi := rfl) (hl := rfl) ?_
    obtain ⟨c9, hyp⟩ := hyp
    refine xr_iinc (pc := 245) (i := 2) (L9 := [xZ, xR x1, xI (x2 + 1), xR x3, xI x4, xI x5, xR x6, xI x7, xI x8, xZ, xZ, xZ, xZ, xZ, xZ]) (hI := d_DualPivotQuicksort_mergeParts_245) (hl := rfl) (hn := Nat.le_of_ble_eq_true rfl) (hr := c9) (hL9 := rfl) ?_
    refine xr_aload_n (pc := 248) (i := 3) (hI := d_DualPivotQuicksort_mergeParts_248) (hi := rfl) (hl := rfl) ?_
    refine xr_iload (pc := 249) (i := 4) (hI := d_DualPivotQuicksort_mergeParts_249) (hl := rfl) ?_
    refine xr_iinc (pc := 251) (i := 4) (L9 := [xZ, xR x1, xI (x2 + 1), xR x3, xI (x4 + 1), xI x5, xR x6, xI x7, xI x8, xZ, xZ, xZ, xZ, xZ, xZ]) (hI := d_DualPivotQuicksort_mergeParts_251) (hl := rfl) (hn := Nat.le_of_ble_eq_true rfl) (hr := ⟨by clear hyp; omega, by clear hyp; omega⟩) (hL9 := rfl) ?_
    obtain ⟨c9, hyp⟩ := hyp
    have t2_ := c9
    clear c9
    obtain ⟨c3_, hyp⟩ := hyp
    obtain ⟨c4_, hyp⟩ := hyp
    refine xg_laload (pc := 254) (v := (xpl h x3 x4)) (hI := d_DualPivotQuicksort_mergeParts_254) t2_ c3_ (xlt_of rfl c4_) rfl (fun f5_ => ?_)
    replace f5_ : -9223372036854775808 ≤ (xpl h x3 x4) ∧ (xpl h x3 x4) ≤ 9223372036854775807 := f5_
    obtain ⟨c9, hyp⟩ := hyp
    have t6_ := c9
    clear c9
    obtain ⟨c7_, hyp⟩ := hyp
    obtain ⟨c8_, hyp⟩ := hyp
    obtain ⟨c9_, hyp⟩ := hyp
    refine xr_lastore (pc := 255) (hI := d_DualPivotQuicksort_mergeParts_255) t6_ c7_ c8_ (xlt_of rfl c9_) ?_
    have F10_ : xFix (xst h x1 x2 (xpl h x3 x4)) := F.stTA (t := 101) c7_ t6_ xta_101
    refine xr_goto (pc := 256) (tgt := 236) (hI := d_DualPivotQuicksort_mergeParts_256) (ht := by decide) ?_
    exact (hyp F10_)
theorem d_DualPivotQuicksort_mergeParts_259 : decode prog_46_method_20_code 259 = .ok (.aload_n 1, 1) := by decide +kernel
theorem d_DualPivotQuicksort_mergeParts_260 : decode prog_46_method_20_code 260 = .ok (.aload 6, 2) := by decide +kernel
theorem d_DualPivotQuicksort_mergeParts_262 : decode prog_46_method_20_code 262 = .ok (.if_acmp .ne 9, 3) := by decide +kernel
theorem d_DualPivotQuicksort_mergeParts_265 : decode prog_46_method_20_code 265 = .ok (.iload_n 2, 1) := by decide +kernel
theorem d_DualPivotQuicksort_mergeParts_266 : decode prog_46_method_20_code 266 = .ok (.iload 7, 2) := by decide +kernel
theorem d_DualPivotQuicksort_mergeParts_268 : decode prog_46_method_20_code 268 = .ok (.if_icmp .ge 27, 3) := by decide +kernel
theorem d_DualPivotQuicksort_mergeParts_295 : decode prog_46_method_20_code 295 = .ok (.return_, 1) := by decide +kernel
theorem v_DualPivotQuicksort_mergeParts_259 {G : XG} {d : Nat} {h : XH} {Q : XV → XH → Prop} {X : Nat → XH → Prop} {x1 x2 x6 x7 x8 : Int} (F : xFix h) (hyp : (x1 = x6 ∨ ((-1 ≤ x1 ∨ -1 ≤ x6) ∧ (-1 ≤ x1 ∨ xtg h x1 < 200) ∧ (-1 ≤ x6 ∨ xtg h x6 < 200))) ∧ ((x1 = x6 → ((x7 ≤ x2 → (Q xN h)) ∧ (¬ x7 ≤ x2 → (xwp G m_DualPivotQuicksort_mergeParts (d + 1) 271 [xZ, xR x1, xI x2, xZ, xZ, xZ, xR x6, xI x7, xI x8, xZ, xZ, xZ, xZ, xZ, xZ] [] h Q X)))) ∧ (¬ x1 = x6 → (xwp G m_DualPivotQuicksort_mergeParts (d + 1) 271 [xZ, xR x1, xI x2, xZ, xZ, xZ, xR x6, xI x7, xI x8, xZ, xZ, xZ, xZ, xZ, xZ] [] h Q X)))) : xwp G m_DualPivotQuicksort_mergeParts (d + 1) 259 [xZ, xR x1, xI x2, xZ, xZ, xZ, xR x6, xI x7, xI x8, xZ, xZ, xZ, xZ, xZ, xZ] [] h Q X := by
  have hnx9 : (93 : Int) ≤ xnx h := F.2.2
  refine xr_okL (fun hl9 => ?_)
  have r_x2 : -2147483648 ≤ x2 ∧ x2 ≤ 2147483647 := hl9 (xI x2) (.tail _ (.tail _ (.head _))) (Nat.le_of_ble_eq_true rfl)
  have r_x7 : -2147483648 ≤ x7 ∧ x7 ≤ 2147483647 := hl9 (xI x7) (.tail _ (.tail _ (.tail _ (.tail _ (.tail _ (.tail _ (.tail _ (.head _)))))))) (Nat.le_of_ble_eq_true rfl)
  have r_x8 : -2147483648 ≤ x8 ∧ x8 ≤ 2147483647 := hl9 (xI x8) (.tail _ (.tail _ (.tail _ (.tail _ (.tail _ (.tail _ (.tail _ (.tail _ (.head _))))))))) (Nat.le_of_ble_eq_true rfl)
  refine xr_aload_n (pc := 259) (i := 1) (hI := d_DualPivotQuicksort_mergeParts_259) (hi := rfl) (hl := rfl) ?_
  refine xr_aload (pc := 260) (i := 6) (hI := d_DualPivotQuicksort_mergeParts_260) (hl := rfl) ?_
  obtain ⟨c9, hyp⟩ := hyp
  refine xr_acmp_ne (pc := 262) (tgt := 271) (hI := d_DualPivotQuicksort_mergeParts_262) (ht := by decide) (h1 := c9) (fun q9 => ?_) (fun q9 => ?_)
  · replace hyp := hyp.2 q9
    have q1_ := q9
    clear q9
    exact hyp
  · replace hyp := hyp.1 q9
    have q1_ := q9
    clear q9
    refine xr_iload_n (pc := 265) (i := 2) (hI := d_DualPivotQuicksort_mergeParts_265) (hi := rfl) (hl := rfl) ?_
    refine xr_iload (pc := 266) (i := 7) (hI := d_DualPivotQuicksort_mergeParts_266) (hl := rfl) ?_
    refine xr_icmp_ge (pc := 268) (tgt := 295) (hI := d_DualPivotQuicksort_mergeParts_268) (ht := by decide) (fun q9 => ?_) (fun q9 => ?_)
    · replace hyp := hyp.1 q9
      have q2_ := q9
      clear q9
      refine xr_return (S := []) (pc := 295) (hI := d_DualPivotQuicksort_mergeParts_295) (hr := rfl) ?_
      exact hyp
    · replace hyp := hyp.2 q9
      have q2_ := q9
      clear q9
      exact hyp
theorem d_DualPivotQuicksort_mergeParts_271 : decode prog_46_method_20_code 271 = .ok (.iload 7, 2) := by decide +kernel
theorem d_DualPivotQuicksort_mergeParts_273 : decode prog_46_method_20_code 273 = .ok (.iload 8, 2) := by decide +kernel
theorem d_DualPivotQuicksort_mergeParts_275 : decode prog_46_method_20_code 275 = .ok (.if_icmp .ge 20, 3) := by decide +kernel
theorem d_DualPivotQuicksort_mergeParts_278 : decode prog_46_method_20_code 278 = .ok (.aload_n 1, 1) := by decide +kernel
theorem d_DualPivotQuicksort_mergeParts_279 : decode prog_46_method_20_code 279 = .ok (.iload_n 2, 1) := by decide +kernel
theorem d_DualPivotQuicksort_mergeParts_280 : decode prog_46_method_20_code 280 = .ok (.iinc 2 1, 3) := by decide +kernel
theorem d_DualPivotQuicksort_mergeParts_283 : decode prog_46_method_20_code 283 = .ok (.aload 6, 2) := by decide +kernel
theorem d_DualPivotQuicksort_mergeParts_285 : decode prog_46_method_20_code 285 = .ok (.iload 7, 2) := by decide +kernel
theorem d_DualPivotQuicksort_mergeParts_287 : decode prog_46_method_20_code 287 = .ok (.iinc 7 1, 3) := by decide +kernel
theorem d_DualPivotQuicksort_mergeParts_290 : decode prog_46_method_20_code 290 = .ok (.laload, 1) := by decide +kernel
theorem d_DualPivotQuicksort_mergeParts_291 : decode prog_46_method_20_code 291 = .ok (.lastore, 1) := by decide +kernel
theorem d_DualPivotQuicksort_mergeParts_292 : decode prog_46_method_20_code 292 = .ok (.goto (-21), 3) := by decide +kernel
theorem v_DualPivotQuicksort_mergeParts_271 {G : XG} {d : Nat} {h : XH} {Q : XV → XH → Prop} {X : Nat → XH → Prop} {x1 x2 x6 x7 x8 : Int} (F : xFix h) (hyp : ((x8 ≤ x7 → (Q xN h)) ∧ (¬ x8 ≤ x7 → xiR (x2 + 1) ∧ xtg h x6 = 101 ∧ 0 ≤ x7 ∧ x7 < (xln h x6) ∧ xtg h x1 = 101 ∧ 0 ≤ x1 ∧ 0 ≤ x2 ∧ x2 < (xln h x1) ∧ (xFix (xst h x1 x2 (xpl h x6 x7)) → xwp G m_DualPivotQuicksort_mergeParts (d + 1) 271 [xZ, xR x1, xI (x2 + 1), xZ, xZ, xZ, xR x6, xI (x7 + 1), xI x8, xZ, xZ, xZ, xZ, xZ, xZ] [] (xst h x1 x2 (xpl h x6 x7)) Q X)))) : xwp G m_DualPivotQuicksort_mergeParts (d + 1) 271 [xZ, xR x1, xI x2, xZ, xZ, xZ, xR x6, xI x7, xI x8, xZ, xZ, xZ, xZ, xZ, xZ] [] h Q X := by
  have hnx9 : (93 : Int) ≤ xnx h := F.2.2
  refine xr_okL (fun hl9 => ?_)
  have r_x2 : -2147483648 ≤ x2 ∧ x2 ≤ 2147483647 := hl9 (xI x2) (.tail _ (.tail _ (.head _))) (Nat.le_of_ble_eq_true rfl)
  have r_x7 : -2147483648 ≤ x7 ∧ x7 ≤ 2147483647 := hl9 (xI x7) (.tail _ (.tail _ (.tail _ (.tail _ (.tail _ (.tail _ (.tail _ (.head _)))))))) (Nat.le_of_ble_eq_true rfl)
  have r_x8 : -2147483648 ≤ x8 ∧ x8 ≤ 2147483647 := hl9 (xI x8) (.tail _ (.tail _ (.tail _ (.tail _ (.tail _ (.tail _ (.tail _ (.tail _ (.head _))))))))) (Nat.le_of_ble_eq_true rfl)
  refine xr_iload (pc := 271) (i := 7) (hI := d_DualPivotQuicksort_mergeParts_271) (hl := rfl) ?_
  refine xr_iload (pc := 273) (i := 8) (hI := d_DualPivotQuicksort_mergeParts_273) (hl := rfl) ?_
  refine xr_icmp_ge (pc := 275) (tgt := 295) (hI := d_DualPivotQuicksort_mergeParts_275) (ht := by decide) (fun q9 => ?_) (fun q9 => ?_)
  · replace hyp := hyp.1 q9
    have q1_ := q9
    clear q9
    refine xr_return (S := []) (pc := 295) (hI := d_DualPivotQuicksort_mergeParts_295) (hr := rfl) ?_
    exact hyp
  · replace hyp := hyp.2 q9
    have q1_ := q9
    clear q9
    refine xr_aload_n (pc := 278) (i := 1) (hI := d_DualPivotQuicksort_mergeParts_278) (hi := rfl) (hl := rfl) ?_
    refine xr_iload_n (pc := 279) (i := 2) (hI := d_DualPivotQuicksort_mergeParts_279) (hi := rfl) (hl := rfl) ?_
    obtain ⟨c9, hyp⟩ := hyp
    refine xr_iinc (pc := 280) (i := 2) (L9 := [xZ, xR x1, xI (x2 + 1), xZ, xZ, xZ, xR x6, xI x7, xI x8, xZ, xZ, xZ, xZ, xZ, xZ]) (hI := d_DualPivotQuicksort_mergeParts_280) (hl := rfl) (hn := Nat.le_of_ble_eq_true rfl) (hr := c9) (hL9 := rfl) ?_
    refine xr_aload (pc := 283) (i := 6) (hI := d_DualPivotQuicksort_mergeParts_283) (hl := rfl) ?_
    refine xr_iload (pc := 285) (i := 7) (hI := d_DualPivotQuicksort_mergeParts_285) (hl := rfl) ?_
    refine xr_iinc (pc := 287) (i := 7) (L9 := [xZ, xR x1, xI (x2 + 1), xZ, xZ, xZ, xR x6, xI (x7 + 1), xI x8, xZ, xZ, xZ, xZ, xZ, xZ]) (hI := d_DualPivotQuicksort_mergeParts_287) (hl := rfl) (hn := Nat.le_of_ble_eq_true rfl) (hr := ⟨by clear hyp; omega, by clear hyp; omega⟩) (hL9 := rfl) ?_
    obtain ⟨c9, hyp⟩ := hyp
    have t2_ := c9
    clear c9
    obtain ⟨c3_, hyp⟩ := hyp
    obtain ⟨c4_, hyp⟩ := hyp
    refine xg_laload (pc := 290) (v := (xpl h x6 x7)) (hI := d_DualPivotQuicksort_mergeParts_290) t2_ c3_ (xlt_of rfl c4_) rfl (fun f5_ => ?_)
    replace f5_ : -9223372036854775808 ≤ (xpl h x6 x7) ∧ (xpl h x6 x7) ≤ 9223372036854775807 := f5_
    obtain ⟨c9, hyp⟩ := hyp
    have t6_ := c9
    clear c9
    obtain ⟨c7_, hyp⟩ := hyp
    obtain ⟨c8_, hyp⟩ := hyp
    obtain ⟨c9_, hyp⟩ := hyp
    refine xr_lastore (pc := 291) (hI := d_DualPivotQuicksort_mergeParts_291) t6_ c7_ c8_ (xlt_of rfl c9_) ?_
    have F10_ : xFix (xst h x1 x2 (xpl h x6 x7)) := F.stTA (t := 101) c7_ t6_ xta_101
    refine xr_goto (pc := 292) (tgt := 271) (hI := d_DualPivotQuicksort_mergeParts_292) (ht := by decide) ?_
    exact (hyp F10_)
abbrev m_DualPivotQuicksort_mergeRuns : XM := (⟨"java/util/DualPivotQuicksort", "mergeRuns", "([J[JIIZ[III)[J"⟩, prog_46_method_19_code, 18, (some (.array .long)), [])
theorem d_DualPivotQuicksort_mergeRuns_0 : decode prog_46_method_19_code 0 = .ok (.iload 7, 2) := by decide +kernel
theorem d_DualPivotQuicksort_mergeRuns_2 : decode prog_46_method_19_code 2 = .ok (.iload 6, 2) := by decide +kernel
theorem d_DualPivotQuicksort_mergeRuns_4 : decode prog_46_method_19_code 4 = .ok (.isub, 1) := by decide +kernel
theorem d_DualPivotQuicksort_mergeRuns_5 : decode prog_46_method_19_code 5 = .ok (.iconst 1, 1) := by decide +kernel
theorem d_DualPivotQuicksort_mergeRuns_6 : decode prog_46_method_19_code 6 = .ok (.if_icmp .ne 55, 3) := by decide +kernel
theorem d_DualPivotQuicksort_mergeRuns_61 : decode prog_46_method_19_code 61 = .ok (.iload 6, 2) := by decide +kernel
theorem d_DualPivotQuicksort_mergeRuns_63 : decode prog_46_method_19_code 63 = .ok (.istore 8, 2) := by decide +kernel
theorem d_DualPivotQuicksort_mergeRuns_65 : decode prog_46_method_19_code 65 = .ok (.aload 5, 2) := by decide +kernel
theorem d_DualPivotQuicksort_mergeRuns_67 : decode prog_46_method_19_code 67 = .ok (.iload 6, 2) := by decide +kernel
theorem d_DualPivotQuicksort_mergeRuns_69 : decode prog_46_method_19_code 69 = .ok (.iaload, 1) := by decide +kernel
theorem d_DualPivotQuicksort_mergeRuns_70 : decode prog_46_method_19_code 70 = .ok (.aload 5, 2) := by decide +kernel
theorem d_DualPivotQuicksort_mergeRuns_72 : decode prog_46_method_19_code 72 = .ok (.iload 7, 2) := by decide +kernel
theorem d_DualPivotQuicksort_mergeRuns_74 : decode prog_46_method_19_code 74 = .ok (.iaload, 1) := by decide +kernel
theorem d_DualPivotQuicksort_mergeRuns_75 : decode prog_46_method_19_code 75 = .ok (.iadd, 1) := by decide +kernel
theorem d_DualPivotQuicksort_mergeRuns_76 : decode prog_46_method_19_code 76 = .ok (.iconst 1, 1) := by decide +kernel
theorem d_DualPivotQuicksort_mergeRuns_77 : decode prog_46_method_19_code 77 = .ok (.iushr, 1) := by decide +kernel
theorem d_DualPivotQuicksort_mergeRuns_78 : decode prog_46_method_19_code 78 = .ok (.istore 9, 2) := by decide +kernel
theorem d_DualPivotQuicksort_mergeRuns_9 : decode prog_46_method_19_code 9 = .ok (.iload_n 3, 1) := by decide +kernel
theorem d_DualPivotQuicksort_mergeRuns_10 : decode prog_46_method_19_code 10 = .ok (.ifCond .lt 5, 3) := by decide +kernel
theorem d_DualPivotQuicksort_mergeRuns_15 : decode prog_46_method_19_code 15 = .ok (.aload 5, 2) := by decide +kernel
theorem d_DualPivotQuicksort_mergeRuns_17 : decode prog_46_method_19_code 17 = .ok (.iload 7, 2) := by decide +kernel
theorem d_DualPivotQuicksort_mergeRuns_19 : decode prog_46_method_19_code 19 = .ok (.iaload, 1) := by decide +kernel
theorem d_DualPivotQuicksort_mergeRuns_20 : decode prog_46_method_19_code 20 = .ok (.istore 8, 2) := by decide +kernel
theorem d_DualPivotQuicksort_mergeRuns_22 : decode prog_46_method_19_code 22 = .ok (.iload 8, 2) := by decide +kernel
theorem d_DualPivotQuicksort_mergeRuns_24 : decode prog_46_method_19_code 24 = .ok (.iload_n 2, 1) := by decide +kernel
theorem d_DualPivotQuicksort_mergeRuns_25 : decode prog_46_method_19_code 25 = .ok (.isub, 1) := by decide +kernel
theorem d_DualPivotQuicksort_mergeRuns_26 : decode prog_46_method_19_code 26 = .ok (.istore 9, 2) := by decide +kernel
theorem d_DualPivotQuicksort_mergeRuns_28 : decode prog_46_method_19_code 28 = .ok (.aload 5, 2) := by decide +kernel
theorem d_DualPivotQuicksort_mergeRuns_30 : decode prog_46_method_19_code 30 = .ok (.iload 6, 2) := by decide +kernel
theorem d_DualPivotQuicksort_mergeRuns_32 : decode prog_46_method_19_code 32 = .ok (.iaload, 1) := by decide +kernel
theorem d_DualPivotQuicksort_mergeRuns_33 : decode prog_46_method_19_code 33 = .ok (.istore 10, 2) := by decide +kernel
theorem d_DualPivotQuicksort_mergeRuns_13 : decode prog_46_method_19_code 13 = .ok (.aload_n 0, 1) := by decide +kernel
theorem d_DualPivotQuicksort_mergeRuns_14 : decode prog_46_method_19_code 14 = .ok (.areturn, 1) := by decide +kernel
theorem v_DualPivotQuicksort_mergeRuns_0 {G : XG} {d : Nat} {h : XH} {Q : XV → XH → Prop} {X : Nat → XH → Prop} {x0 x1 x2 x3 x4 x5 x6 x7 : Int} (F : xFix h) (hyp : xiR (x7 - x6) ∧ (((x7 - x6) = 1 → ((x3 < 0 → xtg h x5 = 100 ∧ 0 ≤ x7 ∧ x7 < (xln h x5) ∧ xiR ((xpl h x5 x7) - x2) ∧ 0 ≤ x6 ∧ (xwp G m_DualPivotQuicksort_mergeRuns (d + 2) 35 [xR x0, xR x1, xZ, xZ, xZ, xZ, xZ, xZ, xI (xpl h x5 x7), xI ((xpl h x5 x7) - x2), xI (xpl h x5 x6), xZ, xZ, xZ, xZ, xZ, xZ, xZ] [] h Q X)) ∧ (¬ x3 < 0 → (Q (xR x0) h)))) ∧ (¬ (x7 - x6) = 1 → xtg h x5 = 100 ∧ 0 ≤ x6 ∧ x6 < (xln h x5) ∧ 0 ≤ x7 ∧ x7 < (xln h x5) ∧ xiR ((xpl h x5 x6) + (xpl h x5 x7)) ∧ (xwp G m_DualPivotQuicksort_mergeRuns (d + 2) 80 [xR x0, xR x1, xI x2, xI x3, xI x4, xR x5, xI x6, xI x7, xI x6, xI (xushr ((xpl h x5 x6) + (xpl h x5 x7)) 1), xZ, xZ, xZ, xZ, xZ, xZ, xZ, xZ] [] h Q X)))) : xwp G m_DualPivotQuicksort_mergeRuns (d + 2) 0 [xR x0, xR x1, xI x2, xI x3, xI x4, xR x5, xI x6, xI x7, xZ, xZ, xZ, xZ, xZ, xZ, xZ, xZ, xZ, xZ] [] h Q X := by
  have hnx9 : (93 : Int) ≤ xnx h := F.2.2
  refine xr_okL (fun hl9 => ?_)
  have r_x2 : -2147483648 ≤ x2 ∧ x2 ≤ 2147483647 := hl9 (xI x2) (.tail _ (.tail _ (.head _))) (Nat.le_of_ble_eq_true rfl)
  have r_x3 : -2147483648 ≤ x3 ∧ x3 ≤ 2147483647 := hl9 (xI x3) (.tail _ (.tail _ (.tail _ (.head _)))) (Nat.le_of_ble_eq_true rfl)
  have r_x4 : -2147483648 ≤ x4 ∧ x4 ≤ 2147483647 := hl9 (xI x4) (.tail _ (.tail _ (.tail _ (.tail _ (.head _))))) (Nat.le_of_ble_eq_true rfl)
  have r_x6 : -2147483648 ≤ x6 ∧ x6 ≤ 2147483647 := hl9 (xI x6) (.tail _ (.tail _ (.tail _ (.tail _ (.tail _ (.tail _ (.head _))))))) (Nat.le_of_ble_eq_true rfl)
  have r_x7 : -2147483648 ≤ x7 ∧ x7 ≤ 2147483647 := hl9 (xI x7) (.tail _ (.tail _ (.tail _ (.tail _ (.tail _ (.tail _ (.tail _ (.head _)))))))) (Nat.le_of_ble_eq_true rfl)
  refine xr_iload (pc := 0) (i := 7) (hI := d_DualPivotQuicksort_mergeRuns_0) (hl := rfl) ?_
  refine xr_iload (pc := 2) (i := 6) (hI := d_DualPivotQuicksort_mergeRuns_2) (hl := rfl) ?_
  obtain ⟨c9, hyp⟩ := hyp
  refine xr_isub (pc := 4) (hI := d_DualPivotQuicksort_mergeRuns_4) (hr := c9) ?_
  refine xr_iconst (pc := 5) (hI := d_DualPivotQuicksort_mergeRuns_5) (hr := by decide) ?_
  refine xr_icmp_ne (pc := 6) (tgt := 61) (hI := d_DualPivotQuicksort_mergeRuns_6) (ht := by decide) (fun q9 => ?_) (fun q9 => ?_)
  · replace hyp := hyp.2 q9
    have q1_ := q9
    clear q9
    refine xr_iload (pc := 61) (i := 6) (hI := d_DualPivotQuicksort_mergeRuns_61) (hl := rfl) ?_
    refine xr_istore (pc := 63) (i := 8) (L9 := [xR x0, xR x1, xI x2, xI x3, xI x4, xR x5, xI x6, xI x7, xI x6, xZ, xZ, xZ, xZ, xZ, xZ, xZ, xZ, xZ]) (hI := d_DualPivotQuicksort_mergeRuns_63) (hn := Nat.le_of_ble_eq_true rfl) (hL9 := rfl) ?_
    refine xr_aload (pc := 65) (i := 5) (hI := d_DualPivotQuicksort_mergeRuns_65) (hl := rfl) ?_
    refine xr_iload (pc := 67) (i := 6) (hI := d_DualPivotQuicksort_mergeRuns_67) (hl := rfl) ?_
    obtain ⟨c9, hyp⟩ := hyp
    have t2_ := c9
    clear c9
    obtain ⟨c3_, hyp⟩ := hyp
    obtain ⟨c4_, hyp⟩ := hyp
    refine xg_iaload (pc := 69) (v := (xpl h x5 x6)) (hI := d_DualPivotQuicksort_mergeRuns_69) t2_ c3_ (xlt_of rfl c4_) rfl (fun f5_ => ?_)
    replace f5_ : -2147483648 ≤ (xpl h x5 x6) ∧ (xpl h x5 x6) ≤ 2147483647 := f5_
    refine xr_aload (pc := 70) (i := 5) (hI := d_DualPivotQuicksort_mergeRuns_70) (hl := rfl) ?_
    refine xr_iload (pc := 72) (i := 7) (hI := d_DualPivotQuicksort_mergeRuns_72) (hl := rfl) ?_
    obtain ⟨c6_, hyp⟩ := hyp
    obtain ⟨c7_, hyp⟩ := hyp
    refine xg_iaload (pc := 74) (v := (xpl h x5 x7)) (hI := d_DualPivotQuicksort_mergeRuns_74) t2_ c6_ (xlt_of rfl c7_) rfl (fun f8_ => ?_)
    replace f8_ : -2147483648 ≤ (xpl h x5 x7) ∧ (xpl h x5 x7) ≤ 2147483647 := f8_
    obtain ⟨c9, hyp⟩ := hyp
    refine xr_iadd (pc := 75) (hI := d_DualPivotQuicksort_mergeRuns_75) (hr := c9) ?_
    refine xr_iconst (pc := 76) (hI := d_DualPivotQuicksort_mergeRuns_76) (hr := by decide) ?_
    refine xr_iushr (pc := 77) (hI := d_DualPivotQuicksort_mergeRuns_77) ?_
    have f9_ : -2147483648 ≤ (xushr ((xpl h x5 x6) + (xpl h x5 x7)) 1) ∧ (xushr ((xpl h x5 x6) + (xpl h x5 x7)) 1) ≤ 2147483647 := xi_toR _
    refine xr_istore (pc := 78) (i := 9) (L9 := [xR x0, xR x1, xI x2, xI x3, xI x4, xR x5, xI x6, xI x7, xI x6, xI (xushr ((xpl h x5 x6) + (xpl h x5 x7)) 1), xZ, xZ, xZ, xZ, xZ, xZ, xZ, xZ]) (hI := d_DualPivotQuicksort_mergeRuns_78) (hn := Nat.le_of_ble_eq_true rfl) (hL9 := rfl) ?_
    exact hyp
  · replace hyp := hyp.1 q9
    have q1_ := q9
    clear q9
    refine xr_iload_n (pc := 9) (i := 3) (hI := d_DualPivotQuicksort_mergeRuns_9) (hi := rfl) (hl := rfl) ?_
    refine xr_if_lt (pc := 10) (tgt := 15) (hI := d_DualPivotQuicksort_mergeRuns_10) (ht := by decide) (fun q9 => ?_) (fun q9 => ?_)
    · replace hyp := hyp.1 q9
      have q10_ := q9
      clear q9
      refine xr_aload (pc := 15) (i := 5) (hI := d_DualPivotQuicksort_mergeRuns_15) (hl := rfl) ?_
      refine xr_iload (pc := 17) (i := 7) (hI := d_DualPivotQuicksort_mergeRuns_17) (hl := rfl) ?_
      obtain ⟨c9, hyp⟩ := hyp
      have t11_ := c9
      clear c9
      obtain ⟨c12_, hyp⟩ := hyp
      obtain ⟨c13_, hyp⟩ := hyp
      refine xg_iaload (pc := 19) (v := (xpl h x5 x7)) (hI := d_DualPivotQuicksort_mergeRuns_19) t11_ c12_ (xlt_of rfl c13_) rfl (fun f14_ => ?_)
      replace f14_ : -2147483648 ≤ (xpl h x5 x7) ∧ (xpl h x5 x7) ≤ 2147483647 := f14_
      refine xr_istore (pc := 20) (i := 8) (L9 := [xR x0, xR x1, xI x2, xI x3, xI x4, xR x5, xI x6, xI x7, xI (xpl h x5 x7), xZ, xZ, xZ, xZ, xZ, xZ, xZ, xZ, xZ]) (hI := d_DualPivotQuicksort_mergeRuns_20) (hn := Nat.le_of_ble_eq_true rfl) (hL9 := rfl) ?_
      refine xr_iload (pc := 22) (i := 8) (hI := d_DualPivotQuicksort_mergeRuns_22) (hl := rfl) ?_
      refine xr_iload_n (pc := 24) (i := 2) (hI := d_DualPivotQuicksort_mergeRuns_24) (hi := rfl) (hl := rfl) ?_
      obtain ⟨c9, hyp⟩ := hyp
      refine xr_isub (pc := 25) (hI := d_DualPivotQuicksort_mergeRuns_25) (hr := c9) ?_
      refine xr_istore (pc := 26) (i := 9) (L9 := [xR x0, xR x1, xI x2, xI x3, xI x4, xR x5, xI x6, xI x7, xI (xpl h x5 x7), xI ((xpl h x5 x7) - x2), xZ, xZ, xZ, xZ, xZ, xZ, xZ, xZ]) (hI := d_DualPivotQuicksort_mergeRuns_26) (hn := Nat.le_of_ble_eq_true rfl) (hL9 := rfl) ?_
      refine xr_aload (pc := 28) (i := 5) (hI := d_DualPivotQuicksort_mergeRuns_28) (hl := rfl) ?_
      refine xr_iload (pc := 30) (i := 6) (hI := d_DualPivotQuicksort_mergeRuns_30) (hl := rfl) ?_
      obtain ⟨c15_, hyp⟩ := hyp
      refine xg_iaload (pc := 32) (v := (xpl h x5 x6)) (hI := d_DualPivotQuicksort_mergeRuns_32) t11_ c15_ (xlt_of rfl (by clear hyp; omega)) rfl (fun f16_ => ?_)
      replace f16_ : -2147483648 ≤ (xpl h x5 x6) ∧ (xpl h x5 x6) ≤ 2147483647 := f16_
      refine xr_istore (pc := 33) (i := 10) (L9 := [xR x0, xR x1, xI x2, xI x3, xI x4, xR x5, xI x6, xI x7, xI (xpl h x5 x7), xI ((xpl h x5 x7) - x2), xI (xpl h x5 x6), xZ, xZ, xZ, xZ, xZ, xZ, xZ]) (hI := d_DualPivotQuicksort_mergeRuns_33) (hn := Nat.le_of_ble_eq_true rfl) (hL9 := rfl) ?_
      exact xr_drop (L9 := [xR x0, xR x1, xZ, xZ, xZ, xZ, xZ, xZ, xI (xpl h x5 x7), xI ((xpl h x5 x7) - x2), xI (xpl h x5 x6), xZ, xZ, xZ, xZ, xZ, xZ, xZ]) (xdrs (xdrs (xdrz (xdrz (xdrz (xdrz (xdrz (xdrz (xdrs (xdrs (xdrs (xdrs (xdrs (xdrs (xdrs (xdrs (xdrs (xdrs xdr0)))))))))))))))))) hyp
    · replace hyp := hyp.2 q9
      have q10_ := q9
      clear q9
      refine xr_aload_n (pc := 13) (i := 0) (hI := d_DualPivotQuicksort_mergeRuns_13) (hi := rfl) (hl := rfl) ?_
      refine xr_areturn (S := []) (pc := 14) (hI := d_DualPivotQuicksort_mergeRuns_14) (hr := rfl) (hrt := Or.inr ⟨_, rfl⟩) ?_
      exact hyp
theorem d_DualPivotQuicksort_mergeRuns_35 : decode prog_46_method_19_code 35 = .ok (.iload 8, 2) := by decide +kernel
theorem d_DualPivotQuicksort_mergeRuns_37 : decode prog_46_method_19_code 37 = .ok (.iload 10, 2) := by decide +kernel
theorem d_DualPivotQuicksort_mergeRuns_39 : decode prog_46_method_19_code 39 = .ok (.if_icmp .le 20, 3) := by decide +kernel
theorem d_DualPivotQuicksort_mergeRuns_59 : decode prog_46_method_19_code 59 = .ok (.aload_n 1, 1) := by decide +kernel
theorem d_DualPivotQuicksort_mergeRuns_60 : decode prog_46_method_19_code 60 = .ok (.areturn, 1) := by decide +kernel
theorem d_DualPivotQuicksort_mergeRuns_42 : decode prog_46_method_19_code 42 = .ok (.aload_n 1, 1) := by decide +kernel
theorem d_DualPivotQuicksort_mergeRuns_43 : decode prog_46_method_19_code 43 = .ok (.iinc 9 (-1), 3) := by decide +kernel
theorem d_DualPivotQuicksort_mergeRuns_46 : decode prog_46_method_19_code 46 = .ok (.iload 9, 2) := by decide +kernel
theorem d_DualPivotQuicksort_mergeRuns_48 : decode prog_46_method_19_code 48 = .ok (.aload_n 0, 1) := by decide +kernel
theorem d_DualPivotQuicksort_mergeRuns_49 : decode prog_46_method_19_code 49 = .ok (.iinc 8 (-1), 3) := by decide +kernel
theorem d_DualPivotQuicksort_mergeRuns_52 : decode prog_46_method_19_code 52 = .ok (.iload 8, 2) := by decide +kernel
theorem d_DualPivotQuicksort_mergeRuns_54 : decode prog_46_method_19_code 54 = .ok (.laload, 1) := by decide +kernel
theorem d_DualPivotQuicksort_mergeRuns_55 : decode prog_46_method_19_code 55 = .ok (.lastore, 1) := by decide +kernel
theorem d_DualPivotQuicksort_mergeRuns_56 : decode prog_46_method_19_code 56 = .ok (.goto (-21), 3) := by decide +kernel
theorem v_DualPivotQuicksort_mergeRuns_35 {G : XG} {d : Nat} {h : XH} {Q : XV → XH → Prop} {X : Nat → XH → Prop} {x0 x1 x8 x9 x10 : Int} (F : xFix h) (hyp : ((x8 ≤ x10 → (Q (xR x1) h)) ∧ (¬ x8 ≤ x10 → xiR (x9 + (-1)) ∧ xtg h x0 = 101 ∧ 0 ≤ (x8 + (-1)) ∧ (x8 + (-1)) < (xln h x0) ∧ xtg h x1 = 101 ∧ 0 ≤ x1 ∧ 0 ≤ (x9 + (-1)) ∧ (x9 + (-1)) < (xln h x1) ∧ (xFix (xst h x1 (x9 + (-1)) (xpl h x0 (x8 + (-1)))) → xwp G m_DualPivotQuicksort_mergeRuns (d + 2) 35 [xR x0, xR x1, xZ, xZ, xZ, xZ, xZ, xZ, xI (x8 + (-1)), xI (x9 + (-1)), xI x10, xZ, xZ, xZ, xZ, xZ, xZ, xZ] [] (xst h x1 (x9 + (-1)) (xpl h x0 (x8 + (-1)))) Q X)))) : xwp G m_DualPivotQuicksort_mergeRuns (d + 2) 35 [xR x0, xR x1, xZ, xZ, xZ, xZ, xZ, xZ, xI x8, xI x9, xI x10, xZ, xZ, xZ, xZ, xZ, xZ, xZ] [] h Q X := by
  have hnx9 : (93 : Int) ≤ xnx h := F.2.2
  refine xr_okL (fun hl9 => ?_)
  have r_x8 : -2147483648 ≤ x8 ∧ x8 ≤ 2147483647 := hl9 (xI x8) (.tail _ (.tail _ (.tail _ (.tail _ (.tail _ (.tail _ (.tail _ (.tail _ (.head _))))))))) (Nat.le_of_ble_eq_true rfl)
  have r_x9 : -2147483648 ≤ x9 ∧ x9 ≤ 2147483647 := hl9 (xI x9) (.tail _ (.tail _ (.tail _ (.tail _ (.tail _ (.tail _ (.tail _ (.tail _ (.tail _ (.head _)))))))))) (Nat.le_of_ble_eq_true rfl)
  have r_x10 : -2147483648 ≤ x10 ∧ x10 ≤ 2147483647 := hl9 (xI x10) (.tail _ (.tail _ (.tail _ (.tail _ (.tail _ (.tail _ (.tail _ (.tail _ (.tail _ (.tail _ (.head _))))))))))) (Nat.le_of_ble_eq_true rfl)
  refine xr_iload (pc := 35) (i := 8) (hI := d_DualPivotQuicksort_mergeRuns_35) (hl := rfl) ?_
  refine xr_iload (pc := 37) (i := 10) (hI := d_DualPivotQuicksort_mergeRuns_37) (hl := rfl) ?_
  refine xr_icmp_le (pc := 39) (tgt := 59) (hI := d_DualPivotQuicksort_mergeRuns_39) (ht := by decide) (fun q9 => ?_) (fun q9 => ?_)
  · replace hyp := hyp.1 q9
    have q1_ := q9
    clear q9
    refine xr_aload_n (pc := 59) (i := 1) (hI := d_DualPivotQuicksort_mergeRuns_59) (hi := rfl) (hl := rfl) ?_
    refine xr_areturn (S := []) (pc := 60) (hI := d_DualPivotQuicksort_mergeRuns_60) (hr := rfl) (hrt := Or.inr ⟨_, rfl⟩) ?_
    exact hyp
  · replace hyp := hyp.2 q9
    have q1_ := q9
    clear q9
    refine xr_aload_n (pc := 42) (i := 1) (hI := d_DualPivotQuicksort_mergeRuns_42) (hi := rfl) (hl := rfl) ?_
    obtain ⟨c9, hyp⟩ := hyp
    refine xr_iinc (pc := 43) (i := 9) (L9 := [xR x0, xR x1, xZ, xZ, xZ, xZ, xZ, xZ, xI x8, xI (x9 + (-1)), xI x10, xZ, xZ, xZ, xZ, xZ, xZ, xZ]) (hI := d_DualPivotQuicksort_mergeRuns_43) (hl := rfl) (hn := Nat.le_of_ble_eq_true rfl) (hr := c9) (hL9 := rfl) ?_
    refine xr_iload (pc := 46) (i := 9) (hI := d_DualPivotQuicksort_mergeRuns_46) (hl := rfl) ?_
    refine xr_aload_n (pc := 48) (i := 0) (hI := d_DualPivotQuicksort_mergeRuns_48) (hi := rfl) (hl := rfl) ?_
    refine xr_iinc (pc := 49) (i := 8) (L9 := [xR x0, xR x1, xZ, xZ, xZ, xZ, xZ, xZ, xI (x8 + (-1)), xI (x9 + (-1)), xI x10, xZ, xZ, xZ, xZ, xZ, xZ, xZ]) (hI := d_DualPivotQuicksort_mergeRuns_49) (hl := rfl) (hn := Nat.le_of_ble_eq_true rfl) (hr := ⟨by clear hyp; omega, by clear hyp; omega⟩) (hL9 := rfl) ?_
    refine xr_iload (pc := 52) (i := 8) (hI := d_DualPivotQuicksort_mergeRuns_52) (hl := rfl) ?_
    obtain ⟨c9, hyp⟩ := hyp
    have t2_ := c9
    clear c9
    obtain ⟨c3_, hyp⟩ := hyp
    obtain ⟨c4_, hyp⟩ := hyp
    refine xg_laload (pc := 54) (v := (xpl h x0 (x8 + (-1)))) (hI := d_DualPivotQuicksort_mergeRuns_54) t2_ c3_ (xlt_of rfl c4_) rfl (fun f5_ => ?_)
    replace f5_ : -9223372036854775808 ≤ (xpl h x0 (x8 + (-1))) ∧ (xpl h x0 (x8 + (-1))) ≤ 9223372036854775807 := f5_
    obtain ⟨c9, hyp⟩ := hyp
    have t6_ := c9
    clear c9
    obtain ⟨c7_, hyp⟩ := hyp
    obtain ⟨c8_, hyp⟩ := hyp
    obtain ⟨c9_, hyp⟩ := hyp
    refine xr_lastore (pc := 55) (hI := d_DualPivotQuicksort_mergeRuns_55) t6_ c7_ c8_ (xlt_of rfl c9_) ?_
    have F10_ : xFix (xst h x1 (x9 + (-1)) (xpl h x0 (x8 + (-1)))) := F.stTA (t := 101) c7_ t6_ xta_101
    refine xr_goto (pc := 56) (tgt := 35) (hI := d_DualPivotQuicksort_mergeRuns_56) (ht := by decide) ?_
    exact (hyp F10_)
theorem d_DualPivotQuicksort_mergeRuns_80 : decode prog_46_method_19_code 80 = .ok (.aload 5, 2) := by decide +kernel
theorem d_DualPivotQuicksort_mergeRuns_82 : decode prog_46_method_19_code 82 = .ok (.iinc 8 1, 3) := by decide +kernel
theorem d_DualPivotQuicksort_mergeRuns_85 : decode prog_46_method_19_code 85 = .ok (.iload 8, 2) := by decide +kernel
theorem d_DualPivotQuicksort_mergeRuns_87 : decode prog_46_method_19_code 87 = .ok (.iconst 1, 1) := by decide +kernel
theorem d_DualPivotQuicksort_mergeRuns_88 : decode prog_46_method_19_code 88 = .ok (.iadd, 1) := by decide +kernel
theorem d_DualPivotQuicksort_mergeRuns_89 : decode prog_46_method_19_code 89 = .ok (.iaload, 1) := by decide +kernel
theorem d_DualPivotQuicksort_mergeRuns_90 : decode prog_46_method_19_code 90 = .ok (.iload 9, 2) := by decide +kernel
theorem d_DualPivotQuicksort_mergeRuns_92 : decode prog_46_method_19_code 92 = .ok (.if_icmp .gt 6, 3) := by decide +kernel
theorem d_DualPivotQuicksort_mergeRuns_98 : decode prog_46_method_19_code 98 = .ok (.iload 4, 2) := by decide +kernel
theorem d_DualPivotQuicksort_mergeRuns_100 : decode prog_46_method_19_code 100 = .ok (.ifCond .eq 64, 3) := by decide +kernel
theorem d_DualPivotQuicksort_mergeRuns_103 : decode prog_46_method_19_code 103 = .ok (.iload 7, 2) := by decide +kernel
theorem d_DualPivotQuicksort_mergeRuns_105 : decode prog_46_method_19_code 105 = .ok (.iload 6, 2) := by decide +kernel
theorem d_DualPivotQuicksort_mergeRuns_107 : decode prog_46_method_19_code 107 = .ok (.isub, 1) := by decide +kernel
theorem d_DualPivotQuicksort_mergeRuns_108 : decode prog_46_method_19_code 108 = .ok (.iconst 4, 1) := by decide +kernel
theorem d_DualPivotQuicksort_mergeRuns_109 : decode prog_46_method_19_code 109 = .ok (.if_icmp .le 55, 3) := by decide +kernel
theorem d_DualPivotQuicksort_mergeRuns_112 : decode prog_46_method_19_code 112 = .ok (.new 73, 3) := by decide +kernel
theorem d_DualPivotQuicksort_mergeRuns_95 : decode prog_46_method_19_code 95 = .ok (.goto (-15), 3) := by decide +kernel
theorem v_DualPivotQuicksort_mergeRuns_80 {G : XG} {d : Nat} {h : XH} {Q : XV → XH → Prop} {X : Nat → XH → Prop} {x0 x1 x2 x3 x4 x5 x6 x7 x8 x9 : Int} (F : xFix h) (hyp : xiR (x8 + 1) ∧ xiR ((x8 + 1) + 1) ∧ xtg h x5 = 100 ∧ 0 ≤ ((x8 + 1) + 1) ∧ ((x8 + 1) + 1) < (xln h x5) ∧ ((x9 < (xpl h x5 ((x8 + 1) + 1)) → ((x4 = 0 → (xwp G m_DualPivotQuicksort_mergeRuns (d + 2) 164 [xR x0, xR x1, xI x2, xI x3, xI x4, xR x5, xI x6, xI x7, xI (x8 + 1), xZ, xZ, xZ, xZ, xZ, xZ, xZ, xZ, xZ] [] h Q X)) ∧ (¬ x4 = 0 → xiR (x7 - x6) ∧ (((x7 - x6) ≤ 4 → (xwp G m_DualPivotQuicksort_mergeRuns (d + 2) 164 [xR x0, xR x1, xI x2, xI x3, xI x4, xR x5, xI x6, xI x7, xI (x8 + 1), xZ, xZ, xZ, xZ, xZ, xZ, xZ, xZ, xZ] [] h Q X)) ∧ (¬ (x7 - x6) ≤ 4 → False))))) ∧ (¬ x9 < (xpl h x5 ((x8 + 1) + 1)) → (xwp G m_DualPivotQuicksort_mergeRuns (d + 2) 80 [xR x0, xR x1, xI x2, xI x3, xI x4, xR x5, xI x6, xI x7, xI (x8 + 1), xI x9, xZ, xZ, xZ, xZ, xZ, xZ, xZ, xZ] [] h Q X)))) : xwp G m_DualPivotQuicksort_mergeRuns (d + 2) 80 [xR x0, xR x1, xI x2, xI x3, xI x4, xR x5, xI x6, xI x7, xI x8, xI x9, xZ, xZ, xZ, xZ, xZ, xZ, xZ, xZ] [] h Q X := by
  have hnx9 : (93 : Int) ≤ xnx h := F.2.2
  refine xr_okL (fun hl9 => ?_)
  have r_x2 : -2147483648 ≤ x2 ∧ x2 ≤ 2147483647 := hl9 (xI x2) (.tail _ (.tail _ (.head _))) (Nat.le_of_ble_eq_true rfl)
  have r_x3 : -2147483648 ≤ x3 ∧ x3 ≤ 2147483647 := hl9 (xI x3) (.tail _ (.tail _ (.tail _ (.head _)))) (Nat.le_of_ble_eq_true rfl)
  have r_x4 : -2147483648 ≤ x4 ∧ x4 ≤ 2147483647 := hl9 (xI x4) (.tail _ (.tail _ (.tail _ (.tail _ (.head _))))) (Nat.le_of_ble_eq_true rfl)
  have r_x6 : -2147483648 ≤ x6 ∧ x6 ≤ 2147483647 := hl9 (xI x6) (.tail _ (.tail _ (.tail _ (.tail _ (.tail _ (.tail _ (.head _))))))) (Nat.le_of_ble_eq_true rfl)
  have r_x7 : -2147483648 ≤ x7 ∧ x7 ≤ 2147483647 := hl9 (xI x7) (.tail _ (.tail _ (.tail _ (.tail _ (.tail _ (.tail _ (.tail _ (.head _)))))))) (Nat.le_of_ble_eq_true rfl)
  have r_x8 : -2147483648 ≤ x8 ∧ x8 ≤ 2147483647 := hl9 (xI x8) (.tail _ (.tail _ (.tail _ (.tail _ (.tail _ (.tail _ (.tail _ (.tail _ (.head _))))))))) (Nat.le_of_ble_eq_true rfl)
  have r_x9 : -2147483648 ≤ x9 ∧ x9 ≤ 2147483647 := hl9 (xI x9) (.tail _ (.tail _ (.tail _ (.tail _ (.tail _ (.tail _ (.tail _ (.tail _ (.tail _ (.head _)))))))))) (Nat.le_of_ble_eq_true rfl)
  refine xr_aload (pc := 80) (i := 5) (hI := d_DualPivotQuicksort_mergeRuns_80) (hl := rfl) ?_
  obtain ⟨c9, hyp⟩ := hyp
  refine xr_iinc (pc := 82) (i := 8) (L9 := [xR x0, xR x1, xI x2, xI x3, xI x4, xR x5, xI x6, xI x7, xI (x8 + 1), xI x9, xZ, xZ, xZ, xZ, xZ, xZ, xZ, xZ]) (hI := d_DualPivotQuicksort_mergeRuns_82) (hl := rfl) (hn := Nat.le_of_ble_eq_true rfl) (hr := c9) (hL9 := rfl) ?_
  refine xr_iload (pc := 85) (i := 8) (hI := d_DualPivotQuicksort_mergeRuns_85) (hl := rfl) ?_
  refine xr_iconst (pc := 87) (hI := d_DualPivotQuicksort_mergeRuns_87) (hr := by decide) ?_
  obtain ⟨c9, hyp⟩ := hyp
  refine xr_iadd (pc := 88) (hI := d_DualPivotQuicksort_mergeRuns_88) (hr := c9) ?_
  obtain ⟨c9, hyp⟩ := hyp
  have t1_ := c9
  clear c9
  obtain ⟨c2_, hyp⟩ := hyp
  obtain ⟨c3_, hyp⟩ := hyp
  refine xg_iaload (pc := 89) (v := (xpl h x5 ((x8 + 1) + 1))) (hI := d_DualPivotQuicksort_mergeRuns_89) t1_ c2_ (xlt_of rfl c3_) rfl (fun f4_ => ?_)
  replace f4_ : -2147483648 ≤ (xpl h x5 ((x8 + 1) + 1)) ∧ (xpl h x5 ((x8 + 1) + 1)) ≤ 2147483647 := f4_
  refine xr_iload (pc := 90) (i := 9) (hI := d_DualPivotQuicksort_mergeRuns_90) (hl := rfl) ?_
  refine xr_icmp_gt (pc := 92) (tgt := 98) (hI := d_DualPivotQuicksort_mergeRuns_92) (ht := by decide) (fun q9 => ?_) (fun q9 => ?_)
  · replace hyp := hyp.1 q9
    have q5_ := q9
    clear q9
    refine xr_iload (pc := 98) (i := 4) (hI := d_DualPivotQuicksort_mergeRuns_98) (hl := rfl) ?_
    refine xr_if_eq (pc := 100) (tgt := 164) (hI := d_DualPivotQuicksort_mergeRuns_100) (ht := by decide) (fun q9 => ?_) (fun q9 => ?_)
    · replace hyp := hyp.1 q9
      have q6_ := q9
      clear q9
      exact xr_drop (L9 := [xR x0, xR x1, xI x2, xI x3, xI x4, xR x5, xI x6, xI x7, xI (x8 + 1), xZ, xZ, xZ, xZ, xZ, xZ, xZ, xZ, xZ]) (xdrs (xdrs (xdrs (xdrs (xdrs (xdrs (xdrs (xdrs (xdrs (xdrz (xdrs (xdrs (xdrs (xdrs (xdrs (xdrs (xdrs (xdrs xdr0)))))))))))))))))) hyp
    · replace hyp := hyp.2 q9
      have q6_ := q9
      clear q9
      refine xr_iload (pc := 103) (i := 7) (hI := d_DualPivotQuicksort_mergeRuns_103) (hl := rfl) ?_
      refine xr_iload (pc := 105) (i := 6) (hI := d_DualPivotQuicksort_mergeRuns_105) (hl := rfl) ?_
      obtain ⟨c9, hyp⟩ := hyp
      refine xr_isub (pc := 107) (hI := d_DualPivotQuicksort_mergeRuns_107) (hr := c9) ?_
      refine xr_iconst (pc := 108) (hI := d_DualPivotQuicksort_mergeRuns_108) (hr := by decide) ?_
      refine xr_icmp_le (pc := 109) (tgt := 164) (hI := d_DualPivotQuicksort_mergeRuns_109) (ht := by decide) (fun q9 => ?_) (fun q9 => ?_)
      · replace hyp := hyp.1 q9
        have q7_ := q9
        clear q9
        exact xr_drop (L9 := [xR x0, xR x1, xI x2, xI x3, xI x4, xR x5, xI x6, xI x7, xI (x8 + 1), xZ, xZ, xZ, xZ, xZ, xZ, xZ, xZ, xZ]) (xdrs (xdrs (xdrs (xdrs (xdrs (xdrs (xdrs (xdrs (xdrs (xdrz (xdrs (xdrs (xdrs (xdrs (xdrs (xdrs (xdrs (xdrs xdr0)))))))))))))))))) hyp
      · replace hyp := hyp.2 q9
        have q7_ := q9
        clear q9
        exact hyp.elim
  · replace hyp := hyp.2 q9
    have q5_ := q9
    clear q9
    refine xr_goto (pc := 95) (tgt := 80) (hI := d_DualPivotQuicksort_mergeRuns_95) (ht := by decide) ?_
    exact hyp
theorem d_DualPivotQuicksort_mergeRuns_149 : decode prog_46_method_19_code 149 = .ok (.astore 10, 2) := by decide +kernel
theorem d_DualPivotQuicksort_mergeRuns_151 : decode prog_46_method_19_code 151 = .ok (.aload 12, 2) := by decide +kernel
theorem d_DualPivotQuicksort_mergeRuns_153 : decode prog_46_method_19_code 153 = .ok (.invokevirtual 82, 3) := by decide +kernel
theorem v_DualPivotQuicksort_mergeRuns_149 {G : XG} {d : Nat} {h : XH} {Q : XV → XH → Prop} {X : Nat → XH → Prop} {x0 x1 x2 x4 x5 x6 x7 x8 x12 s0 : Int} (F : xFix h) (hyp : False) : xwp G m_DualPivotQuicksort_mergeRuns (d + 2) 149 [xR x0, xR x1, xI x2, xZ, xI x4, xR x5, xI x6, xI x7, xI x8, xZ, xZ, xZ, xR x12, xZ, xZ, xZ, xZ, xZ] [xR s0] h Q X := by
  have hnx9 : (93 : Int) ≤ xnx h := F.2.2
  refine xr_okL (fun hl9 => ?_)
  have r_x2 : -2147483648 ≤ x2 ∧ x2 ≤ 2147483647 := hl9 (xI x2) (.tail _ (.tail _ (.head _))) (Nat.le_of_ble_eq_true rfl)
  have r_x4 : -2147483648 ≤ x4 ∧ x4 ≤ 2147483647 := hl9 (xI x4) (.tail _ (.tail _ (.tail _ (.tail _ (.head _))))) (Nat.le_of_ble_eq_true rfl)
  have r_x6 : -2147483648 ≤ x6 ∧ x6 ≤ 2147483647 := hl9 (xI x6) (.tail _ (.tail _ (.tail _ (.tail _ (.tail _ (.tail _ (.head _))))))) (Nat.le_of_ble_eq_true rfl)
  have r_x7 : -2147483648 ≤ x7 ∧ x7 ≤ 2147483647 := hl9 (xI x7) (.tail _ (.tail _ (.tail _ (.tail _ (.tail _ (.tail _ (.tail _ (.head _)))))))) (Nat.le_of_ble_eq_true rfl)
  have r_x8 : -2147483648 ≤ x8 ∧ x8 ≤ 2147483647 := hl9 (xI x8) (.tail _ (.tail _ (.tail _ (.tail _ (.tail _ (.tail _ (.tail _ (.tail _ (.head _))))))))) (Nat.le_of_ble_eq_true rfl)
  refine xr_astore (pc := 149) (i := 10) (L9 := [xR x0, xR x1, xI x2, xZ, xI x4, xR x5, xI x6, xI x7, xI x8, xZ, xR s0, xZ, xR x12, xZ, xZ, xZ, xZ, xZ]) (hI := d_DualPivotQuicksort_mergeRuns_149) (hn := Nat.le_of_ble_eq_true rfl) (hL9 := rfl) ?_
  refine xr_aload (pc := 151) (i := 12) (hI := d_DualPivotQuicksort_mergeRuns_151) (hl := rfl) ?_
  exact hyp.elim
theorem d_DualPivotQuicksort_mergeRuns_164 : decode prog_46_method_19_code 164 = .ok (.aload_n 0, 1) := by decide +kernel
theorem d_DualPivotQuicksort_mergeRuns_165 : decode prog_46_method_19_code 165 = .ok (.aload_n 1, 1) := by decide +kernel
theorem d_DualPivotQuicksort_mergeRuns_166 : decode prog_46_method_19_code 166 = .ok (.iload_n 2, 1) := by decide +kernel
theorem d_DualPivotQuicksort_mergeRuns_167 : decode prog_46_method_19_code 167 = .ok (.iload_n 3, 1) := by decide +kernel
theorem d_DualPivotQuicksort_mergeRuns_168 : decode prog_46_method_19_code 168 = .ok (.ineg, 1) := by decide +kernel
theorem d_DualPivotQuicksort_mergeRuns_169 : decode prog_46_method_19_code 169 = .ok (.iconst 0, 1) := by decide +kernel
theorem d_DualPivotQuicksort_mergeRuns_170 : decode prog_46_method_19_code 170 = .ok (.aload 5, 2) := by decide +kernel
theorem d_DualPivotQuicksort_mergeRuns_172 : decode prog_46_method_19_code 172 = .ok (.iload 6, 2) := by decide +kernel
theorem d_DualPivotQuicksort_mergeRuns_174 : decode prog_46_method_19_code 174 = .ok (.iload 8, 2) := by decide +kernel
theorem d_DualPivotQuicksort_mergeRuns_176 : decode prog_46_method_19_code 176 = .ok (.invokestatic 118, 3) := by decide +kernel
theorem k_DualPivotQuicksort_mergeRuns : xCal m_DualPivotQuicksort_mergeRuns 8 := ⟨List.mem_append_right _ (List.mem_of_getElem? (i := 2161) (by decide +kernel)), w_38, Nat.le_of_ble_eq_true rfl, ⟨by decide +kernel, by decide +kernel⟩, by decide +kernel, by decide +kernel, rfl⟩
theorem w_2159 : Cond.methodLink "java/util/DualPivotQuicksort" 118 ⟨"java/util/DualPivotQuicksort", "mergeRuns", "([J[JIIZ[III)[J"⟩ ∈ lw_tbl := List.mem_append_right _ (List.mem_of_getElem? (i := 2159) (by decide +kernel))
theorem w_2160 : Cond.static ⟨"java/util/DualPivotQuicksort", "mergeRuns", "([J[JIIZ[III)[J"⟩ ∈ lw_tbl := List.mem_append_right _ (List.mem_of_getElem? (i := 2160) (by decide +kernel))
theorem v_DualPivotQuicksort_mergeRuns_164 {G : XG} {d : Nat} {h : XH} {Q : XV → XH → Prop} {X : Nat → XH → Prop} {x0 x1 x2 x3 x4 x5 x6 x7 x8 : Int} (F : xFix h) (hyp : xiR (-x3) ∧ (xwp G m_DualPivotQuicksort_mergeRuns (d + 1) 0 [xR x0, xR x1, xI x2, xI (-x3), xI 0, xR x5, xI x6, xI x8, xZ, xZ, xZ, xZ, xZ, xZ, xZ, xZ, xZ, xZ] [] h (fun v9 h9 => xwp G m_DualPivotQuicksort_mergeRuns (d + 2) 179 [xR x0, xR x1, xI x2, xZ, xI x4, xR x5, xI x6, xI x7, xI x8, xZ, xZ, xZ, xZ, xZ, xZ, xZ, xZ, xZ] (xpush v9 []) h9 Q X) X)) : xwp G m_DualPivotQuicksort_mergeRuns (d + 2) 164 [xR x0, xR x1, xI x2, xI x3, xI x4, xR x5, xI x6, xI x7, xI x8, xZ, xZ, xZ, xZ, xZ, xZ, xZ, xZ, xZ] [] h Q X := by
  have hnx9 : (93 : Int) ≤ xnx h := F.2.2
  refine xr_okL (fun hl9 => ?_)
  have r_x2 : -2147483648 ≤ x2 ∧ x2 ≤ 2147483647 := hl9 (xI x2) (.tail _ (.tail _ (.head _))) (Nat.le_of_ble_eq_true rfl)
  have r_x3 : -2147483648 ≤ x3 ∧ x3 ≤ 2147483647 := hl9 (xI x3) (.tail _ (.tail _ (.tail _ (.head _)))) (Nat.le_of_ble_eq_true rfl)
  have r_x4 : -2147483648 ≤ x4 ∧ x4 ≤ 2147483647 := hl9 (xI x4) (.tail _ (.tail _ (.tail _ (.tail _ (.head _))))) (Nat.le_of_ble_eq_true rfl)
  have r_x6 : -2147483648 ≤ x6 ∧ x6 ≤ 2147483647 := hl9 (xI x6) (.tail _ (.tail _ (.tail _ (.tail _ (.tail _ (.tail _ (.head _))))))) (Nat.le_of_ble_eq_true rfl)
  have r_x7 : -2147483648 ≤ x7 ∧ x7 ≤ 2147483647 := hl9 (xI x7) (.tail _ (.tail _ (.tail _ (.tail _ (.tail _ (.tail _ (.tail _ (.head _)))))))) (Nat.le_of_ble_eq_true rfl)
  have r_x8 : -2147483648 ≤ x8 ∧ x8 ≤ 2147483647 := hl9 (xI x8) (.tail _ (.tail _ (.tail _ (.tail _ (.tail _ (.tail _ (.tail _ (.tail _ (.head _))))))))) (Nat.le_of_ble_eq_true rfl)
  refine xr_aload_n (pc := 164) (i := 0) (hI := d_DualPivotQuicksort_mergeRuns_164) (hi := rfl) (hl := rfl) ?_
  refine xr_aload_n (pc := 165) (i := 1) (hI := d_DualPivotQuicksort_mergeRuns_165) (hi := rfl) (hl := rfl) ?_
  refine xr_iload_n (pc := 166) (i := 2) (hI := d_DualPivotQuicksort_mergeRuns_166) (hi := rfl) (hl := rfl) ?_
  refine xr_iload_n (pc := 167) (i := 3) (hI := d_DualPivotQuicksort_mergeRuns_167) (hi := rfl) (hl := rfl) ?_
  obtain ⟨c9, hyp⟩ := hyp
  refine xr_ineg (pc := 168) (hI := d_DualPivotQuicksort_mergeRuns_168) (hr := c9) ?_
  refine xr_iconst (pc := 169) (hI := d_DualPivotQuicksort_mergeRuns_169) (hr := by decide) ?_
  refine xr_aload (pc := 170) (i := 5) (hI := d_DualPivotQuicksort_mergeRuns_170) (hl := rfl) ?_
  refine xr_iload (pc := 172) (i := 6) (hI := d_DualPivotQuicksort_mergeRuns_172) (hl := rfl) ?_
  refine xr_iload (pc := 174) (i := 8) (hI := d_DualPivotQuicksort_mergeRuns_174) (hl := rfl) ?_
  exact xq_callS (pc := 176) (index := 118) (K := m_DualPivotQuicksort_mergeRuns) (As := [xR x0, xR x1, xI x2, xI (-x3), xI 0, xR x5, xI x6, xI x8]) (S := []) (L0 := [xR x0, xR x1, xI x2, xI (-x3), xI 0, xR x5, xI x6, xI x8, xZ, xZ, xZ, xZ, xZ, xZ, xZ, xZ, xZ, xZ]) (hI := d_DualPivotQuicksort_mergeRuns_176) (hK := k_DualPivotQuicksort_mergeRuns) (hlk := w_2159) (hnoM := rfl) (hS8 := Nat.le_of_ble_eq_true rfl) (hstat := w_2160) (hlen := Nat.le_of_ble_eq_true rfl) (hst := rfl) (hL0 := rfl)  (xwp_mono hyp (fun v9 h9 q9 => xr_drop (L9 := [xR x0, xR x1, xI x2, xZ, xI x4, xR x5, xI x6, xI x7, xI x8, xZ, xZ, xZ, xZ, xZ, xZ, xZ, xZ, xZ]) (xdrs (xdrs (xdrs (xdrz (xdrs (xdrs (xdrs (xdrs (xdrs (xdrs (xdrs (xdrs (xdrs (xdrs (xdrs (xdrs (xdrs (xdrs xdr0)))))))))))))))))) q9) (fun _ _ z9 => z9))
theorem d_DualPivotQuicksort_mergeRuns_179 : decode prog_46_method_19_code 179 = .ok (.astore 10, 2) := by decide +kernel
theorem d_DualPivotQuicksort_mergeRuns_181 : decode prog_46_method_19_code 181 = .ok (.aload_n 0, 1) := by decide +kernel
theorem d_DualPivotQuicksort_mergeRuns_182 : decode prog_46_method_19_code 182 = .ok (.aload_n 1, 1) := by decide +kernel
theorem d_DualPivotQuicksort_mergeRuns_183 : decode prog_46_method_19_code 183 = .ok (.iload_n 2, 1) := by decide +kernel
theorem d_DualPivotQuicksort_mergeRuns_184 : decode prog_46_method_19_code 184 = .ok (.iconst 0, 1) := by decide +kernel
theorem d_DualPivotQuicksort_mergeRuns_185 : decode prog_46_method_19_code 185 = .ok (.iconst 0, 1) := by decide +kernel
theorem d_DualPivotQuicksort_mergeRuns_186 : decode prog_46_method_19_code 186 = .ok (.aload 5, 2) := by decide +kernel
theorem d_DualPivotQuicksort_mergeRuns_188 : decode prog_46_method_19_code 188 = .ok (.iload 8, 2) := by decide +kernel
theorem d_DualPivotQuicksort_mergeRuns_190 : decode prog_46_method_19_code 190 = .ok (.iload 7, 2) := by decide +kernel
theorem d_DualPivotQuicksort_mergeRuns_192 : decode prog_46_method_19_code 192 = .ok (.invokestatic 118, 3) := by decide +kernel
theorem v_DualPivotQuicksort_mergeRuns_179 {G : XG} {d : Nat} {h : XH} {Q : XV → XH → Prop} {X : Nat → XH → Prop} {x0 x1 x2 x4 x5 x6 x7 x8 s0 : Int} (F : xFix h) (hyp : (xwp G m_DualPivotQuicksort_mergeRuns (d + 1) 0 [xR x0, xR x1, xI x2, xI 0, xI 0, xR x5, xI x8, xI x7, xZ, xZ, xZ, xZ, xZ, xZ, xZ, xZ, xZ, xZ] [] h (fun v9 h9 => xwp G m_DualPivotQuicksort_mergeRuns (d + 2) 195 [xR x0, xR x1, xI x2, xZ, xI x4, xR x5, xI x6, xI x7, xI x8, xZ, xR s0, xZ, xZ, xZ, xZ, xZ, xZ, xZ] (xpush v9 []) h9 Q X) X)) : xwp G m_DualPivotQuicksort_mergeRuns (d + 2) 179 [xR x0, xR x1, xI x2, xZ, xI x4, xR x5, xI x6, xI x7, xI x8, xZ, xZ, xZ, xZ, xZ, xZ, xZ, xZ, xZ] [xR s0] h Q X := by
  have hnx9 : (93 : Int) ≤ xnx h := F.2.2
  refine xr_okL (fun hl9 => ?_)
  have r_x2 : -2147483648 ≤ x2 ∧ x2 ≤ 2147483647 := hl9 (xI x2) (.tail _ (.tail _ (.head _))) (Nat.le_of_ble_eq_true rfl)
  have r_x4 : -2147483648 ≤ x4 ∧ x4 ≤ 2147483647 := hl9 (xI x4) (.tail _ (.tail _ (.tail _ (.tail _ (.head _))))) (Nat.le_of_ble_eq_true rfl)
  have r_x6 : -2147483648 ≤ x6 ∧ x6 ≤ 2147483647 := hl9 (xI x6) (.tail _ (.tail _ (.tail _ (.tail _ (.tail _ (.tail _ (.head _))))))) (Nat.le_of_ble_eq_true rfl)
  have r_x7 : -2147483648 ≤ x7 ∧ x7 ≤ 2147483647 := hl9 (xI x7) (.tail _ (.tail _ (.tail _ (.tail _ (.tail _ (.tail _ (.tail _ (.head _)))))))) (Nat.le_of_ble_eq_true rfl)
  have r_x8 : -2147483648 ≤ x8 ∧ x8 ≤ 2147483647 := hl9 (xI x8) (.tail _ (.tail _ (.tail _ (.tail _ (.tail _ (.tail _ (.tail _ (.tail _ (.head _))))))))) (Nat.le_of_ble_eq_true rfl)
  refine xr_astore (pc := 179) (i := 10) (L9 := [xR x0, xR x1, xI x2, xZ, xI x4, xR x5, xI x6, xI x7, xI x8, xZ, xR s0, xZ, xZ, xZ, xZ, xZ, xZ, xZ]) (hI := d_DualPivotQuicksort_mergeRuns_179) (hn := Nat.le_of_ble_eq_true rfl) (hL9 := rfl) ?_
  refine xr_aload_n (pc := 181) (i := 0) (hI := d_DualPivotQuicksort_mergeRuns_181) (hi := rfl) (hl := rfl) ?_
  refine xr_aload_n (pc := 182) (i := 1) (hI := d_DualPivotQuicksort_mergeRuns_182) (hi := rfl) (hl := rfl) ?_
  refine xr_iload_n (pc := 183) (i := 2) (hI := d_DualPivotQuicksort_mergeRuns_183) (hi := rfl) (hl := rfl) ?_
  refine xr_iconst (pc := 184) (hI := d_DualPivotQuicksort_mergeRuns_184) (hr := by decide) ?_
  refine xr_iconst (pc := 185) (hI := d_DualPivotQuicksort_mergeRuns_185) (hr := by decide) ?_
  refine xr_aload (pc := 186) (i := 5) (hI := d_DualPivotQuicksort_mergeRuns_186) (hl := rfl) ?_
  refine xr_iload (pc := 188) (i := 8) (hI := d_DualPivotQuicksort_mergeRuns_188) (hl := rfl) ?_
  refine xr_iload (pc := 190) (i := 7) (hI := d_DualPivotQuicksort_mergeRuns_190) (hl := rfl) ?_
  exact xq_callS (pc := 192) (index := 118) (K := m_DualPivotQuicksort_mergeRuns) (As := [xR x0, xR x1, xI x2, xI 0, xI 0, xR x5, xI x8, xI x7]) (S := []) (L0 := [xR x0, xR x1, xI x2, xI 0, xI 0, xR x5, xI x8, xI x7, xZ, xZ, xZ, xZ, xZ, xZ, xZ, xZ, xZ, xZ]) (hI := d_DualPivotQuicksort_mergeRuns_192) (hK := k_DualPivotQuicksort_mergeRuns) (hlk := w_2159) (hnoM := rfl) (hS8 := Nat.le_of_ble_eq_true rfl) (hstat := w_2160) (hlen := Nat.le_of_ble_eq_true rfl) (hst := rfl) (hL0 := rfl)  hyp
theorem d_DualPivotQuicksort_mergeRuns_195 : decode prog_46_method_19_code 195 = .ok (.astore 11, 2) := by decide +kernel
theorem v_DualPivotQuicksort_mergeRuns_195 {G : XG} {d : Nat} {h : XH} {Q : XV → XH → Prop} {X : Nat → XH → Prop} {x0 x1 x2 x4 x5 x6 x7 x8 x10 s0 : Int} (F : xFix h) (hyp : (xwp G m_DualPivotQuicksort_mergeRuns (d + 2) 197 [xR x0, xR x1, xI x2, xZ, xI x4, xR x5, xI x6, xI x7, xI x8, xZ, xR x10, xR s0, xZ, xZ, xZ, xZ, xZ, xZ] [] h Q X)) : xwp G m_DualPivotQuicksort_mergeRuns (d + 2) 195 [xR x0, xR x1, xI x2, xZ, xI x4, xR x5, xI x6, xI x7, xI x8, xZ, xR x10, xZ, xZ, xZ, xZ, xZ, xZ, xZ] [xR s0] h Q X := by
  have hnx9 : (93 : Int) ≤ xnx h := F.2.2
  refine xr_okL (fun hl9 => ?_)
  have r_x2 : -2147483648 ≤ x2 ∧ x2 ≤ 2147483647 := hl9 (xI x2) (.tail _ (.tail _ (.head _))) (Nat.le_of_ble_eq_true rfl)
  have r_x4 : -2147483648 ≤ x4 ∧ x4 ≤ 2147483647 := hl9 (xI x4) (.tail _ (.tail _ (.tail _ (.tail _ (.head _))))) (Nat.le_of_ble_eq_true rfl)
  have r_x6 : -2147483648 ≤ x6 ∧ x6 ≤ 2147483647 := hl9 (xI x6) (.tail _ (.tail _ (.tail _ (.tail _ (.tail _ (.tail _ (.head _))))))) (Nat.le_of_ble_eq_true rfl)
  have r_x7 : -2147483648 ≤ x7 ∧ x7 ≤ 2147483647 := hl9 (xI x7) (.tail _ (.tail _ (.tail _ (.tail _ (.tail _ (.tail _ (.tail _ (.head _)))))))) (Nat.le_of_ble_eq_true rfl)
  have r_x8 : -2147483648 ≤ x8 ∧ x8 ≤ 2147483647 := hl9 (xI x8) (.tail _ (.tail _ (.tail _ (.tail _ (.tail _ (.tail _ (.tail _ (.tail _ (.head _))))))))) (Nat.le_of_ble_eq_true rfl)
  refine xr_astore (pc := 195) (i := 11) (L9 := [xR x0, xR x1, xI x2, xZ, xI x4, xR x5, xI x6, xI x7, xI x8, xZ, xR x10, xR s0, xZ, xZ, xZ, xZ, xZ, xZ]) (hI := d_DualPivotQuicksort_mergeRuns_195) (hn := Nat.le_of_ble_eq_true rfl) (hL9 := rfl) ?_
  exact hyp
theorem d_DualPivotQuicksort_mergeRuns_197 : decode prog_46_method_19_code 197 = .ok (.aload 10, 2) := by decide +kernel
theorem d_DualPivotQuicksort_mergeRuns_199 : decode prog_46_method_19_code 199 = .ok (.aload_n 0, 1) := by decide +kernel
theorem d_DualPivotQuicksort_mergeRuns_200 : decode prog_46_method_19_code 200 = .ok (.if_acmp .ne 7, 3) := by decide +kernel
theorem d_DualPivotQuicksort_mergeRuns_207 : decode prog_46_method_19_code 207 = .ok (.aload_n 0, 1) := by decide +kernel
theorem d_DualPivotQuicksort_mergeRuns_203 : decode prog_46_method_19_code 203 = .ok (.aload_n 1, 1) := by decide +kernel
theorem d_DualPivotQuicksort_mergeRuns_204 : decode prog_46_method_19_code 204 = .ok (.goto 4, 3) := by decide +kernel
theorem v_DualPivotQuicksort_mergeRuns_197 {G : XG} {d : Nat} {h : XH} {Q : XV → XH → Prop} {X : Nat → XH → Prop} {x0 x1 x2 x4 x5 x6 x7 x8 x10 x11 : Int} (F : xFix h) (hyp : (x10 = x0 ∨ ((-1 ≤ x10 ∨ -1 ≤ x0) ∧ (-1 ≤ x10 ∨ xtg h x10 < 200) ∧ (-1 ≤ x0 ∨ xtg h x0 < 200))) ∧ ((x10 = x0 → (xwp G m_DualPivotQuicksort_mergeRuns (d + 2) 208 [xR x0, xR x1, xI x2, xZ, xI x4, xR x5, xI x6, xI x7, xI x8, xZ, xR x10, xR x11, xZ, xZ, xZ, xZ, xZ, xZ] [xR x1] h Q X)) ∧ (¬ x10 = x0 → (xwp G m_DualPivotQuicksort_mergeRuns (d + 2) 208 [xR x0, xR x1, xI x2, xZ, xI x4, xR x5, xI x6, xI x7, xI x8, xZ, xR x10, xR x11, xZ, xZ, xZ, xZ, xZ, xZ] [xR x0] h Q X)))) : xwp G m_DualPivotQuicksort_mergeRuns (d + 2) 197 [xR x0, xR x1, xI x2, xZ, xI x4, xR x5, xI x6, xI x7, xI x8, xZ, xR x10, xR x11, xZ, xZ, xZ, xZ, xZ, xZ] [] h Q X := by
  have hnx9 : (93 : Int) ≤ xnx h := F.2.2
  refine xr_okL (fun hl9 => ?_)
  have r_x2 : -2147483648 ≤ x2 ∧ x2 ≤ 2147483647 := hl9 (xI x2) (.tail _ (.tail _ (.head _))) (Nat.le_of_ble_eq_true rfl)
  have r_x4 : -2147483648 ≤ x4 ∧ x4 ≤ 2147483647 := hl9 (xI x4) (.tail _ (.tail _ (.tail _ (.tail _ (.head _))))) (Nat.le_of_ble_eq_true rfl)
  have r_x6 : -2147483648 ≤ x6 ∧ x6 ≤ 2147483647 := hl9 (xI x6) (.tail _ (.tail _ (.tail _ (.tail _ (.tail _ (.tail _ (.head _))))))) (Nat.le_of_ble_eq_true rfl)
  have r_x7 : -2147483648 ≤ x7 ∧ x7 ≤ 2147483647 := hl9 (xI x7) (.tail _ (.tail _ (.tail _ (.tail _ (.tail _ (.tail _ (.tail _ (.head _)))))))) (Nat.le_of_ble_eq_true rfl)
  have r_x8 : -2147483648 ≤ x8 ∧ x8 ≤ 2147483647 := hl9 (xI x8) (.tail _ (.tail _ (.tail _ (.tail _ (.tail _ (.tail _ (.tail _ (.tail _ (.head _))))))))) (Nat.le_of_ble_eq_true rfl)
  refine xr_aload (pc := 197) (i := 10) (hI := d_DualPivotQuicksort_mergeRuns_197) (hl := rfl) ?_
  refine xr_aload_n (pc := 199) (i := 0) (hI := d_DualPivotQuicksort_mergeRuns_199) (hi := rfl) (hl := rfl) ?_
  obtain ⟨c9, hyp⟩ := hyp
  refine xr_acmp_ne (pc := 200) (tgt := 207) (hI := d_DualPivotQuicksort_mergeRuns_200) (ht := by decide) (h1 := c9) (fun q9 => ?_) (fun q9 => ?_)
  · replace hyp := hyp.2 q9
    have q1_ := q9
    clear q9
    refine xr_aload_n (pc := 207) (i := 0) (hI := d_DualPivotQuicksort_mergeRuns_207) (hi := rfl) (hl := rfl) ?_
    exact hyp
  · replace hyp := hyp.1 q9
    have q1_ := q9
    clear q9
    refine xr_aload_n (pc := 203) (i := 1) (hI := d_DualPivotQuicksort_mergeRuns_203) (hi := rfl) (hl := rfl) ?_
    refine xr_goto (pc := 204) (tgt := 208) (hI := d_DualPivotQuicksort_mergeRuns_204) (ht := by decide) ?_
    exact hyp
theorem d_DualPivotQuicksort_mergeRuns_208 : decode prog_46_method_19_code 208 = .ok (.astore 12, 2) := by decide +kernel
theorem d_DualPivotQuicksort_mergeRuns_210 : decode prog_46_method_19_code 210 = .ok (.aload 10, 2) := by decide +kernel
theorem d_DualPivotQuicksort_mergeRuns_212 : decode prog_46_method_19_code 212 = .ok (.aload_n 0, 1) := by decide +kernel
theorem d_DualPivotQuicksort_mergeRuns_213 : decode prog_46_method_19_code 213 = .ok (.if_acmp .ne 13, 3) := by decide +kernel
theorem d_DualPivotQuicksort_mergeRuns_226 : decode prog_46_method_19_code 226 = .ok (.aload 5, 2) := by decide +kernel
theorem d_DualPivotQuicksort_mergeRuns_228 : decode prog_46_method_19_code 228 = .ok (.iload 6, 2) := by decide +kernel
theorem d_DualPivotQuicksort_mergeRuns_230 : decode prog_46_method_19_code 230 = .ok (.iaload, 1) := by decide +kernel
theorem d_DualPivotQuicksort_mergeRuns_216 : decode prog_46_method_19_code 216 = .ok (.aload 5, 2) := by decide +kernel
theorem d_DualPivotQuicksort_mergeRuns_218 : decode prog_46_method_19_code 218 = .ok (.iload 6, 2) := by decide +kernel
theorem d_DualPivotQuicksort_mergeRuns_220 : decode prog_46_method_19_code 220 = .ok (.iaload, 1) := by decide +kernel
theorem d_DualPivotQuicksort_mergeRuns_221 : decode prog_46_method_19_code 221 = .ok (.iload_n 2, 1) := by decide +kernel
theorem d_DualPivotQuicksort_mergeRuns_222 : decode prog_46_method_19_code 222 = .ok (.isub, 1) := by decide +kernel
theorem d_DualPivotQuicksort_mergeRuns_223 : decode prog_46_method_19_code 223 = .ok (.goto 8, 3) := by decide +kernel
theorem v_DualPivotQuicksort_mergeRuns_208 {G : XG} {d : Nat} {h : XH} {Q : XV → XH → Prop} {X : Nat → XH → Prop} {x0 x1 x2 x4 x5 x6 x7 x8 x10 x11 s0 : Int} (F : xFix h) (hyp : (x10 = x0 ∨ ((-1 ≤ x10 ∨ -1 ≤ x0) ∧ (-1 ≤ x10 ∨ xtg h x10 < 200) ∧ (-1 ≤ x0 ∨ xtg h x0 < 200))) ∧ ((x10 = x0 → xtg h x5 = 100 ∧ 0 ≤ x6 ∧ x6 < (xln h x5) ∧ xiR ((xpl h x5 x6) - x2) ∧ (xwp G m_DualPivotQuicksort_mergeRuns (d + 2) 231 [xZ, xR x1, xI x2, xZ, xI x4, xR x5, xI x6, xI x7, xI x8, xZ, xR x10, xR x11, xR s0, xZ, xZ, xZ, xZ, xZ] [xI ((xpl h x5 x6) - x2)] h Q X)) ∧ (¬ x10 = x0 → xtg h x5 = 100 ∧ 0 ≤ x6 ∧ x6 < (xln h x5) ∧ (xwp G m_DualPivotQuicksort_mergeRuns (d + 2) 231 [xZ, xR x1, xI x2, xZ, xI x4, xR x5, xI x6, xI x7, xI x8, xZ, xR x10, xR x11, xR s0, xZ, xZ, xZ, xZ, xZ] [xI (xpl h x5 x6)] h Q X)))) : xwp G m_DualPivotQuicksort_mergeRuns (d + 2) 208 [xR x0, xR x1, xI x2, xZ, xI x4, xR x5, xI x6, xI x7, xI x8, xZ, xR x10, xR x11, xZ, xZ, xZ, xZ, xZ, xZ] [xR s0] h Q X := by
  have hnx9 : (93 : Int) ≤ xnx h := F.2.2
  refine xr_okL (fun hl9 => ?_)
  have r_x2 : -2147483648 ≤ x2 ∧ x2 ≤ 2147483647 := hl9 (xI x2) (.tail _ (.tail _ (.head _))) (Nat.le_of_ble_eq_true rfl)
  have r_x4 : -2147483648 ≤ x4 ∧ x4 ≤ 2147483647 := hl9 (xI x4) (.tail _ (.tail _ (.tail _ (.tail _ (.head _))))) (Nat.le_of_ble_eq_true rfl)
  have r_x6 : -2147483648 ≤ x6 ∧ x6 ≤ 2147483647 := hl9 (xI x6) (.tail _ (.tail _ (.tail _ (.tail _ (.tail _ (.tail _ (.head _))))))) (Nat.le_of_ble_eq_true rfl)
  have r_x7 : -2147483648 ≤ x7 ∧ x7 ≤ 2147483647 := hl9 (xI x7) (.tail _ (.tail _ (.tail _ (.tail _ (.tail _ (.tail _ (.tail _ (.head _)))))))) (Nat.le_of_ble_eq_true rfl)
  have r_x8 : -2147483648 ≤ x8 ∧ x8 ≤ 2147483647 := hl9 (xI x8) (.tail _ (.tail _ (.tail _ (.tail _ (.tail _ (.tail _ (.tail _ (.tail _ (.head _))))))))) (Nat.le_of_ble_eq_true rfl)
  refine xr_astore (pc := 208) (i := 12) (L9 := [xR x0, xR x1, xI x2, xZ, xI x4, xR x5, xI x6, xI x7, xI x8, xZ, xR x10, xR x11, xR s0, xZ, xZ, xZ, xZ, xZ]) (hI := d_DualPivotQuicksort_mergeRuns_208) (hn := Nat.le_of_ble_eq_true rfl) (hL9 := rfl) ?_
  refine xr_aload (pc := 210) (i := 10) (hI := d_DualPivotQuicksort_mergeRuns_210) (hl := rfl) ?_
  refine xr_aload_n (pc := 212) (i := 0) (hI := d_DualPivotQuicksort_mergeRuns_212) (hi := rfl) (hl := rfl) ?_
  obtain ⟨c9, hyp⟩ := hyp
  refine xr_acmp_ne (pc := 213) (tgt := 226) (hI := d_DualPivotQuicksort_mergeRuns_213) (ht := by decide) (h1 := c9) (fun q9 => ?_) (fun q9 => ?_)
  · replace hyp := hyp.2 q9
    have q1_ := q9
    clear q9
    refine xr_aload (pc := 226) (i := 5) (hI := d_DualPivotQuicksort_mergeRuns_226) (hl := rfl) ?_
    refine xr_iload (pc := 228) (i := 6) (hI := d_DualPivotQuicksort_mergeRuns_228) (hl := rfl) ?_
    obtain ⟨c9, hyp⟩ := hyp
    have t2_ := c9
    clear c9
    obtain ⟨c3_, hyp⟩ := hyp
    obtain ⟨c4_, hyp⟩ := hyp
    refine xg_iaload (pc := 230) (v := (xpl h x5 x6)) (hI := d_DualPivotQuicksort_mergeRuns_230) t2_ c3_ (xlt_of rfl c4_) rfl (fun f5_ => ?_)
    replace f5_ : -2147483648 ≤ (xpl h x5 x6) ∧ (xpl h x5 x6) ≤ 2147483647 := f5_
    exact xr_drop (L9 := [xZ, xR x1, xI x2, xZ, xI x4, xR x5, xI x6, xI x7, xI x8, xZ, xR x10, xR x11, xR s0, xZ, xZ, xZ, xZ, xZ]) (xdrz (xdrs (xdrs (xdrs (xdrs (xdrs (xdrs (xdrs (xdrs (xdrs (xdrs (xdrs (xdrs (xdrs (xdrs (xdrs (xdrs (xdrs xdr0)))))))))))))))))) hyp
  · replace hyp := hyp.1 q9
    have q1_ := q9
    clear q9
    refine xr_aload (pc := 216) (i := 5) (hI := d_DualPivotQuicksort_mergeRuns_216) (hl := rfl) ?_
    refine xr_iload (pc := 218) (i := 6) (hI := d_DualPivotQuicksort_mergeRuns_218) (hl := rfl) ?_
    obtain ⟨c9, hyp⟩ := hyp
    have t6_ := c9
    clear c9
    obtain ⟨c7_, hyp⟩ := hyp
    obtain ⟨c8_, hyp⟩ := hyp
    refine xg_iaload (pc := 220) (v := (xpl h x5 x6)) (hI := d_DualPivotQuicksort_mergeRuns_220) t6_ c7_ (xlt_of rfl c8_) rfl (fun f9_ => ?_)
    replace f9_ : -2147483648 ≤ (xpl h x5 x6) ∧ (xpl h x5 x6) ≤ 2147483647 := f9_
    refine xr_iload_n (pc := 221) (i := 2) (hI := d_DualPivotQuicksort_mergeRuns_221) (hi := rfl) (hl := rfl) ?_
    obtain ⟨c9, hyp⟩ := hyp
    refine xr_isub (pc := 222) (hI := d_DualPivotQuicksort_mergeRuns_222) (hr := c9) ?_
    refine xr_goto (pc := 223) (tgt := 231) (hI := d_DualPivotQuicksort_mergeRuns_223) (ht := by decide) ?_
    exact xr_drop (L9 := [xZ, xR x1, xI x2, xZ, xI x4, xR x5, xI x6, xI x7, xI x8, xZ, xR x10, xR x11, xR s0, xZ, xZ, xZ, xZ, xZ]) (xdrz (xdrs (xdrs (xdrs (xdrs (xdrs (xdrs (xdrs (xdrs (xdrs (xdrs (xdrs (xdrs (xdrs (xdrs (xdrs (xdrs (xdrs xdr0)))))))))))))))))) hyp
theorem d_DualPivotQuicksort_mergeRuns_231 : decode prog_46_method_19_code 231 = .ok (.istore 13, 2) := by decide +kernel
theorem d_DualPivotQuicksort_mergeRuns_233 : decode prog_46_method_19_code 233 = .ok (.aload 10, 2) := by decide +kernel
theorem d_DualPivotQuicksort_mergeRuns_235 : decode prog_46_method_19_code 235 = .ok (.aload_n 1, 1) := by decide +kernel
theorem d_DualPivotQuicksort_mergeRuns_236 : decode prog_46_method_19_code 236 = .ok (.if_acmp .ne 13, 3) := by decide +kernel
theorem d_DualPivotQuicksort_mergeRuns_249 : decode prog_46_method_19_code 249 = .ok (.aload 5, 2) := by decide +kernel
theorem d_DualPivotQuicksort_mergeRuns_251 : decode prog_46_method_19_code 251 = .ok (.iload 6, 2) := by decide +kernel
theorem d_DualPivotQuicksort_mergeRuns_253 : decode prog_46_method_19_code 253 = .ok (.iaload, 1) := by decide +kernel
theorem d_DualPivotQuicksort_mergeRuns_239 : decode prog_46_method_19_code 239 = .ok (.aload 5, 2) := by decide +kernel
theorem d_DualPivotQuicksort_mergeRuns_241 : decode prog_46_method_19_code 241 = .ok (.iload 6, 2) := by decide +kernel
theorem d_DualPivotQuicksort_mergeRuns_243 : decode prog_46_method_19_code 243 = .ok (.iaload, 1) := by decide +kernel
theorem d_DualPivotQuicksort_mergeRuns_244 : decode prog_46_method_19_code 244 = .ok (.iload_n 2, 1) := by decide +kernel
theorem d_DualPivotQuicksort_mergeRuns_245 : decode prog_46_method_19_code 245 = .ok (.isub, 1) := by decide +kernel
theorem d_DualPivotQuicksort_mergeRuns_246 : decode prog_46_method_19_code 246 = .ok (.goto 8, 3) := by decide +kernel
theorem v_DualPivotQuicksort_mergeRuns_231 {G : XG} {d : Nat} {h : XH} {Q : XV → XH → Prop} {X : Nat → XH → Prop} {x1 x2 x4 x5 x6 x7 x8 x10 x11 x12 s0 : Int} (F : xFix h) (hyp : (x10 = x1 ∨ ((-1 ≤ x10 ∨ -1 ≤ x1) ∧ (-1 ≤ x10 ∨ xtg h x10 < 200) ∧ (-1 ≤ x1 ∨ xtg h x1 < 200))) ∧ ((x10 = x1 → xtg h x5 = 100 ∧ 0 ≤ x6 ∧ x6 < (xln h x5) ∧ xiR ((xpl h x5 x6) - x2) ∧ (xwp G m_DualPivotQuicksort_mergeRuns (d + 2) 254 [xZ, xR x1, xI x2, xZ, xI x4, xR x5, xZ, xI x7, xI x8, xZ, xR x10, xR x11, xR x12, xI s0, xZ, xZ, xZ, xZ] [xI ((xpl h x5 x6) - x2)] h Q X)) ∧ (¬ x10 = x1 → xtg h x5 = 100 ∧ 0 ≤ x6 ∧ x6 < (xln h x5) ∧ (xwp G m_DualPivotQuicksort_mergeRuns (d + 2) 254 [xZ, xR x1, xI x2, xZ, xI x4, xR x5, xZ, xI x7, xI x8, xZ, xR x10, xR x11, xR x12, xI s0, xZ, xZ, xZ, xZ] [xI (xpl h x5 x6)] h Q X)))) : xwp G m_DualPivotQuicksort_mergeRuns (d + 2) 231 [xZ, xR x1, xI x2, xZ, xI x4, xR x5, xI x6, xI x7, xI x8, xZ, xR x10, xR x11, xR x12, xZ, xZ, xZ, xZ, xZ] [xI s0] h Q X := by
  have hnx9 : (93 : Int) ≤ xnx h := F.2.2
  refine xr_okL (fun hl9 => ?_)
  have r_x2 : -2147483648 ≤ x2 ∧ x2 ≤ 2147483647 := hl9 (xI x2) (.tail _ (.tail _ (.head _))) (Nat.le_of_ble_eq_true rfl)
  have r_x4 : -2147483648 ≤ x4 ∧ x4 ≤ 2147483647 := hl9 (xI x4) (.tail _ (.tail _ (.tail _ (.tail _ (.head _))))) (Nat.le_of_ble_eq_true rfl)
  have r_x6 : -2147483648 ≤ x6 ∧ x6 ≤ 2147483647 := hl9 (xI x6) (.tail _ (.tail _ (.tail _ (.tail _ (.tail _ (.tail _ (.head _))))))) (Nat.le_of_ble_eq_true rfl)
  have r_x7 : -2147483648 ≤ x7 ∧ x7 ≤ 2147483647 := hl9 (xI x7) (.tail _ (.tail _ (.tail _ (.tail _ (.tail _ (.tail _ (.tail _ (.head _)))))))) (Nat.le_of_ble_eq_true rfl)
  have r_x8 : -2147483648 ≤ x8 ∧ x8 ≤ 2147483647 := hl9 (xI x8) (.tail _ (.tail _ (.tail _ (.tail _ (.tail _ (.tail _ (.tail _ (.tail _ (.head _))))))))) (Nat.le_of_ble_eq_true rfl)
  refine xr_okS (fun hs9 => ?_)
  have r_s0 : -2147483648 ≤ s0 ∧ s0 ≤ 2147483647 := hs9 (xI s0) (.head _)
  refine xr_istore (pc := 231) (i := 13) (L9 := [xZ, xR x1, xI x2, xZ, xI x4, xR x5, xI x6, xI x7, xI x8, xZ, xR x10, xR x11, xR x12, xI s0, xZ, xZ, xZ, xZ]) (hI := d_DualPivotQuicksort_mergeRuns_231) (hn := Nat.le_of_ble_eq_true rfl) (hL9 := rfl) ?_
  refine xr_aload (pc := 233) (i := 10) (hI := d_DualPivotQuicksort_mergeRuns_233) (hl := rfl) ?_
  refine xr_aload_n (pc := 235) (i := 1) (hI := d_DualPivotQuicksort_mergeRuns_235) (hi := rfl) (hl := rfl) ?_
  obtain ⟨c9, hyp⟩ := hyp
  refine xr_acmp_ne (pc := 236) (tgt := 249) (hI := d_DualPivotQuicksort_mergeRuns_236) (ht := by decide) (h1 := c9) (fun q9 => ?_) (fun q9 => ?_)
  · replace hyp := hyp.2 q9
    have q1_ := q9
    clear q9
    refine xr_aload (pc := 249) (i := 5) (hI := d_DualPivotQuicksort_mergeRuns_249) (hl := rfl) ?_
    refine xr_iload (pc := 251) (i := 6) (hI := d_DualPivotQuicksort_mergeRuns_251) (hl := rfl) ?_
    obtain ⟨c9, hyp⟩ := hyp
    have t2_ := c9
    clear c9
    obtain ⟨c3_, hyp⟩ := hyp
    obtain ⟨c4_, hyp⟩ := hyp
    refine xg_iaload (pc := 253) (v := (xpl h x5 x6)) (hI := d_DualPivotQuicksort_mergeRuns_253) t2_ c3_ (xlt_of rfl c4_) rfl (fun f5_ => ?_)
    replace f5_ : -2147483648 ≤ (xpl h x5 x6) ∧ (xpl h x5 x6) ≤ 2147483647 := f5_
    exact xr_drop (L9 := [xZ, xR x1, xI x2, xZ, xI x4, xR x5, xZ, xI x7, xI x8, xZ, xR x10, xR x11, xR x12, xI s0, xZ, xZ, xZ, xZ]) (xdrs (xdrs (xdrs (xdrs (xdrs (xdrs (xdrz (xdrs (xdrs (xdrs (xdrs (xdrs (xdrs (xdrs (xdrs (xdrs (xdrs (xdrs xdr0)))))))))))))))))) hyp
  · replace hyp := hyp.1 q9
    have q1_ := q9
    clear q9
    refine xr_aload (pc := 239) (i := 5) (hI := d_DualPivotQuicksort_mergeRuns_239) (hl := rfl) ?_
    refine xr_iload (pc := 241) (i := 6) (hI := d_DualPivotQuicksort_mergeRuns_241) (hl := rfl) ?_
    obtain ⟨c9, hyp⟩ := hyp
    have t6_ := c9
    clear c9
    obtain ⟨c7_, hyp⟩ := hyp
    obtain ⟨c8_, hyp⟩ := hyp
    refine xg_iaload (pc := 243) (v := (xpl h x5 x6)) (hI := d_DualPivotQuicksort_mergeRuns_243) t6_ c7_ (xlt_of rfl c8_) rfl (fun f9_ => ?_)
    replace f9_ : -2147483648 ≤ (xpl h x5 x6) ∧ (xpl h x5 x6) ≤ 2147483647 := f9_
    refine xr_iload_n (pc := 244) (i := 2) (hI := d_DualPivotQuicksort_mergeRuns_244) (hi := rfl) (hl := rfl) ?_
    obtain ⟨c9, hyp⟩ := hyp
    refine xr_isub (pc := 245) (hI := d_DualPivotQuicksort_mergeRuns_245) (hr := c9) ?_
    refine xr_goto (pc := 246) (tgt := 254) (hI := d_DualPivotQuicksort_mergeRuns_246) (ht := by decide) ?_
    exact xr_drop (L9 := [xZ, xR x1, xI x2, xZ, xI x4, xR x5, xZ, xI x7, xI x8, xZ, xR x10, xR x11, xR x12, xI s0, xZ, xZ, xZ, xZ]) (xdrs (xdrs (xdrs (xdrs (xdrs (xdrs (xdrz (xdrs (xdrs (xdrs (xdrs (xdrs (xdrs (xdrs (xdrs (xdrs (xdrs (xdrs xdr0)))))))))))))))))) hyp
theorem d_DualPivotQuicksort_mergeRuns_254 : decode prog_46_method_19_code 254 = .ok (.istore 14, 2) := by decide +kernel
theorem d_DualPivotQuicksort_mergeRuns_256 : decode prog_46_method_19_code 256 = .ok (.aload 10, 2) := by decide +kernel
theorem d_DualPivotQuicksort_mergeRuns_258 : decode prog_46_method_19_code 258 = .ok (.aload_n 1, 1) := by decide +kernel
theorem d_DualPivotQuicksort_mergeRuns_259 : decode prog_46_method_19_code 259 = .ok (.if_acmp .ne 13, 3) := by decide +kernel
theorem d_DualPivotQuicksort_mergeRuns_272 : decode prog_46_method_19_code 272 = .ok (.aload 5, 2) := by decide +kernel
theorem d_DualPivotQuicksort_mergeRuns_274 : decode prog_46_method_19_code 274 = .ok (.iload 8, 2) := by decide +kernel
theorem d_DualPivotQuicksort_mergeRuns_276 : decode prog_46_method_19_code 276 = .ok (.iaload, 1) := by decide +kernel
theorem d_DualPivotQuicksort_mergeRuns_262 : decode prog_46_method_19_code 262 = .ok (.aload 5, 2) := by decide +kernel
theorem d_DualPivotQuicksort_mergeRuns_264 : decode prog_46_method_19_code 264 = .ok (.iload 8, 2) := by decide +kernel
theorem d_DualPivotQuicksort_mergeRuns_266 : decode prog_46_method_19_code 266 = .ok (.iaload, 1) := by decide +kernel
theorem d_DualPivotQuicksort_mergeRuns_267 : decode prog_46_method_19_code 267 = .ok (.iload_n 2, 1) := by decide +kernel
theorem d_DualPivotQuicksort_mergeRuns_268 : decode prog_46_method_19_code 268 = .ok (.isub, 1) := by decide +kernel
theorem d_DualPivotQuicksort_mergeRuns_269 : decode prog_46_method_19_code 269 = .ok (.goto 8, 3) := by decide +kernel
theorem v_DualPivotQuicksort_mergeRuns_254 {G : XG} {d : Nat} {h : XH} {Q : XV → XH → Prop} {X : Nat → XH → Prop} {x1 x2 x4 x5 x7 x8 x10 x11 x12 x13 s0 : Int} (F : xFix h) (hyp : (x10 = x1 ∨ ((-1 ≤ x10 ∨ -1 ≤ x1) ∧ (-1 ≤ x10 ∨ xtg h x10 < 200) ∧ (-1 ≤ x1 ∨ xtg h x1 < 200))) ∧ ((x10 = x1 → xtg h x5 = 100 ∧ 0 ≤ x8 ∧ x8 < (xln h x5) ∧ xiR ((xpl h x5 x8) - x2) ∧ (xwp G m_DualPivotQuicksort_mergeRuns (d + 2) 277 [xZ, xR x1, xI x2, xZ, xI x4, xR x5, xZ, xI x7, xI x8, xZ, xR x10, xR x11, xR x12, xI x13, xI s0, xZ, xZ, xZ] [xI ((xpl h x5 x8) - x2)] h Q X)) ∧ (¬ x10 = x1 → xtg h x5 = 100 ∧ 0 ≤ x8 ∧ x8 < (xln h x5) ∧ (xwp G m_DualPivotQuicksort_mergeRuns (d + 2) 277 [xZ, xR x1, xI x2, xZ, xI x4, xR x5, xZ, xI x7, xI x8, xZ, xR x10, xR x11, xR x12, xI x13, xI s0, xZ, xZ, xZ] [xI (xpl h x5 x8)] h Q X)))) : xwp G m_DualPivotQuicksort_mergeRuns (d + 2) 254 [xZ, xR x1, xI x2, xZ, xI x4, xR x5, xZ, xI x7, xI x8, xZ, xR x10, xR x11, xR x12, xI x13, xZ, xZ, xZ, xZ] [xI s0] h Q X := by
  have hnx9 : (93 : Int) ≤ xnx h := F.2.2
  refine xr_okL (fun hl9 => ?_)
  have r_x2 : -2147483648 ≤ x2 ∧ x2 ≤ 2147483647 := hl9 (xI x2) (.tail _ (.tail _ (.head _))) (Nat.le_of_ble_eq_true rfl)
  have r_x4 : -2147483648 ≤ x4 ∧ x4 ≤ 2147483647 := hl9 (xI x4) (.tail _ (.tail _ (.tail _ (.tail _ (.head _))))) (Nat.le_of_ble_eq_true rfl)
  have r_x7 : -2147483648 ≤ x7 ∧ x7 ≤ 2147483647 := hl9 (xI x7) (.tail _ (.tail _ (.tail _ (.tail _ (.tail _ (.tail _ (.tail _ (.head _)))))))) (Nat.le_of_ble_eq_true rfl)
  have r_x8 : -2147483648 ≤ x8 ∧ x8 ≤ 2147483647 := hl9 (xI x8) (.tail _ (.tail _ (.tail _ (.tail _ (.tail _ (.tail _ (.tail _ (.tail _ (.head _))))))))) (Nat.le_of_ble_eq_true rfl)
  have r_x13 : -2147483648 ≤ x13 ∧ x13 ≤ 2147483647 := hl9 (xI x13) (.tail _ (.tail _ (.tail _ (.tail _ (.tail _ (.tail _ (.tail _ (.tail _ (.tail _ (.tail _ (.tail _ (.tail _ (.tail _ (.head _)))))))))))))) (Nat.le_of_ble_eq_true rfl)
  refine xr_okS (fun hs9 => ?_)
  have r_s0 : -2147483648 ≤ s0 ∧ s0 ≤ 2147483647 := hs9 (xI s0) (.head _)
  refine xr_istore (pc := 254) (i := 14) (L9 := [xZ, xR x1, xI x2, xZ, xI x4, xR x5, xZ, xI x7, xI x8, xZ, xR x10, xR x11, xR x12, xI x13, xI s0, xZ, xZ, xZ]) (hI := d_DualPivotQuicksort_mergeRuns_254) (hn := Nat.le_of_ble_eq_true rfl) (hL9 := rfl) ?_
  refine xr_aload (pc := 256) (i := 10) (hI := d_DualPivotQuicksort_mergeRuns_256) (hl := rfl) ?_
  refine xr_aload_n (pc := 258) (i := 1) (hI := d_DualPivotQuicksort_mergeRuns_258) (hi := rfl) (hl := rfl) ?_
  obtain ⟨c9, hyp⟩ := hyp
  refine xr_acmp_ne (pc := 259) (tgt := 272) (hI := d_DualPivotQuicksort_mergeRuns_259) (ht := by decide) (h1 := c9) (fun q9 => ?_) (fun q9 => ?_)
  · replace hyp := hyp.2 q9
    have q1_ := q9
    clear q9
    refine xr_aload (pc := 272) (i := 5) (hI := d_DualPivotQuicksort_mergeRuns_272) (hl := rfl) ?_
    refine xr_iload (pc := 274) (i := 8) (hI := d_DualPivotQuicksort_mergeRuns_274) (hl := rfl) ?_
    obtain ⟨c9, hyp⟩ := hyp
    have t2_ := c9
    clear c9
    obtain ⟨c3_, hyp⟩ := hyp
    obtain ⟨c4_, hyp⟩ := hyp
    refine xg_iaload (pc := 276) (v := (xpl h x5 x8)) (hI := d_DualPivotQuicksort_mergeRuns_276) t2_ c3_ (xlt_of rfl c4_) rfl (fun f5_ => ?_)
    replace f5_ : -2147483648 ≤ (xpl h x5 x8) ∧ (xpl h x5 x8) ≤ 2147483647 := f5_
    exact hyp
  · replace hyp := hyp.1 q9
    have q1_ := q9
    clear q9
    refine xr_aload (pc := 262) (i := 5) (hI := d_DualPivotQuicksort_mergeRuns_262) (hl := rfl) ?_
    refine xr_iload (pc := 264) (i := 8) (hI := d_DualPivotQuicksort_mergeRuns_264) (hl := rfl) ?_
    obtain ⟨c9, hyp⟩ := hyp
    have t6_ := c9
    clear c9
    obtain ⟨c7_, hyp⟩ := hyp
    obtain ⟨c8_, hyp⟩ := hyp
    refine xg_iaload (pc := 266) (v := (xpl h x5 x8)) (hI := d_DualPivotQuicksort_mergeRuns_266) t6_ c7_ (xlt_of rfl c8_) rfl (fun f9_ => ?_)
    replace f9_ : -2147483648 ≤ (xpl h x5 x8) ∧ (xpl h x5 x8) ≤ 2147483647 := f9_
    refine xr_iload_n (pc := 267) (i := 2) (hI := d_DualPivotQuicksort_mergeRuns_267) (hi := rfl) (hl := rfl) ?_
    obtain ⟨c9, hyp⟩ := hyp
    refine xr_isub (pc := 268) (hI := d_DualPivotQuicksort_mergeRuns_268) (hr := c9) ?_
    refine xr_goto (pc := 269) (tgt := 277) (hI := d_DualPivotQuicksort_mergeRuns_269) (ht := by decide) ?_
    exact hyp
theorem d_DualPivotQuicksort_mergeRuns_277 : decode prog_46_method_19_code 277 = .ok (.istore 15, 2) := by decide +kernel
theorem d_DualPivotQuicksort_mergeRuns_279 : decode prog_46_method_19_code 279 = .ok (.aload 11, 2) := by decide +kernel
theorem d_DualPivotQuicksort_mergeRuns_281 : decode prog_46_method_19_code 281 = .ok (.aload_n 1, 1) := by decide +kernel
theorem d_DualPivotQuicksort_mergeRuns_282 : decode prog_46_method_19_code 282 = .ok (.if_acmp .ne 13, 3) := by decide +kernel
theorem d_DualPivotQuicksort_mergeRuns_295 : decode prog_46_method_19_code 295 = .ok (.aload 5, 2) := by decide +kernel
theorem d_DualPivotQuicksort_mergeRuns_297 : decode prog_46_method_19_code 297 = .ok (.iload 8, 2) := by decide +kernel
theorem d_DualPivotQuicksort_mergeRuns_299 : decode prog_46_method_19_code 299 = .ok (.iaload, 1) := by decide +kernel
theorem d_DualPivotQuicksort_mergeRuns_285 : decode prog_46_method_19_code 285 = .ok (.aload 5, 2) := by decide +kernel
theorem d_DualPivotQuicksort_mergeRuns_287 : decode prog_46_method_19_code 287 = .ok (.iload 8, 2) := by decide +kernel
theorem d_DualPivotQuicksort_mergeRuns_289 : decode prog_46_method_19_code 289 = .ok (.iaload, 1) := by decide +kernel
theorem d_DualPivotQuicksort_mergeRuns_290 : decode prog_46_method_19_code 290 = .ok (.iload_n 2, 1) := by decide +kernel
theorem d_DualPivotQuicksort_mergeRuns_291 : decode prog_46_method_19_code 291 = .ok (.isub, 1) := by decide +kernel
theorem d_DualPivotQuicksort_mergeRuns_292 : decode prog_46_method_19_code 292 = .ok (.goto 8, 3) := by decide +kernel
theorem v_DualPivotQuicksort_mergeRuns_277 {G : XG} {d : Nat} {h : XH} {Q : XV → XH → Prop} {X : Nat → XH → Prop} {x1 x2 x4 x5 x7 x8 x10 x11 x12 x13 x14 s0 : Int} (F : xFix h) (hyp : (x11 = x1 ∨ ((-1 ≤ x11 ∨ -1 ≤ x1) ∧ (-1 ≤ x11 ∨ xtg h x11 < 200) ∧ (-1 ≤ x1 ∨ xtg h x1 < 200))) ∧ ((x11 = x1 → xtg h x5 = 100 ∧ 0 ≤ x8 ∧ x8 < (xln h x5) ∧ xiR ((xpl h x5 x8) - x2) ∧ (xwp G m_DualPivotQuicksort_mergeRuns (d + 2) 300 [xZ, xR x1, xI x2, xZ, xI x4, xR x5, xZ, xI x7, xZ, xZ, xR x10, xR x11, xR x12, xI x13, xI x14, xI s0, xZ, xZ] [xI ((xpl h x5 x8) - x2)] h Q X)) ∧ (¬ x11 = x1 → xtg h x5 = 100 ∧ 0 ≤ x8 ∧ x8 < (xln h x5) ∧ (xwp G m_DualPivotQuicksort_mergeRuns (d + 2) 300 [xZ, xR x1, xI x2, xZ, xI x4, xR x5, xZ, xI x7, xZ, xZ, xR x10, xR x11, xR x12, xI x13, xI x14, xI s0, xZ, xZ] [xI (xpl h x5 x8)] h Q X)))) : xwp G m_DualPivotQuicksort_mergeRuns (d + 2) 277 [xZ, xR x1, xI x2, xZ, xI x4, xR x5, xZ, xI x7, xI x8, xZ, xR x10, xR x11, xR x12, xI x13, xI x14, xZ, xZ, xZ] [xI s0] h Q X := by
  have hnx9 : (93 : Int) ≤ xnx h := F.2.2
  refine xr_okL (fun hl9 => ?_)
  have r_x2 : -2147483648 ≤ x2 ∧ x2 ≤ 2147483647 := hl9 (xI x2) (.tail _ (.tail _ (.head _))) (Nat.le_of_ble_eq_true rfl)
  have r_x4 : -2147483648 ≤ x4 ∧ x4 ≤ 2147483647 := hl9 (xI x4) (.tail _ (.tail _ (.tail _ (.tail _ (.head _))))) (Nat.le_of_ble_eq_true rfl)
  have r_x7 : -2147483648 ≤ x7 ∧ x7 ≤ 2147483647 := hl9 (xI x7) (.tail _ (.tail _ (.tail _ (.tail _ (.tail _ (.tail _ (.tail _ (.head _)))))))) (Nat.le_of_ble_eq_true rfl)
  have r_x8 : -2147483648 ≤ x8 ∧ x8 ≤ 2147483647 := hl9 (xI x8) (.tail _ (.tail _ (.tail _ (.tail _ (.tail _ (.tail _ (.tail _ (.tail _ (.head _))))))))) (Nat.le_of_ble_eq_true rfl)
  have r_x13 : -2147483648 ≤ x13 ∧ x13 ≤ 2147483647 := hl9 (xI x13) (.tail _ (.tail _ (.tail _ (.tail _ (.tail _ (.tail _ (.tail _ (.tail _ (.tail _ (.tail _ (.tail _ (.tail _ (.tail _ (.head _)))))))))))))) (Nat.le_of_ble_eq_true rfl)
  have r_x14 : -2147483648 ≤ x14 ∧ x14 ≤ 2147483647 := hl9 (xI x14) (.tail _ (.tail _ (.tail _ (.tail _ (.tail _ (.tail _ (.tail _ (.tail _ (.tail _ (.tail _ (.tail _ (.tail _ (.tail _ (.tail _ (.head _))))))))))))))) (Nat.le_of_ble_eq_true rfl)
  refine xr_okS (fun hs9 => ?_)
  have r_s0 : -2147483648 ≤ s0 ∧ s0 ≤ 2147483647 := hs9 (xI s0) (.head _)
  refine xr_istore (pc := 277) (i := 15) (L9 := [xZ, xR x1, xI x2, xZ, xI x4, xR x5, xZ, xI x7, xI x8, xZ, xR x10, xR x11, xR x12, xI x13, xI x14, xI s0, xZ, xZ]) (hI := d_DualPivotQuicksort_mergeRuns_277) (hn := Nat.le_of_ble_eq_true rfl) (hL9 := rfl) ?_
  refine xr_aload (pc := 279) (i := 11) (hI := d_DualPivotQuicksort_mergeRuns_279) (hl := rfl) ?_
  refine xr_aload_n (pc := 281) (i := 1) (hI := d_DualPivotQuicksort_mergeRuns_281) (hi := rfl) (hl := rfl) ?_
  obtain ⟨c9, hyp⟩ := hyp
  refine xr_acmp_ne (pc := 282) (tgt := 295) (hI := d_DualPivotQuicksort_mergeRuns_282) (ht := by decide) (h1 := c9) (fun q9 => ?_) (fun q9 => ?_)
  · replace hyp := hyp.2 q9
    have q1_ := q9
    clear q9
    refine xr_aload (pc := 295) (i := 5) (hI := d_DualPivotQuicksort_mergeRuns_295) (hl := rfl) ?_
    refine xr_iload (pc := 297) (i := 8) (hI := d_DualPivotQuicksort_mergeRuns_297) (hl := rfl) ?_
    obtain ⟨c9, hyp⟩ := hyp
    have t2_ := c9
    clear c9
    obtain ⟨c3_, hyp⟩ := hyp
    obtain ⟨c4_, hyp⟩ := hyp
    refine xg_iaload (pc := 299) (v := (xpl h x5 x8)) (hI := d_DualPivotQuicksort_mergeRuns_299) t2_ c3_ (xlt_of rfl c4_) rfl (fun f5_ => ?_)
    replace f5_ : -2147483648 ≤ (xpl h x5 x8) ∧ (xpl h x5 x8) ≤ 2147483647 := f5_
    exact xr_drop (L9 := [xZ, xR x1, xI x2, xZ, xI x4, xR x5, xZ, xI x7, xZ, xZ, xR x10, xR x11, xR x12, xI x13, xI x14, xI s0, xZ, xZ]) (xdrs (xdrs (xdrs (xdrs (xdrs (xdrs (xdrs (xdrs (xdrz (xdrs (xdrs (xdrs (xdrs (xdrs (xdrs (xdrs (xdrs (xdrs xdr0)))))))))))))))))) hyp
  · replace hyp := hyp.1 q9
    have q1_ := q9
    clear q9
    refine xr_aload (pc := 285) (i := 5) (hI := d_DualPivotQuicksort_mergeRuns_285) (hl := rfl) ?_
    refine xr_iload (pc := 287) (i := 8) (hI := d_DualPivotQuicksort_mergeRuns_287) (hl := rfl) ?_
    obtain ⟨c9, hyp⟩ := hyp
    have t6_ := c9
    clear c9
    obtain ⟨c7_, hyp⟩ := hyp
    obtain ⟨c8_, hyp⟩ := hyp
    refine xg_iaload (pc := 289) (v := (xpl h x5 x8)) (hI := d_DualPivotQuicksort_mergeRuns_289) t6_ c7_ (xlt_of rfl c8_) rfl (fun f9_ => ?_)
    replace f9_ : -2147483648 ≤ (xpl h x5 x8) ∧ (xpl h x5 x8) ≤ 2147483647 := f9_
    refine xr_iload_n (pc := 290) (i := 2) (hI := d_DualPivotQuicksort_mergeRuns_290) (hi := rfl) (hl := rfl) ?_
    obtain ⟨c9, hyp⟩ := hyp
    refine xr_isub (pc := 291) (hI := d_DualPivotQuicksort_mergeRuns_291) (hr := c9) ?_
    refine xr_goto (pc := 292) (tgt := 300) (hI := d_DualPivotQuicksort_mergeRuns_292) (ht := by decide) ?_
    exact xr_drop (L9 := [xZ, xR x1, xI x2, xZ, xI x4, xR x5, xZ, xI x7, xZ, xZ, xR x10, xR x11, xR x12, xI x13, xI x14, xI s0, xZ, xZ]) (xdrs (xdrs (xdrs (xdrs (xdrs (xdrs (xdrs (xdrs (xdrz (xdrs (xdrs (xdrs (xdrs (xdrs (xdrs (xdrs (xdrs (xdrs xdr0)))))))))))))))))) hyp
theorem d_DualPivotQuicksort_mergeRuns_300 : decode prog_46_method_19_code 300 = .ok (.istore 16, 2) := by decide +kernel
theorem d_DualPivotQuicksort_mergeRuns_302 : decode prog_46_method_19_code 302 = .ok (.aload 11, 2) := by decide +kernel
theorem d_DualPivotQuicksort_mergeRuns_304 : decode prog_46_method_19_code 304 = .ok (.aload_n 1, 1) := by decide +kernel
theorem d_DualPivotQuicksort_mergeRuns_305 : decode prog_46_method_19_code 305 = .ok (.if_acmp .ne 13, 3) := by decide +kernel
theorem d_DualPivotQuicksort_mergeRuns_318 : decode prog_46_method_19_code 318 = .ok (.aload 5, 2) := by decide +kernel
theorem d_DualPivotQuicksort_mergeRuns_320 : decode prog_46_method_19_code 320 = .ok (.iload 7, 2) := by decide +kernel
theorem d_DualPivotQuicksort_mergeRuns_322 : decode prog_46_method_19_code 322 = .ok (.iaload, 1) := by decide +kernel
theorem d_DualPivotQuicksort_mergeRuns_308 : decode prog_46_method_19_code 308 = .ok (.aload 5, 2) := by decide +kernel
theorem d_DualPivotQuicksort_mergeRuns_310 : decode prog_46_method_19_code 310 = .ok (.iload 7, 2) := by decide +kernel
theorem d_DualPivotQuicksort_mergeRuns_312 : decode prog_46_method_19_code 312 = .ok (.iaload, 1) := by decide +kernel
theorem d_DualPivotQuicksort_mergeRuns_313 : decode prog_46_method_19_code 313 = .ok (.iload_n 2, 1) := by decide +kernel
theorem d_DualPivotQuicksort_mergeRuns_314 : decode prog_46_method_19_code 314 = .ok (.isub, 1) := by decide +kernel
theorem d_DualPivotQuicksort_mergeRuns_315 : decode prog_46_method_19_code 315 = .ok (.goto 8, 3) := by decide +kernel
theorem v_DualPivotQuicksort_mergeRuns_300 {G : XG} {d : Nat} {h : XH} {Q : XV → XH → Prop} {X : Nat → XH → Prop} {x1 x2 x4 x5 x7 x10 x11 x12 x13 x14 x15 s0 : Int} (F : xFix h) (hyp : (x11 = x1 ∨ ((-1 ≤ x11 ∨ -1 ≤ x1) ∧ (-1 ≤ x11 ∨ xtg h x11 < 200) ∧ (-1 ≤ x1 ∨ xtg h x1 < 200))) ∧ ((x11 = x1 → xtg h x5 = 100 ∧ 0 ≤ x7 ∧ x7 < (xln h x5) ∧ xiR ((xpl h x5 x7) - x2) ∧ (xwp G m_DualPivotQuicksort_mergeRuns (d + 2) 323 [xZ, xZ, xZ, xZ, xI x4, xZ, xZ, xZ, xZ, xZ, xR x10, xR x11, xR x12, xI x13, xI x14, xI x15, xI s0, xZ] [xI ((xpl h x5 x7) - x2)] h Q X)) ∧ (¬ x11 = x1 → xtg h x5 = 100 ∧ 0 ≤ x7 ∧ x7 < (xln h x5) ∧ (xwp G m_DualPivotQuicksort_mergeRuns (d + 2) 323 [xZ, xZ, xZ, xZ, xI x4, xZ, xZ, xZ, xZ, xZ, xR x10, xR x11, xR x12, xI x13, xI x14, xI x15, xI s0, xZ] [xI (xpl h x5 x7)] h Q X)))) : xwp G m_DualPivotQuicksort_mergeRuns (d + 2) 300 [xZ, xR x1, xI x2, xZ, xI x4, xR x5, xZ, xI x7, xZ, xZ, xR x10, xR x11, xR x12, xI x13, xI x14, xI x15, xZ, xZ] [xI s0] h Q X := by
  have hnx9 : (93 : Int) ≤ xnx h := F.2.2
  refine xr_okL (fun hl9 => ?_)
  have r_x2 : -2147483648 ≤ x2 ∧ x2 ≤ 2147483647 := hl9 (xI x2) (.tail _ (.tail _ (.head _))) (Nat.le_of_ble_eq_true rfl)
  have r_x4 : -2147483648 ≤ x4 ∧ x4 ≤ 2147483647 := hl9 (xI x4) (.tail _ (.tail _ (.tail _ (.tail _ (.head _))))) (Nat.le_of_ble_eq_true rfl)
  have r_x7 : -2147483648 ≤ x7 ∧ x7 ≤ 2147483647 := hl9 (xI x7) (.tail _ (.tail _ (.tail _ (.tail _ (.tail _ (.tail _ (.tail _ (.head _)))))))) (Nat.le_of_ble_eq_true rfl)
  have r_x13 : -2147483648 ≤ x13 ∧ x13 ≤ 2147483647 := hl9 (xI x13) (.tail _ (.tail _ (.tail _ (.tail _ (.tail _ (.tail _ (.tail _ (.tail _ (.tail _ (.tail _ (.tail _ (.tail _ (.tail _ (.head _)))))))))))))) (Nat.le_of_ble_eq_true rfl)
  have r_x14 : -2147483648 ≤ x14 ∧ x14 ≤ 2147483647 := hl9 (xI x14) (.tail _ (.tail _ (.tail _ (.tail _ (.tail _ (.tail _ (.tail _ (.tail _ (.tail _ (.tail _ (.tail _ (.tail _ (.tail _ (.tail _ (.head _))))))))))))))) (Nat.le_of_ble_eq_true rfl)
  have r_x15 : -2147483648 ≤ x15 ∧ x15 ≤ 2147483647 := hl9 (xI x15) (.tail _ (.tail _ (.tail _ (.tail _ (.tail _ (.tail _ (.tail _ (.tail _ (.tail _ (.tail _ (.tail _ (.tail _ (.tail _ (.tail _ (.tail _ (.head _)))))))))))))))) (Nat.le_of_ble_eq_true rfl)
  refine xr_okS (fun hs9 => ?_)
  have r_s0 : -2147483648 ≤ s0 ∧ s0 ≤ 2147483647 := hs9 (xI s0) (.head _)
  refine xr_istore (pc := 300) (i := 16) (L9 := [xZ, xR x1, xI x2, xZ, xI x4, xR x5, xZ, xI x7, xZ, xZ, xR x10, xR x11, xR x12, xI x13, xI x14, xI x15, xI s0, xZ]) (hI := d_DualPivotQuicksort_mergeRuns_300) (hn := Nat.le_of_ble_eq_true rfl) (hL9 := rfl) ?_
  refine xr_aload (pc := 302) (i := 11) (hI := d_DualPivotQuicksort_mergeRuns_302) (hl := rfl) ?_
  refine xr_aload_n (pc := 304) (i := 1) (hI := d_DualPivotQuicksort_mergeRuns_304) (hi := rfl) (hl := rfl) ?_
  obtain ⟨c9, hyp⟩ := hyp
  refine xr_acmp_ne (pc := 305) (tgt := 318) (hI := d_DualPivotQuicksort_mergeRuns_305) (ht := by decide) (h1 := c9) (fun q9 => ?_) (fun q9 => ?_)
  · replace hyp := hyp.2 q9
    have q1_ := q9
    clear q9
    refine xr_aload (pc := 318) (i := 5) (hI := d_DualPivotQuicksort_mergeRuns_318) (hl := rfl) ?_
    refine xr_iload (pc := 320) (i := 7) (hI := d_DualPivotQuicksort_mergeRuns_320) (hl := rfl) ?_
    obtain ⟨c9, hyp⟩ := hyp
    have t2_ := c9
    clear c9
    obtain ⟨c3_, hyp⟩ := hyp
    obtain ⟨c4_, hyp⟩ := hyp
    refine xg_iaload (pc := 322) (v := (xpl h x5 x7)) (hI := d_DualPivotQuicksort_mergeRuns_322) t2_ c3_ (xlt_of rfl c4_) rfl (fun f5_ => ?_)
    replace f5_ : -2147483648 ≤ (xpl h x5 x7) ∧ (xpl h x5 x7) ≤ 2147483647 := f5_
    exact xr_drop (L9 := [xZ, xZ, xZ, xZ, xI x4, xZ, xZ, xZ, xZ, xZ, xR x10, xR x11, xR x12, xI x13, xI x14, xI x15, xI s0, xZ]) (xdrs (xdrz (xdrz (xdrs (xdrs (xdrz (xdrs (xdrz (xdrs (xdrs (xdrs (xdrs (xdrs (xdrs (xdrs (xdrs (xdrs (xdrs xdr0)))))))))))))))))) hyp
  · replace hyp := hyp.1 q9
    have q1_ := q9
    clear q9
    refine xr_aload (pc := 308) (i := 5) (hI := d_DualPivotQuicksort_mergeRuns_308) (hl := rfl) ?_
    refine xr_iload (pc := 310) (i := 7) (hI := d_DualPivotQuicksort_mergeRuns_310) (hl := rfl) ?_
    obtain ⟨c9, hyp⟩ := hyp
    have t6_ := c9
    clear c9
    obtain ⟨c7_, hyp⟩ := hyp
    obtain ⟨c8_, hyp⟩ := hyp
    refine xg_iaload (pc := 312) (v := (xpl h x5 x7)) (hI := d_DualPivotQuicksort_mergeRuns_312) t6_ c7_ (xlt_of rfl c8_) rfl (fun f9_ => ?_)
    replace f9_ : -2147483648 ≤ (xpl h x5 x7) ∧ (xpl h x5 x7) ≤ 2147483647 := f9_
    refine xr_iload_n (pc := 313) (i := 2) (hI := d_DualPivotQuicksort_mergeRuns_313) (hi := rfl) (hl := rfl) ?_
    obtain ⟨c9, hyp⟩ := hyp
    refine xr_isub (pc := 314) (hI := d_DualPivotQuicksort_mergeRuns_314) (hr := c9) ?_
    refine xr_goto (pc := 315) (tgt := 323) (hI := d_DualPivotQuicksort_mergeRuns_315) (ht := by decide) ?_
    exact xr_drop (L9 := [xZ, xZ, xZ, xZ, xI x4, xZ, xZ, xZ, xZ, xZ, xR x10, xR x11, xR x12, xI x13, xI x14, xI x15, xI s0, xZ]) (xdrs (xdrz (xdrz (xdrs (xdrs (xdrz (xdrs (xdrz (xdrs (xdrs (xdrs (xdrs (xdrs (xdrs (xdrs (xdrs (xdrs (xdrs xdr0)))))))))))))))))) hyp
theorem d_DualPivotQuicksort_mergeRuns_323 : decode prog_46_method_19_code 323 = .ok (.istore 17, 2) := by decide +kernel
theorem d_DualPivotQuicksort_mergeRuns_325 : decode prog_46_method_19_code 325 = .ok (.iload 4, 2) := by decide +kernel
theorem d_DualPivotQuicksort_mergeRuns_327 : decode prog_46_method_19_code 327 = .ok (.ifCond .eq 34, 3) := by decide +kernel
theorem d_DualPivotQuicksort_mergeRuns_361 : decode prog_46_method_19_code 361 = .ok (.aconst_null, 1) := by decide +kernel
theorem d_DualPivotQuicksort_mergeRuns_362 : decode prog_46_method_19_code 362 = .ok (.aload 12, 2) := by decide +kernel
theorem d_DualPivotQuicksort_mergeRuns_364 : decode prog_46_method_19_code 364 = .ok (.iload 13, 2) := by decide +kernel
theorem d_DualPivotQuicksort_mergeRuns_366 : decode prog_46_method_19_code 366 = .ok (.aload 10, 2) := by decide +kernel
theorem d_DualPivotQuicksort_mergeRuns_368 : decode prog_46_method_19_code 368 = .ok (.iload 14, 2) := by decide +kernel
theorem d_DualPivotQuicksort_mergeRuns_370 : decode prog_46_method_19_code 370 = .ok (.iload 15, 2) := by decide +kernel
theorem d_DualPivotQuicksort_mergeRuns_372 : decode prog_46_method_19_code 372 = .ok (.aload 11, 2) := by decide +kernel
theorem d_DualPivotQuicksort_mergeRuns_374 : decode prog_46_method_19_code 374 = .ok (.iload 16, 2) := by decide +kernel
theorem d_DualPivotQuicksort_mergeRuns_376 : decode prog_46_method_19_code 376 = .ok (.iload 17, 2) := by decide +kernel
theorem d_DualPivotQuicksort_mergeRuns_378 : decode prog_46_method_19_code 378 = .ok (.invokestatic 121, 3) := by decide +kernel
theorem k_DualPivotQuicksort_mergeParts : xCal m_DualPivotQuicksort_mergeParts 9 := ⟨List.mem_append_right _ (List.mem_of_getElem? (i := 2164) (by decide +kernel)), w_38, Nat.le_of_ble_eq_true rfl, ⟨by decide +kernel, by decide +kernel⟩, by decide +kernel, by decide +kernel, rfl⟩
theorem w_2162 : Cond.methodLink "java/util/DualPivotQuicksort" 121 ⟨"java/util/DualPivotQuicksort", "mergeParts", "(Ljava/util/DualPivotQuicksort$Merger;[JI[JII[JII)V"⟩ ∈ lw_tbl := List.mem_append_right _ (List.mem_of_getElem? (i := 2162) (by decide +kernel))
theorem w_2163 : Cond.static ⟨"java/util/DualPivotQuicksort", "mergeParts", "(Ljava/util/DualPivotQuicksort$Merger;[JI[JII[JII)V"⟩ ∈ lw_tbl := List.mem_append_right _ (List.mem_of_getElem? (i := 2163) (by decide +kernel))
theorem d_DualPivotQuicksort_mergeRuns_330 : decode prog_46_method_19_code 330 = .ok (.new 85, 3) := by decide +kernel
theorem v_DualPivotQuicksort_mergeRuns_323 {G : XG} {d : Nat} {h : XH} {Q : XV → XH → Prop} {X : Nat → XH → Prop} {x4 x10 x11 x12 x13 x14 x15 x16 s0 : Int} (F : xFix h) (hyp : ((x4 = 0 → (xwp G m_DualPivotQuicksort_mergeParts (d + 1) 0 [xR (-1), xR x12, xI x13, xR x10, xI x14, xI x15, xR x11, xI x16, xI s0, xZ, xZ, xZ, xZ, xZ, xZ] [] h (fun v9 h9 => xwp G m_DualPivotQuicksort_mergeRuns (d + 2) 381 [xZ, xZ, xZ, xZ, xZ, xZ, xZ, xZ, xZ, xZ, xZ, xZ, xR x12, xZ, xZ, xZ, xZ, xZ] (xpush v9 []) h9 Q X) X)) ∧ (¬ x4 = 0 → False))) : xwp G m_DualPivotQuicksort_mergeRuns (d + 2) 323 [xZ, xZ, xZ, xZ, xI x4, xZ, xZ, xZ, xZ, xZ, xR x10, xR x11, xR x12, xI x13, xI x14, xI x15, xI x16, xZ] [xI s0] h Q X := by
  have hnx9 : (93 : Int) ≤ xnx h := F.2.2
  refine xr_okL (fun hl9 => ?_)
  have r_x4 : -2147483648 ≤ x4 ∧ x4 ≤ 2147483647 := hl9 (xI x4) (.tail _ (.tail _ (.tail _ (.tail _ (.head _))))) (Nat.le_of_ble_eq_true rfl)
  have r_x13 : -2147483648 ≤ x13 ∧ x13 ≤ 2147483647 := hl9 (xI x13) (.tail _ (.tail _ (.tail _ (.tail _ (.tail _ (.tail _ (.tail _ (.tail _ (.tail _ (.tail _ (.tail _ (.tail _ (.tail _ (.head _)))))))))))))) (Nat.le_of_ble_eq_true rfl)
  have r_x14 : -2147483648 ≤ x14 ∧ x14 ≤ 2147483647 := hl9 (xI x14) (.tail _ (.tail _ (.tail _ (.tail _ (.tail _ (.tail _ (.tail _ (.tail _ (.tail _ (.tail _ (.tail _ (.tail _ (.tail _ (.tail _ (.head _))))))))))))))) (Nat.le_of_ble_eq_true rfl)
  have r_x15 : -2147483648 ≤ x15 ∧ x15 ≤ 2147483647 := hl9 (xI x15) (.tail _ (.tail _ (.tail _ (.tail _ (.tail _ (.tail _ (.tail _ (.tail _ (.tail _ (.tail _ (.tail _ (.tail _ (.tail _ (.tail _ (.tail _ (.head _)))))))))))))))) (Nat.le_of_ble_eq_true rfl)
  have r_x16 : -2147483648 ≤ x16 ∧ x16 ≤ 2147483647 := hl9 (xI x16) (.tail _ (.tail _ (.tail _ (.tail _ (.tail _ (.tail _ (.tail _ (.tail _ (.tail _ (.tail _ (.tail _ (.tail _ (.tail _ (.tail _ (.tail _ (.tail _ (.head _))))))))))))))))) (Nat.le_of_ble_eq_true rfl)
  refine xr_okS (fun hs9 => ?_)
  have r_s0 : -2147483648 ≤ s0 ∧ s0 ≤ 2147483647 := hs9 (xI s0) (.head _)
  refine xr_istore (pc := 323) (i := 17) (L9 := [xZ, xZ, xZ, xZ, xI x4, xZ, xZ, xZ, xZ, xZ, xR x10, xR x11, xR x12, xI x13, xI x14, xI x15, xI x16, xI s0]) (hI := d_DualPivotQuicksort_mergeRuns_323) (hn := Nat.le_of_ble_eq_true rfl) (hL9 := rfl) ?_
  refine xr_iload (pc := 325) (i := 4) (hI := d_DualPivotQuicksort_mergeRuns_325) (hl := rfl) ?_
  refine xr_if_eq (pc := 327) (tgt := 361) (hI := d_DualPivotQuicksort_mergeRuns_327) (ht := by decide) (fun q9 => ?_) (fun q9 => ?_)
  · replace hyp := hyp.1 q9
    have q1_ := q9
    clear q9
    refine xr_aconst_null (pc := 361) (hI := d_DualPivotQuicksort_mergeRuns_361) ?_
    refine xr_aload (pc := 362) (i := 12) (hI := d_DualPivotQuicksort_mergeRuns_362) (hl := rfl) ?_
    refine xr_iload (pc := 364) (i := 13) (hI := d_DualPivotQuicksort_mergeRuns_364) (hl := rfl) ?_
    refine xr_aload (pc := 366) (i := 10) (hI := d_DualPivotQuicksort_mergeRuns_366) (hl := rfl) ?_
    refine xr_iload (pc := 368) (i := 14) (hI := d_DualPivotQuicksort_mergeRuns_368) (hl := rfl) ?_
    refine xr_iload (pc := 370) (i := 15) (hI := d_DualPivotQuicksort_mergeRuns_370) (hl := rfl) ?_
    refine xr_aload (pc := 372) (i := 11) (hI := d_DualPivotQuicksort_mergeRuns_372) (hl := rfl) ?_
    refine xr_iload (pc := 374) (i := 16) (hI := d_DualPivotQuicksort_mergeRuns_374) (hl := rfl) ?_
    refine xr_iload (pc := 376) (i := 17) (hI := d_DualPivotQuicksort_mergeRuns_376) (hl := rfl) ?_
    exact xq_callS (pc := 378) (index := 121) (K := m_DualPivotQuicksort_mergeParts) (As := [xR (-1), xR x12, xI x13, xR x10, xI x14, xI x15, xR x11, xI x16, xI s0]) (S := []) (L0 := [xR (-1), xR x12, xI x13, xR x10, xI x14, xI x15, xR x11, xI x16, xI s0, xZ, xZ, xZ, xZ, xZ, xZ]) (hI := d_DualPivotQuicksort_mergeRuns_378) (hK := k_DualPivotQuicksort_mergeParts) (hlk := w_2162) (hnoM := rfl) (hS8 := Nat.le_of_ble_eq_true rfl) (hstat := w_2163) (hlen := Nat.le_of_ble_eq_true rfl) (hst := rfl) (hL0 := rfl)  (xwp_mono hyp (fun v9 h9 q9 => xr_drop (L9 := [xZ, xZ, xZ, xZ, xZ, xZ, xZ, xZ, xZ, xZ, xZ, xZ, xR x12, xZ, xZ, xZ, xZ, xZ]) (xdrs (xdrs (xdrs (xdrs (xdrz (xdrs (xdrs (xdrs (xdrs (xdrs (xdrz (xdrz (xdrs (xdrz (xdrz (xdrz (xdrz (xdrz xdr0)))))))))))))))))) q9) (fun _ _ z9 => z9))
  · replace hyp := hyp.2 q9
    have q1_ := q9
    clear q9
    exact hyp.elim
theorem d_DualPivotQuicksort_mergeRuns_381 : decode prog_46_method_19_code 381 = .ok (.aload 12, 2) := by decide +kernel
theorem d_DualPivotQuicksort_mergeRuns_383 : decode prog_46_method_19_code 383 = .ok (.areturn, 1) := by decide +kernel
theorem v_DualPivotQuicksort_mergeRuns_381 {G : XG} {d : Nat} {h : XH} {Q : XV → XH → Prop} {X : Nat → XH → Prop} {x12 : Int} (F : xFix h) (hyp : (Q (xR x12) h)) : xwp G m_DualPivotQuicksort_mergeRuns (d + 2) 381 [xZ, xZ, xZ, xZ, xZ, xZ, xZ, xZ, xZ, xZ, xZ, xZ, xR x12, xZ, xZ, xZ, xZ, xZ] [] h Q X := by
  have hnx9 : (93 : Int) ≤ xnx h := F.2.2
  refine xr_aload (pc := 381) (i := 12) (hI := d_DualPivotQuicksort_mergeRuns_381) (hl := rfl) ?_
  refine xr_areturn (S := []) (pc := 383) (hI := d_DualPivotQuicksort_mergeRuns_383) (hr := rfl) (hrt := Or.inr ⟨_, rfl⟩) ?_
  exact hyp
abbrev m_DualPivotQuicksort_tryMergeRuns : XM := (⟨"java/util/DualPivotQuicksort", "tryMergeRuns", "(Ljava/util/DualPivotQuicksort$Sorter;[JII)Z"⟩, prog_46_method_18_code, 13, (some .boolean), [])
theorem d_DualPivotQuicksort_tryMergeRuns_0 : decode prog_46_method_18_code 0 = .ok (.aconst_null, 1) := by decide +kernel
theorem d_DualPivotQuicksort_tryMergeRuns_1 : decode prog_46_method_18_code 1 = .ok (.astore 4, 2) := by decide +kernel
theorem d_DualPivotQuicksort_tryMergeRuns_3 : decode prog_46_method_18_code 3 = .ok (.iload_n 2, 1) := by decide +kernel
theorem d_DualPivotQuicksort_tryMergeRuns_4 : decode prog_46_method_18_code 4 = .ok (.iload_n 3, 1) := by decide +kernel
theorem d_DualPivotQuicksort_tryMergeRuns_5 : decode prog_46_method_18_code 5 = .ok (.iadd, 1) := by decide +kernel
theorem d_DualPivotQuicksort_tryMergeRuns_6 : decode prog_46_method_18_code 6 = .ok (.istore 5, 2) := by decide +kernel
theorem d_DualPivotQuicksort_tryMergeRuns_8 : decode prog_46_method_18_code 8 = .ok (.iconst 1, 1) := by decide +kernel
theorem d_DualPivotQuicksort_tryMergeRuns_9 : decode prog_46_method_18_code 9 = .ok (.istore 6, 2) := by decide +kernel
theorem d_DualPivotQuicksort_tryMergeRuns_11 : decode prog_46_method_18_code 11 = .ok (.iload_n 2, 1) := by decide +kernel
theorem d_DualPivotQuicksort_tryMergeRuns_12 : decode prog_46_method_18_code 12 = .ok (.istore 7, 2) := by decide +kernel
theorem d_DualPivotQuicksort_tryMergeRuns_14 : decode prog_46_method_18_code 14 = .ok (.iload_n 2, 1) := by decide +kernel
theorem d_DualPivotQuicksort_tryMergeRuns_15 : decode prog_46_method_18_code 15 = .ok (.iconst 1, 1) := by decide +kernel
theorem d_DualPivotQuicksort_tryMergeRuns_16 : decode prog_46_method_18_code 16 = .ok (.iadd, 1) := by decide +kernel
theorem d_DualPivotQuicksort_tryMergeRuns_17 : decode prog_46_method_18_code 17 = .ok (.istore 8, 2) := by decide +kernel
theorem v_DualPivotQuicksort_tryMergeRuns_0 {G : XG} {d : Nat} {h : XH} {Q : XV → XH → Prop} {X : Nat → XH → Prop} {x2 x3 : Int} (F : xFix h) (hyp : xiR (x2 + x3) ∧ xiR (x2 + 1) ∧ (xwp G m_DualPivotQuicksort_tryMergeRuns (d + 140) 19 [xR (-1), xR 64, xI x2, xI x3, xR (-1), xI (x2 + x3), xI 1, xI x2, xI (x2 + 1), xZ, xZ, xZ, xZ] [] h Q X)) : xwp G m_DualPivotQuicksort_tryMergeRuns (d + 140) 0 [xR (-1), xR 64, xI x2, xI x3, xZ, xZ, xZ, xZ, xZ, xZ, xZ, xZ, xZ] [] h Q X := by
  have hnx9 : (93 : Int) ≤ xnx h := F.2.2
  refine xr_okL (fun hl9 => ?_)
  have r_x2 : -2147483648 ≤ x2 ∧ x2 ≤ 2147483647 := hl9 (xI x2) (.tail _ (.tail _ (.head _))) (Nat.le_of_ble_eq_true rfl)
  have r_x3 : -2147483648 ≤ x3 ∧ x3 ≤ 2147483647 := hl9 (xI x3) (.tail _ (.tail _ (.tail _ (.head _)))) (Nat.le_of_ble_eq_true rfl)
  refine xr_aconst_null (pc := 0) (hI := d_DualPivotQuicksort_tryMergeRuns_0) ?_
  refine xr_astore (pc := 1) (i := 4) (L9 := [xR (-1), xR 64, xI x2, xI x3, xR (-1), xZ, xZ, xZ, xZ, xZ, xZ, xZ, xZ]) (hI := d_DualPivotQuicksort_tryMergeRuns_1) (hn := Nat.le_of_ble_eq_true rfl) (hL9 := rfl) ?_
  refine xr_iload_n (pc := 3) (i := 2) (hI := d_DualPivotQuicksort_tryMergeRuns_3) (hi := rfl) (hl := rfl) ?_
  refine xr_iload_n (pc := 4) (i := 3) (hI := d_DualPivotQuicksort_tryMergeRuns_4) (hi := rfl) (hl := rfl) ?_
  obtain ⟨c9, hyp⟩ := hyp
  refine xr_iadd (pc := 5) (hI := d_DualPivotQuicksort_tryMergeRuns_5) (hr := c9) ?_
  refine xr_istore (pc := 6) (i := 5) (L9 := [xR (-1), xR 64, xI x2, xI x3, xR (-1), xI (x2 + x3), xZ, xZ, xZ, xZ, xZ, xZ, xZ]) (hI := d_DualPivotQuicksort_tryMergeRuns_6) (hn := Nat.le_of_ble_eq_true rfl) (hL9 := rfl) ?_
  refine xr_iconst (pc := 8) (hI := d_DualPivotQuicksort_tryMergeRuns_8) (hr := by decide) ?_
  refine xr_istore (pc := 9) (i := 6) (L9 := [xR (-1), xR 64, xI x2, xI x3, xR (-1), xI (x2 + x3), xI 1, xZ, xZ, xZ, xZ, xZ, xZ]) (hI := d_DualPivotQuicksort_tryMergeRuns_9) (hn := Nat.le_of_ble_eq_true rfl) (hL9 := rfl) ?_
  refine xr_iload_n (pc := 11) (i := 2) (hI := d_DualPivotQuicksort_tryMergeRuns_11) (hi := rfl) (hl := rfl) ?_
  refine xr_istore (pc := 12) (i := 7) (L9 := [xR (-1), xR 64, xI x2, xI x3, xR (-1), xI (x2 + x3), xI 1, xI x2, xZ, xZ, xZ, xZ, xZ]) (hI := d_DualPivotQuicksort_tryMergeRuns_12) (hn := Nat.le_of_ble_eq_true rfl) (hL9 := rfl) ?_
  refine xr_iload_n (pc := 14) (i := 2) (hI := d_DualPivotQuicksort_tryMergeRuns_14) (hi := rfl) (hl := rfl) ?_
  refine xr_iconst (pc := 15) (hI := d_DualPivotQuicksort_tryMergeRuns_15) (hr := by decide) ?_
  obtain ⟨c9, hyp⟩ := hyp
  refine xr_iadd (pc := 16) (hI := d_DualPivotQuicksort_tryMergeRuns_16) (hr := c9) ?_
  refine xr_istore (pc := 17) (i := 8) (L9 := [xR (-1), xR 64, xI x2, xI x3, xR (-1), xI (x2 + x3), xI 1, xI x2, xI (x2 + 1), xZ, xZ, xZ, xZ]) (hI := d_DualPivotQuicksort_tryMergeRuns_17) (hn := Nat.le_of_ble_eq_true rfl) (hL9 := rfl) ?_
  exact hyp
theorem d_DualPivotQuicksort_tryMergeRuns_19 : decode prog_46_method_18_code 19 = .ok (.iload 8, 2) := by decide +kernel
theorem d_DualPivotQuicksort_tryMergeRuns_21 : decode prog_46_method_18_code 21 = .ok (.iload 5, 2) := by decide +kernel
theorem d_DualPivotQuicksort_tryMergeRuns_23 : decode prog_46_method_18_code 23 = .ok (.if_icmp .ge 306, 3) := by decide +kernel
theorem d_DualPivotQuicksort_tryMergeRuns_329 : decode prog_46_method_18_code 329 = .ok (.iload 6, 2) := by decide +kernel
theorem d_DualPivotQuicksort_tryMergeRuns_331 : decode prog_46_method_18_code 331 = .ok (.iconst 1, 1) := by decide +kernel
theorem d_DualPivotQuicksort_tryMergeRuns_332 : decode prog_46_method_18_code 332 = .ok (.if_icmp .le 61, 3) := by decide +kernel
theorem d_DualPivotQuicksort_tryMergeRuns_393 : decode prog_46_method_18_code 393 = .ok (.iconst 1, 1) := by decide +kernel
theorem d_DualPivotQuicksort_tryMergeRuns_394 : decode prog_46_method_18_code 394 = .ok (.ireturn, 1) := by decide +kernel
theorem d_DualPivotQuicksort_tryMergeRuns_335 : decode prog_46_method_18_code 335 = .ok (.iload_n 2, 1) := by decide +kernel
theorem d_DualPivotQuicksort_tryMergeRuns_336 : decode prog_46_method_18_code 336 = .ok (.istore 9, 2) := by decide +kernel
theorem d_DualPivotQuicksort_tryMergeRuns_338 : decode prog_46_method_18_code 338 = .ok (.aload_n 0, 1) := by decide +kernel
theorem d_DualPivotQuicksort_tryMergeRuns_339 : decode prog_46_method_18_code 339 = .ok (.ifnull 16, 3) := by decide +kernel
theorem d_DualPivotQuicksort_tryMergeRuns_26 : decode prog_46_method_18_code 26 = .ok (.aload_n 1, 1) := by decide +kernel
theorem d_DualPivotQuicksort_tryMergeRuns_27 : decode prog_46_method_18_code 27 = .ok (.iload 8, 2) := by decide +kernel
theorem d_DualPivotQuicksort_tryMergeRuns_29 : decode prog_46_method_18_code 29 = .ok (.iconst 1, 1) := by decide +kernel
theorem d_DualPivotQuicksort_tryMergeRuns_30 : decode prog_46_method_18_code 30 = .ok (.isub, 1) := by decide +kernel
theorem d_DualPivotQuicksort_tryMergeRuns_31 : decode prog_46_method_18_code 31 = .ok (.laload, 1) := by decide +kernel
theorem d_DualPivotQuicksort_tryMergeRuns_32 : decode prog_46_method_18_code 32 = .ok (.aload_n 1, 1) := by decide +kernel
theorem d_DualPivotQuicksort_tryMergeRuns_33 : decode prog_46_method_18_code 33 = .ok (.iload 8, 2) := by decide +kernel
theorem d_DualPivotQuicksort_tryMergeRuns_35 : decode prog_46_method_18_code 35 = .ok (.laload, 1) := by decide +kernel
theorem d_DualPivotQuicksort_tryMergeRuns_36 : decode prog_46_method_18_code 36 = .ok (.lcmp, 1) := by decide +kernel
theorem d_DualPivotQuicksort_tryMergeRuns_37 : decode prog_46_method_18_code 37 = .ok (.ifCond .ge 30, 3) := by decide +kernel
theorem d_DualPivotQuicksort_tryMergeRuns_67 : decode prog_46_method_18_code 67 = .ok (.aload_n 1, 1) := by decide +kernel
theorem d_DualPivotQuicksort_tryMergeRuns_68 : decode prog_46_method_18_code 68 = .ok (.iload 8, 2) := by decide +kernel
theorem d_DualPivotQuicksort_tryMergeRuns_70 : decode prog_46_method_18_code 70 = .ok (.iconst 1, 1) := by decide +kernel
theorem d_DualPivotQuicksort_tryMergeRuns_71 : decode prog_46_method_18_code 71 = .ok (.isub, 1) := by decide +kernel
theorem d_DualPivotQuicksort_tryMergeRuns_72 : decode prog_46_method_18_code 72 = .ok (.laload, 1) := by decide +kernel
theorem d_DualPivotQuicksort_tryMergeRuns_73 : decode prog_46_method_18_code 73 = .ok (.aload_n 1, 1) := by decide +kernel
theorem d_DualPivotQuicksort_tryMergeRuns_74 : decode prog_46_method_18_code 74 = .ok (.iload 8, 2) := by decide +kernel
theorem d_DualPivotQuicksort_tryMergeRuns_76 : decode prog_46_method_18_code 76 = .ok (.laload, 1) := by decide +kernel
theorem d_DualPivotQuicksort_tryMergeRuns_77 : decode prog_46_method_18_code 77 = .ok (.lcmp, 1) := by decide +kernel
theorem d_DualPivotQuicksort_tryMergeRuns_78 : decode prog_46_method_18_code 78 = .ok (.ifCond .le 91, 3) := by decide +kernel
theorem d_DualPivotQuicksort_tryMergeRuns_169 : decode prog_46_method_18_code 169 = .ok (.aload_n 1, 1) := by decide +kernel
theorem d_DualPivotQuicksort_tryMergeRuns_170 : decode prog_46_method_18_code 170 = .ok (.iload 8, 2) := by decide +kernel
theorem d_DualPivotQuicksort_tryMergeRuns_172 : decode prog_46_method_18_code 172 = .ok (.laload, 1) := by decide +kernel
theorem d_DualPivotQuicksort_tryMergeRuns_173 : decode prog_46_method_18_code 173 = .ok (.lstore 9, 2) := by decide +kernel
theorem v_DualPivotQuicksort_tryMergeRuns_19 {G : XG} {d : Nat} {h : XH} {Q : XV → XH → Prop} {X : Nat → XH → Prop} {x2 x3 x4 x5 x6 x7 x8 : Int} (F : xFix h) (hyp : ((x5 ≤ x8 → ((x6 ≤ 1 → (Q (xI 1) h)) ∧ (¬ x6 ≤ 1 → (xwp G m_DualPivotQuicksort_tryMergeRuns (d + 140) 355 [xR (-1), xR 64, xZ, xI x3, xR x4, xZ, xI x6, xZ, xZ, xI x2, xZ, xZ, xZ] [] h Q X)))) ∧ (¬ x5 ≤ x8 → xiR (x8 - 1) ∧ 0 ≤ (x8 - 1) ∧ (x8 - 1) < 12000 ∧ x8 < 12000 ∧ (((xpl h 64 x8) ≤ (xpl h 64 (x8 - 1)) → (((xpl h 64 (x8 - 1)) ≤ (xpl h 64 x8) → (xwp G m_DualPivotQuicksort_tryMergeRuns (d + 140) 175 [xR (-1), xR 64, xI x2, xI x3, xR x4, xI x5, xI x6, xI x7, xI x8, xL (xpl h 64 x8), xZ, xZ, xZ] [] h Q X)) ∧ (¬ (xpl h 64 (x8 - 1)) ≤ (xpl h 64 x8) → (xwp G m_DualPivotQuicksort_tryMergeRuns (d + 140) 81 [xR (-1), xR 64, xI x2, xI x3, xR x4, xI x5, xI x6, xI x7, xI x8, xZ, xZ, xZ, xZ] [] h Q X)))) ∧ (¬ (xpl h 64 x8) ≤ (xpl h 64 (x8 - 1)) → (xwp G m_DualPivotQuicksort_tryMergeRuns (d + 140) 40 [xR (-1), xR 64, xI x2, xI x3, xR x4, xI x5, xI x6, xI x7, xI x8, xZ, xZ, xZ, xZ] [] h Q X)))))) : xwp G m_DualPivotQuicksort_tryMergeRuns (d + 140) 19 [xR (-1), xR 64, xI x2, xI x3, xR x4, xI x5, xI x6, xI x7, xI x8, xZ, xZ, xZ, xZ] [] h Q X := by
  have hnx9 : (93 : Int) ≤ xnx h := F.2.2
  refine xr_okL (fun hl9 => ?_)
  have r_x2 : -2147483648 ≤ x2 ∧ x2 ≤ 2147483647 := hl9 (xI x2) (.tail _ (.tail _ (.head _))) (Nat.le_of_ble_eq_true rfl)
  have r_x3 : -2147483648 ≤ x3 ∧ x3 ≤ 2147483647 := hl9 (xI x3) (.tail _ (.tail _ (.tail _ (.head _)))) (Nat.le_of_ble_eq_true rfl)
  have r_x5 : -2147483648 ≤ x5 ∧ x5 ≤ 2147483647 := hl9 (xI x5) (.tail _ (.tail _ (.tail _ (.tail _ (.tail _ (.head _)))))) (Nat.le_of_ble_eq_true rfl)
  have r_x6 : -2147483648 ≤ x6 ∧ x6 ≤ 2147483647 := hl9 (xI x6) (.tail _ (.tail _ (.tail _ (.tail _ (.tail _ (.tail _ (.head _))))))) (Nat.le_of_ble_eq_true rfl)
  have r_x7 : -2147483648 ≤ x7 ∧ x7 ≤ 2147483647 := hl9 (xI x7) (.tail _ (.tail _ (.tail _ (.tail _ (.tail _ (.tail _ (.tail _ (.head _)))))))) (Nat.le_of_ble_eq_true rfl)
  have r_x8 : -2147483648 ≤ x8 ∧ x8 ≤ 2147483647 := hl9 (xI x8) (.tail _ (.tail _ (.tail _ (.tail _ (.tail _ (.tail _ (.tail _ (.tail _ (.head _))))))))) (Nat.le_of_ble_eq_true rfl)
  refine xr_iload (pc := 19) (i := 8) (hI := d_DualPivotQuicksort_tryMergeRuns_19) (hl := rfl) ?_
  refine xr_iload (pc := 21) (i := 5) (hI := d_DualPivotQuicksort_tryMergeRuns_21) (hl := rfl) ?_
  refine xr_icmp_ge (pc := 23) (tgt := 329) (hI := d_DualPivotQuicksort_tryMergeRuns_23) (ht := by decide) (fun q9 => ?_) (fun q9 => ?_)
  · replace hyp := hyp.1 q9
    have q1_ := q9
    clear q9
    refine xr_iload (pc := 329) (i := 6) (hI := d_DualPivotQuicksort_tryMergeRuns_329) (hl := rfl) ?_
    refine xr_iconst (pc := 331) (hI := d_DualPivotQuicksort_tryMergeRuns_331) (hr := by decide) ?_
    refine xr_icmp_le (pc := 332) (tgt := 393) (hI := d_DualPivotQuicksort_tryMergeRuns_332) (ht := by decide) (fun q9 => ?_) (fun q9 => ?_)
    · replace hyp := hyp.1 q9
      have q2_ := q9
      clear q9
      refine xr_iconst (pc := 393) (hI := d_DualPivotQuicksort_tryMergeRuns_393) (hr := by decide) ?_
      refine xr_ireturnT (S := []) (pc := 394) (hI := d_DualPivotQuicksort_tryMergeRuns_394) (hr := rfl) (xnar_z (by decide)) ?_
      exact hyp
    · replace hyp := hyp.2 q9
      have q2_ := q9
      clear q9
      refine xr_iload_n (pc := 335) (i := 2) (hI := d_DualPivotQuicksort_tryMergeRuns_335) (hi := rfl) (hl := rfl) ?_
      refine xr_istore (pc := 336) (i := 9) (L9 := [xR (-1), xR 64, xI x2, xI x3, xR x4, xI x5, xI x6, xI x7, xI x8, xI x2, xZ, xZ, xZ]) (hI := d_DualPivotQuicksort_tryMergeRuns_336) (hn := Nat.le_of_ble_eq_true rfl) (hL9 := rfl) ?_
      refine xr_aload_n (pc := 338) (i := 0) (hI := d_DualPivotQuicksort_tryMergeRuns_338) (hi := rfl) (hl := rfl) ?_
      refine xr_ifnull (pc := 339) (tgt := 355) (hI := d_DualPivotQuicksort_tryMergeRuns_339) (ht := by decide) (fun q9 => ?_) (fun q9 => ?_)
      · clear q9
        exact xr_drop (L9 := [xR (-1), xR 64, xZ, xI x3, xR x4, xZ, xI x6, xZ, xZ, xI x2, xZ, xZ, xZ]) (xdrs (xdrs (xdrz (xdrs (xdrs (xdrz (xdrs (xdrz (xdrz (xdrs (xdrs (xdrs (xdrs xdr0))))))))))))) hyp
      · exact absurd q9 (by decide)
  · replace hyp := hyp.2 q9
    have q1_ := q9
    clear q9
    refine xr_aload_n (pc := 26) (i := 1) (hI := d_DualPivotQuicksort_tryMergeRuns_26) (hi := rfl) (hl := rfl) ?_
    refine xr_iload (pc := 27) (i := 8) (hI := d_DualPivotQuicksort_tryMergeRuns_27) (hl := rfl) ?_
    refine xr_iconst (pc := 29) (hI := d_DualPivotQuicksort_tryMergeRuns_29) (hr := by decide) ?_
    obtain ⟨c9, hyp⟩ := hyp
    refine xr_isub (pc := 30) (hI := d_DualPivotQuicksort_tryMergeRuns_30) (hr := c9) ?_
    obtain ⟨c3_, hyp⟩ := hyp
    obtain ⟨c4_, hyp⟩ := hyp
    refine xg_laload (pc := 31) (v := (xpl h 64 (x8 - 1))) (hI := d_DualPivotQuicksort_tryMergeRuns_31) (ft_64 F) c3_ (xlt_of (fl_64 F) c4_) rfl (fun f5_ => ?_)
    replace f5_ : -9223372036854775808 ≤ (xpl h 64 (x8 - 1)) ∧ (xpl h 64 (x8 - 1)) ≤ 9223372036854775807 := f5_
    refine xr_aload_n (pc := 32) (i := 1) (hI := d_DualPivotQuicksort_tryMergeRuns_32) (hi := rfl) (hl := rfl) ?_
    refine xr_iload (pc := 33) (i := 8) (hI := d_DualPivotQuicksort_tryMergeRuns_33) (hl := rfl) ?_
    obtain ⟨c6_, hyp⟩ := hyp
    refine xg_laload (pc := 35) (v := (xpl h 64 x8)) (hI := d_DualPivotQuicksort_tryMergeRuns_35) (ft_64 F) (by clear hyp; omega) (xlt_of (fl_64 F) c6_) rfl (fun f7_ => ?_)
    replace f7_ : -9223372036854775808 ≤ (xpl h 64 x8) ∧ (xpl h 64 x8) ≤ 9223372036854775807 := f7_
    refine xr_lcmp (pc := 36) (hI := d_DualPivotQuicksort_tryMergeRuns_36) ?_
    refine xg_lif_ge (pc := 37) (tgt := 67) (hI := d_DualPivotQuicksort_tryMergeRuns_37) (ht := by decide) (fun q9 => ?_) (fun q9 => ?_)
    · replace hyp := hyp.1 q9
      have q8_ := q9
      clear q9
      refine xr_aload_n (pc := 67) (i := 1) (hI := d_DualPivotQuicksort_tryMergeRuns_67) (hi := rfl) (hl := rfl) ?_
      refine xr_iload (pc := 68) (i := 8) (hI := d_DualPivotQuicksort_tryMergeRuns_68) (hl := rfl) ?_
      refine xr_iconst (pc := 70) (hI := d_DualPivotQuicksort_tryMergeRuns_70) (hr := by decide) ?_
      refine xr_isub (pc := 71) (hI := d_DualPivotQuicksort_tryMergeRuns_71) (hr := ⟨by clear hyp; omega, by clear hyp; omega⟩) ?_
      refine xg_laload (pc := 72) (v := (xpl h 64 (x8 - 1))) (hI := d_DualPivotQuicksort_tryMergeRuns_72) (ft_64 F) (by clear hyp; omega) (xlt_of (fl_64 F) (by clear hyp; omega)) rfl (fun f9_ => ?_)
      replace f9_ : -9223372036854775808 ≤ (xpl h 64 (x8 - 1)) ∧ (xpl h 64 (x8 - 1)) ≤ 9223372036854775807 := f9_
      refine xr_aload_n (pc := 73) (i := 1) (hI := d_DualPivotQuicksort_tryMergeRuns_73) (hi := rfl) (hl := rfl) ?_
      refine xr_iload (pc := 74) (i := 8) (hI := d_DualPivotQuicksort_tryMergeRuns_74) (hl := rfl) ?_
      refine xg_laload (pc := 76) (v := (xpl h 64 x8)) (hI := d_DualPivotQuicksort_tryMergeRuns_76) (ft_64 F) (by clear hyp; omega) (xlt_of (fl_64 F) (by clear hyp; omega)) rfl (fun f10_ => ?_)
      replace f10_ : -9223372036854775808 ≤ (xpl h 64 x8) ∧ (xpl h 64 x8) ≤ 9223372036854775807 := f10_
      refine xr_lcmp (pc := 77) (hI := d_DualPivotQuicksort_tryMergeRuns_77) ?_
      refine xg_lif_le (pc := 78) (tgt := 169) (hI := d_DualPivotQuicksort_tryMergeRuns_78) (ht := by decide) (fun q9 => ?_) (fun q9 => ?_)
      · replace hyp := hyp.1 q9
        have q11_ := q9
        clear q9
        refine xr_aload_n (pc := 169) (i := 1) (hI := d_DualPivotQuicksort_tryMergeRuns_169) (hi := rfl) (hl := rfl) ?_
        refine xr_iload (pc := 170) (i := 8) (hI := d_DualPivotQuicksort_tryMergeRuns_170) (hl := rfl) ?_
        refine xg_laload (pc := 172) (v := (xpl h 64 x8)) (hI := d_DualPivotQuicksort_tryMergeRuns_172) (ft_64 F) (by clear hyp; omega) (xlt_of (fl_64 F) (by clear hyp; omega)) rfl (fun f12_ => ?_)
        replace f12_ : -9223372036854775808 ≤ (xpl h 64 x8) ∧ (xpl h 64 x8) ≤ 9223372036854775807 := f12_
        refine xr_lstore (pc := 173) (i := 9) (L9 := [xR (-1), xR 64, xI x2, xI x3, xR x4, xI x5, xI x6, xI x7, xI x8, xL (xpl h 64 x8), xZ, xZ, xZ]) (hI := d_DualPivotQuicksort_tryMergeRuns_173) (hn := Nat.le_of_ble_eq_true rfl) (hL9 := rfl) ?_
        exact hyp
      · replace hyp := hyp.2 q9
        have q11_ := q9
        clear q9
        exact hyp
    · replace hyp := hyp.2 q9
      have q8_ := q9
      clear q9
      exact hyp
theorem d_DualPivotQuicksort_tryMergeRuns_40 : decode prog_46_method_18_code 40 = .ok (.iinc 8 1, 3) := by decide +kernel
theorem d_DualPivotQuicksort_tryMergeRuns_43 : decode prog_46_method_18_code 43 = .ok (.iload 8, 2) := by decide +kernel
theorem d_DualPivotQuicksort_tryMergeRuns_45 : decode prog_46_method_18_code 45 = .ok (.iload 5, 2) := by decide +kernel
theorem d_DualPivotQuicksort_tryMergeRuns_47 : decode prog_46_method_18_code 47 = .ok (.if_icmp .ge 161, 3) := by decide +kernel
theorem d_DualPivotQuicksort_tryMergeRuns_50 : decode prog_46_method_18_code 50 = .ok (.aload_n 1, 1) := by decide +kernel
theorem d_DualPivotQuicksort_tryMergeRuns_51 : decode prog_46_method_18_code 51 = .ok (.iload 8, 2) := by decide +kernel
theorem d_DualPivotQuicksort_tryMergeRuns_53 : decode prog_46_method_18_code 53 = .ok (.iconst 1, 1) := by decide +kernel
theorem d_DualPivotQuicksort_tryMergeRuns_54 : decode prog_46_method_18_code 54 = .ok (.isub, 1) := by decide +kernel
theorem d_DualPivotQuicksort_tryMergeRuns_55 : decode prog_46_method_18_code 55 = .ok (.laload, 1) := by decide +kernel
theorem d_DualPivotQuicksort_tryMergeRuns_56 : decode prog_46_method_18_code 56 = .ok (.aload_n 1, 1) := by decide +kernel
theorem d_DualPivotQuicksort_tryMergeRuns_57 : decode prog_46_method_18_code 57 = .ok (.iload 8, 2) := by decide +kernel
theorem d_DualPivotQuicksort_tryMergeRuns_59 : decode prog_46_method_18_code 59 = .ok (.laload, 1) := by decide +kernel
theorem d_DualPivotQuicksort_tryMergeRuns_60 : decode prog_46_method_18_code 60 = .ok (.lcmp, 1) := by decide +kernel
theorem d_DualPivotQuicksort_tryMergeRuns_61 : decode prog_46_method_18_code 61 = .ok (.ifCond .gt 147, 3) := by decide +kernel
theorem d_DualPivotQuicksort_tryMergeRuns_64 : decode prog_46_method_18_code 64 = .ok (.goto (-24), 3) := by decide +kernel
theorem v_DualPivotQuicksort_tryMergeRuns_40 {G : XG} {d : Nat} {h : XH} {Q : XV → XH → Prop} {X : Nat → XH → Prop} {x2 x3 x4 x5 x6 x7 x8 : Int} (F : xFix h) (hyp : xiR (x8 + 1) ∧ ((x5 ≤ (x8 + 1) → (xwp G m_DualPivotQuicksort_tryMergeRuns (d + 140) 208 [xR (-1), xR 64, xI x2, xI x3, xR x4, xI x5, xI x6, xI x7, xI (x8 + 1), xZ, xZ, xZ, xZ] [] h Q X)) ∧ (¬ x5 ≤ (x8 + 1) → 0 ≤ ((x8 + 1) - 1) ∧ ((x8 + 1) - 1) < 12000 ∧ (x8 + 1) < 12000 ∧ (((xpl h 64 (x8 + 1)) < (xpl h 64 ((x8 + 1) - 1)) → (xwp G m_DualPivotQuicksort_tryMergeRuns (d + 140) 208 [xR (-1), xR 64, xI x2, xI x3, xR x4, xI x5, xI x6, xI x7, xI (x8 + 1), xZ, xZ, xZ, xZ] [] h Q X)) ∧ (¬ (xpl h 64 (x8 + 1)) < (xpl h 64 ((x8 + 1) - 1)) → (xwp G m_DualPivotQuicksort_tryMergeRuns (d + 140) 40 [xR (-1), xR 64, xI x2, xI x3, xR x4, xI x5, xI x6, xI x7, xI (x8 + 1), xZ, xZ, xZ, xZ] [] h Q X)))))) : xwp G m_DualPivotQuicksort_tryMergeRuns (d + 140) 40 [xR (-1), xR 64, xI x2, xI x3, xR x4, xI x5, xI x6, xI x7, xI x8, xZ, xZ, xZ, xZ] [] h Q X := by
  have hnx9 : (93 : Int) ≤ xnx h := F.2.2
  refine xr_okL (fun hl9 => ?_)
  have r_x2 : -2147483648 ≤ x2 ∧ x2 ≤ 2147483647 := hl9 (xI x2) (.tail _ (.tail _ (.head _))) (Nat.le_of_ble_eq_true rfl)
  have r_x3 : -2147483648 ≤ x3 ∧ x3 ≤ 2147483647 := hl9 (xI x3) (.tail _ (.tail _ (.tail _ (.head _)))) (Nat.le_of_ble_eq_true rfl)
  have r_x5 : -2147483648 ≤ x5 ∧ x5 ≤ 2147483647 := hl9 (xI x5) (.tail _ (.tail _ (.tail _ (.tail _ (.tail _ (.head _)))))) (Nat.le_of_ble_eq_true rfl)
  have r_x6 : -2147483648 ≤ x6 ∧ x6 ≤ 2147483647 := hl9 (xI x6) (.tail _ (.tail _ (.tail _ (.tail _ (.tail _ (.tail _ (.head _))))))) (Nat.le_of_ble_eq_true rfl)
  have r_x7 : -2147483648 ≤ x7 ∧ x7 ≤ 2147483647 := hl9 (xI x7) (.tail _ (.tail _ (.tail _ (.tail _ (.tail _ (.tail _ (.tail _ (.head _)))))))) (Nat.le_of_ble_eq_true rfl)
  have r_x8 : -2147483648 ≤ x8 ∧ x8 ≤ 2147483647 := hl9 (xI x8) (.tail _ (.tail _ (.tail _ (.tail _ (.tail _ (.tail _ (.tail _ (.tail _ (.head _))))))))) (Nat.le_of_ble_eq_true rfl)
  obtain ⟨c9, hyp⟩ := hyp
  refine xr_iinc (pc := 40) (i := 8) (L9 := [xR (-1), xR 64, xI x2, xI x3, xR x4, xI x5, xI x6, xI x7, xI (x8 + 1), xZ, xZ, xZ, xZ]) (hI := d_DualPivotQuicksort_tryMergeRuns_40) (hl := rfl) (hn := Nat.le_of_ble_eq_true rfl) (hr := c9) (hL9 := rfl) ?_
  refine xr_iload (pc := 43) (i := 8) (hI := d_DualPivotQuicksort_tryMergeRuns_43) (hl := rfl) ?_
  refine xr_iload (pc := 45) (i := 5) (hI := d_DualPivotQuicksort_tryMergeRuns_45) (hl := rfl) ?_
  refine xr_icmp_ge (pc := 47) (tgt := 208) (hI := d_DualPivotQuicksort_tryMergeRuns_47) (ht := by decide) (fun q9 => ?_) (fun q9 => ?_)
  · replace hyp := hyp.1 q9
    have q1_ := q9
    clear q9
    exact hyp
  · replace hyp := hyp.2 q9
    have q1_ := q9
    clear q9
    refine xr_aload_n (pc := 50) (i := 1) (hI := d_DualPivotQuicksort_tryMergeRuns_50) (hi := rfl) (hl := rfl) ?_
    refine xr_iload (pc := 51) (i := 8) (hI := d_DualPivotQuicksort_tryMergeRuns_51) (hl := rfl) ?_
    refine xr_iconst (pc := 53) (hI := d_DualPivotQuicksort_tryMergeRuns_53) (hr := by decide) ?_
    refine xr_isub (pc := 54) (hI := d_DualPivotQuicksort_tryMergeRuns_54) (hr := ⟨by clear hyp; omega, by clear hyp; omega⟩) ?_
    obtain ⟨c2_, hyp⟩ := hyp
    obtain ⟨c3_, hyp⟩ := hyp
    refine xg_laload (pc := 55) (v := (xpl h 64 ((x8 + 1) - 1))) (hI := d_DualPivotQuicksort_tryMergeRuns_55) (ft_64 F) c2_ (xlt_of (fl_64 F) c3_) rfl (fun f4_ => ?_)
    replace f4_ : -9223372036854775808 ≤ (xpl h 64 ((x8 + 1) - 1)) ∧ (xpl h 64 ((x8 + 1) - 1)) ≤ 9223372036854775807 := f4_
    refine xr_aload_n (pc := 56) (i := 1) (hI := d_DualPivotQuicksort_tryMergeRuns_56) (hi := rfl) (hl := rfl) ?_
    refine xr_iload (pc := 57) (i := 8) (hI := d_DualPivotQuicksort_tryMergeRuns_57) (hl := rfl) ?_
    obtain ⟨c5_, hyp⟩ := hyp
    refine xg_laload (pc := 59) (v := (xpl h 64 (x8 + 1))) (hI := d_DualPivotQuicksort_tryMergeRuns_59) (ft_64 F) (by clear hyp; omega) (xlt_of (fl_64 F) c5_) rfl (fun f6_ => ?_)
    replace f6_ : -9223372036854775808 ≤ (xpl h 64 (x8 + 1)) ∧ (xpl h 64 (x8 + 1)) ≤ 9223372036854775807 := f6_
    refine xr_lcmp (pc := 60) (hI := d_DualPivotQuicksort_tryMergeRuns_60) ?_
    refine xg_lif_gt (pc := 61) (tgt := 208) (hI := d_DualPivotQuicksort_tryMergeRuns_61) (ht := by decide) (fun q9 => ?_) (fun q9 => ?_)
    · replace hyp := hyp.1 q9
      have q7_ := q9
      clear q9
      exact hyp
    · replace hyp := hyp.2 q9
      have q7_ := q9
      clear q9
      refine xr_goto (pc := 64) (tgt := 40) (hI := d_DualPivotQuicksort_tryMergeRuns_64) (ht := by decide) ?_
      exact hyp
theorem d_DualPivotQuicksort_tryMergeRuns_81 : decode prog_46_method_18_code 81 = .ok (.iinc 8 1, 3) := by decide +kernel
theorem d_DualPivotQuicksort_tryMergeRuns_84 : decode prog_46_method_18_code 84 = .ok (.iload 8, 2) := by decide +kernel
theorem d_DualPivotQuicksort_tryMergeRuns_86 : decode prog_46_method_18_code 86 = .ok (.iload 5, 2) := by decide +kernel
theorem d_DualPivotQuicksort_tryMergeRuns_88 : decode prog_46_method_18_code 88 = .ok (.if_icmp .ge 20, 3) := by decide +kernel
theorem d_DualPivotQuicksort_tryMergeRuns_108 : decode prog_46_method_18_code 108 = .ok (.iload 7, 2) := by decide +kernel
theorem d_DualPivotQuicksort_tryMergeRuns_110 : decode prog_46_method_18_code 110 = .ok (.iconst 1, 1) := by decide +kernel
theorem d_DualPivotQuicksort_tryMergeRuns_111 : decode prog_46_method_18_code 111 = .ok (.isub, 1) := by decide +kernel
theorem d_DualPivotQuicksort_tryMergeRuns_112 : decode prog_46_method_18_code 112 = .ok (.istore 9, 2) := by decide +kernel
theorem d_DualPivotQuicksort_tryMergeRuns_114 : decode prog_46_method_18_code 114 = .ok (.iload 8, 2) := by decide +kernel
theorem d_DualPivotQuicksort_tryMergeRuns_116 : decode prog_46_method_18_code 116 = .ok (.istore 10, 2) := by decide +kernel
theorem d_DualPivotQuicksort_tryMergeRuns_91 : decode prog_46_method_18_code 91 = .ok (.aload_n 1, 1) := by decide +kernel
theorem d_DualPivotQuicksort_tryMergeRuns_92 : decode prog_46_method_18_code 92 = .ok (.iload 8, 2) := by decide +kernel
theorem d_DualPivotQuicksort_tryMergeRuns_94 : decode prog_46_method_18_code 94 = .ok (.iconst 1, 1) := by decide +kernel
theorem d_DualPivotQuicksort_tryMergeRuns_95 : decode prog_46_method_18_code 95 = .ok (.isub, 1) := by decide +kernel
theorem d_DualPivotQuicksort_tryMergeRuns_96 : decode prog_46_method_18_code 96 = .ok (.laload, 1) := by decide +kernel
theorem d_DualPivotQuicksort_tryMergeRuns_97 : decode prog_46_method_18_code 97 = .ok (.aload_n 1, 1) := by decide +kernel
theorem d_DualPivotQuicksort_tryMergeRuns_98 : decode prog_46_method_18_code 98 = .ok (.iload 8, 2) := by decide +kernel
theorem d_DualPivotQuicksort_tryMergeRuns_100 : decode prog_46_method_18_code 100 = .ok (.laload, 1) := by decide +kernel
theorem d_DualPivotQuicksort_tryMergeRuns_101 : decode prog_46_method_18_code 101 = .ok (.lcmp, 1) := by decide +kernel
theorem d_DualPivotQuicksort_tryMergeRuns_102 : decode prog_46_method_18_code 102 = .ok (.ifCond .lt 6, 3) := by decide +kernel
theorem d_DualPivotQuicksort_tryMergeRuns_105 : decode prog_46_method_18_code 105 = .ok (.goto (-24), 3) := by decide +kernel
theorem v_DualPivotQuicksort_tryMergeRuns_81 {G : XG} {d : Nat} {h : XH} {Q : XV → XH → Prop} {X : Nat → XH → Prop} {x2 x3 x4 x5 x6 x7 x8 : Int} (F : xFix h) (hyp : xiR (x8 + 1) ∧ ((x5 ≤ (x8 + 1) → xiR (x7 - 1) ∧ (xwp G m_DualPivotQuicksort_tryMergeRuns (d + 140) 118 [xR (-1), xR 64, xI x2, xI x3, xR x4, xI x5, xI x6, xI x7, xI (x8 + 1), xI (x7 - 1), xI (x8 + 1), xZ, xZ] [] h Q X)) ∧ (¬ x5 ≤ (x8 + 1) → 0 ≤ ((x8 + 1) - 1) ∧ ((x8 + 1) - 1) < 12000 ∧ (x8 + 1) < 12000 ∧ (((xpl h 64 ((x8 + 1) - 1)) < (xpl h 64 (x8 + 1)) → xiR (x7 - 1) ∧ (xwp G m_DualPivotQuicksort_tryMergeRuns (d + 140) 118 [xR (-1), xR 64, xI x2, xI x3, xR x4, xI x5, xI x6, xI x7, xI (x8 + 1), xI (x7 - 1), xI (x8 + 1), xZ, xZ] [] h Q X)) ∧ (¬ (xpl h 64 ((x8 + 1) - 1)) < (xpl h 64 (x8 + 1)) → (xwp G m_DualPivotQuicksort_tryMergeRuns (d + 140) 81 [xR (-1), xR 64, xI x2, xI x3, xR x4, xI x5, xI x6, xI x7, xI (x8 + 1), xZ, xZ, xZ, xZ] [] h Q X)))))) : xwp G m_DualPivotQuicksort_tryMergeRuns (d + 140) 81 [xR (-1), xR 64, xI x2, xI x3, xR x4, xI x5, xI x6, xI x7, xI x8, xZ, xZ, xZ, xZ] [] h Q X := by
  have hnx9 : (93 : Int) ≤ xnx h := F.2.2
  refine xr_okL (fun hl9 => ?_)
  have r_x2 : -2147483648 ≤ x2 ∧ x2 ≤ 2147483647 := hl9 (xI x2) (.tail _ (.tail _ (.head _))) (Nat.le_of_ble_eq_true rfl)
  have r_x3 : -2147483648 ≤ x3 ∧ x3 ≤ 2147483647 := hl9 (xI x3) (.tail _ (.tail _ (.tail _ (.head _)))) (Nat.le_of_ble_eq_true rfl)
  have r_x5 : -2147483648 ≤ x5 ∧ x5 ≤ 2147483647 := hl9 (xI x5) (.tail _ (.tail _ (.tail _ (.tail _ (.tail _ (.head _)))))) (Nat.le_of_ble_eq_true rfl)
  have r_x6 : -2147483648 ≤ x6 ∧ x6 ≤ 2147483647 := hl9 (xI x6) (.tail _ (.tail _ (.tail _ (.tail _ (.tail _ (.tail _ (.head _))))))) (Nat.le_of_ble_eq_true rfl)
  have r_x7 : -2147483648 ≤ x7 ∧ x7 ≤ 2147483647 := hl9 (xI x7) (.tail _ (.tail _ (.tail _ (.tail _ (.tail _ (.tail _ (.tail _ (.head _)))))))) (Nat.le_of_ble_eq_true rfl)
  have r_x8 : -2147483648 ≤ x8 ∧ x8 ≤ 2147483647 := hl9 (xI x8) (.tail _ (.tail _ (.tail _ (.tail _ (.tail _ (.tail _ (.tail _ (.tail _ (.head _))))))))) (Nat.le_of_ble_eq_true rfl)
  obtain ⟨c9, hyp⟩ := hyp
  refine xr_iinc (pc := 81) (i := 8) (L9 := [xR (-1), xR 64, xI x2, xI x3, xR x4, xI x5, xI x6, xI x7, xI (x8 + 1), xZ, xZ, xZ, xZ]) (hI := d_DualPivotQuicksort_tryMergeRuns_81) (hl := rfl) (hn := Nat.le_of_ble_eq_true rfl) (hr := c9) (hL9 := rfl) ?_
  refine xr_iload (pc := 84) (i := 8) (hI := d_DualPivotQuicksort_tryMergeRuns_84) (hl := rfl) ?_
  refine xr_iload (pc := 86) (i := 5) (hI := d_DualPivotQuicksort_tryMergeRuns_86) (hl := rfl) ?_
  refine xr_icmp_ge (pc := 88) (tgt := 108) (hI := d_DualPivotQuicksort_tryMergeRuns_88) (ht := by decide) (fun q9 => ?_) (fun q9 => ?_)
  · replace hyp := hyp.1 q9
    have q1_ := q9
    clear q9
    refine xr_iload (pc := 108) (i := 7) (hI := d_DualPivotQuicksort_tryMergeRuns_108) (hl := rfl) ?_
    refine xr_iconst (pc := 110) (hI := d_DualPivotQuicksort_tryMergeRuns_110) (hr := by decide) ?_
    obtain ⟨c9, hyp⟩ := hyp
    refine xr_isub (pc := 111) (hI := d_DualPivotQuicksort_tryMergeRuns_111) (hr := c9) ?_
    refine xr_istore (pc := 112) (i := 9) (L9 := [xR (-1), xR 64, xI x2, xI x3, xR x4, xI x5, xI x6, xI x7, xI (x8 + 1), xI (x7 - 1), xZ, xZ, xZ]) (hI := d_DualPivotQuicksort_tryMergeRuns_112) (hn := Nat.le_of_ble_eq_true rfl) (hL9 := rfl) ?_
    refine xr_iload (pc := 114) (i := 8) (hI := d_DualPivotQuicksort_tryMergeRuns_114) (hl := rfl) ?_
    refine xr_istore (pc := 116) (i := 10) (L9 := [xR (-1), xR 64, xI x2, xI x3, xR x4, xI x5, xI x6, xI x7, xI (x8 + 1), xI (x7 - 1), xI (x8 + 1), xZ, xZ]) (hI := d_DualPivotQuicksort_tryMergeRuns_116) (hn := Nat.le_of_ble_eq_true rfl) (hL9 := rfl) ?_
    exact hyp
  · replace hyp := hyp.2 q9
    have q1_ := q9
    clear q9
    refine xr_aload_n (pc := 91) (i := 1) (hI := d_DualPivotQuicksort_tryMergeRuns_91) (hi := rfl) (hl := rfl) ?_
    refine xr_iload (pc := 92) (i := 8) (hI := d_DualPivotQuicksort_tryMergeRuns_92) (hl := rfl) ?_
    refine xr_iconst (pc := 94) (hI := d_DualPivotQuicksort_tryMergeRuns_94) (hr := by decide) ?_
    refine xr_isub (pc := 95) (hI := d_DualPivotQuicksort_tryMergeRuns_95) (hr := ⟨by clear hyp; omega, by clear hyp; omega⟩) ?_
    obtain ⟨c2_, hyp⟩ := hyp
    obtain ⟨c3_, hyp⟩ := hyp
    refine xg_laload (pc := 96) (v := (xpl h 64 ((x8 + 1) - 1))) (hI := d_DualPivotQuicksort_tryMergeRuns_96) (ft_64 F) c2_ (xlt_of (fl_64 F) c3_) rfl (fun f4_ => ?_)
    replace f4_ : -9223372036854775808 ≤ (xpl h 64 ((x8 + 1) - 1)) ∧ (xpl h 64 ((x8 + 1) - 1)) ≤ 9223372036854775807 := f4_
    refine xr_aload_n (pc := 97) (i := 1) (hI := d_DualPivotQuicksort_tryMergeRuns_97) (hi := rfl) (hl := rfl) ?_
    refine xr_iload (pc := 98) (i := 8) (hI := d_DualPivotQuicksort_tryMergeRuns_98) (hl := rfl) ?_
    obtain ⟨c5_, hyp⟩ := hyp
    refine xg_laload (pc := 100) (v := (xpl h 64 (x8 + 1))) (hI := d_DualPivotQuicksort_tryMergeRuns_100) (ft_64 F) (by clear hyp; omega) (xlt_of (fl_64 F) c5_) rfl (fun f6_ => ?_)
    replace f6_ : -9223372036854775808 ≤ (xpl h 64 (x8 + 1)) ∧ (xpl h 64 (x8 + 1)) ≤ 9223372036854775807 := f6_
    refine xr_lcmp (pc := 101) (hI := d_DualPivotQuicksort_tryMergeRuns_101) ?_
    refine xg_lif_lt (pc := 102) (tgt := 108) (hI := d_DualPivotQuicksort_tryMergeRuns_102) (ht := by decide) (fun q9 => ?_) (fun q9 => ?_)
    · replace hyp := hyp.1 q9
      have q7_ := q9
      clear q9
      refine xr_iload (pc := 108) (i := 7) (hI := d_DualPivotQuicksort_tryMergeRuns_108) (hl := rfl) ?_
      refine xr_iconst (pc := 110) (hI := d_DualPivotQuicksort_tryMergeRuns_110) (hr := by decide) ?_
      obtain ⟨c9, hyp⟩ := hyp
      refine xr_isub (pc := 111) (hI := d_DualPivotQuicksort_tryMergeRuns_111) (hr := c9) ?_
      refine xr_istore (pc := 112) (i := 9) (L9 := [xR (-1), xR 64, xI x2, xI x3, xR x4, xI x5, xI x6, xI x7, xI (x8 + 1), xI (x7 - 1), xZ, xZ, xZ]) (hI := d_DualPivotQuicksort_tryMergeRuns_112) (hn := Nat.le_of_ble_eq_true rfl) (hL9 := rfl) ?_
      refine xr_iload (pc := 114) (i := 8) (hI := d_DualPivotQuicksort_tryMergeRuns_114) (hl := rfl) ?_
      refine xr_istore (pc := 116) (i := 10) (L9 := [xR (-1), xR 64, xI x2, xI x3, xR x4, xI x5, xI x6, xI x7, xI (x8 + 1), xI (x7 - 1), xI (x8 + 1), xZ, xZ]) (hI := d_DualPivotQuicksort_tryMergeRuns_116) (hn := Nat.le_of_ble_eq_true rfl) (hL9 := rfl) ?_
      exact hyp
    · replace hyp := hyp.2 q9
      have q7_ := q9
      clear q9
      refine xr_goto (pc := 105) (tgt := 81) (hI := d_DualPivotQuicksort_tryMergeRuns_105) (ht := by decide) ?_
      exact hyp
theorem d_DualPivotQuicksort_tryMergeRuns_118 : decode prog_46_method_18_code 118 = .ok (.iinc 9 1, 3) := by decide +kernel
theorem d_DualPivotQuicksort_tryMergeRuns_121 : decode prog_46_method_18_code 121 = .ok (.iload 9, 2) := by decide +kernel
theorem d_DualPivotQuicksort_tryMergeRuns_123 : decode prog_46_method_18_code 123 = .ok (.iinc 10 (-1), 3) := by decide +kernel
theorem d_DualPivotQuicksort_tryMergeRuns_126 : decode prog_46_method_18_code 126 = .ok (.iload 10, 2) := by decide +kernel
theorem d_DualPivotQuicksort_tryMergeRuns_128 : decode prog_46_method_18_code 128 = .ok (.if_icmp .ge 38, 3) := by decide +kernel
theorem d_DualPivotQuicksort_tryMergeRuns_131 : decode prog_46_method_18_code 131 = .ok (.aload_n 1, 1) := by decide +kernel
theorem d_DualPivotQuicksort_tryMergeRuns_132 : decode prog_46_method_18_code 132 = .ok (.iload 9, 2) := by decide +kernel
theorem d_DualPivotQuicksort_tryMergeRuns_134 : decode prog_46_method_18_code 134 = .ok (.laload, 1) := by decide +kernel
theorem d_DualPivotQuicksort_tryMergeRuns_135 : decode prog_46_method_18_code 135 = .ok (.aload_n 1, 1) := by decide +kernel
theorem d_DualPivotQuicksort_tryMergeRuns_136 : decode prog_46_method_18_code 136 = .ok (.iload 10, 2) := by decide +kernel
theorem d_DualPivotQuicksort_tryMergeRuns_138 : decode prog_46_method_18_code 138 = .ok (.laload, 1) := by decide +kernel
theorem d_DualPivotQuicksort_tryMergeRuns_139 : decode prog_46_method_18_code 139 = .ok (.lcmp, 1) := by decide +kernel
theorem d_DualPivotQuicksort_tryMergeRuns_140 : decode prog_46_method_18_code 140 = .ok (.ifCond .le 26, 3) := by decide +kernel
theorem d_DualPivotQuicksort_tryMergeRuns_143 : decode prog_46_method_18_code 143 = .ok (.aload_n 1, 1) := by decide +kernel
theorem d_DualPivotQuicksort_tryMergeRuns_144 : decode prog_46_method_18_code 144 = .ok (.iload 9, 2) := by decide +kernel
theorem d_DualPivotQuicksort_tryMergeRuns_146 : decode prog_46_method_18_code 146 = .ok (.laload, 1) := by decide +kernel
theorem d_DualPivotQuicksort_tryMergeRuns_147 : decode prog_46_method_18_code 147 = .ok (.lstore 11, 2) := by decide +kernel
theorem d_DualPivotQuicksort_tryMergeRuns_149 : decode prog_46_method_18_code 149 = .ok (.aload_n 1, 1) := by decide +kernel
theorem d_DualPivotQuicksort_tryMergeRuns_150 : decode prog_46_method_18_code 150 = .ok (.iload 9, 2) := by decide +kernel
theorem d_DualPivotQuicksort_tryMergeRuns_152 : decode prog_46_method_18_code 152 = .ok (.aload_n 1, 1) := by decide +kernel
theorem d_DualPivotQuicksort_tryMergeRuns_153 : decode prog_46_method_18_code 153 = .ok (.iload 10, 2) := by decide +kernel
theorem d_DualPivotQuicksort_tryMergeRuns_155 : decode prog_46_method_18_code 155 = .ok (.laload, 1) := by decide +kernel
theorem d_DualPivotQuicksort_tryMergeRuns_156 : decode prog_46_method_18_code 156 = .ok (.lastore, 1) := by decide +kernel
theorem d_DualPivotQuicksort_tryMergeRuns_157 : decode prog_46_method_18_code 157 = .ok (.aload_n 1, 1) := by decide +kernel
theorem d_DualPivotQuicksort_tryMergeRuns_158 : decode prog_46_method_18_code 158 = .ok (.iload 10, 2) := by decide +kernel
theorem d_DualPivotQuicksort_tryMergeRuns_160 : decode prog_46_method_18_code 160 = .ok (.lload 11, 2) := by decide +kernel
theorem d_DualPivotQuicksort_tryMergeRuns_162 : decode prog_46_method_18_code 162 = .ok (.lastore, 1) := by decide +kernel
theorem d_DualPivotQuicksort_tryMergeRuns_163 : decode prog_46_method_18_code 163 = .ok (.goto (-45), 3) := by decide +kernel
theorem v_DualPivotQuicksort_tryMergeRuns_118 {G : XG} {d : Nat} {h : XH} {Q : XV → XH → Prop} {X : Nat → XH → Prop} {x2 x3 x4 x5 x6 x7 x8 x9 x10 : Int} (F : xFix h) (hyp : xiR (x9 + 1) ∧ xiR (x10 + (-1)) ∧ (((x10 + (-1)) ≤ (x9 + 1) → (xwp G m_DualPivotQuicksort_tryMergeRuns (d + 140) 166 [xR (-1), xR 64, xI x2, xI x3, xR x4, xI x5, xI x6, xI x7, xI x8, xZ, xZ, xZ, xZ] [] h Q X)) ∧ (¬ (x10 + (-1)) ≤ (x9 + 1) → 0 ≤ (x9 + 1) ∧ (x9 + 1) < 12000 ∧ (x10 + (-1)) < 12000 ∧ (((xpl h 64 (x9 + 1)) ≤ (xpl h 64 (x10 + (-1))) → (xwp G m_DualPivotQuicksort_tryMergeRuns (d + 140) 166 [xR (-1), xR 64, xI x2, xI x3, xR x4, xI x5, xI x6, xI x7, xI x8, xZ, xZ, xZ, xZ] [] h Q X)) ∧ (¬ (xpl h 64 (x9 + 1)) ≤ (xpl h 64 (x10 + (-1))) → (xFix (xst (xst h 64 (x9 + 1) (xpl h 64 (x10 + (-1)))) 64 (x10 + (-1)) (xpl h 64 (x9 + 1))) → xwp G m_DualPivotQuicksort_tryMergeRuns (d + 140) 118 [xR (-1), xR 64, xI x2, xI x3, xR x4, xI x5, xI x6, xI x7, xI x8, xI (x9 + 1), xI (x10 + (-1)), xZ, xZ] [] (xst (xst h 64 (x9 + 1) (xpl h 64 (x10 + (-1)))) 64 (x10 + (-1)) (xpl h 64 (x9 + 1))) Q X)))))) : xwp G m_DualPivotQuicksort_tryMergeRuns (d + 140) 118 [xR (-1), xR 64, xI x2, xI x3, xR x4, xI x5, xI x6, xI x7, xI x8, xI x9, xI x10, xZ, xZ] [] h Q X := by
  have hnx9 : (93 : Int) ≤ xnx h := F.2.2
  refine xr_okL (fun hl9 => ?_)
  have r_x2 : -2147483648 ≤ x2 ∧ x2 ≤ 2147483647 := hl9 (xI x2) (.tail _ (.tail _ (.head _))) (Nat.le_of_ble_eq_true rfl)
  have r_x3 : -2147483648 ≤ x3 ∧ x3 ≤ 2147483647 := hl9 (xI x3) (.tail _ (.tail _ (.tail _ (.head _)))) (Nat.le_of_ble_eq_true rfl)
  have r_x5 : -2147483648 ≤ x5 ∧ x5 ≤ 2147483647 := hl9 (xI x5) (.tail _ (.tail _ (.tail _ (.tail _ (.tail _ (.head _)))))) (Nat.le_of_ble_eq_true rfl)
  have r_x6 : -2147483648 ≤ x6 ∧ x6 ≤ 2147483647 := hl9 (xI x6) (.tail _ (.tail _ (.tail _ (.tail _ (.tail _ (.tail _ (.head _))))))) (Nat.le_of_ble_eq_true rfl)
  have r_x7 : -2147483648 ≤ x7 ∧ x7 ≤ 2147483647 := hl9 (xI x7) (.tail _ (.tail _ (.tail _ (.tail _ (.tail _ (.tail _ (.tail _ (.head _)))))))) (Nat.le_of_ble_eq_true rfl)
  have r_x8 : -2147483648 ≤ x8 ∧ x8 ≤ 2147483647 := hl9 (xI x8) (.tail _ (.tail _ (.tail _ (.tail _ (.tail _ (.tail _ (.tail _ (.tail _ (.head _))))))))) (Nat.le_of_ble_eq_true rfl)
  have r_x9 : -2147483648 ≤ x9 ∧ x9 ≤ 2147483647 := hl9 (xI x9) (.tail _ (.tail _ (.tail _ (.tail _ (.tail _ (.tail _ (.tail _ (.tail _ (.tail _ (.head _)))))))))) (Nat.le_of_ble_eq_true rfl)
  have r_x10 : -2147483648 ≤ x10 ∧ x10 ≤ 2147483647 := hl9 (xI x10) (.tail _ (.tail _ (.tail _ (.tail _ (.tail _ (.tail _ (.tail _ (.tail _ (.tail _ (.tail _ (.head _))))))))))) (Nat.le_of_ble_eq_true rfl)
  obtain ⟨c9, hyp⟩ := hyp
  refine xr_iinc (pc := 118) (i := 9) (L9 := [xR (-1), xR 64, xI x2, xI x3, xR x4, xI x5, xI x6, xI x7, xI x8, xI (x9 + 1), xI x10, xZ, xZ]) (hI := d_DualPivotQuicksort_tryMergeRuns_118) (hl := rfl) (hn := Nat.le_of_ble_eq_true rfl) (hr := c9) (hL9 := rfl) ?_
  refine xr_iload (pc := 121) (i := 9) (hI := d_DualPivotQuicksort_tryMergeRuns_121) (hl := rfl) ?_
  obtain ⟨c9, hyp⟩ := hyp
  refine xr_iinc (pc := 123) (i := 10) (L9 := [xR (-1), xR 64, xI x2, xI x3, xR x4, xI x5, xI x6, xI x7, xI x8, xI (x9 + 1), xI (x10 + (-1)), xZ, xZ]) (hI := d_DualPivotQuicksort_tryMergeRuns_123) (hl := rfl) (hn := Nat.le_of_ble_eq_true rfl) (hr := c9) (hL9 := rfl) ?_
  refine xr_iload (pc := 126) (i := 10) (hI := d_DualPivotQuicksort_tryMergeRuns_126) (hl := rfl) ?_
  refine xr_icmp_ge (pc := 128) (tgt := 166) (hI := d_DualPivotQuicksort_tryMergeRuns_128) (ht := by decide) (fun q9 => ?_) (fun q9 => ?_)
  · replace hyp := hyp.1 q9
    have q1_ := q9
    clear q9
    exact xr_drop (L9 := [xR (-1), xR 64, xI x2, xI x3, xR x4, xI x5, xI x6, xI x7, xI x8, xZ, xZ, xZ, xZ]) (xdrs (xdrs (xdrs (xdrs (xdrs (xdrs (xdrs (xdrs (xdrs (xdrz (xdrz (xdrs (xdrs xdr0))))))))))))) hyp
  · replace hyp := hyp.2 q9
    have q1_ := q9
    clear q9
    refine xr_aload_n (pc := 131) (i := 1) (hI := d_DualPivotQuicksort_tryMergeRuns_131) (hi := rfl) (hl := rfl) ?_
    refine xr_iload (pc := 132) (i := 9) (hI := d_DualPivotQuicksort_tryMergeRuns_132) (hl := rfl) ?_
    obtain ⟨c2_, hyp⟩ := hyp
    obtain ⟨c3_, hyp⟩ := hyp
    refine xg_laload (pc := 134) (v := (xpl h 64 (x9 + 1))) (hI := d_DualPivotQuicksort_tryMergeRuns_134) (ft_64 F) c2_ (xlt_of (fl_64 F) c3_) rfl (fun f4_ => ?_)
    replace f4_ : -9223372036854775808 ≤ (xpl h 64 (x9 + 1)) ∧ (xpl h 64 (x9 + 1)) ≤ 9223372036854775807 := f4_
    refine xr_aload_n (pc := 135) (i := 1) (hI := d_DualPivotQuicksort_tryMergeRuns_135) (hi := rfl) (hl := rfl) ?_
    refine xr_iload (pc := 136) (i := 10) (hI := d_DualPivotQuicksort_tryMergeRuns_136) (hl := rfl) ?_
    obtain ⟨c5_, hyp⟩ := hyp
    refine xg_laload (pc := 138) (v := (xpl h 64 (x10 + (-1)))) (hI := d_DualPivotQuicksort_tryMergeRuns_138) (ft_64 F) (by clear hyp; omega) (xlt_of (fl_64 F) c5_) rfl (fun f6_ => ?_)
    replace f6_ : -9223372036854775808 ≤ (xpl h 64 (x10 + (-1))) ∧ (xpl h 64 (x10 + (-1))) ≤ 9223372036854775807 := f6_
    refine xr_lcmp (pc := 139) (hI := d_DualPivotQuicksort_tryMergeRuns_139) ?_
    refine xg_lif_le (pc := 140) (tgt := 166) (hI := d_DualPivotQuicksort_tryMergeRuns_140) (ht := by decide) (fun q9 => ?_) (fun q9 => ?_)
    · replace hyp := hyp.1 q9
      have q7_ := q9
      clear q9
      exact xr_drop (L9 := [xR (-1), xR 64, xI x2, xI x3, xR x4, xI x5, xI x6, xI x7, xI x8, xZ, xZ, xZ, xZ]) (xdrs (xdrs (xdrs (xdrs (xdrs (xdrs (xdrs (xdrs (xdrs (xdrz (xdrz (xdrs (xdrs xdr0))))))))))))) hyp
    · replace hyp := hyp.2 q9
      have q7_ := q9
      clear q9
      refine xr_aload_n (pc := 143) (i := 1) (hI := d_DualPivotQuicksort_tryMergeRuns_143) (hi := rfl) (hl := rfl) ?_
      refine xr_iload (pc := 144) (i := 9) (hI := d_DualPivotQuicksort_tryMergeRuns_144) (hl := rfl) ?_
      refine xg_laload (pc := 146) (v := (xpl h 64 (x9 + 1))) (hI := d_DualPivotQuicksort_tryMergeRuns_146) (ft_64 F) (by clear hyp; omega) (xlt_of (fl_64 F) (by clear hyp; omega)) rfl (fun f8_ => ?_)
      replace f8_ : -9223372036854775808 ≤ (xpl h 64 (x9 + 1)) ∧ (xpl h 64 (x9 + 1)) ≤ 9223372036854775807 := f8_
      refine xr_lstore (pc := 147) (i := 11) (L9 := [xR (-1), xR 64, xI x2, xI x3, xR x4, xI x5, xI x6, xI x7, xI x8, xI (x9 + 1), xI (x10 + (-1)), xL (xpl h 64 (x9 + 1)), xZ]) (hI := d_DualPivotQuicksort_tryMergeRuns_147) (hn := Nat.le_of_ble_eq_true rfl) (hL9 := rfl) ?_
      refine xr_aload_n (pc := 149) (i := 1) (hI := d_DualPivotQuicksort_tryMergeRuns_149) (hi := rfl) (hl := rfl) ?_
      refine xr_iload (pc := 150) (i := 9) (hI := d_DualPivotQuicksort_tryMergeRuns_150) (hl := rfl) ?_
      refine xr_aload_n (pc := 152) (i := 1) (hI := d_DualPivotQuicksort_tryMergeRuns_152) (hi := rfl) (hl := rfl) ?_
      refine xr_iload (pc := 153) (i := 10) (hI := d_DualPivotQuicksort_tryMergeRuns_153) (hl := rfl) ?_
      refine xg_laload (pc := 155) (v := (xpl h 64 (x10 + (-1)))) (hI := d_DualPivotQuicksort_tryMergeRuns_155) (ft_64 F) (by clear hyp; omega) (xlt_of (fl_64 F) (by clear hyp; omega)) rfl (fun f9_ => ?_)
      replace f9_ : -9223372036854775808 ≤ (xpl h 64 (x10 + (-1))) ∧ (xpl h 64 (x10 + (-1))) ≤ 9223372036854775807 := f9_
      refine xr_lastore (pc := 156) (hI := d_DualPivotQuicksort_tryMergeRuns_156) (ft_64 F) (by decide) (by clear hyp; omega) (xlt_of (fl_64 F) (by clear hyp; omega)) ?_
      have F10_ : xFix (xst h 64 (x9 + 1) (xpl h 64 (x10 + (-1)))) := F.stA xfa_64
      refine xr_aload_n (pc := 157) (i := 1) (hI := d_DualPivotQuicksort_tryMergeRuns_157) (hi := rfl) (hl := rfl) ?_
      refine xr_iload (pc := 158) (i := 10) (hI := d_DualPivotQuicksort_tryMergeRuns_158) (hl := rfl) ?_
      refine xr_lload (pc := 160) (i := 11) (hI := d_DualPivotQuicksort_tryMergeRuns_160) (hl := rfl) ?_
      refine xr_lastore (pc := 162) (hI := d_DualPivotQuicksort_tryMergeRuns_162) (ft_64 F10_) (by decide) (by clear hyp; omega) (xlt_of (fl_64 F10_) (by clear hyp; omega)) ?_
      have F11_ : xFix (xst (xst h 64 (x9 + 1) (xpl h 64 (x10 + (-1)))) 64 (x10 + (-1)) (xpl h 64 (x9 + 1))) := F10_.stA xfa_64
      refine xr_goto (pc := 163) (tgt := 118) (hI := d_DualPivotQuicksort_tryMergeRuns_163) (ht := by decide) ?_
      exact xr_drop (L9 := [xR (-1), xR 64, xI x2, xI x3, xR x4, xI x5, xI x6, xI x7, xI x8, xI (x9 + 1), xI (x10 + (-1)), xZ, xZ]) (xdrs (xdrs (xdrs (xdrs (xdrs (xdrs (xdrs (xdrs (xdrs (xdrs (xdrs (xdrz (xdrs xdr0))))))))))))) (hyp F11_)
theorem d_DualPivotQuicksort_tryMergeRuns_166 : decode prog_46_method_18_code 166 = .ok (.goto 42, 3) := by decide +kernel
theorem v_DualPivotQuicksort_tryMergeRuns_166 {G : XG} {d : Nat} {h : XH} {Q : XV → XH → Prop} {X : Nat → XH → Prop} {x2 x3 x4 x5 x6 x7 x8 : Int} (F : xFix h) (hyp : (xwp G m_DualPivotQuicksort_tryMergeRuns (d + 140) 208 [xR (-1), xR 64, xI x2, xI x3, xR x4, xI x5, xI x6, xI x7, xI x8, xZ, xZ, xZ, xZ] [] h Q X)) : xwp G m_DualPivotQuicksort_tryMergeRuns (d + 140) 166 [xR (-1), xR 64, xI x2, xI x3, xR x4, xI x5, xI x6, xI x7, xI x8, xZ, xZ, xZ, xZ] [] h Q X := by
  have hnx9 : (93 : Int) ≤ xnx h := F.2.2
  refine xr_okL (fun hl9 => ?_)
  have r_x2 : -2147483648 ≤ x2 ∧ x2 ≤ 2147483647 := hl9 (xI x2) (.tail _ (.tail _ (.head _))) (Nat.le_of_ble_eq_true rfl)
  have r_x3 : -2147483648 ≤ x3 ∧ x3 ≤ 2147483647 := hl9 (xI x3) (.tail _ (.tail _ (.tail _ (.head _)))) (Nat.le_of_ble_eq_true rfl)
  have r_x5 : -2147483648 ≤ x5 ∧ x5 ≤ 2147483647 := hl9 (xI x5) (.tail _ (.tail _ (.tail _ (.tail _ (.tail _ (.head _)))))) (Nat.le_of_ble_eq_true rfl)
  have r_x6 : -2147483648 ≤ x6 ∧ x6 ≤ 2147483647 := hl9 (xI x6) (.tail _ (.tail _ (.tail _ (.tail _ (.tail _ (.tail _ (.head _))))))) (Nat.le_of_ble_eq_true rfl)
  have r_x7 : -2147483648 ≤ x7 ∧ x7 ≤ 2147483647 := hl9 (xI x7) (.tail _ (.tail _ (.tail _ (.tail _ (.tail _ (.tail _ (.tail _ (.head _)))))))) (Nat.le_of_ble_eq_true rfl)
  have r_x8 : -2147483648 ≤ x8 ∧ x8 ≤ 2147483647 := hl9 (xI x8) (.tail _ (.tail _ (.tail _ (.tail _ (.tail _ (.tail _ (.tail _ (.tail _ (.head _))))))))) (Nat.le_of_ble_eq_true rfl)
  refine xr_goto (pc := 166) (tgt := 208) (hI := d_DualPivotQuicksort_tryMergeRuns_166) (ht := by decide) ?_
  exact hyp
theorem d_DualPivotQuicksort_tryMergeRuns_175 : decode prog_46_method_18_code 175 = .ok (.iinc 8 1, 3) := by decide +kernel
theorem d_DualPivotQuicksort_tryMergeRuns_178 : decode prog_46_method_18_code 178 = .ok (.iload 8, 2) := by decide +kernel
theorem d_DualPivotQuicksort_tryMergeRuns_180 : decode prog_46_method_18_code 180 = .ok (.iload 5, 2) := by decide +kernel
theorem d_DualPivotQuicksort_tryMergeRuns_182 : decode prog_46_method_18_code 182 = .ok (.if_icmp .ge 16, 3) := by decide +kernel
theorem d_DualPivotQuicksort_tryMergeRuns_185 : decode prog_46_method_18_code 185 = .ok (.lload 9, 2) := by decide +kernel
theorem d_DualPivotQuicksort_tryMergeRuns_187 : decode prog_46_method_18_code 187 = .ok (.aload_n 1, 1) := by decide +kernel
theorem d_DualPivotQuicksort_tryMergeRuns_188 : decode prog_46_method_18_code 188 = .ok (.iload 8, 2) := by decide +kernel
theorem d_DualPivotQuicksort_tryMergeRuns_190 : decode prog_46_method_18_code 190 = .ok (.laload, 1) := by decide +kernel
theorem d_DualPivotQuicksort_tryMergeRuns_191 : decode prog_46_method_18_code 191 = .ok (.lcmp, 1) := by decide +kernel
theorem d_DualPivotQuicksort_tryMergeRuns_192 : decode prog_46_method_18_code 192 = .ok (.ifCond .ne 6, 3) := by decide +kernel
theorem d_DualPivotQuicksort_tryMergeRuns_195 : decode prog_46_method_18_code 195 = .ok (.goto (-20), 3) := by decide +kernel
theorem v_DualPivotQuicksort_tryMergeRuns_175 {G : XG} {d : Nat} {h : XH} {Q : XV → XH → Prop} {X : Nat → XH → Prop} {x2 x3 x4 x5 x6 x7 x8 x9 : Int} (F : xFix h) (hyp : xiR (x8 + 1) ∧ ((x5 ≤ (x8 + 1) → (xwp G m_DualPivotQuicksort_tryMergeRuns (d + 140) 198 [xR (-1), xR 64, xI x2, xI x3, xR x4, xI x5, xI x6, xI x7, xI (x8 + 1), xZ, xZ, xZ, xZ] [] h Q X)) ∧ (¬ x5 ≤ (x8 + 1) → 0 ≤ (x8 + 1) ∧ (x8 + 1) < 12000 ∧ ((x9 = (xpl h 64 (x8 + 1)) → (xwp G m_DualPivotQuicksort_tryMergeRuns (d + 140) 175 [xR (-1), xR 64, xI x2, xI x3, xR x4, xI x5, xI x6, xI x7, xI (x8 + 1), xL x9, xZ, xZ, xZ] [] h Q X)) ∧ (¬ x9 = (xpl h 64 (x8 + 1)) → (xwp G m_DualPivotQuicksort_tryMergeRuns (d + 140) 198 [xR (-1), xR 64, xI x2, xI x3, xR x4, xI x5, xI x6, xI x7, xI (x8 + 1), xZ, xZ, xZ, xZ] [] h Q X)))))) : xwp G m_DualPivotQuicksort_tryMergeRuns (d + 140) 175 [xR (-1), xR 64, xI x2, xI x3, xR x4, xI x5, xI x6, xI x7, xI x8, xL x9, xZ, xZ, xZ] [] h Q X := by
  have hnx9 : (93 : Int) ≤ xnx h := F.2.2
  refine xr_okL (fun hl9 => ?_)
  have r_x2 : -2147483648 ≤ x2 ∧ x2 ≤ 2147483647 := hl9 (xI x2) (.tail _ (.tail _ (.head _))) (Nat.le_of_ble_eq_true rfl)
  have r_x3 : -2147483648 ≤ x3 ∧ x3 ≤ 2147483647 := hl9 (xI x3) (.tail _ (.tail _ (.tail _ (.head _)))) (Nat.le_of_ble_eq_true rfl)
  have r_x5 : -2147483648 ≤ x5 ∧ x5 ≤ 2147483647 := hl9 (xI x5) (.tail _ (.tail _ (.tail _ (.tail _ (.tail _ (.head _)))))) (Nat.le_of_ble_eq_true rfl)
  have r_x6 : -2147483648 ≤ x6 ∧ x6 ≤ 2147483647 := hl9 (xI x6) (.tail _ (.tail _ (.tail _ (.tail _ (.tail _ (.tail _ (.head _))))))) (Nat.le_of_ble_eq_true rfl)
  have r_x7 : -2147483648 ≤ x7 ∧ x7 ≤ 2147483647 := hl9 (xI x7) (.tail _ (.tail _ (.tail _ (.tail _ (.tail _ (.tail _ (.tail _ (.head _)))))))) (Nat.le_of_ble_eq_true rfl)
  have r_x8 : -2147483648 ≤ x8 ∧ x8 ≤ 2147483647 := hl9 (xI x8) (.tail _ (.tail _ (.tail _ (.tail _ (.tail _ (.tail _ (.tail _ (.tail _ (.head _))))))))) (Nat.le_of_ble_eq_true rfl)
  have r_x9 : -9223372036854775808 ≤ x9 ∧ x9 ≤ 9223372036854775807 := hl9 (xL x9) (.tail _ (.tail _ (.tail _ (.tail _ (.tail _ (.tail _ (.tail _ (.tail _ (.tail _ (.head _)))))))))) (Nat.le_of_ble_eq_true rfl)
  obtain ⟨c9, hyp⟩ := hyp
  refine xr_iinc (pc := 175) (i := 8) (L9 := [xR (-1), xR 64, xI x2, xI x3, xR x4, xI x5, xI x6, xI x7, xI (x8 + 1), xL x9, xZ, xZ, xZ]) (hI := d_DualPivotQuicksort_tryMergeRuns_175) (hl := rfl) (hn := Nat.le_of_ble_eq_true rfl) (hr := c9) (hL9 := rfl) ?_
  refine xr_iload (pc := 178) (i := 8) (hI := d_DualPivotQuicksort_tryMergeRuns_178) (hl := rfl) ?_
  refine xr_iload (pc := 180) (i := 5) (hI := d_DualPivotQuicksort_tryMergeRuns_180) (hl := rfl) ?_
  refine xr_icmp_ge (pc := 182) (tgt := 198) (hI := d_DualPivotQuicksort_tryMergeRuns_182) (ht := by decide) (fun q9 => ?_) (fun q9 => ?_)
  · replace hyp := hyp.1 q9
    have q1_ := q9
    clear q9
    exact xr_drop (L9 := [xR (-1), xR 64, xI x2, xI x3, xR x4, xI x5, xI x6, xI x7, xI (x8 + 1), xZ, xZ, xZ, xZ]) (xdrs (xdrs (xdrs (xdrs (xdrs (xdrs (xdrs (xdrs (xdrs (xdrz (xdrs (xdrs (xdrs xdr0))))))))))))) hyp
  · replace hyp := hyp.2 q9
    have q1_ := q9
    clear q9
    refine xr_lload (pc := 185) (i := 9) (hI := d_DualPivotQuicksort_tryMergeRuns_185) (hl := rfl) ?_
    refine xr_aload_n (pc := 187) (i := 1) (hI := d_DualPivotQuicksort_tryMergeRuns_187) (hi := rfl) (hl := rfl) ?_
    refine xr_iload (pc := 188) (i := 8) (hI := d_DualPivotQuicksort_tryMergeRuns_188) (hl := rfl) ?_
    obtain ⟨c2_, hyp⟩ := hyp
    obtain ⟨c3_, hyp⟩ := hyp
    refine xg_laload (pc := 190) (v := (xpl h 64 (x8 + 1))) (hI := d_DualPivotQuicksort_tryMergeRuns_190) (ft_64 F) c2_ (xlt_of (fl_64 F) c3_) rfl (fun f4_ => ?_)
    replace f4_ : -9223372036854775808 ≤ (xpl h 64 (x8 + 1)) ∧ (xpl h 64 (x8 + 1)) ≤ 9223372036854775807 := f4_
    refine xr_lcmp (pc := 191) (hI := d_DualPivotQuicksort_tryMergeRuns_191) ?_
    refine xg_lif_ne (pc := 192) (tgt := 198) (hI := d_DualPivotQuicksort_tryMergeRuns_192) (ht := by decide) (fun q9 => ?_) (fun q9 => ?_)
    · replace hyp := hyp.2 q9
      have q5_ := q9
      clear q9
      exact xr_drop (L9 := [xR (-1), xR 64, xI x2, xI x3, xR x4, xI x5, xI x6, xI x7, xI (x8 + 1), xZ, xZ, xZ, xZ]) (xdrs (xdrs (xdrs (xdrs (xdrs (xdrs (xdrs (xdrs (xdrs (xdrz (xdrs (xdrs (xdrs xdr0))))))))))))) hyp
    · replace hyp := hyp.1 q9
      have q5_ := q9
      clear q9
      refine xr_goto (pc := 195) (tgt := 175) (hI := d_DualPivotQuicksort_tryMergeRuns_195) (ht := by decide) ?_
      exact hyp
theorem d_DualPivotQuicksort_tryMergeRuns_198 : decode prog_46_method_18_code 198 = .ok (.iload 8, 2) := by decide +kernel
theorem d_DualPivotQuicksort_tryMergeRuns_200 : decode prog_46_method_18_code 200 = .ok (.iload 5, 2) := by decide +kernel
theorem d_DualPivotQuicksort_tryMergeRuns_202 : decode prog_46_method_18_code 202 = .ok (.if_icmp .ge 6, 3) := by decide +kernel
theorem d_DualPivotQuicksort_tryMergeRuns_205 : decode prog_46_method_18_code 205 = .ok (.goto (-186), 3) := by decide +kernel
theorem v_DualPivotQuicksort_tryMergeRuns_198 {G : XG} {d : Nat} {h : XH} {Q : XV → XH → Prop} {X : Nat → XH → Prop} {x2 x3 x4 x5 x6 x7 x8 : Int} (F : xFix h) (hyp : ((x5 ≤ x8 → (xwp G m_DualPivotQuicksort_tryMergeRuns (d + 140) 208 [xR (-1), xR 64, xI x2, xI x3, xR x4, xI x5, xI x6, xI x7, xI x8, xZ, xZ, xZ, xZ] [] h Q X)) ∧ (¬ x5 ≤ x8 → (xwp G m_DualPivotQuicksort_tryMergeRuns (d + 140) 19 [xR (-1), xR 64, xI x2, xI x3, xR x4, xI x5, xI x6, xI x7, xI x8, xZ, xZ, xZ, xZ] [] h Q X)))) : xwp G m_DualPivotQuicksort_tryMergeRuns (d + 140) 198 [xR (-1), xR 64, xI x2, xI x3, xR x4, xI x5, xI x6, xI x7, xI x8, xZ, xZ, xZ, xZ] [] h Q X := by
  have hnx9 : (93 : Int) ≤ xnx h := F.2.2
  refine xr_okL (fun hl9 => ?_)
  have r_x2 : -2147483648 ≤ x2 ∧ x2 ≤ 2147483647 := hl9 (xI x2) (.tail _ (.tail _ (.head _))) (Nat.le_of_ble_eq_true rfl)
  have r_x3 : -2147483648 ≤ x3 ∧ x3 ≤ 2147483647 := hl9 (xI x3) (.tail _ (.tail _ (.tail _ (.head _)))) (Nat.le_of_ble_eq_true rfl)
  have r_x5 : -2147483648 ≤ x5 ∧ x5 ≤ 2147483647 := hl9 (xI x5) (.tail _ (.tail _ (.tail _ (.tail _ (.tail _ (.head _)))))) (Nat.le_of_ble_eq_true rfl)
  have r_x6 : -2147483648 ≤ x6 ∧ x6 ≤ 2147483647 := hl9 (xI x6) (.tail _ (.tail _ (.tail _ (.tail _ (.tail _ (.tail _ (.head _))))))) (Nat.le_of_ble_eq_true rfl)
  have r_x7 : -2147483648 ≤ x7 ∧ x7 ≤ 2147483647 := hl9 (xI x7) (.tail _ (.tail _ (.tail _ (.tail _ (.tail _ (.tail _ (.tail _ (.head _)))))))) (Nat.le_of_ble_eq_true rfl)
  have r_x8 : -2147483648 ≤ x8 ∧ x8 ≤ 2147483647 := hl9 (xI x8) (.tail _ (.tail _ (.tail _ (.tail _ (.tail _ (.tail _ (.tail _ (.tail _ (.head _))))))))) (Nat.le_of_ble_eq_true rfl)
  refine xr_iload (pc := 198) (i := 8) (hI := d_DualPivotQuicksort_tryMergeRuns_198) (hl := rfl) ?_
  refine xr_iload (pc := 200) (i := 5) (hI := d_DualPivotQuicksort_tryMergeRuns_200) (hl := rfl) ?_
  refine xr_icmp_ge (pc := 202) (tgt := 208) (hI := d_DualPivotQuicksort_tryMergeRuns_202) (ht := by decide) (fun q9 => ?_) (fun q9 => ?_)
  · replace hyp := hyp.1 q9
    have q1_ := q9
    clear q9
    exact hyp
  · replace hyp := hyp.2 q9
    have q1_ := q9
    clear q9
    refine xr_goto (pc := 205) (tgt := 19) (hI := d_DualPivotQuicksort_tryMergeRuns_205) (ht := by decide) ?_
    exact hyp
theorem d_DualPivotQuicksort_tryMergeRuns_208 : decode prog_46_method_18_code 208 = .ok (.aload 4, 2) := by decide +kernel
theorem d_DualPivotQuicksort_tryMergeRuns_210 : decode prog_46_method_18_code 210 = .ok (.ifnonnull 46, 3) := by decide +kernel
theorem d_DualPivotQuicksort_tryMergeRuns_256 : decode prog_46_method_18_code 256 = .ok (.aload_n 1, 1) := by decide +kernel
theorem d_DualPivotQuicksort_tryMergeRuns_257 : decode prog_46_method_18_code 257 = .ok (.iload 7, 2) := by decide +kernel
theorem d_DualPivotQuicksort_tryMergeRuns_259 : decode prog_46_method_18_code 259 = .ok (.iconst 1, 1) := by decide +kernel
theorem d_DualPivotQuicksort_tryMergeRuns_260 : decode prog_46_method_18_code 260 = .ok (.isub, 1) := by decide +kernel
theorem d_DualPivotQuicksort_tryMergeRuns_261 : decode prog_46_method_18_code 261 = .ok (.laload, 1) := by decide +kernel
theorem d_DualPivotQuicksort_tryMergeRuns_262 : decode prog_46_method_18_code 262 = .ok (.aload_n 1, 1) := by decide +kernel
theorem d_DualPivotQuicksort_tryMergeRuns_263 : decode prog_46_method_18_code 263 = .ok (.iload 7, 2) := by decide +kernel
theorem d_DualPivotQuicksort_tryMergeRuns_265 : decode prog_46_method_18_code 265 = .ok (.laload, 1) := by decide +kernel
theorem d_DualPivotQuicksort_tryMergeRuns_266 : decode prog_46_method_18_code 266 = .ok (.lcmp, 1) := by decide +kernel
theorem d_DualPivotQuicksort_tryMergeRuns_267 : decode prog_46_method_18_code 267 = .ok (.ifCond .le 49, 3) := by decide +kernel
theorem d_DualPivotQuicksort_tryMergeRuns_270 : decode prog_46_method_18_code 270 = .ok (.iload 6, 2) := by decide +kernel
theorem d_DualPivotQuicksort_tryMergeRuns_272 : decode prog_46_method_18_code 272 = .ok (.iload 8, 2) := by decide +kernel
theorem d_DualPivotQuicksort_tryMergeRuns_274 : decode prog_46_method_18_code 274 = .ok (.iload_n 2, 1) := by decide +kernel
theorem d_DualPivotQuicksort_tryMergeRuns_275 : decode prog_46_method_18_code 275 = .ok (.isub, 1) := by decide +kernel
theorem d_DualPivotQuicksort_tryMergeRuns_276 : decode prog_46_method_18_code 276 = .ok (.bipush 7, 2) := by decide +kernel
theorem d_DualPivotQuicksort_tryMergeRuns_278 : decode prog_46_method_18_code 278 = .ok (.ishr, 1) := by decide +kernel
theorem d_DualPivotQuicksort_tryMergeRuns_279 : decode prog_46_method_18_code 279 = .ok (.if_icmp .le 5, 3) := by decide +kernel
theorem d_DualPivotQuicksort_tryMergeRuns_284 : decode prog_46_method_18_code 284 = .ok (.iinc 6 1, 3) := by decide +kernel
theorem d_DualPivotQuicksort_tryMergeRuns_287 : decode prog_46_method_18_code 287 = .ok (.iload 6, 2) := by decide +kernel
theorem d_DualPivotQuicksort_tryMergeRuns_289 : decode prog_46_method_18_code 289 = .ok (.sipush 5120, 3) := by decide +kernel
theorem d_DualPivotQuicksort_tryMergeRuns_292 : decode prog_46_method_18_code 292 = .ok (.if_icmp .ne 5, 3) := by decide +kernel
theorem d_DualPivotQuicksort_tryMergeRuns_297 : decode prog_46_method_18_code 297 = .ok (.iload 6, 2) := by decide +kernel
theorem d_DualPivotQuicksort_tryMergeRuns_299 : decode prog_46_method_18_code 299 = .ok (.aload 4, 2) := by decide +kernel
theorem d_DualPivotQuicksort_tryMergeRuns_301 : decode prog_46_method_18_code 301 = .ok (.arraylength, 1) := by decide +kernel
theorem d_DualPivotQuicksort_tryMergeRuns_302 : decode prog_46_method_18_code 302 = .ok (.if_icmp .ne 14, 3) := by decide +kernel
theorem d_DualPivotQuicksort_tryMergeRuns_305 : decode prog_46_method_18_code 305 = .ok (.aload 4, 2) := by decide +kernel
theorem d_DualPivotQuicksort_tryMergeRuns_307 : decode prog_46_method_18_code 307 = .ok (.iload 6, 2) := by decide +kernel
theorem d_DualPivotQuicksort_tryMergeRuns_309 : decode prog_46_method_18_code 309 = .ok (.iconst 1, 1) := by decide +kernel
theorem d_DualPivotQuicksort_tryMergeRuns_310 : decode prog_46_method_18_code 310 = .ok (.ishl, 1) := by decide +kernel
theorem d_DualPivotQuicksort_tryMergeRuns_311 : decode prog_46_method_18_code 311 = .ok (.invokestatic 53, 3) := by decide +kernel
theorem w_2157 : Cond.methodLink "java/util/DualPivotQuicksort" 53 ⟨"java/util/Arrays", "copyOf", "([II)[I"⟩ ∈ lw_tbl := List.mem_append_right _ (List.mem_of_getElem? (i := 2157) (by decide +kernel))
theorem d_DualPivotQuicksort_tryMergeRuns_295 : decode prog_46_method_18_code 295 = .ok (.iconst 0, 1) := by decide +kernel
theorem d_DualPivotQuicksort_tryMergeRuns_296 : decode prog_46_method_18_code 296 = .ok (.ireturn, 1) := by decide +kernel
theorem d_DualPivotQuicksort_tryMergeRuns_282 : decode prog_46_method_18_code 282 = .ok (.iconst 0, 1) := by decide +kernel
theorem d_DualPivotQuicksort_tryMergeRuns_283 : decode prog_46_method_18_code 283 = .ok (.ireturn, 1) := by decide +kernel
theorem d_DualPivotQuicksort_tryMergeRuns_213 : decode prog_46_method_18_code 213 = .ok (.iload 8, 2) := by decide +kernel
theorem d_DualPivotQuicksort_tryMergeRuns_215 : decode prog_46_method_18_code 215 = .ok (.iload 5, 2) := by decide +kernel
theorem d_DualPivotQuicksort_tryMergeRuns_217 : decode prog_46_method_18_code 217 = .ok (.if_icmp .ne 5, 3) := by decide +kernel
theorem d_DualPivotQuicksort_tryMergeRuns_222 : decode prog_46_method_18_code 222 = .ok (.iload 8, 2) := by decide +kernel
theorem d_DualPivotQuicksort_tryMergeRuns_224 : decode prog_46_method_18_code 224 = .ok (.iload_n 2, 1) := by decide +kernel
theorem d_DualPivotQuicksort_tryMergeRuns_225 : decode prog_46_method_18_code 225 = .ok (.isub, 1) := by decide +kernel
theorem d_DualPivotQuicksort_tryMergeRuns_226 : decode prog_46_method_18_code 226 = .ok (.bipush 16, 2) := by decide +kernel
theorem d_DualPivotQuicksort_tryMergeRuns_228 : decode prog_46_method_18_code 228 = .ok (.if_icmp .ge 5, 3) := by decide +kernel
theorem d_DualPivotQuicksort_tryMergeRuns_233 : decode prog_46_method_18_code 233 = .ok (.iload_n 3, 1) := by decide +kernel
theorem d_DualPivotQuicksort_tryMergeRuns_234 : decode prog_46_method_18_code 234 = .ok (.bipush 10, 2) := by decide +kernel
theorem d_DualPivotQuicksort_tryMergeRuns_236 : decode prog_46_method_18_code 236 = .ok (.ishr, 1) := by decide +kernel
theorem d_DualPivotQuicksort_tryMergeRuns_237 : decode prog_46_method_18_code 237 = .ok (.bipush 127, 2) := by decide +kernel
theorem d_DualPivotQuicksort_tryMergeRuns_239 : decode prog_46_method_18_code 239 = .ok (.ior, 1) := by decide +kernel
theorem d_DualPivotQuicksort_tryMergeRuns_240 : decode prog_46_method_18_code 240 = .ok (.sipush 1023, 3) := by decide +kernel
theorem d_DualPivotQuicksort_tryMergeRuns_243 : decode prog_46_method_18_code 243 = .ok (.iand, 1) := by decide +kernel
theorem d_DualPivotQuicksort_tryMergeRuns_244 : decode prog_46_method_18_code 244 = .ok (.newarray .int, 2) := by decide +kernel
theorem d_DualPivotQuicksort_tryMergeRuns_246 : decode prog_46_method_18_code 246 = .ok (.astore 4, 2) := by decide +kernel
theorem d_DualPivotQuicksort_tryMergeRuns_248 : decode prog_46_method_18_code 248 = .ok (.aload 4, 2) := by decide +kernel
theorem d_DualPivotQuicksort_tryMergeRuns_250 : decode prog_46_method_18_code 250 = .ok (.iconst 0, 1) := by decide +kernel
theorem d_DualPivotQuicksort_tryMergeRuns_251 : decode prog_46_method_18_code 251 = .ok (.iload_n 2, 1) := by decide +kernel
theorem d_DualPivotQuicksort_tryMergeRuns_252 : decode prog_46_method_18_code 252 = .ok (.iastore, 1) := by decide +kernel
theorem d_DualPivotQuicksort_tryMergeRuns_253 : decode prog_46_method_18_code 253 = .ok (.goto 63, 3) := by decide +kernel
theorem d_DualPivotQuicksort_tryMergeRuns_231 : decode prog_46_method_18_code 231 = .ok (.iconst 0, 1) := by decide +kernel
theorem d_DualPivotQuicksort_tryMergeRuns_232 : decode prog_46_method_18_code 232 = .ok (.ireturn, 1) := by decide +kernel
theorem d_DualPivotQuicksort_tryMergeRuns_220 : decode prog_46_method_18_code 220 = .ok (.iconst 1, 1) := by decide +kernel
theorem d_DualPivotQuicksort_tryMergeRuns_221 : decode prog_46_method_18_code 221 = .ok (.ireturn, 1) := by decide +kernel
theorem v_DualPivotQuicksort_tryMergeRuns_208 {G : XG} {d : Nat} {h : XH} {Q : XV → XH → Prop} {X : Nat → XH → Prop} {x2 x3 x4 x5 x6 x7 x8 : Int} (F : xFix h) (hyp : ((x4 = (-1) → ((x8 = x5 → (Q (xI 1) h)) ∧ (¬ x8 = x5 → xiR (x8 - x2) ∧ (((16 : Int) ≤ (x8 - x2) → 0 ≤ (xand (xior (xshr x3 10) 127) 1023) ∧ (xand (xior (xshr x3 10) 127) 1023) ≤ 60000000 ∧ xnx h + 1 ≤ xKC ∧ xsl h + (xand (xior (xshr x3 10) 127) 1023) ≤ xKS ∧ (0 : Int) < (xand (xior (xshr x3 10) 127) 1023) ∧ (xFix (xst (xmk h 100 (xand (xior (xshr x3 10) 127) 1023) (fun _ => 0)) (xnx h) 0 x2) → xwp G m_DualPivotQuicksort_tryMergeRuns (d + 140) 316 [xR (-1), xR 64, xI x2, xI x3, xR (xnx h), xI x5, xI x6, xZ, xI x8, xZ, xZ, xZ, xZ] [] (xst (xmk h 100 (xand (xior (xshr x3 10) 127) 1023) (fun _ => 0)) (xnx h) 0 x2) Q X)) ∧ (¬ (16 : Int) ≤ (x8 - x2) → (Q (xI 0) h)))))) ∧ (¬ x4 = (-1) → xiR (x7 - 1) ∧ 0 ≤ (x7 - 1) ∧ (x7 - 1) < 12000 ∧ x7 < 12000 ∧ (((xpl h 64 (x7 - 1)) ≤ (xpl h 64 x7) → (xwp G m_DualPivotQuicksort_tryMergeRuns (d + 140) 316 [xR (-1), xR 64, xI x2, xI x3, xR x4, xI x5, xI x6, xZ, xI x8, xZ, xZ, xZ, xZ] [] h Q X)) ∧ (¬ (xpl h 64 (x7 - 1)) ≤ (xpl h 64 x7) → xiR (x8 - x2) ∧ ((x6 ≤ (xshr (x8 - x2) 7) → xiR (x6 + 1) ∧ (((x6 + 1) = 5120 → (Q (xI 0) h)) ∧ (¬ (x6 + 1) = 5120 → xtg h x4 = 100 ∧ (((x6 + 1) = (xln h x4) → (xwp G m_Arrays_copyOf_aII (d + 139) 0 [xR x4, xI (xshl (x6 + 1) 1), xZ] [] h (fun v9 h9 => xwp G m_DualPivotQuicksort_tryMergeRuns (d + 140) 314 [xR (-1), xR 64, xI x2, xI x3, xZ, xI x5, xI (x6 + 1), xZ, xI x8, xZ, xZ, xZ, xZ] (xpush v9 []) h9 Q X) X)) ∧ (¬ (x6 + 1) = (xln h x4) → (xwp G m_DualPivotQuicksort_tryMergeRuns (d + 140) 316 [xR (-1), xR 64, xI x2, xI x3, xR x4, xI x5, xI (x6 + 1), xZ, xI x8, xZ, xZ, xZ, xZ] [] h Q X)))))) ∧ (¬ x6 ≤ (xshr (x8 - x2) 7) → (Q (xI 0) h)))))))) : xwp G m_DualPivotQuicksort_tryMergeRuns (d + 140) 208 [xR (-1), xR 64, xI x2, xI x3, xR x4, xI x5, xI x6, xI x7, xI x8, xZ, xZ, xZ, xZ] [] h Q X := by
  have hnx9 : (93 : Int) ≤ xnx h := F.2.2
  refine xr_okL (fun hl9 => ?_)
  have r_x2 : -2147483648 ≤ x2 ∧ x2 ≤ 2147483647 := hl9 (xI x2) (.tail _ (.tail _ (.head _))) (Nat.le_of_ble_eq_true rfl)
  have r_x3 : -2147483648 ≤ x3 ∧ x3 ≤ 2147483647 := hl9 (xI x3) (.tail _ (.tail _ (.tail _ (.head _)))) (Nat.le_of_ble_eq_true rfl)
  have r_x5 : -2147483648 ≤ x5 ∧ x5 ≤ 2147483647 := hl9 (xI x5) (.tail _ (.tail _ (.tail _ (.tail _ (.tail _ (.head _)))))) (Nat.le_of_ble_eq_true rfl)
  have r_x6 : -2147483648 ≤ x6 ∧ x6 ≤ 2147483647 := hl9 (xI x6) (.tail _ (.tail _ (.tail _ (.tail _ (.tail _ (.tail _ (.head _))))))) (Nat.le_of_ble_eq_true rfl)
  have r_x7 : -2147483648 ≤ x7 ∧ x7 ≤ 2147483647 := hl9 (xI x7) (.tail _ (.tail _ (.tail _ (.tail _ (.tail _ (.tail _ (.tail _ (.head _)))))))) (Nat.le_of_ble_eq_true rfl)
  have r_x8 : -2147483648 ≤ x8 ∧ x8 ≤ 2147483647 := hl9 (xI x8) (.tail _ (.tail _ (.tail _ (.tail _ (.tail _ (.tail _ (.tail _ (.tail _ (.head _))))))))) (Nat.le_of_ble_eq_true rfl)
  refine xr_aload (pc := 208) (i := 4) (hI := d_DualPivotQuicksort_tryMergeRuns_208) (hl := rfl) ?_
  refine xr_ifnonnull (pc := 210) (tgt := 256) (hI := d_DualPivotQuicksort_tryMergeRuns_210) (ht := by decide) (fun q9 => ?_) (fun q9 => ?_)
  · replace hyp := hyp.2 q9
    have q1_ := q9
    clear q9
    refine xr_aload_n (pc := 256) (i := 1) (hI := d_DualPivotQuicksort_tryMergeRuns_256) (hi := rfl) (hl := rfl) ?_
    refine xr_iload (pc := 257) (i := 7) (hI := d_DualPivotQuicksort_tryMergeRuns_257) (hl := rfl) ?_
    refine xr_iconst (pc := 259) (hI := d_DualPivotQuicksort_tryMergeRuns_259) (hr := by decide) ?_
    obtain ⟨c9, hyp⟩ := hyp
    refine xr_isub (pc := 260) (hI := d_DualPivotQuicksort_tryMergeRuns_260) (hr := c9) ?_
    obtain ⟨c2_, hyp⟩ := hyp
    obtain ⟨c3_, hyp⟩ := hyp
    refine xg_laload (pc := 261) (v := (xpl h 64 (x7 - 1))) (hI := d_DualPivotQuicksort_tryMergeRuns_261) (ft_64 F) c2_ (xlt_of (fl_64 F) c3_) rfl (fun f4_ => ?_)
    replace f4_ : -9223372036854775808 ≤ (xpl h 64 (x7 - 1)) ∧ (xpl h 64 (x7 - 1)) ≤ 9223372036854775807 := f4_
    refine xr_aload_n (pc := 262) (i := 1) (hI := d_DualPivotQuicksort_tryMergeRuns_262) (hi := rfl) (hl := rfl) ?_
    refine xr_iload (pc := 263) (i := 7) (hI := d_DualPivotQuicksort_tryMergeRuns_263) (hl := rfl) ?_
    obtain ⟨c5_, hyp⟩ := hyp
    refine xg_laload (pc := 265) (v := (xpl h 64 x7)) (hI := d_DualPivotQuicksort_tryMergeRuns_265) (ft_64 F) (by clear hyp; omega) (xlt_of (fl_64 F) c5_) rfl (fun f6_ => ?_)
    replace f6_ : -9223372036854775808 ≤ (xpl h 64 x7) ∧ (xpl h 64 x7) ≤ 9223372036854775807 := f6_
    refine xr_lcmp (pc := 266) (hI := d_DualPivotQuicksort_tryMergeRuns_266) ?_
    refine xg_lif_le (pc := 267) (tgt := 316) (hI := d_DualPivotQuicksort_tryMergeRuns_267) (ht := by decide) (fun q9 => ?_) (fun q9 => ?_)
    · replace hyp := hyp.1 q9
      have q7_ := q9
      clear q9
      exact xr_drop (L9 := [xR (-1), xR 64, xI x2, xI x3, xR x4, xI x5, xI x6, xZ, xI x8, xZ, xZ, xZ, xZ]) (xdrs (xdrs (xdrs (xdrs (xdrs (xdrs (xdrs (xdrz (xdrs (xdrs (xdrs (xdrs (xdrs xdr0))))))))))))) hyp
    · replace hyp := hyp.2 q9
      have q7_ := q9
      clear q9
      refine xr_iload (pc := 270) (i := 6) (hI := d_DualPivotQuicksort_tryMergeRuns_270) (hl := rfl) ?_
      refine xr_iload (pc := 272) (i := 8) (hI := d_DualPivotQuicksort_tryMergeRuns_272) (hl := rfl) ?_
      refine xr_iload_n (pc := 274) (i := 2) (hI := d_DualPivotQuicksort_tryMergeRuns_274) (hi := rfl) (hl := rfl) ?_
      obtain ⟨c9, hyp⟩ := hyp
      refine xr_isub (pc := 275) (hI := d_DualPivotQuicksort_tryMergeRuns_275) (hr := c9) ?_
      refine xr_bipush (pc := 276) (hI := d_DualPivotQuicksort_tryMergeRuns_276) (hr := by decide) (hv := by decide) ?_
      refine xr_ishr (pc := 278) (hI := d_DualPivotQuicksort_tryMergeRuns_278) ?_
      have f8_ : -2147483648 ≤ (xshr (x8 - x2) 7) ∧ (xshr (x8 - x2) 7) ≤ 2147483647 := xi_toR _
      refine xr_icmp_le (pc := 279) (tgt := 284) (hI := d_DualPivotQuicksort_tryMergeRuns_279) (ht := by decide) (fun q9 => ?_) (fun q9 => ?_)
      · replace hyp := hyp.1 q9
        have q9_ := q9
        clear q9
        obtain ⟨c9, hyp⟩ := hyp
        refine xr_iinc (pc := 284) (i := 6) (L9 := [xR (-1), xR 64, xI x2, xI x3, xR x4, xI x5, xI (x6 + 1), xI x7, xI x8, xZ, xZ, xZ, xZ]) (hI := d_DualPivotQuicksort_tryMergeRuns_284) (hl := rfl) (hn := Nat.le_of_ble_eq_true rfl) (hr := c9) (hL9 := rfl) ?_
        refine xr_iload (pc := 287) (i := 6) (hI := d_DualPivotQuicksort_tryMergeRuns_287) (hl := rfl) ?_
        refine xr_sipush (pc := 289) (hI := d_DualPivotQuicksort_tryMergeRuns_289) (hr := by decide) (hv := by decide) ?_
        refine xr_icmp_ne (pc := 292) (tgt := 297) (hI := d_DualPivotQuicksort_tryMergeRuns_292) (ht := by decide) (fun q9 => ?_) (fun q9 => ?_)
        · replace hyp := hyp.2 q9
          have q10_ := q9
          clear q9
          refine xr_iload (pc := 297) (i := 6) (hI := d_DualPivotQuicksort_tryMergeRuns_297) (hl := rfl) ?_
          refine xr_aload (pc := 299) (i := 4) (hI := d_DualPivotQuicksort_tryMergeRuns_299) (hl := rfl) ?_
          obtain ⟨c9, hyp⟩ := hyp
          have t11_ := c9
          clear c9
          refine xg_alen (pc := 301) (t := 100) (v := (xln h x4)) (hI := d_DualPivotQuicksort_tryMergeRuns_301) t11_ (Nat.le_of_ble_eq_true rfl) (Nat.le_of_ble_eq_true rfl) rfl rfl (fun f12_ f13_ => ?_)
          refine xr_icmp_ne (pc := 302) (tgt := 316) (hI := d_DualPivotQuicksort_tryMergeRuns_302) (ht := by decide) (fun q9 => ?_) (fun q9 => ?_)
          · replace hyp := hyp.2 q9
            have q14_ := q9
            clear q9
            exact xr_drop (L9 := [xR (-1), xR 64, xI x2, xI x3, xR x4, xI x5, xI (x6 + 1), xZ, xI x8, xZ, xZ, xZ, xZ]) (xdrs (xdrs (xdrs (xdrs (xdrs (xdrs (xdrs (xdrz (xdrs (xdrs (xdrs (xdrs (xdrs xdr0))))))))))))) hyp
          · replace hyp := hyp.1 q9
            have q14_ := q9
            clear q9
            refine xr_aload (pc := 305) (i := 4) (hI := d_DualPivotQuicksort_tryMergeRuns_305) (hl := rfl) ?_
            refine xr_iload (pc := 307) (i := 6) (hI := d_DualPivotQuicksort_tryMergeRuns_307) (hl := rfl) ?_
            refine xr_iconst (pc := 309) (hI := d_DualPivotQuicksort_tryMergeRuns_309) (hr := by decide) ?_
            refine xr_ishl (pc := 310) (hI := d_DualPivotQuicksort_tryMergeRuns_310) ?_
            have f15_ : -2147483648 ≤ (xshl (x6 + 1) 1) ∧ (xshl (x6 + 1) 1) ≤ 2147483647 := xi_toR _
            exact xq_callS (pc := 311) (index := 53) (K := m_Arrays_copyOf_aII) (As := [xR x4, xI (xshl (x6 + 1) 1)]) (S := []) (L0 := [xR x4, xI (xshl (x6 + 1) 1), xZ]) (hI := d_DualPivotQuicksort_tryMergeRuns_311) (hK := k_Arrays_copyOf_aII) (hlk := w_2157) (hnoM := rfl) (hS8 := Nat.le_of_ble_eq_true rfl) (hstat := w_916) (hlen := Nat.le_of_ble_eq_true rfl) (hst := rfl) (hL0 := rfl)  (xwp_mono hyp (fun v9 h9 q9 => xr_drop (L9 := [xR (-1), xR 64, xI x2, xI x3, xZ, xI x5, xI (x6 + 1), xZ, xI x8, xZ, xZ, xZ, xZ]) (xdrs (xdrs (xdrs (xdrs (xdrz (xdrs (xdrs (xdrz (xdrs (xdrs (xdrs (xdrs (xdrs xdr0))))))))))))) q9) (fun _ _ z9 => z9))
        · replace hyp := hyp.1 q9
          have q10_ := q9
          clear q9
          refine xr_iconst (pc := 295) (hI := d_DualPivotQuicksort_tryMergeRuns_295) (hr := by decide) ?_
          refine xr_ireturnT (S := []) (pc := 296) (hI := d_DualPivotQuicksort_tryMergeRuns_296) (hr := rfl) (xnar_z (by decide)) ?_
          exact hyp
      · replace hyp := hyp.2 q9
        have q9_ := q9
        clear q9
        refine xr_iconst (pc := 282) (hI := d_DualPivotQuicksort_tryMergeRuns_282) (hr := by decide) ?_
        refine xr_ireturnT (S := []) (pc := 283) (hI := d_DualPivotQuicksort_tryMergeRuns_283) (hr := rfl) (xnar_z (by decide)) ?_
        exact hyp
  · replace hyp := hyp.1 q9
    have q1_ := q9
    clear q9
    refine xr_iload (pc := 213) (i := 8) (hI := d_DualPivotQuicksort_tryMergeRuns_213) (hl := rfl) ?_
    refine xr_iload (pc := 215) (i := 5) (hI := d_DualPivotQuicksort_tryMergeRuns_215) (hl := rfl) ?_
    refine xr_icmp_ne (pc := 217) (tgt := 222) (hI := d_DualPivotQuicksort_tryMergeRuns_217) (ht := by decide) (fun q9 => ?_) (fun q9 => ?_)
    · replace hyp := hyp.2 q9
      have q16_ := q9
      clear q9
      refine xr_iload (pc := 222) (i := 8) (hI := d_DualPivotQuicksort_tryMergeRuns_222) (hl := rfl) ?_
      refine xr_iload_n (pc := 224) (i := 2) (hI := d_DualPivotQuicksort_tryMergeRuns_224) (hi := rfl) (hl := rfl) ?_
      obtain ⟨c9, hyp⟩ := hyp
      refine xr_isub (pc := 225) (hI := d_DualPivotQuicksort_tryMergeRuns_225) (hr := c9) ?_
      refine xr_bipush (pc := 226) (hI := d_DualPivotQuicksort_tryMergeRuns_226) (hr := by decide) (hv := by decide) ?_
      refine xr_icmp_ge (pc := 228) (tgt := 233) (hI := d_DualPivotQuicksort_tryMergeRuns_228) (ht := by decide) (fun q9 => ?_) (fun q9 => ?_)
      · replace hyp := hyp.1 q9
        have q17_ := q9
        clear q9
        refine xr_iload_n (pc := 233) (i := 3) (hI := d_DualPivotQuicksort_tryMergeRuns_233) (hi := rfl) (hl := rfl) ?_
        refine xr_bipush (pc := 234) (hI := d_DualPivotQuicksort_tryMergeRuns_234) (hr := by decide) (hv := by decide) ?_
        refine xr_ishr (pc := 236) (hI := d_DualPivotQuicksort_tryMergeRuns_236) ?_
        have f18_ : -2147483648 ≤ (xshr x3 10) ∧ (xshr x3 10) ≤ 2147483647 := xi_toR _
        refine xr_bipush (pc := 237) (hI := d_DualPivotQuicksort_tryMergeRuns_237) (hr := by decide) (hv := by decide) ?_
        refine xr_ior (pc := 239) (hI := d_DualPivotQuicksort_tryMergeRuns_239) ?_
        have f19_ : -2147483648 ≤ (xior (xshr x3 10) 127) ∧ (xior (xshr x3 10) 127) ≤ 2147483647 := xi_toR _
        refine xr_sipush (pc := 240) (hI := d_DualPivotQuicksort_tryMergeRuns_240) (hr := by decide) (hv := by decide) ?_
        refine xr_iand (pc := 243) (hI := d_DualPivotQuicksort_tryMergeRuns_243) ?_
        have f20_ : -2147483648 ≤ (xand (xior (xshr x3 10) 127) 1023) ∧ (xand (xior (xshr x3 10) 127) 1023) ≤ 2147483647 := xi_toR _
        obtain ⟨c21_, hyp⟩ := hyp
        obtain ⟨c22_, hyp⟩ := hyp
        obtain ⟨c8, c9, hyp⟩ := hyp
        refine xr_newarray (pc := 244) (t := 100) (hI := d_DualPivotQuicksort_tryMergeRuns_244) rfl w_79 rfl (Nat.le_of_ble_eq_true rfl) (Nat.le_of_ble_eq_true rfl) (by decide) (fun _ => rfl) (xok_z rfl) c21_ c22_ c8 c9 ?_
        have F23_ : xFix (xmk h 100 (xand (xior (xshr x3 10) 127) 1023) (fun _ => 0)) := F.mk
        have f24_ : (93 : Int) ≤ xnx h := F.nx
        have f25_ : (93 : Int) ≤ xnx (xmk h 100 (xand (xior (xshr x3 10) 127) 1023) (fun _ => 0)) := F23_.nx
        have f26_ : xnx (xmk h 100 (xand (xior (xshr x3 10) 127) 1023) (fun _ => 0)) = xnx h + 1 := xnx_mk _ _ _ _
        show xwp G m_DualPivotQuicksort_tryMergeRuns (d + 140) 246 [xR (-1), xR 64, xI x2, xI x3, xR x4, xI x5, xI x6, xI x7, xI x8, xZ, xZ, xZ, xZ] [xR (xnx h)] (xmk h 100 (xand (xior (xshr x3 10) 127) 1023) (fun _ => 0)) _ _
        refine xr_astore (pc := 246) (i := 4) (L9 := [xR (-1), xR 64, xI x2, xI x3, xR (xnx h), xI x5, xI x6, xI x7, xI x8, xZ, xZ, xZ, xZ]) (hI := d_DualPivotQuicksort_tryMergeRuns_246) (hn := Nat.le_of_ble_eq_true rfl) (hL9 := rfl) ?_
        refine xr_aload (pc := 248) (i := 4) (hI := d_DualPivotQuicksort_tryMergeRuns_248) (hl := rfl) ?_
        refine xr_iconst (pc := 250) (hI := d_DualPivotQuicksort_tryMergeRuns_250) (hr := by decide) ?_
        refine xr_iload_n (pc := 251) (i := 2) (hI := d_DualPivotQuicksort_tryMergeRuns_251) (hi := rfl) (hl := rfl) ?_
        obtain ⟨c27_, hyp⟩ := hyp
        refine xr_iastore (pc := 252) (hI := d_DualPivotQuicksort_tryMergeRuns_252) (show xtg (xmk h 100 (xand (xior (xshr x3 10) 127) 1023) (fun _ => 0)) (xnx h) = 100 from xtg_new rfl) (by clear hyp; omega) (by decide) (xlt_of (show xln (xmk h 100 (xand (xior (xshr x3 10) 127) 1023) (fun _ => 0)) (xnx h) = (xand (xior (xshr x3 10) 127) 1023) from xln_new rfl) c27_) ?_
        have F28_ : xFix (xst (xmk h 100 (xand (xior (xshr x3 10) 127) 1023) (fun _ => 0)) (xnx h) 0 x2) := F23_.stD (by clear hyp; omega)
        refine xr_goto (pc := 253) (tgt := 316) (hI := d_DualPivotQuicksort_tryMergeRuns_253) (ht := by decide) ?_
        exact xr_drop (L9 := [xR (-1), xR 64, xI x2, xI x3, xR (xnx h), xI x5, xI x6, xZ, xI x8, xZ, xZ, xZ, xZ]) (xdrs (xdrs (xdrs (xdrs (xdrs (xdrs (xdrs (xdrz (xdrs (xdrs (xdrs (xdrs (xdrs xdr0))))))))))))) (hyp F28_)
      · replace hyp := hyp.2 q9
        have q17_ := q9
        clear q9
        refine xr_iconst (pc := 231) (hI := d_DualPivotQuicksort_tryMergeRuns_231) (hr := by decide) ?_
        refine xr_ireturnT (S := []) (pc := 232) (hI := d_DualPivotQuicksort_tryMergeRuns_232) (hr := rfl) (xnar_z (by decide)) ?_
        exact hyp
    · replace hyp := hyp.1 q9
      have q16_ := q9
      clear q9
      refine xr_iconst (pc := 220) (hI := d_DualPivotQuicksort_tryMergeRuns_220) (hr := by decide) ?_
      refine xr_ireturnT (S := []) (pc := 221) (hI := d_DualPivotQuicksort_tryMergeRuns_221) (hr := rfl) (xnar_z (by decide)) ?_
      exact hyp
theorem d_DualPivotQuicksort_tryMergeRuns_314 : decode prog_46_method_18_code 314 = .ok (.astore 4, 2) := by decide +kernel
theorem v_DualPivotQuicksort_tryMergeRuns_314 {G : XG} {d : Nat} {h : XH} {Q : XV → XH → Prop} {X : Nat → XH → Prop} {x2 x3 x5 x6 x8 s0 : Int} (F : xFix h) (hyp : (xwp G m_DualPivotQuicksort_tryMergeRuns (d + 140) 316 [xR (-1), xR 64, xI x2, xI x3, xR s0, xI x5, xI x6, xZ, xI x8, xZ, xZ, xZ, xZ] [] h Q X)) : xwp G m_DualPivotQuicksort_tryMergeRuns (d + 140) 314 [xR (-1), xR 64, xI x2, xI x3, xZ, xI x5, xI x6, xZ, xI x8, xZ, xZ, xZ, xZ] [xR s0] h Q X := by
  have hnx9 : (93 : Int) ≤ xnx h := F.2.2
  refine xr_okL (fun hl9 => ?_)
  have r_x2 : -2147483648 ≤ x2 ∧ x2 ≤ 2147483647 := hl9 (xI x2) (.tail _ (.tail _ (.head _))) (Nat.le_of_ble_eq_true rfl)
  have r_x3 : -2147483648 ≤ x3 ∧ x3 ≤ 2147483647 := hl9 (xI x3) (.tail _ (.tail _ (.tail _ (.head _)))) (Nat.le_of_ble_eq_true rfl)
  have r_x5 : -2147483648 ≤ x5 ∧ x5 ≤ 2147483647 := hl9 (xI x5) (.tail _ (.tail _ (.tail _ (.tail _ (.tail _ (.head _)))))) (Nat.le_of_ble_eq_true rfl)
  have r_x6 : -2147483648 ≤ x6 ∧ x6 ≤ 2147483647 := hl9 (xI x6) (.tail _ (.tail _ (.tail _ (.tail _ (.tail _ (.tail _ (.head _))))))) (Nat.le_of_ble_eq_true rfl)
  have r_x8 : -2147483648 ≤ x8 ∧ x8 ≤ 2147483647 := hl9 (xI x8) (.tail _ (.tail _ (.tail _ (.tail _ (.tail _ (.tail _ (.tail _ (.tail _ (.head _))))))))) (Nat.le_of_ble_eq_true rfl)
  refine xr_astore (pc := 314) (i := 4) (L9 := [xR (-1), xR 64, xI x2, xI x3, xR s0, xI x5, xI x6, xZ, xI x8, xZ, xZ, xZ, xZ]) (hI := d_DualPivotQuicksort_tryMergeRuns_314) (hn := Nat.le_of_ble_eq_true rfl) (hL9 := rfl) ?_
  exact hyp
theorem d_DualPivotQuicksort_tryMergeRuns_316 : decode prog_46_method_18_code 316 = .ok (.aload 4, 2) := by decide +kernel
theorem d_DualPivotQuicksort_tryMergeRuns_318 : decode prog_46_method_18_code 318 = .ok (.iload 6, 2) := by decide +kernel
theorem d_DualPivotQuicksort_tryMergeRuns_320 : decode prog_46_method_18_code 320 = .ok (.iload 8, 2) := by decide +kernel
theorem d_DualPivotQuicksort_tryMergeRuns_322 : decode prog_46_method_18_code 322 = .ok (.dup, 1) := by decide +kernel
theorem d_DualPivotQuicksort_tryMergeRuns_323 : decode prog_46_method_18_code 323 = .ok (.istore 7, 2) := by decide +kernel
theorem d_DualPivotQuicksort_tryMergeRuns_325 : decode prog_46_method_18_code 325 = .ok (.iastore, 1) := by decide +kernel
theorem d_DualPivotQuicksort_tryMergeRuns_326 : decode prog_46_method_18_code 326 = .ok (.goto (-307), 3) := by decide +kernel
theorem v_DualPivotQuicksort_tryMergeRuns_316 {G : XG} {d : Nat} {h : XH} {Q : XV → XH → Prop} {X : Nat → XH → Prop} {x2 x3 x4 x5 x6 x8 : Int} (F : xFix h) (hyp : xtg h x4 = 100 ∧ 0 ≤ x4 ∧ 0 ≤ x6 ∧ x6 < (xln h x4) ∧ (xFix (xst h x4 x6 x8) → xwp G m_DualPivotQuicksort_tryMergeRuns (d + 140) 19 [xR (-1), xR 64, xI x2, xI x3, xR x4, xI x5, xI x6, xI x8, xI x8, xZ, xZ, xZ, xZ] [] (xst h x4 x6 x8) Q X)) : xwp G m_DualPivotQuicksort_tryMergeRuns (d + 140) 316 [xR (-1), xR 64, xI x2, xI x3, xR x4, xI x5, xI x6, xZ, xI x8, xZ, xZ, xZ, xZ] [] h Q X := by
  have hnx9 : (93 : Int) ≤ xnx h := F.2.2
  refine xr_okL (fun hl9 => ?_)
  have r_x2 : -2147483648 ≤ x2 ∧ x2 ≤ 2147483647 := hl9 (xI x2) (.tail _ (.tail _ (.head _))) (Nat.le_of_ble_eq_true rfl)
  have r_x3 : -2147483648 ≤ x3 ∧ x3 ≤ 2147483647 := hl9 (xI x3) (.tail _ (.tail _ (.tail _ (.head _)))) (Nat.le_of_ble_eq_true rfl)
  have r_x5 : -2147483648 ≤ x5 ∧ x5 ≤ 2147483647 := hl9 (xI x5) (.tail _ (.tail _ (.tail _ (.tail _ (.tail _ (.head _)))))) (Nat.le_of_ble_eq_true rfl)
  have r_x6 : -2147483648 ≤ x6 ∧ x6 ≤ 2147483647 := hl9 (xI x6) (.tail _ (.tail _ (.tail _ (.tail _ (.tail _ (.tail _ (.head _))))))) (Nat.le_of_ble_eq_true rfl)
  have r_x8 : -2147483648 ≤ x8 ∧ x8 ≤ 2147483647 := hl9 (xI x8) (.tail _ (.tail _ (.tail _ (.tail _ (.tail _ (.tail _ (.tail _ (.tail _ (.head _))))))))) (Nat.le_of_ble_eq_true rfl)
  refine xr_aload (pc := 316) (i := 4) (hI := d_DualPivotQuicksort_tryMergeRuns_316) (hl := rfl) ?_
  refine xr_iload (pc := 318) (i := 6) (hI := d_DualPivotQuicksort_tryMergeRuns_318) (hl := rfl) ?_
  refine xr_iload (pc := 320) (i := 8) (hI := d_DualPivotQuicksort_tryMergeRuns_320) (hl := rfl) ?_
  refine xr_dup (pc := 322) (hI := d_DualPivotQuicksort_tryMergeRuns_322) (hv := rfl) ?_
  refine xr_istore (pc := 323) (i := 7) (L9 := [xR (-1), xR 64, xI x2, xI x3, xR x4, xI x5, xI x6, xI x8, xI x8, xZ, xZ, xZ, xZ]) (hI := d_DualPivotQuicksort_tryMergeRuns_323) (hn := Nat.le_of_ble_eq_true rfl) (hL9 := rfl) ?_
  obtain ⟨c9, hyp⟩ := hyp
  have t1_ := c9
  clear c9
  obtain ⟨c2_, hyp⟩ := hyp
  obtain ⟨c3_, hyp⟩ := hyp
  obtain ⟨c4_, hyp⟩ := hyp
  refine xr_iastore (pc := 325) (hI := d_DualPivotQuicksort_tryMergeRuns_325) t1_ c2_ c3_ (xlt_of rfl c4_) ?_
  have F5_ : xFix (xst h x4 x6 x8) := F.stTA (t := 100) c2_ t1_ xta_100
  refine xr_goto (pc := 326) (tgt := 19) (hI := d_DualPivotQuicksort_tryMergeRuns_326) (ht := by decide) ?_
  exact (hyp F5_)
theorem d_DualPivotQuicksort_tryMergeRuns_355 : decode prog_46_method_18_code 355 = .ok (.iload_n 3, 1) := by decide +kernel
theorem d_DualPivotQuicksort_tryMergeRuns_356 : decode prog_46_method_18_code 356 = .ok (.newarray .long, 2) := by decide +kernel
theorem d_DualPivotQuicksort_tryMergeRuns_358 : decode prog_46_method_18_code 358 = .ok (.astore 8, 2) := by decide +kernel
theorem d_DualPivotQuicksort_tryMergeRuns_360 : decode prog_46_method_18_code 360 = .ok (.goto 9, 3) := by decide +kernel
theorem v_DualPivotQuicksort_tryMergeRuns_355 {G : XG} {d : Nat} {h : XH} {Q : XV → XH → Prop} {X : Nat → XH → Prop} {x3 x4 x6 x9 : Int} (F : xFix h) (hyp : 0 ≤ x3 ∧ x3 ≤ 60000000 ∧ xnx h + 1 ≤ xKC ∧ xsl h + x3 ≤ xKS ∧ (xFix (xmk h 101 x3 (fun _ => 0)) → xwp G m_DualPivotQuicksort_tryMergeRuns (d + 140) 369 [xR (-1), xR 64, xZ, xZ, xR x4, xZ, xI x6, xZ, xR (xnx h), xI x9, xZ, xZ, xZ] [] (xmk h 101 x3 (fun _ => 0)) Q X)) : xwp G m_DualPivotQuicksort_tryMergeRuns (d + 140) 355 [xR (-1), xR 64, xZ, xI x3, xR x4, xZ, xI x6, xZ, xZ, xI x9, xZ, xZ, xZ] [] h Q X := by
  have hnx9 : (93 : Int) ≤ xnx h := F.2.2
  refine xr_okL (fun hl9 => ?_)
  have r_x3 : -2147483648 ≤ x3 ∧ x3 ≤ 2147483647 := hl9 (xI x3) (.tail _ (.tail _ (.tail _ (.head _)))) (Nat.le_of_ble_eq_true rfl)
  have r_x6 : -2147483648 ≤ x6 ∧ x6 ≤ 2147483647 := hl9 (xI x6) (.tail _ (.tail _ (.tail _ (.tail _ (.tail _ (.tail _ (.head _))))))) (Nat.le_of_ble_eq_true rfl)
  have r_x9 : -2147483648 ≤ x9 ∧ x9 ≤ 2147483647 := hl9 (xI x9) (.tail _ (.tail _ (.tail _ (.tail _ (.tail _ (.tail _ (.tail _ (.tail _ (.tail _ (.head _)))))))))) (Nat.le_of_ble_eq_true rfl)
  refine xr_iload_n (pc := 355) (i := 3) (hI := d_DualPivotQuicksort_tryMergeRuns_355) (hi := rfl) (hl := rfl) ?_
  obtain ⟨c1_, hyp⟩ := hyp
  obtain ⟨c2_, hyp⟩ := hyp
  obtain ⟨c8, c9, hyp⟩ := hyp
  refine xr_newarray (pc := 356) (t := 101) (hI := d_DualPivotQuicksort_tryMergeRuns_356) rfl w_80 rfl (Nat.le_of_ble_eq_true rfl) (Nat.le_of_ble_eq_true rfl) (by decide) (fun _ => rfl) (xok_z rfl) c1_ c2_ c8 c9 ?_
  have F3_ : xFix (xmk h 101 x3 (fun _ => 0)) := F.mk
  have f4_ : (93 : Int) ≤ xnx h := F.nx
  have f5_ : (93 : Int) ≤ xnx (xmk h 101 x3 (fun _ => 0)) := F3_.nx
  have f6_ : xnx (xmk h 101 x3 (fun _ => 0)) = xnx h + 1 := xnx_mk _ _ _ _
  show xwp G m_DualPivotQuicksort_tryMergeRuns (d + 140) 358 [xR (-1), xR 64, xZ, xI x3, xR x4, xZ, xI x6, xZ, xZ, xI x9, xZ, xZ, xZ] [xR (xnx h)] (xmk h 101 x3 (fun _ => 0)) _ _
  refine xr_astore (pc := 358) (i := 8) (L9 := [xR (-1), xR 64, xZ, xI x3, xR x4, xZ, xI x6, xZ, xR (xnx h), xI x9, xZ, xZ, xZ]) (hI := d_DualPivotQuicksort_tryMergeRuns_358) (hn := Nat.le_of_ble_eq_true rfl) (hL9 := rfl) ?_
  refine xr_goto (pc := 360) (tgt := 369) (hI := d_DualPivotQuicksort_tryMergeRuns_360) (ht := by decide) ?_
  exact xr_drop (L9 := [xR (-1), xR 64, xZ, xZ, xR x4, xZ, xI x6, xZ, xR (xnx h), xI x9, xZ, xZ, xZ]) (xdrs (xdrs (xdrs (xdrz (xdrs (xdrs (xdrs (xdrs (xdrs (xdrs (xdrs (xdrs (xdrs xdr0))))))))))))) (hyp F3_)
theorem d_DualPivotQuicksort_tryMergeRuns_369 : decode prog_46_method_18_code 369 = .ok (.aload_n 1, 1) := by decide +kernel
theorem d_DualPivotQuicksort_tryMergeRuns_370 : decode prog_46_method_18_code 370 = .ok (.aload 8, 2) := by decide +kernel
theorem d_DualPivotQuicksort_tryMergeRuns_372 : decode prog_46_method_18_code 372 = .ok (.iload 9, 2) := by decide +kernel
theorem d_DualPivotQuicksort_tryMergeRuns_374 : decode prog_46_method_18_code 374 = .ok (.iconst 1, 1) := by decide +kernel
theorem d_DualPivotQuicksort_tryMergeRuns_375 : decode prog_46_method_18_code 375 = .ok (.aload_n 0, 1) := by decide +kernel
theorem d_DualPivotQuicksort_tryMergeRuns_376 : decode prog_46_method_18_code 376 = .ok (.ifnull 7, 3) := by decide +kernel
theorem d_DualPivotQuicksort_tryMergeRuns_383 : decode prog_46_method_18_code 383 = .ok (.iconst 0, 1) := by decide +kernel
theorem d_DualPivotQuicksort_tryMergeRuns_384 : decode prog_46_method_18_code 384 = .ok (.aload 4, 2) := by decide +kernel
theorem d_DualPivotQuicksort_tryMergeRuns_386 : decode prog_46_method_18_code 386 = .ok (.iconst 0, 1) := by decide +kernel
theorem d_DualPivotQuicksort_tryMergeRuns_387 : decode prog_46_method_18_code 387 = .ok (.iload 6, 2) := by decide +kernel
theorem d_DualPivotQuicksort_tryMergeRuns_389 : decode prog_46_method_18_code 389 = .ok (.invokestatic 118, 3) := by decide +kernel
theorem v_DualPivotQuicksort_tryMergeRuns_369 {G : XG} {d : Nat} {h : XH} {Q : XV → XH → Prop} {X : Nat → XH → Prop} {x4 x6 x8 x9 : Int} (F : xFix h) (hyp : (xwp G m_DualPivotQuicksort_mergeRuns (d + 139) 0 [xR 64, xR x8, xI x9, xI 1, xI 0, xR x4, xI 0, xI x6, xZ, xZ, xZ, xZ, xZ, xZ, xZ, xZ, xZ, xZ] [] h (fun v9 h9 => xwp G m_DualPivotQuicksort_tryMergeRuns (d + 140) 392 [xZ, xZ, xZ, xZ, xZ, xZ, xZ, xZ, xZ, xZ, xZ, xZ, xZ] (xpush v9 []) h9 Q X) X)) : xwp G m_DualPivotQuicksort_tryMergeRuns (d + 140) 369 [xR (-1), xR 64, xZ, xZ, xR x4, xZ, xI x6, xZ, xR x8, xI x9, xZ, xZ, xZ] [] h Q X := by
  have hnx9 : (93 : Int) ≤ xnx h := F.2.2
  refine xr_okL (fun hl9 => ?_)
  have r_x6 : -2147483648 ≤ x6 ∧ x6 ≤ 2147483647 := hl9 (xI x6) (.tail _ (.tail _ (.tail _ (.tail _ (.tail _ (.tail _ (.head _))))))) (Nat.le_of_ble_eq_true rfl)
  have r_x9 : -2147483648 ≤ x9 ∧ x9 ≤ 2147483647 := hl9 (xI x9) (.tail _ (.tail _ (.tail _ (.tail _ (.tail _ (.tail _ (.tail _ (.tail _ (.tail _ (.head _)))))))))) (Nat.le_of_ble_eq_true rfl)
  refine xr_aload_n (pc := 369) (i := 1) (hI := d_DualPivotQuicksort_tryMergeRuns_369) (hi := rfl) (hl := rfl) ?_
  refine xr_aload (pc := 370) (i := 8) (hI := d_DualPivotQuicksort_tryMergeRuns_370) (hl := rfl) ?_
  refine xr_iload (pc := 372) (i := 9) (hI := d_DualPivotQuicksort_tryMergeRuns_372) (hl := rfl) ?_
  refine xr_iconst (pc := 374) (hI := d_DualPivotQuicksort_tryMergeRuns_374) (hr := by decide) ?_
  refine xr_aload_n (pc := 375) (i := 0) (hI := d_DualPivotQuicksort_tryMergeRuns_375) (hi := rfl) (hl := rfl) ?_
  refine xr_ifnull (pc := 376) (tgt := 383) (hI := d_DualPivotQuicksort_tryMergeRuns_376) (ht := by decide) (fun q9 => ?_) (fun q9 => ?_)
  · clear q9
    refine xr_iconst (pc := 383) (hI := d_DualPivotQuicksort_tryMergeRuns_383) (hr := by decide) ?_
    refine xr_aload (pc := 384) (i := 4) (hI := d_DualPivotQuicksort_tryMergeRuns_384) (hl := rfl) ?_
    refine xr_iconst (pc := 386) (hI := d_DualPivotQuicksort_tryMergeRuns_386) (hr := by decide) ?_
    refine xr_iload (pc := 387) (i := 6) (hI := d_DualPivotQuicksort_tryMergeRuns_387) (hl := rfl) ?_
    exact xq_callS (pc := 389) (index := 118) (K := m_DualPivotQuicksort_mergeRuns) (As := [xR 64, xR x8, xI x9, xI 1, xI 0, xR x4, xI 0, xI x6]) (S := []) (L0 := [xR 64, xR x8, xI x9, xI 1, xI 0, xR x4, xI 0, xI x6, xZ, xZ, xZ, xZ, xZ, xZ, xZ, xZ, xZ, xZ]) (hI := d_DualPivotQuicksort_tryMergeRuns_389) (hK := k_DualPivotQuicksort_mergeRuns) (hlk := w_2159) (hnoM := rfl) (hS8 := Nat.le_of_ble_eq_true rfl) (hstat := w_2160) (hlen := Nat.le_of_ble_eq_true rfl) (hst := rfl) (hL0 := rfl)  (xwp_mono hyp (fun v9 h9 q9 => xr_drop (L9 := [xZ, xZ, xZ, xZ, xZ, xZ, xZ, xZ, xZ, xZ, xZ, xZ, xZ]) (xdrz (xdrz (xdrs (xdrs (xdrz (xdrs (xdrz (xdrs (xdrz (xdrz (xdrs (xdrs (xdrs xdr0))))))))))))) q9) (fun _ _ z9 => z9))
  · exact absurd q9 (by decide)
theorem d_DualPivotQuicksort_tryMergeRuns_392 : decode prog_46_method_18_code 392 = .ok (.pop, 1) := by decide +kernel
theorem v_DualPivotQuicksort_tryMergeRuns_392 {G : XG} {d : Nat} {h : XH} {Q : XV → XH → Prop} {X : Nat → XH → Prop} {s0 : Int} (F : xFix h) (hyp : (Q (xI 1) h)) : xwp G m_DualPivotQuicksort_tryMergeRuns (d + 140) 392 [xZ, xZ, xZ, xZ, xZ, xZ, xZ, xZ, xZ, xZ, xZ, xZ, xZ] [xR s0] h Q X := by
  have hnx9 : (93 : Int) ≤ xnx h := F.2.2
  refine xr_pop (pc := 392) (hI := d_DualPivotQuicksort_tryMergeRuns_392) (hv := rfl) ?_
  refine xr_iconst (pc := 393) (hI := d_DualPivotQuicksort_tryMergeRuns_393) (hr := by decide) ?_
  refine xr_ireturnT (S := []) (pc := 394) (hI := d_DualPivotQuicksort_tryMergeRuns_394) (hr := rfl) (xnar_z (by decide)) ?_
  exact hyp

end
