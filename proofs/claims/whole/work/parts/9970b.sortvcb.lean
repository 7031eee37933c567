/-! ===== sortvcb ===== -/
section
abbrev m_DualPivotQuicksort_sort_SorteraJIII : XM := (⟨"java/util/DualPivotQuicksort", "sort", "(Ljava/util/DualPivotQuicksort$Sorter;[JIII)V"⟩, prog_46_method_13_code, 25, none, [])
theorem d_DualPivotQuicksort_sort_SorteraJIII_0 : decode prog_46_method_13_code 0 = .ok (.iload 4, 2) := by decide +kernel
theorem d_DualPivotQuicksort_sort_SorteraJIII_2 : decode prog_46_method_13_code 2 = .ok (.iconst 1, 1) := by decide +kernel
theorem d_DualPivotQuicksort_sort_SorteraJIII_3 : decode prog_46_method_13_code 3 = .ok (.isub, 1) := by decide +kernel
theorem d_DualPivotQuicksort_sort_SorteraJIII_4 : decode prog_46_method_13_code 4 = .ok (.istore 5, 2) := by decide +kernel
theorem d_DualPivotQuicksort_sort_SorteraJIII_6 : decode prog_46_method_13_code 6 = .ok (.iload 4, 2) := by decide +kernel
theorem d_DualPivotQuicksort_sort_SorteraJIII_8 : decode prog_46_method_13_code 8 = .ok (.iload_n 3, 1) := by decide +kernel
theorem d_DualPivotQuicksort_sort_SorteraJIII_9 : decode prog_46_method_13_code 9 = .ok (.isub, 1) := by decide +kernel
theorem d_DualPivotQuicksort_sort_SorteraJIII_10 : decode prog_46_method_13_code 10 = .ok (.istore 6, 2) := by decide +kernel
theorem d_DualPivotQuicksort_sort_SorteraJIII_12 : decode prog_46_method_13_code 12 = .ok (.iload 6, 2) := by decide +kernel
theorem d_DualPivotQuicksort_sort_SorteraJIII_14 : decode prog_46_method_13_code 14 = .ok (.bipush 65, 2) := by decide +kernel
theorem d_DualPivotQuicksort_sort_SorteraJIII_16 : decode prog_46_method_13_code 16 = .ok (.iload_n 2, 1) := by decide +kernel
theorem d_DualPivotQuicksort_sort_SorteraJIII_17 : decode prog_46_method_13_code 17 = .ok (.iadd, 1) := by decide +kernel
theorem d_DualPivotQuicksort_sort_SorteraJIII_18 : decode prog_46_method_13_code 18 = .ok (.if_icmp .ge 28, 3) := by decide +kernel
theorem d_DualPivotQuicksort_sort_SorteraJIII_21 : decode prog_46_method_13_code 21 = .ok (.iload_n 2, 1) := by decide +kernel
theorem d_DualPivotQuicksort_sort_SorteraJIII_22 : decode prog_46_method_13_code 22 = .ok (.iconst 1, 1) := by decide +kernel
theorem d_DualPivotQuicksort_sort_SorteraJIII_23 : decode prog_46_method_13_code 23 = .ok (.iand, 1) := by decide +kernel
theorem d_DualPivotQuicksort_sort_SorteraJIII_24 : decode prog_46_method_13_code 24 = .ok (.ifCond .le 22, 3) := by decide +kernel
theorem d_DualPivotQuicksort_sort_SorteraJIII_27 : decode prog_46_method_13_code 27 = .ok (.aload_n 1, 1) := by decide +kernel
theorem d_DualPivotQuicksort_sort_SorteraJIII_28 : decode prog_46_method_13_code 28 = .ok (.iload_n 3, 1) := by decide +kernel
theorem d_DualPivotQuicksort_sort_SorteraJIII_29 : decode prog_46_method_13_code 29 = .ok (.iload 4, 2) := by decide +kernel
theorem d_DualPivotQuicksort_sort_SorteraJIII_31 : decode prog_46_method_13_code 31 = .ok (.iconst 3, 1) := by decide +kernel
theorem d_DualPivotQuicksort_sort_SorteraJIII_32 : decode prog_46_method_13_code 32 = .ok (.iload 6, 2) := by decide +kernel
theorem d_DualPivotQuicksort_sort_SorteraJIII_34 : decode prog_46_method_13_code 34 = .ok (.iconst 5, 1) := by decide +kernel
theorem d_DualPivotQuicksort_sort_SorteraJIII_35 : decode prog_46_method_13_code 35 = .ok (.ishr, 1) := by decide +kernel
theorem d_DualPivotQuicksort_sort_SorteraJIII_36 : decode prog_46_method_13_code 36 = .ok (.iconst 3, 1) := by decide +kernel
theorem d_DualPivotQuicksort_sort_SorteraJIII_37 : decode prog_46_method_13_code 37 = .ok (.ishl, 1) := by decide +kernel
theorem d_DualPivotQuicksort_sort_SorteraJIII_38 : decode prog_46_method_13_code 38 = .ok (.imul, 1) := by decide +kernel
theorem d_DualPivotQuicksort_sort_SorteraJIII_39 : decode prog_46_method_13_code 39 = .ok (.isub, 1) := by decide +kernel
theorem d_DualPivotQuicksort_sort_SorteraJIII_40 : decode prog_46_method_13_code 40 = .ok (.iload 4, 2) := by decide +kernel
theorem d_DualPivotQuicksort_sort_SorteraJIII_42 : decode prog_46_method_13_code 42 = .ok (.invokestatic 102, 3) := by decide +kernel
theorem k_DualPivotQuicksort_mixedInsertionSort : xCal m_DualPivotQuicksort_mixedInsertionSort 4 := ⟨List.mem_append_right _ (List.mem_of_getElem? (i := 2150) (by decide +kernel)), w_38, Nat.le_of_ble_eq_true rfl, ⟨by decide +kernel, by decide +kernel⟩, by decide +kernel, by decide +kernel, rfl⟩
theorem w_2148 : Cond.methodLink "java/util/DualPivotQuicksort" 102 ⟨"java/util/DualPivotQuicksort", "mixedInsertionSort", "([JIII)V"⟩ ∈ lw_tbl := List.mem_append_right _ (List.mem_of_getElem? (i := 2148) (by decide +kernel))
theorem w_2149 : Cond.static ⟨"java/util/DualPivotQuicksort", "mixedInsertionSort", "([JIII)V"⟩ ∈ lw_tbl := List.mem_append_right _ (List.mem_of_getElem? (i := 2149) (by decide +kernel))
theorem v_DualPivotQuicksort_sort_SorteraJIII_0 {G : XG} {d : Nat} {h : XH} {Q : XV → XH → Prop} {X : Nat → XH → Prop} {x2 x3 x4 : Int} (F : xFix h) (hyp : xiR (x4 - 1) ∧ xiR (x4 - x3) ∧ xiR (65 + x2) ∧ (((65 + x2) ≤ (x4 - x3) → (xwp G m_DualPivotQuicksort_sort_SorteraJIII (d + 141) 46 [xR (-1), xR 64, xI x2, xI x3, xI x4, xI (x4 - 1), xI (x4 - x3), xZ, xZ, xZ, xZ, xZ, xZ, xZ, xZ, xZ, xZ, xZ, xZ, xZ, xZ, xZ, xZ, xZ, xZ] [] h Q X)) ∧ (¬ (65 + x2) ≤ (x4 - x3) → (((xand x2 1) ≤ 0 → (xwp G m_DualPivotQuicksort_sort_SorteraJIII (d + 141) 46 [xR (-1), xR 64, xI x2, xI x3, xI x4, xI (x4 - 1), xI (x4 - x3), xZ, xZ, xZ, xZ, xZ, xZ, xZ, xZ, xZ, xZ, xZ, xZ, xZ, xZ, xZ, xZ, xZ, xZ] [] h Q X)) ∧ (¬ (xand x2 1) ≤ 0 → xiR (3 * (xshl (xshr (x4 - x3) 5) 3)) ∧ xiR (x4 - (3 * (xshl (xshr (x4 - x3) 5) 3))) ∧ (xwp G m_DualPivotQuicksort_mixedInsertionSort (d + 140) 0 [xR 64, xI x3, xI (x4 - (3 * (xshl (xshr (x4 - x3) 5) 3))), xI x4, xZ, xZ, xZ, xZ, xZ, xZ, xZ] [] h (fun v9 h9 => xwp G m_DualPivotQuicksort_sort_SorteraJIII (d + 141) 45 [xZ, xZ, xZ, xZ, xZ, xZ, xZ, xZ, xZ, xZ, xZ, xZ, xZ, xZ, xZ, xZ, xZ, xZ, xZ, xZ, xZ, xZ, xZ, xZ, xZ] (xpush v9 []) h9 Q X) X)))))) : xwp G m_DualPivotQuicksort_sort_SorteraJIII (d + 141) 0 [xR (-1), xR 64, xI x2, xI x3, xI x4, xZ, xZ, xZ, xZ, xZ, xZ, xZ, xZ, xZ, xZ, xZ, xZ, xZ, xZ, xZ, xZ, xZ, xZ, xZ, xZ] [] h Q X := by
  have hnx9 : (93 : Int) ≤ xnx h := F.2.2
  refine xr_okL (fun hl9 => ?_)
  have r_x2 : -2147483648 ≤ x2 ∧ x2 ≤ 2147483647 := hl9 (xI x2) (.tail _ (.tail _ (.head _))) (Nat.le_of_ble_eq_true rfl)
  have r_x3 : -2147483648 ≤ x3 ∧ x3 ≤ 2147483647 := hl9 (xI x3) (.tail _ (.tail _ (.tail _ (.head _)))) (Nat.le_of_ble_eq_true rfl)
  have r_x4 : -2147483648 ≤ x4 ∧ x4 ≤ 2147483647 := hl9 (xI x4) (.tail _ (.tail _ (.tail _ (.tail _ (.head _))))) (Nat.le_of_ble_eq_true rfl)
  refine xr_iload (pc := 0) (i := 4) (hI := d_DualPivotQuicksort_sort_SorteraJIII_0) (hl := rfl) ?_
  refine xr_iconst (pc := 2) (hI := d_DualPivotQuicksort_sort_SorteraJIII_2) (hr := by decide) ?_
  obtain ⟨c9, hyp⟩ := hyp
  refine xr_isub (pc := 3) (hI := d_DualPivotQuicksort_sort_SorteraJIII_3) (hr := c9) ?_
  refine xr_istore (pc := 4) (i := 5) (L9 := [xR (-1), xR 64, xI x2, xI x3, xI x4, xI (x4 - 1), xZ, xZ, xZ, xZ, xZ, xZ, xZ, xZ, xZ, xZ, xZ, xZ, xZ, xZ, xZ, xZ, xZ, xZ, xZ]) (hI := d_DualPivotQuicksort_sort_SorteraJIII_4) (hn := Nat.le_of_ble_eq_true rfl) (hL9 := rfl) ?_
  refine xr_iload (pc := 6) (i := 4) (hI := d_DualPivotQuicksort_sort_SorteraJIII_6) (hl := rfl) ?_
  refine xr_iload_n (pc := 8) (i := 3) (hI := d_DualPivotQuicksort_sort_SorteraJIII_8) (hi := rfl) (hl := rfl) ?_
  obtain ⟨c9, hyp⟩ := hyp
  refine xr_isub (pc := 9) (hI := d_DualPivotQuicksort_sort_SorteraJIII_9) (hr := c9) ?_
  refine xr_istore (pc := 10) (i := 6) (L9 := [xR (-1), xR 64, xI x2, xI x3, xI x4, xI (x4 - 1), xI (x4 - x3), xZ, xZ, xZ, xZ, xZ, xZ, xZ, xZ, xZ, xZ, xZ, xZ, xZ, xZ, xZ, xZ, xZ, xZ]) (hI := d_DualPivotQuicksort_sort_SorteraJIII_10) (hn := Nat.le_of_ble_eq_true rfl) (hL9 := rfl) ?_
  refine xr_iload (pc := 12) (i := 6) (hI := d_DualPivotQuicksort_sort_SorteraJIII_12) (hl := rfl) ?_
  refine xr_bipush (pc := 14) (hI := d_DualPivotQuicksort_sort_SorteraJIII_14) (hr := by decide) (hv := by decide) ?_
  refine xr_iload_n (pc := 16) (i := 2) (hI := d_DualPivotQuicksort_sort_SorteraJIII_16) (hi := rfl) (hl := rfl) ?_
  obtain ⟨c9, hyp⟩ := hyp
  refine xr_iadd (pc := 17) (hI := d_DualPivotQuicksort_sort_SorteraJIII_17) (hr := c9) ?_
  refine xr_icmp_ge (pc := 18) (tgt := 46) (hI := d_DualPivotQuicksort_sort_SorteraJIII_18) (ht := by decide) (fun q9 => ?_) (fun q9 => ?_)
  · replace hyp := hyp.1 q9
    have q1_ := q9
    clear q9
    exact hyp
  · replace hyp := hyp.2 q9
    have q1_ := q9
    clear q9
    refine xr_iload_n (pc := 21) (i := 2) (hI := d_DualPivotQuicksort_sort_SorteraJIII_21) (hi := rfl) (hl := rfl) ?_
    refine xr_iconst (pc := 22) (hI := d_DualPivotQuicksort_sort_SorteraJIII_22) (hr := by decide) ?_
    refine xr_iand (pc := 23) (hI := d_DualPivotQuicksort_sort_SorteraJIII_23) ?_
    have f2_ : -2147483648 ≤ (xand x2 1) ∧ (xand x2 1) ≤ 2147483647 := xi_toR _
    refine xr_if_le (pc := 24) (tgt := 46) (hI := d_DualPivotQuicksort_sort_SorteraJIII_24) (ht := by decide) (fun q9 => ?_) (fun q9 => ?_)
    · replace hyp := hyp.1 q9
      have q3_ := q9
      clear q9
      exact hyp
    · replace hyp := hyp.2 q9
      have q3_ := q9
      clear q9
      refine xr_aload_n (pc := 27) (i := 1) (hI := d_DualPivotQuicksort_sort_SorteraJIII_27) (hi := rfl) (hl := rfl) ?_
      refine xr_iload_n (pc := 28) (i := 3) (hI := d_DualPivotQuicksort_sort_SorteraJIII_28) (hi := rfl) (hl := rfl) ?_
      refine xr_iload (pc := 29) (i := 4) (hI := d_DualPivotQuicksort_sort_SorteraJIII_29) (hl := rfl) ?_
      refine xr_iconst (pc := 31) (hI := d_DualPivotQuicksort_sort_SorteraJIII_31) (hr := by decide) ?_
      refine xr_iload (pc := 32) (i := 6) (hI := d_DualPivotQuicksort_sort_SorteraJIII_32) (hl := rfl) ?_
      refine xr_iconst (pc := 34) (hI := d_DualPivotQuicksort_sort_SorteraJIII_34) (hr := by decide) ?_
      refine xr_ishr (pc := 35) (hI := d_DualPivotQuicksort_sort_SorteraJIII_35) ?_
      have f4_ : -2147483648 ≤ (xshr (x4 - x3) 5) ∧ (xshr (x4 - x3) 5) ≤ 2147483647 := xi_toR _
      refine xr_iconst (pc := 36) (hI := d_DualPivotQuicksort_sort_SorteraJIII_36) (hr := by decide) ?_
      refine xr_ishl (pc := 37) (hI := d_DualPivotQuicksort_sort_SorteraJIII_37) ?_
      have f5_ : -2147483648 ≤ (xshl (xshr (x4 - x3) 5) 3) ∧ (xshl (xshr (x4 - x3) 5) 3) ≤ 2147483647 := xi_toR _
      obtain ⟨c9, hyp⟩ := hyp
      refine xr_imul (pc := 38) (hI := d_DualPivotQuicksort_sort_SorteraJIII_38) (hr := c9) ?_
      obtain ⟨c9, hyp⟩ := hyp
      refine xr_isub (pc := 39) (hI := d_DualPivotQuicksort_sort_SorteraJIII_39) (hr := c9) ?_
      refine xr_iload (pc := 40) (i := 4) (hI := d_DualPivotQuicksort_sort_SorteraJIII_40) (hl := rfl) ?_
      exact xq_callS (pc := 42) (index := 102) (K := m_DualPivotQuicksort_mixedInsertionSort) (As := [xR 64, xI x3, xI (x4 - (3 * (xshl (xshr (x4 - x3) 5) 3))), xI x4]) (S := []) (L0 := [xR 64, xI x3, xI (x4 - (3 * (xshl (xshr (x4 - x3) 5) 3))), xI x4, xZ, xZ, xZ, xZ, xZ, xZ, xZ]) (hI := d_DualPivotQuicksort_sort_SorteraJIII_42) (hK := k_DualPivotQuicksort_mixedInsertionSort) (hlk := w_2148) (hnoM := rfl) (hS8 := Nat.le_of_ble_eq_true rfl) (hstat := w_2149) (hlen := Nat.le_of_ble_eq_true rfl) (hst := rfl) (hL0 := rfl)  (xwp_mono hyp (fun v9 h9 q9 => xr_drop (L9 := [xZ, xZ, xZ, xZ, xZ, xZ, xZ, xZ, xZ, xZ, xZ, xZ, xZ, xZ, xZ, xZ, xZ, xZ, xZ, xZ, xZ, xZ, xZ, xZ, xZ]) (xdrz (xdrz (xdrz (xdrz (xdrz (xdrz (xdrz (xdrs (xdrs (xdrs (xdrs (xdrs (xdrs (xdrs (xdrs (xdrs (xdrs (xdrs (xdrs (xdrs (xdrs (xdrs (xdrs (xdrs (xdrs xdr0))))))))))))))))))))))))) q9) (fun _ _ z9 => z9))
theorem d_DualPivotQuicksort_sort_SorteraJIII_45 : decode prog_46_method_13_code 45 = .ok (.return_, 1) := by decide +kernel
theorem v_DualPivotQuicksort_sort_SorteraJIII_45 {G : XG} {d : Nat} {h : XH} {Q : XV → XH → Prop} {X : Nat → XH → Prop} (F : xFix h) (hyp : (Q xN h)) : xwp G m_DualPivotQuicksort_sort_SorteraJIII (d + 141) 45 [xZ, xZ, xZ, xZ, xZ, xZ, xZ, xZ, xZ, xZ, xZ, xZ, xZ, xZ, xZ, xZ, xZ, xZ, xZ, xZ, xZ, xZ, xZ, xZ, xZ] [] h Q X := by
  have hnx9 : (93 : Int) ≤ xnx h := F.2.2
  refine xr_return (S := []) (pc := 45) (hI := d_DualPivotQuicksort_sort_SorteraJIII_45) (hr := rfl) ?_
  exact hyp
theorem d_DualPivotQuicksort_sort_SorteraJIII_46 : decode prog_46_method_13_code 46 = .ok (.iload 6, 2) := by decide +kernel
theorem d_DualPivotQuicksort_sort_SorteraJIII_48 : decode prog_46_method_13_code 48 = .ok (.bipush 44, 2) := by decide +kernel
theorem d_DualPivotQuicksort_sort_SorteraJIII_50 : decode prog_46_method_13_code 50 = .ok (.if_icmp .ge 11, 3) := by decide +kernel
theorem d_DualPivotQuicksort_sort_SorteraJIII_61 : decode prog_46_method_13_code 61 = .ok (.iload_n 2, 1) := by decide +kernel
theorem d_DualPivotQuicksort_sort_SorteraJIII_62 : decode prog_46_method_13_code 62 = .ok (.ifCond .eq 17, 3) := by decide +kernel
theorem d_DualPivotQuicksort_sort_SorteraJIII_79 : decode prog_46_method_13_code 79 = .ok (.aload_n 0, 1) := by decide +kernel
theorem d_DualPivotQuicksort_sort_SorteraJIII_80 : decode prog_46_method_13_code 80 = .ok (.aload_n 1, 1) := by decide +kernel
theorem d_DualPivotQuicksort_sort_SorteraJIII_81 : decode prog_46_method_13_code 81 = .ok (.iload_n 3, 1) := by decide +kernel
theorem d_DualPivotQuicksort_sort_SorteraJIII_82 : decode prog_46_method_13_code 82 = .ok (.iload 6, 2) := by decide +kernel
theorem d_DualPivotQuicksort_sort_SorteraJIII_84 : decode prog_46_method_13_code 84 = .ok (.invokestatic 108, 3) := by decide +kernel
theorem k_DualPivotQuicksort_tryMergeRuns : xCal m_DualPivotQuicksort_tryMergeRuns 4 := ⟨List.mem_append_right _ (List.mem_of_getElem? (i := 2156) (by decide +kernel)), w_38, Nat.le_of_ble_eq_true rfl, ⟨by decide +kernel, by decide +kernel⟩, by decide +kernel, by decide +kernel, rfl⟩
theorem w_2154 : Cond.methodLink "java/util/DualPivotQuicksort" 108 ⟨"java/util/DualPivotQuicksort", "tryMergeRuns", "(Ljava/util/DualPivotQuicksort$Sorter;[JII)Z"⟩ ∈ lw_tbl := List.mem_append_right _ (List.mem_of_getElem? (i := 2154) (by decide +kernel))
theorem w_2155 : Cond.static ⟨"java/util/DualPivotQuicksort", "tryMergeRuns", "(Ljava/util/DualPivotQuicksort$Sorter;[JII)Z"⟩ ∈ lw_tbl := List.mem_append_right _ (List.mem_of_getElem? (i := 2155) (by decide +kernel))
theorem d_DualPivotQuicksort_sort_SorteraJIII_65 : decode prog_46_method_13_code 65 = .ok (.iload 6, 2) := by decide +kernel
theorem d_DualPivotQuicksort_sort_SorteraJIII_67 : decode prog_46_method_13_code 67 = .ok (.sipush 4096, 3) := by decide +kernel
theorem d_DualPivotQuicksort_sort_SorteraJIII_70 : decode prog_46_method_13_code 70 = .ok (.if_icmp .le 21, 3) := by decide +kernel
theorem d_DualPivotQuicksort_sort_SorteraJIII_73 : decode prog_46_method_13_code 73 = .ok (.iload_n 2, 1) := by decide +kernel
theorem d_DualPivotQuicksort_sort_SorteraJIII_74 : decode prog_46_method_13_code 74 = .ok (.iconst 1, 1) := by decide +kernel
theorem d_DualPivotQuicksort_sort_SorteraJIII_75 : decode prog_46_method_13_code 75 = .ok (.iand, 1) := by decide +kernel
theorem d_DualPivotQuicksort_sort_SorteraJIII_76 : decode prog_46_method_13_code 76 = .ok (.ifCond .le 15, 3) := by decide +kernel
theorem d_DualPivotQuicksort_sort_SorteraJIII_53 : decode prog_46_method_13_code 53 = .ok (.aload_n 1, 1) := by decide +kernel
theorem d_DualPivotQuicksort_sort_SorteraJIII_54 : decode prog_46_method_13_code 54 = .ok (.iload_n 3, 1) := by decide +kernel
theorem d_DualPivotQuicksort_sort_SorteraJIII_55 : decode prog_46_method_13_code 55 = .ok (.iload 4, 2) := by decide +kernel
theorem d_DualPivotQuicksort_sort_SorteraJIII_57 : decode prog_46_method_13_code 57 = .ok (.invokestatic 105, 3) := by decide +kernel
theorem k_DualPivotQuicksort_insertionSort : xCal m_DualPivotQuicksort_insertionSort 3 := ⟨List.mem_append_right _ (List.mem_of_getElem? (i := 2153) (by decide +kernel)), w_38, Nat.le_of_ble_eq_true rfl, ⟨by decide +kernel, by decide +kernel⟩, by decide +kernel, by decide +kernel, rfl⟩
theorem w_2151 : Cond.methodLink "java/util/DualPivotQuicksort" 105 ⟨"java/util/DualPivotQuicksort", "insertionSort", "([JII)V"⟩ ∈ lw_tbl := List.mem_append_right _ (List.mem_of_getElem? (i := 2151) (by decide +kernel))
theorem w_2152 : Cond.static ⟨"java/util/DualPivotQuicksort", "insertionSort", "([JII)V"⟩ ∈ lw_tbl := List.mem_append_right _ (List.mem_of_getElem? (i := 2152) (by decide +kernel))
theorem v_DualPivotQuicksort_sort_SorteraJIII_46 {G : XG} {d : Nat} {h : XH} {Q : XV → XH → Prop} {X : Nat → XH → Prop} {x2 x3 x4 x5 x6 : Int} (F : xFix h) (hyp : (((44 : Int) ≤ x6 → ((x2 = 0 → (xwp G m_DualPivotQuicksort_tryMergeRuns (d + 140) 0 [xR (-1), xR 64, xI x3, xI x6, xZ, xZ, xZ, xZ, xZ, xZ, xZ, xZ, xZ] [] h (fun v9 h9 => xwp G m_DualPivotQuicksort_sort_SorteraJIII (d + 141) 87 [xR (-1), xR 64, xI x2, xI x3, xI x4, xI x5, xI x6, xZ, xZ, xZ, xZ, xZ, xZ, xZ, xZ, xZ, xZ, xZ, xZ, xZ, xZ, xZ, xZ, xZ, xZ] (xpush v9 []) h9 Q X) X)) ∧ (¬ x2 = 0 → ((x6 ≤ 4096 → (xwp G m_DualPivotQuicksort_sort_SorteraJIII (d + 141) 91 [xR (-1), xR 64, xI x2, xI x3, xI x4, xI x5, xI x6, xZ, xZ, xZ, xZ, xZ, xZ, xZ, xZ, xZ, xZ, xZ, xZ, xZ, xZ, xZ, xZ, xZ, xZ] [] h Q X)) ∧ (¬ x6 ≤ 4096 → (((xand x2 1) ≤ 0 → (xwp G m_DualPivotQuicksort_sort_SorteraJIII (d + 141) 91 [xR (-1), xR 64, xI x2, xI x3, xI x4, xI x5, xI x6, xZ, xZ, xZ, xZ, xZ, xZ, xZ, xZ, xZ, xZ, xZ, xZ, xZ, xZ, xZ, xZ, xZ, xZ] [] h Q X)) ∧ (¬ (xand x2 1) ≤ 0 → (xwp G m_DualPivotQuicksort_tryMergeRuns (d + 140) 0 [xR (-1), xR 64, xI x3, xI x6, xZ, xZ, xZ, xZ, xZ, xZ, xZ, xZ, xZ] [] h (fun v9 h9 => xwp G m_DualPivotQuicksort_sort_SorteraJIII (d + 141) 87 [xR (-1), xR 64, xI x2, xI x3, xI x4, xI x5, xI x6, xZ, xZ, xZ, xZ, xZ, xZ, xZ, xZ, xZ, xZ, xZ, xZ, xZ, xZ, xZ, xZ, xZ, xZ] (xpush v9 []) h9 Q X) X)))))))) ∧ (¬ (44 : Int) ≤ x6 → (xwp G m_DualPivotQuicksort_insertionSort (d + 140) 0 [xR 64, xI x3, xI x4, xZ, xZ, xZ, xZ] [] h (fun v9 h9 => xwp G m_DualPivotQuicksort_sort_SorteraJIII (d + 141) 60 [xZ, xZ, xZ, xZ, xZ, xZ, xZ, xZ, xZ, xZ, xZ, xZ, xZ, xZ, xZ, xZ, xZ, xZ, xZ, xZ, xZ, xZ, xZ, xZ, xZ] (xpush v9 []) h9 Q X) X)))) : xwp G m_DualPivotQuicksort_sort_SorteraJIII (d + 141) 46 [xR (-1), xR 64, xI x2, xI x3, xI x4, xI x5, xI x6, xZ, xZ, xZ, xZ, xZ, xZ, xZ, xZ, xZ, xZ, xZ, xZ, xZ, xZ, xZ, xZ, xZ, xZ] [] h Q X := by
  have hnx9 : (93 : Int) ≤ xnx h := F.2.2
  refine xr_okL (fun hl9 => ?_)
  have r_x2 : -2147483648 ≤ x2 ∧ x2 ≤ 2147483647 := hl9 (xI x2) (.tail _ (.tail _ (.head _))) (Nat.le_of_ble_eq_true rfl)
  have r_x3 : -2147483648 ≤ x3 ∧ x3 ≤ 2147483647 := hl9 (xI x3) (.tail _ (.tail _ (.tail _ (.head _)))) (Nat.le_of_ble_eq_true rfl)
  have r_x4 : -2147483648 ≤ x4 ∧ x4 ≤ 2147483647 := hl9 (xI x4) (.tail _ (.tail _ (.tail _ (.tail _ (.head _))))) (Nat.le_of_ble_eq_true rfl)
  have r_x5 : -2147483648 ≤ x5 ∧ x5 ≤ 2147483647 := hl9 (xI x5) (.tail _ (.tail _ (.tail _ (.tail _ (.tail _ (.head _)))))) (Nat.le_of_ble_eq_true rfl)
  have r_x6 : -2147483648 ≤ x6 ∧ x6 ≤ 2147483647 := hl9 (xI x6) (.tail _ (.tail _ (.tail _ (.tail _ (.tail _ (.tail _ (.head _))))))) (Nat.le_of_ble_eq_true rfl)
  refine xr_iload (pc := 46) (i := 6) (hI := d_DualPivotQuicksort_sort_SorteraJIII_46) (hl := rfl) ?_
  refine xr_bipush (pc := 48) (hI := d_DualPivotQuicksort_sort_SorteraJIII_48) (hr := by decide) (hv := by decide) ?_
  refine xr_icmp_ge (pc := 50) (tgt := 61) (hI := d_DualPivotQuicksort_sort_SorteraJIII_50) (ht := by decide) (fun q9 => ?_) (fun q9 => ?_)
  · replace hyp := hyp.1 q9
    have q1_ := q9
    clear q9
    refine xr_iload_n (pc := 61) (i := 2) (hI := d_DualPivotQuicksort_sort_SorteraJIII_61) (hi := rfl) (hl := rfl) ?_
    refine xr_if_eq (pc := 62) (tgt := 79) (hI := d_DualPivotQuicksort_sort_SorteraJIII_62) (ht := by decide) (fun q9 => ?_) (fun q9 => ?_)
    · replace hyp := hyp.1 q9
      have q2_ := q9
      clear q9
      refine xr_aload_n (pc := 79) (i := 0) (hI := d_DualPivotQuicksort_sort_SorteraJIII_79) (hi := rfl) (hl := rfl) ?_
      refine xr_aload_n (pc := 80) (i := 1) (hI := d_DualPivotQuicksort_sort_SorteraJIII_80) (hi := rfl) (hl := rfl) ?_
      refine xr_iload_n (pc := 81) (i := 3) (hI := d_DualPivotQuicksort_sort_SorteraJIII_81) (hi := rfl) (hl := rfl) ?_
      refine xr_iload (pc := 82) (i := 6) (hI := d_DualPivotQuicksort_sort_SorteraJIII_82) (hl := rfl) ?_
      exact xq_callS (pc := 84) (index := 108) (K := m_DualPivotQuicksort_tryMergeRuns) (As := [xR (-1), xR 64, xI x3, xI x6]) (S := []) (L0 := [xR (-1), xR 64, xI x3, xI x6, xZ, xZ, xZ, xZ, xZ, xZ, xZ, xZ, xZ]) (hI := d_DualPivotQuicksort_sort_SorteraJIII_84) (hK := k_DualPivotQuicksort_tryMergeRuns) (hlk := w_2154) (hnoM := rfl) (hS8 := Nat.le_of_ble_eq_true rfl) (hstat := w_2155) (hlen := Nat.le_of_ble_eq_true rfl) (hst := rfl) (hL0 := rfl)  hyp
    · replace hyp := hyp.2 q9
      have q2_ := q9
      clear q9
      refine xr_iload (pc := 65) (i := 6) (hI := d_DualPivotQuicksort_sort_SorteraJIII_65) (hl := rfl) ?_
      refine xr_sipush (pc := 67) (hI := d_DualPivotQuicksort_sort_SorteraJIII_67) (hr := by decide) (hv := by decide) ?_
      refine xr_icmp_le (pc := 70) (tgt := 91) (hI := d_DualPivotQuicksort_sort_SorteraJIII_70) (ht := by decide) (fun q9 => ?_) (fun q9 => ?_)
      · replace hyp := hyp.1 q9
        have q3_ := q9
        clear q9
        exact hyp
      · replace hyp := hyp.2 q9
        have q3_ := q9
        clear q9
        refine xr_iload_n (pc := 73) (i := 2) (hI := d_DualPivotQuicksort_sort_SorteraJIII_73) (hi := rfl) (hl := rfl) ?_
        refine xr_iconst (pc := 74) (hI := d_DualPivotQuicksort_sort_SorteraJIII_74) (hr := by decide) ?_
        refine xr_iand (pc := 75) (hI := d_DualPivotQuicksort_sort_SorteraJIII_75) ?_
        have f4_ : -2147483648 ≤ (xand x2 1) ∧ (xand x2 1) ≤ 2147483647 := xi_toR _
        refine xr_if_le (pc := 76) (tgt := 91) (hI := d_DualPivotQuicksort_sort_SorteraJIII_76) (ht := by decide) (fun q9 => ?_) (fun q9 => ?_)
        · replace hyp := hyp.1 q9
          have q5_ := q9
          clear q9
          exact hyp
        · replace hyp := hyp.2 q9
          have q5_ := q9
          clear q9
          refine xr_aload_n (pc := 79) (i := 0) (hI := d_DualPivotQuicksort_sort_SorteraJIII_79) (hi := rfl) (hl := rfl) ?_
          refine xr_aload_n (pc := 80) (i := 1) (hI := d_DualPivotQuicksort_sort_SorteraJIII_80) (hi := rfl) (hl := rfl) ?_
          refine xr_iload_n (pc := 81) (i := 3) (hI := d_DualPivotQuicksort_sort_SorteraJIII_81) (hi := rfl) (hl := rfl) ?_
          refine xr_iload (pc := 82) (i := 6) (hI := d_DualPivotQuicksort_sort_SorteraJIII_82) (hl := rfl) ?_
          exact xq_callS (pc := 84) (index := 108) (K := m_DualPivotQuicksort_tryMergeRuns) (As := [xR (-1), xR 64, xI x3, xI x6]) (S := []) (L0 := [xR (-1), xR 64, xI x3, xI x6, xZ, xZ, xZ, xZ, xZ, xZ, xZ, xZ, xZ]) (hI := d_DualPivotQuicksort_sort_SorteraJIII_84) (hK := k_DualPivotQuicksort_tryMergeRuns) (hlk := w_2154) (hnoM := rfl) (hS8 := Nat.le_of_ble_eq_true rfl) (hstat := w_2155) (hlen := Nat.le_of_ble_eq_true rfl) (hst := rfl) (hL0 := rfl)  hyp
  · replace hyp := hyp.2 q9
    have q1_ := q9
    clear q9
    refine xr_aload_n (pc := 53) (i := 1) (hI := d_DualPivotQuicksort_sort_SorteraJIII_53) (hi := rfl) (hl := rfl) ?_
    refine xr_iload_n (pc := 54) (i := 3) (hI := d_DualPivotQuicksort_sort_SorteraJIII_54) (hi := rfl) (hl := rfl) ?_
    refine xr_iload (pc := 55) (i := 4) (hI := d_DualPivotQuicksort_sort_SorteraJIII_55) (hl := rfl) ?_
    exact xq_callS (pc := 57) (index := 105) (K := m_DualPivotQuicksort_insertionSort) (As := [xR 64, xI x3, xI x4]) (S := []) (L0 := [xR 64, xI x3, xI x4, xZ, xZ, xZ, xZ]) (hI := d_DualPivotQuicksort_sort_SorteraJIII_57) (hK := k_DualPivotQuicksort_insertionSort) (hlk := w_2151) (hnoM := rfl) (hS8 := Nat.le_of_ble_eq_true rfl) (hstat := w_2152) (hlen := Nat.le_of_ble_eq_true rfl) (hst := rfl) (hL0 := rfl)  (xwp_mono hyp (fun v9 h9 q9 => xr_drop (L9 := [xZ, xZ, xZ, xZ, xZ, xZ, xZ, xZ, xZ, xZ, xZ, xZ, xZ, xZ, xZ, xZ, xZ, xZ, xZ, xZ, xZ, xZ, xZ, xZ, xZ]) (xdrz (xdrz (xdrz (xdrz (xdrz (xdrz (xdrz (xdrs (xdrs (xdrs (xdrs (xdrs (xdrs (xdrs (xdrs (xdrs (xdrs (xdrs (xdrs (xdrs (xdrs (xdrs (xdrs (xdrs (xdrs xdr0))))))))))))))))))))))))) q9) (fun _ _ z9 => z9))
theorem d_DualPivotQuicksort_sort_SorteraJIII_60 : decode prog_46_method_13_code 60 = .ok (.return_, 1) := by decide +kernel
theorem v_DualPivotQuicksort_sort_SorteraJIII_60 {G : XG} {d : Nat} {h : XH} {Q : XV → XH → Prop} {X : Nat → XH → Prop} (F : xFix h) (hyp : (Q xN h)) : xwp G m_DualPivotQuicksort_sort_SorteraJIII (d + 141) 60 [xZ, xZ, xZ, xZ, xZ, xZ, xZ, xZ, xZ, xZ, xZ, xZ, xZ, xZ, xZ, xZ, xZ, xZ, xZ, xZ, xZ, xZ, xZ, xZ, xZ] [] h Q X := by
  have hnx9 : (93 : Int) ≤ xnx h := F.2.2
  refine xr_return (S := []) (pc := 60) (hI := d_DualPivotQuicksort_sort_SorteraJIII_60) (hr := rfl) ?_
  exact hyp
theorem d_DualPivotQuicksort_sort_SorteraJIII_87 : decode prog_46_method_13_code 87 = .ok (.ifCond .eq 4, 3) := by decide +kernel
theorem d_DualPivotQuicksort_sort_SorteraJIII_90 : decode prog_46_method_13_code 90 = .ok (.return_, 1) := by decide +kernel
theorem v_DualPivotQuicksort_sort_SorteraJIII_87 {G : XG} {d : Nat} {h : XH} {Q : XV → XH → Prop} {X : Nat → XH → Prop} {x2 x3 x4 x5 x6 s0 : Int} (F : xFix h) (hyp : ((s0 = 0 → (xwp G m_DualPivotQuicksort_sort_SorteraJIII (d + 141) 91 [xR (-1), xR 64, xI x2, xI x3, xI x4, xI x5, xI x6, xZ, xZ, xZ, xZ, xZ, xZ, xZ, xZ, xZ, xZ, xZ, xZ, xZ, xZ, xZ, xZ, xZ, xZ] [] h Q X)) ∧ (¬ s0 = 0 → (Q xN h)))) : xwp G m_DualPivotQuicksort_sort_SorteraJIII (d + 141) 87 [xR (-1), xR 64, xI x2, xI x3, xI x4, xI x5, xI x6, xZ, xZ, xZ, xZ, xZ, xZ, xZ, xZ, xZ, xZ, xZ, xZ, xZ, xZ, xZ, xZ, xZ, xZ] [xI s0] h Q X := by
  have hnx9 : (93 : Int) ≤ xnx h := F.2.2
  refine xr_okL (fun hl9 => ?_)
  have r_x2 : -2147483648 ≤ x2 ∧ x2 ≤ 2147483647 := hl9 (xI x2) (.tail _ (.tail _ (.head _))) (Nat.le_of_ble_eq_true rfl)
  have r_x3 : -2147483648 ≤ x3 ∧ x3 ≤ 2147483647 := hl9 (xI x3) (.tail _ (.tail _ (.tail _ (.head _)))) (Nat.le_of_ble_eq_true rfl)
  have r_x4 : -2147483648 ≤ x4 ∧ x4 ≤ 2147483647 := hl9 (xI x4) (.tail _ (.tail _ (.tail _ (.tail _ (.head _))))) (Nat.le_of_ble_eq_true rfl)
  have r_x5 : -2147483648 ≤ x5 ∧ x5 ≤ 2147483647 := hl9 (xI x5) (.tail _ (.tail _ (.tail _ (.tail _ (.tail _ (.head _)))))) (Nat.le_of_ble_eq_true rfl)
  have r_x6 : -2147483648 ≤ x6 ∧ x6 ≤ 2147483647 := hl9 (xI x6) (.tail _ (.tail _ (.tail _ (.tail _ (.tail _ (.tail _ (.head _))))))) (Nat.le_of_ble_eq_true rfl)
  refine xr_okS (fun hs9 => ?_)
  have r_s0 : -2147483648 ≤ s0 ∧ s0 ≤ 2147483647 := hs9 (xI s0) (.head _)
  refine xr_if_eq (pc := 87) (tgt := 91) (hI := d_DualPivotQuicksort_sort_SorteraJIII_87) (ht := by decide) (fun q9 => ?_) (fun q9 => ?_)
  · replace hyp := hyp.1 q9
    have q1_ := q9
    clear q9
    exact hyp
  · replace hyp := hyp.2 q9
    have q1_ := q9
    clear q9
    refine xr_return (S := []) (pc := 90) (hI := d_DualPivotQuicksort_sort_SorteraJIII_90) (hr := rfl) ?_
    exact hyp

end
