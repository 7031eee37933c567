/-! ===== sortvc2 ===== -/
section
abbrev m_DualPivotQuicksort_sort_SorteraJIII : XM := (⟨"java/util/DualPivotQuicksort", "sort", "(Ljava/util/DualPivotQuicksort$Sorter;[JIII)V"⟩, prog_46_method_13_code, 25, none, [])
theorem d_DualPivotQuicksort_sort_SorteraJIII_0 : decode prog_46_method_13_code 0 = .ok (.iload 4, 2) := by decide +kernel
theorem d_DualPivotQuicksort_sort_SorteraJIII_2 : decode prog_46_method_13_code 2 = .ok (.iconst 1, 1) := by decide +kernel
theorem d_DualPivotQuicksort_sort_SorteraJIII_3 : decode prog_46_method_13_code 3 = .ok (.isub, 1) := by decide +kernel
theorem d_DualPivotQuicksort_sort_SorteraJIII_4 : decode prog_46_method_13_code 4 = .ok (.istore 5, 2) := by decide +kernel
theorem d_DualPivotQuicksort_sort_SorteraJIII_6 : decode prog_46_method_13_code 6 = .ok (.iload 4, 2) := by decide +kernel
theorem d_DualPivotQuicksort_sort_SorteraJIII_8 : decode prog_46_method_13_code 8 = .ok (.iload_n 3, 1) := by decide +kernel
theorem d_DualPivotQuicksort_sort_SorteraJIII_9 : decode prog_46_method_13_code 9 = .ok (.isub, 1) := by decide +kernel
theorem d_DualPivotQuicksort_sort_SorteraJIII_10 : decode prog_46_method_13_code 10 = .ok (.istore 6, 2) := by decide +kernel
theorem d_DualPivotQuicksort_sort_SorteraJIII_12 : decode prog_46_method_13_code 12 = .ok (.iload 6, 2) := by decide +kernel
theorem d_DualPivotQuicksort_sort_SorteraJIII_14 : decode prog_46_method_13_code 14 = .ok (.bipush 65, 2) := by decide +kernel
theorem d_DualPivotQuicksort_sort_SorteraJIII_16 : decode prog_46_method_13_code 16 = .ok (.iload_n 2, 1) := by decide +kernel
theorem d_DualPivotQuicksort_sort_SorteraJIII_17 : decode prog_46_method_13_code 17 = .ok (.iadd, 1) := by decide +kernel
theorem d_DualPivotQuicksort_sort_SorteraJIII_18 : decode prog_46_method_13_code 18 = .ok (.if_icmp .ge 28, 3) := by decide +kernel
theorem d_DualPivotQuicksort_sort_SorteraJIII_21 : decode prog_46_method_13_code 21 = .ok (.iload_n 2, 1) := by decide +kernel
theorem d_DualPivotQuicksort_sort_SorteraJIII_22 : decode prog_46_method_13_code 22 = .ok (.iconst 1, 1) := by decide +kernel
theorem d_DualPivotQuicksort_sort_SorteraJIII_23 : decode prog_46_method_13_code 23 = .ok (.iand, 1) := by decide +kernel
theorem d_DualPivotQuicksort_sort_SorteraJIII_24 : decode prog_46_method_13_code 24 = .ok (.ifCond .le 22, 3) := by decide +kernel
theorem d_DualPivotQuicksort_sort_SorteraJIII_27 : decode prog_46_method_13_code 27 = .ok (.aload_n 1, 1) := by decide +kernel
theorem d_DualPivotQuicksort_sort_SorteraJIII_28 : decode prog_46_method_13_code 28 = .ok (.iload_n 3, 1) := by decide +kernel
theorem d_DualPivotQuicksort_sort_SorteraJIII_29 : decode prog_46_method_13_code 29 = .ok (.iload 4, 2) := by decide +kernel
theorem d_DualPivotQuicksort_sort_SorteraJIII_31 : decode prog_46_method_13_code 31 = .ok (.iconst 3, 1) := by decide +kernel
theorem d_DualPivotQuicksort_sort_SorteraJIII_32 : decode prog_46_method_13_code 32 = .ok (.iload 6, 2) := by decide +kernel
theorem d_DualPivotQuicksort_sort_SorteraJIII_34 : decode prog_46_method_13_code 34 = .ok (.iconst 5, 1) := by decide +kernel
theorem d_DualPivotQuicksort_sort_SorteraJIII_35 : decode prog_46_method_13_code 35 = .ok (.ishr, 1) := by decide +kernel
theorem d_DualPivotQuicksort_sort_SorteraJIII_36 : decode prog_46_method_13_code 36 = .ok (.iconst 3, 1) := by decide +kernel
theorem d_DualPivotQuicksort_sort_SorteraJIII_37 : decode prog_46_method_13_code 37 = .ok (.ishl, 1) := by decide +kernel
theorem d_DualPivotQuicksort_sort_SorteraJIII_38 : decode prog_46_method_13_code 38 = .ok (.imul, 1) := by decide +kernel
theorem d_DualPivotQuicksort_sort_SorteraJIII_39 : decode prog_46_method_13_code 39 = .ok (.isub, 1) := by decide +kernel
theorem d_DualPivotQuicksort_sort_SorteraJIII_40 : decode prog_46_method_13_code 40 = .ok (.iload 4, 2) := by decide +kernel
theorem d_DualPivotQuicksort_sort_SorteraJIII_42 : decode prog_46_method_13_code 42 = .ok (.invokestatic 102, 3) := by decide +kernel
theorem k_DualPivotQuicksort_mixedInsertionSort : xCal m_DualPivotQuicksort_mixedInsertionSort 4 := ⟨List.mem_append_right _ (List.mem_of_getElem? (i := 2150) (by decide +kernel)), w_38, Nat.le_of_ble_eq_true rfl, ⟨by decide +kernel, by decide +kernel⟩, by decide +kernel, by decide +kernel, rfl⟩
theorem w_2148 : Cond.methodLink "java/util/DualPivotQuicksort" 102 ⟨"java/util/DualPivotQuicksort", "mixedInsertionSort", "([JIII)V"⟩ ∈ lw_tbl := List.mem_append_right _ (List.mem_of_getElem? (i := 2148) (by decide +kernel))
theorem w_2149 : Cond.static ⟨"java/util/DualPivotQuicksort", "mixedInsertionSort", "([JIII)V"⟩ ∈ lw_tbl := List.mem_append_right _ (List.mem_of_getElem? (i := 2149) (by decide +kernel))
theorem v_DualPivotQuicksort_sort_SorteraJIII_0 {G : XG} {d : Nat} {h : XH} {Q : XV → XH → Prop} {X : Nat → XH → Prop} {x2 x3 x4 : Int} (F : xFix h) (hyp : xiR (x4 - 1) ∧ xiR (x4 - x3) ∧ xiR (65 + x2) ∧ (((65 + x2) ≤ (x4 - x3) → (xwp G m_DualPivotQuicksort_sort_SorteraJIII (d + 141) 46 [xR (-1), xR 64, xI x2, xI x3, xI x4, xI (x4 - 1), xI (x4 - x3), xZ, xZ, xZ, xZ, xZ, xZ, xZ, xZ, xZ, xZ, xZ, xZ, xZ, xZ, xZ, xZ, xZ, xZ] [] h Q X)) ∧ (¬ (65 + x2) ≤ (x4 - x3) → (((xand x2 1) ≤ 0 → (xwp G m_DualPivotQuicksort_sort_SorteraJIII (d + 141) 46 [xR (-1), xR 64, xI x2, xI x3, xI x4, xI (x4 - 1), xI (x4 - x3), xZ, xZ, xZ, xZ, xZ, xZ, xZ, xZ, xZ, xZ, xZ, xZ, xZ, xZ, xZ, xZ, xZ, xZ] [] h Q X)) ∧ (¬ (xand x2 1) ≤ 0 → xiR (3 * (xshl (xshr (x4 - x3) 5) 3)) ∧ xiR (x4 - (3 * (xshl (xshr (x4 - x3) 5) 3))) ∧ (xwp G m_DualPivotQuicksort_mixedInsertionSort (d + 140) 0 [xR 64, xI x3, xI (x4 - (3 * (xshl (xshr (x4 - x3) 5) 3))), xI x4, xZ, xZ, xZ, xZ, xZ, xZ, xZ] [] h (fun v9 h9 => xwp G m_DualPivotQuicksort_sort_SorteraJIII (d + 141) 45 [xZ, xZ, xZ, xZ, xZ, xZ, xZ, xZ, xZ, xZ, xZ, xZ, xZ, xZ, xZ, xZ, xZ, xZ, xZ, xZ, xZ, xZ, xZ, xZ, xZ] (xpush v9 []) h9 Q X) X)))))) : xwp G m_DualPivotQuicksort_sort_SorteraJIII (d + 141) 0 [xR (-1), xR 64, xI x2, xI x3, xI x4, xZ, xZ, xZ, xZ, xZ, xZ, xZ, xZ, xZ, xZ, xZ, xZ, xZ, xZ, xZ, xZ, xZ, xZ, xZ, xZ] [] h Q X := by
  have hnx9 : (93 : Int) ≤ xnx h := F.2.2
  refine xr_okL (fun hl9 => ?_)
  have r_x2 : -2147483648 ≤ x2 ∧ x2 ≤ 2147483647 := hl9 (xI x2) (.tail _ (.tail _ (.head _))) (Nat.le_of_ble_eq_true rfl)
  have r_x3 : -2147483648 ≤ x3 ∧ x3 ≤ 2147483647 := hl9 (xI x3) (.tail _ (.tail _ (.tail _ (.head _)))) (Nat.le_of_ble_eq_true rfl)
  have r_x4 : -2147483648 ≤ x4 ∧ x4 ≤ 2147483647 := hl9 (xI x4) (.tail _ (.tail _ (.tail _ (.tail _ (.head _))))) (Nat.le_of_ble_eq_true rfl)
  refine xr_iload (pc := 0) (i := 4) (hI := d_DualPivotQuicksort_sort_SorteraJIII_0) (hl := rfl) ?_
  refine xr_iconst (pc := 2) (hI := d_DualPivotQuicksort_sort_SorteraJIII_2) (hr := by decide) ?_
  obtain ⟨c9, hyp⟩ := hyp
  refine xr_isub (pc := 3) (hI := d_DualPivotQuicksort_sort_SorteraJIII_3) (hr := c9) ?_
  refine xr_istore (pc := 4) (i := 5) (L9 := [xR (-1), xR 64, xI x2, xI x3, xI x4, xI (x4 - 1), xZ, xZ, xZ, xZ, xZ, xZ, xZ, xZ, xZ, xZ, xZ, xZ, xZ, xZ, xZ, xZ, xZ, xZ, xZ]) (hI := d_DualPivotQuicksort_sort_SorteraJIII_4) (hn := Nat.le_of_ble_eq_true rfl) (hL9 := rfl) ?_
  refine xr_iload (pc := 6) (i := 4) (hI := d_DualPivotQuicksort_sort_SorteraJIII_6) (hl := rfl) ?_
  refine xr_iload_n (pc := 8) (i := 3) (hI := d_DualPivotQuicksort_sort_SorteraJIII_8) (hi := rfl) (hl := rfl) ?_
  obtain ⟨c9, hyp⟩ := hyp
  refine xr_isub (pc := 9) (hI := d_DualPivotQuicksort_sort_SorteraJIII_9) (hr := c9) ?_
  refine xr_istore (pc := 10) (i := 6) (L9 := [xR (-1), xR 64, xI x2, xI x3, xI x4, xI (x4 - 1), xI (x4 - x3), xZ, xZ, xZ, xZ, xZ, xZ, xZ, xZ, xZ, xZ, xZ, xZ, xZ, xZ, xZ, xZ, xZ, xZ]) (hI := d_DualPivotQuicksort_sort_SorteraJIII_10) (hn := Nat.le_of_ble_eq_true rfl) (hL9 := rfl) ?_
  refine xr_iload (pc := 12) (i := 6) (hI := d_DualPivotQuicksort_sort_SorteraJIII_12) (hl := rfl) ?_
  refine xr_bipush (pc := 14) (hI := d_DualPivotQuicksort_sort_SorteraJIII_14) (hr := by decide) (hv := by decide) ?_
  refine xr_iload_n (pc := 16) (i := 2) (hI := d_DualPivotQuicksort_sort_SorteraJIII_16) (hi := rfl) (hl := rfl) ?_
  obtain ⟨c9, hyp⟩ := hyp
  refine xr_iadd (pc := 17) (hI := d_DualPivotQuicksort_sort_SorteraJIII_17) (hr := c9) ?_
  refine xr_icmp_ge (pc := 18) (tgt := 46) (hI := d_DualPivotQuicksort_sort_SorteraJIII_18) (ht := by decide) (fun q9 => ?_) (fun q9 => ?_)
  · replace hyp := hyp.1 q9
    have q1_ := q9
    clear q9
    exact hyp
  · replace hyp := hyp.2 q9
    have q1_ := q9
    clear q9
    refine xr_iload_n (pc := 21) (i := 2) (hI := d_DualPivotQuicksort_sort_SorteraJIII_21) (hi := rfl) (hl := rfl) ?_
    refine xr_iconst (pc := 22) (hI := d_DualPivotQuicksort_sort_SorteraJIII_22) (hr := by decide) ?_
    refine xr_iand (pc := 23) (hI := d_DualPivotQuicksort_sort_SorteraJIII_23) ?_
    have f2_ : -2147483648 ≤ (xand x2 1) ∧ (xand x2 1) ≤ 2147483647 := xi_toR _
    refine xr_if_le (pc := 24) (tgt := 46) (hI := d_DualPivotQuicksort_sort_SorteraJIII_24) (ht := by decide) (fun q9 => ?_) (fun q9 => ?_)
    · replace hyp := hyp.1 q9
      have q3_ := q9
      clear q9
      exact hyp
    · replace hyp := hyp.2 q9
      have q3_ := q9
      clear q9
      refine xr_aload_n (pc := 27) (i := 1) (hI := d_DualPivotQuicksort_sort_SorteraJIII_27) (hi := rfl) (hl := rfl) ?_
      refine xr_iload_n (pc := 28) (i := 3) (hI := d_DualPivotQuicksort_sort_SorteraJIII_28) (hi := rfl) (hl := rfl) ?_
      refine xr_iload (pc := 29) (i := 4) (hI := d_DualPivotQuicksort_sort_SorteraJIII_29) (hl := rfl) ?_
      refine xr_iconst (pc := 31) (hI := d_DualPivotQuicksort_sort_SorteraJIII_31) (hr := by decide) ?_
      refine xr_iload (pc := 32) (i := 6) (hI := d_DualPivotQuicksort_sort_SorteraJIII_32) (hl := rfl) ?_
      refine xr_iconst (pc := 34) (hI := d_DualPivotQuicksort_sort_SorteraJIII_34) (hr := by decide) ?_
      refine xr_ishr (pc := 35) (hI := d_DualPivotQuicksort_sort_SorteraJIII_35) ?_
      have f4_ : -2147483648 ≤ (xshr (x4 - x3) 5) ∧ (xshr (x4 - x3) 5) ≤ 2147483647 := xi_toR _
      refine xr_iconst (pc := 36) (hI := d_DualPivotQuicksort_sort_SorteraJIII_36) (hr := by decide) ?_
      refine xr_ishl (pc := 37) (hI := d_DualPivotQuicksort_sort_SorteraJIII_37) ?_
      have f5_ : -2147483648 ≤ (xshl (xshr (x4 - x3) 5) 3) ∧ (xshl (xshr (x4 - x3) 5) 3) ≤ 2147483647 := xi_toR _
      obtain ⟨c9, hyp⟩ := hyp
      refine xr_imul (pc := 38) (hI := d_DualPivotQuicksort_sort_SorteraJIII_38) (hr := c9) ?_
      obtain ⟨c9, hyp⟩ := hyp
      refine xr_isub (pc := 39) (hI := d_DualPivotQuicksort_sort_SorteraJIII_39) (hr := c9) ?_
      refine xr_iload (pc := 40) (i := 4) (hI := d_DualPivotQuicksort_sort_SorteraJIII_40) (hl := rfl) ?_
      exact xq_callS (pc := 42) (index := 102) (K := m_DualPivotQuicksort_mixedInsertionSort) (As := [xR 64, xI x3, xI (x4 - (3 * (xshl (xshr (x4 - x3) 5) 3))), xI x4]) (S := []) (L0 := [xR 64, xI x3, xI (x4 - (3 * (xshl (xshr (x4 - x3) 5) 3))), xI x4, xZ, xZ, xZ, xZ, xZ, xZ, xZ]) (hI := d_DualPivotQuicksort_sort_SorteraJIII_42) (hK := k_DualPivotQuicksort_mixedInsertionSort) (hlk := w_2148) (hnoM := rfl) (hS8 := Nat.le_of_ble_eq_true rfl) (hstat := w_2149) (hlen := Nat.le_of_ble_eq_true rfl) (hst := rfl) (hL0 := rfl)  (xwp_mono hyp (fun v9 h9 q9 => xr_drop (L9 := [xZ, xZ, xZ, xZ, xZ, xZ, xZ, xZ, xZ, xZ, xZ, xZ, xZ, xZ, xZ, xZ, xZ, xZ, xZ, xZ, xZ, xZ, xZ, xZ, xZ]) (xdrz (xdrz (xdrz (xdrz (xdrz (xdrz (xdrz (xdrs (xdrs (xdrs (xdrs (xdrs (xdrs (xdrs (xdrs (xdrs (xdrs (xdrs (xdrs (xdrs (xdrs (xdrs (xdrs (xdrs (xdrs xdr0))))))))))))))))))))))))) q9) (fun _ _ z9 => z9))
theorem d_DualPivotQuicksort_sort_SorteraJIII_45 : decode prog_46_method_13_code 45 = .ok (.return_, 1) := by decide +kernel
theorem v_DualPivotQuicksort_sort_SorteraJIII_45 {G : XG} {d : Nat} {h : XH} {Q : XV → XH → Prop} {X : Nat → XH → Prop} (F : xFix h) (hyp : (Q xN h)) : xwp G m_DualPivotQuicksort_sort_SorteraJIII (d + 141) 45 [xZ, xZ, xZ, xZ, xZ, xZ, xZ, xZ, xZ, xZ, xZ, xZ, xZ, xZ, xZ, xZ, xZ, xZ, xZ, xZ, xZ, xZ, xZ, xZ, xZ] [] h Q X := by
  have hnx9 : (93 : Int) ≤ xnx h := F.2.2
  refine xr_return (S := []) (pc := 45) (hI := d_DualPivotQuicksort_sort_SorteraJIII_45) (hr := rfl) ?_
  exact hyp
theorem d_DualPivotQuicksort_sort_SorteraJIII_46 : decode prog_46_method_13_code 46 = .ok (.iload 6, 2) := by decide +kernel
theorem d_DualPivotQuicksort_sort_SorteraJIII_48 : decode prog_46_method_13_code 48 = .ok (.bipush 44, 2) := by decide +kernel
theorem d_DualPivotQuicksort_sort_SorteraJIII_50 : decode prog_46_method_13_code 50 = .ok (.if_icmp .ge 11, 3) := by decide +kernel
theorem d_DualPivotQuicksort_sort_SorteraJIII_61 : decode prog_46_method_13_code 61 = .ok (.iload_n 2, 1) := by decide +kernel
theorem d_DualPivotQuicksort_sort_SorteraJIII_62 : decode prog_46_method_13_code 62 = .ok (.ifCond .eq 17, 3) := by decide +kernel
theorem d_DualPivotQuicksort_sort_SorteraJIII_79 : decode prog_46_method_13_code 79 = .ok (.aload_n 0, 1) := by decide +kernel
theorem d_DualPivotQuicksort_sort_SorteraJIII_80 : decode prog_46_method_13_code 80 = .ok (.aload_n 1, 1) := by decide +kernel
theorem d_DualPivotQuicksort_sort_SorteraJIII_81 : decode prog_46_method_13_code 81 = .ok (.iload_n 3, 1) := by decide +kernel
theorem d_DualPivotQuicksort_sort_SorteraJIII_82 : decode prog_46_method_13_code 82 = .ok (.iload 6, 2) := by decide +kernel
theorem d_DualPivotQuicksort_sort_SorteraJIII_84 : decode prog_46_method_13_code 84 = .ok (.invokestatic 108, 3) := by decide +kernel
theorem k_DualPivotQuicksort_tryMergeRuns : xCal m_DualPivotQuicksort_tryMergeRuns 4 := ⟨List.mem_append_right _ (List.mem_of_getElem? (i := 2156) (by decide +kernel)), w_38, Nat.le_of_ble_eq_true rfl, ⟨by decide +kernel, by decide +kernel⟩, by decide +kernel, by decide +kernel, rfl⟩
theorem w_2154 : Cond.methodLink "java/util/DualPivotQuicksort" 108 ⟨"java/util/DualPivotQuicksort", "tryMergeRuns", "(Ljava/util/DualPivotQuicksort$Sorter;[JII)Z"⟩ ∈ lw_tbl := List.mem_append_right _ (List.mem_of_getElem? (i := 2154) (by decide +kernel))
theorem w_2155 : Cond.static ⟨"java/util/DualPivotQuicksort", "tryMergeRuns", "(Ljava/util/DualPivotQuicksort$Sorter;[JII)Z"⟩ ∈ lw_tbl := List.mem_append_right _ (List.mem_of_getElem? (i := 2155) (by decide +kernel))
theorem d_DualPivotQuicksort_sort_SorteraJIII_65 : decode prog_46_method_13_code 65 = .ok (.iload 6, 2) := by decide +kernel
theorem d_DualPivotQuicksort_sort_SorteraJIII_67 : decode prog_46_method_13_code 67 = .ok (.sipush 4096, 3) := by decide +kernel
theorem d_DualPivotQuicksort_sort_SorteraJIII_70 : decode prog_46_method_13_code 70 = .ok (.if_icmp .le 21, 3) := by decide +kernel
theorem d_DualPivotQuicksort_sort_SorteraJIII_73 : decode prog_46_method_13_code 73 = .ok (.iload_n 2, 1) := by decide +kernel
theorem d_DualPivotQuicksort_sort_SorteraJIII_74 : decode prog_46_method_13_code 74 = .ok (.iconst 1, 1) := by decide +kernel
theorem d_DualPivotQuicksort_sort_SorteraJIII_75 : decode prog_46_method_13_code 75 = .ok (.iand, 1) := by decide +kernel
theorem d_DualPivotQuicksort_sort_SorteraJIII_76 : decode prog_46_method_13_code 76 = .ok (.ifCond .le 15, 3) := by decide +kernel
theorem d_DualPivotQuicksort_sort_SorteraJIII_53 : decode prog_46_method_13_code 53 = .ok (.aload_n 1, 1) := by decide +kernel
theorem d_DualPivotQuicksort_sort_SorteraJIII_54 : decode prog_46_method_13_code 54 = .ok (.iload_n 3, 1) := by decide +kernel
theorem d_DualPivotQuicksort_sort_SorteraJIII_55 : decode prog_46_method_13_code 55 = .ok (.iload 4, 2) := by decide +kernel
theorem d_DualPivotQuicksort_sort_SorteraJIII_57 : decode prog_46_method_13_code 57 = .ok (.invokestatic 105, 3) := by decide +kernel
theorem k_DualPivotQuicksort_insertionSort : xCal m_DualPivotQuicksort_insertionSort 3 := ⟨List.mem_append_right _ (List.mem_of_getElem? (i := 2153) (by decide +kernel)), w_38, Nat.le_of_ble_eq_true rfl, ⟨by decide +kernel, by decide +kernel⟩, by decide +kernel, by decide +kernel, rfl⟩
theorem w_2151 : Cond.methodLink "java/util/DualPivotQuicksort" 105 ⟨"java/util/DualPivotQuicksort", "insertionSort", "([JII)V"⟩ ∈ lw_tbl := List.mem_append_right _ (List.mem_of_getElem? (i := 2151) (by decide +kernel))
theorem w_2152 : Cond.static ⟨"java/util/DualPivotQuicksort", "insertionSort", "([JII)V"⟩ ∈ lw_tbl := List.mem_append_right _ (List.mem_of_getElem? (i := 2152) (by decide +kernel))
theorem v_DualPivotQuicksort_sort_SorteraJIII_46 {G : XG} {d : Nat} {h : XH} {Q : XV → XH → Prop} {X : Nat → XH → Prop} {x2 x3 x4 x5 x6 : Int} (F : xFix h) (hyp : (((44 : Int) ≤ x6 → ((x2 = 0 → (xwp G m_DualPivotQuicksort_tryMergeRuns (d + 140) 0 [xR (-1), xR 64, xI x3, xI x6, xZ, xZ, xZ, xZ, xZ, xZ, xZ, xZ, xZ] [] h (fun v9 h9 => xwp G m_DualPivotQuicksort_sort_SorteraJIII (d + 141) 87 [xR (-1), xR 64, xI x2, xI x3, xI x4, xI x5, xI x6, xZ, xZ, xZ, xZ, xZ, xZ, xZ, xZ, xZ, xZ, xZ, xZ, xZ, xZ, xZ, xZ, xZ, xZ] (xpush v9 []) h9 Q X) X)) ∧ (¬ x2 = 0 → ((x6 ≤ 4096 → (xwp G m_DualPivotQuicksort_sort_SorteraJIII (d + 141) 91 [xR (-1), xR 64, xI x2, xI x3, xI x4, xI x5, xI x6, xZ, xZ, xZ, xZ, xZ, xZ, xZ, xZ, xZ, xZ, xZ, xZ, xZ, xZ, xZ, xZ, xZ, xZ] [] h Q X)) ∧ (¬ x6 ≤ 4096 → (((xand x2 1) ≤ 0 → (xwp G m_DualPivotQuicksort_sort_SorteraJIII (d + 141) 91 [xR (-1), xR 64, xI x2, xI x3, xI x4, xI x5, xI x6, xZ, xZ, xZ, xZ, xZ, xZ, xZ, xZ, xZ, xZ, xZ, xZ, xZ, xZ, xZ, xZ, xZ, xZ] [] h Q X)) ∧ (¬ (xand x2 1) ≤ 0 → (xwp G m_DualPivotQuicksort_tryMergeRuns (d + 140) 0 [xR (-1), xR 64, xI x3, xI x6, xZ, xZ, xZ, xZ, xZ, xZ, xZ, xZ, xZ] [] h (fun v9 h9 => xwp G m_DualPivotQuicksort_sort_SorteraJIII (d + 141) 87 [xR (-1), xR 64, xI x2, xI x3, xI x4, xI x5, xI x6, xZ, xZ, xZ, xZ, xZ, xZ, xZ, xZ, xZ, xZ, xZ, xZ, xZ, xZ, xZ, xZ, xZ, xZ] (xpush v9 []) h9 Q X) X)))))))) ∧ (¬ (44 : Int) ≤ x6 → (xwp G m_DualPivotQuicksort_insertionSort (d + 140) 0 [xR 64, xI x3, xI x4, xZ, xZ, xZ, xZ] [] h (fun v9 h9 => xwp G m_DualPivotQuicksort_sort_SorteraJIII (d + 141) 60 [xZ, xZ, xZ, xZ, xZ, xZ, xZ, xZ, xZ, xZ, xZ, xZ, xZ, xZ, xZ, xZ, xZ, xZ, xZ, xZ, xZ, xZ, xZ, xZ, xZ] (xpush v9 []) h9 Q X) X)))) : xwp G m_DualPivotQuicksort_sort_SorteraJIII (d + 141) 46 [xR (-1), xR 64, xI x2, xI x3, xI x4, xI x5, xI x6, xZ, xZ, xZ, xZ, xZ, xZ, xZ, xZ, xZ, xZ, xZ, xZ, xZ, xZ, xZ, xZ, xZ, xZ] [] h Q X := by
  have hnx9 : (93 : Int) ≤ xnx h := F.2.2
  refine xr_okL (fun hl9 => ?_)
  have r_x2 : -2147483648 ≤ x2 ∧ x2 ≤ 2147483647 := hl9 (xI x2) (.tail _ (.tail _ (.head _))) (Nat.le_of_ble_eq_true rfl)
  have r_x3 : -2147483648 ≤ x3 ∧ x3 ≤ 2147483647 := hl9 (xI x3) (.tail _ (.tail _ (.tail _ (.head _)))) (Nat.le_of_ble_eq_true rfl)
  have r_x4 : -2147483648 ≤ x4 ∧ x4 ≤ 2147483647 := hl9 (xI x4) (.tail _ (.tail _ (.tail _ (.tail _ (.head _))))) (Nat.le_of_ble_eq_true rfl)
  have r_x5 : -2147483648 ≤ x5 ∧ x5 ≤ 2147483647 := hl9 (xI x5) (.tail _ (.tail _ (.tail _ (.tail _ (.tail _ (.head _)))))) (Nat.le_of_ble_eq_true rfl)
  have r_x6 : -2147483648 ≤ x6 ∧ x6 ≤ 2147483647 := hl9 (xI x6) (.tail _ (.tail _ (.tail _ (.tail _ (.tail _ (.tail _ (.head _))))))) (Nat.le_of_ble_eq_true rfl)
  refine xr_iload (pc := 46) (i := 6) (hI := d_DualPivotQuicksort_sort_SorteraJIII_46) (hl := rfl) ?_
  refine xr_bipush (pc := 48) (hI := d_DualPivotQuicksort_sort_SorteraJIII_48) (hr := by decide) (hv := by decide) ?_
  refine xr_icmp_ge (pc := 50) (tgt := 61) (hI := d_DualPivotQuicksort_sort_SorteraJIII_50) (ht := by decide) (fun q9 => ?_) (fun q9 => ?_)
  · replace hyp := hyp.1 q9
    have q1_ := q9
    clear q9
    refine xr_iload_n (pc := 61) (i := 2) (hI := d_DualPivotQuicksort_sort_SorteraJIII_61) (hi := rfl) (hl := rfl) ?_
    refine xr_if_eq (pc := 62) (tgt := 79) (hI := d_DualPivotQuicksort_sort_SorteraJIII_62) (ht := by decide) (fun q9 => ?_) (fun q9 => ?_)
    · replace hyp := hyp.1 q9
      have q2_ := q9
      clear q9
      refine xr_aload_n (pc := 79) (i := 0) (hI := d_DualPivotQuicksort_sort_SorteraJIII_79) (hi := rfl) (hl := rfl) ?_
      refine xr_aload_n (pc := 80) (i := 1) (hI := d_DualPivotQuicksort_sort_SorteraJIII_80) (hi := rfl) (hl := rfl) ?_
      refine xr_iload_n (pc := 81) (i := 3) (hI := d_DualPivotQuicksort_sort_SorteraJIII_81) (hi := rfl) (hl := rfl) ?_
      refine xr_iload (pc := 82) (i := 6) (hI := d_DualPivotQuicksort_sort_SorteraJIII_82) (hl := rfl) ?_
      exact xq_callS (pc := 84) (index := 108) (K := m_DualPivotQuicksort_tryMergeRuns) (As := [xR (-1), xR 64, xI x3, xI x6]) (S := []) (L0 := [xR (-1), xR 64, xI x3, xI x6, xZ, xZ, xZ, xZ, xZ, xZ, xZ, xZ, xZ]) (hI := d_DualPivotQuicksort_sort_SorteraJIII_84) (hK := k_DualPivotQuicksort_tryMergeRuns) (hlk := w_2154) (hnoM := rfl) (hS8 := Nat.le_of_ble_eq_true rfl) (hstat := w_2155) (hlen := Nat.le_of_ble_eq_true rfl) (hst := rfl) (hL0 := rfl)  hyp
    · replace hyp := hyp.2 q9
      have q2_ := q9
      clear q9
      refine xr_iload (pc := 65) (i := 6) (hI := d_DualPivotQuicksort_sort_SorteraJIII_65) (hl := rfl) ?_
      refine xr_sipush (pc := 67) (hI := d_DualPivotQuicksort_sort_SorteraJIII_67) (hr := by decide) (hv := by decide) ?_
      refine xr_icmp_le (pc := 70) (tgt := 91) (hI := d_DualPivotQuicksort_sort_SorteraJIII_70) (ht := by decide) (fun q9 => ?_) (fun q9 => ?_)
      · replace hyp := hyp.1 q9
        have q3_ := q9
        clear q9
        exact hyp
      · replace hyp := hyp.2 q9
        have q3_ := q9
        clear q9
        refine xr_iload_n (pc := 73) (i := 2) (hI := d_DualPivotQuicksort_sort_SorteraJIII_73) (hi := rfl) (hl := rfl) ?_
        refine xr_iconst (pc := 74) (hI := d_DualPivotQuicksort_sort_SorteraJIII_74) (hr := by decide) ?_
        refine xr_iand (pc := 75) (hI := d_DualPivotQuicksort_sort_SorteraJIII_75) ?_
        have f4_ : -2147483648 ≤ (xand x2 1) ∧ (xand x2 1) ≤ 2147483647 := xi_toR _
        refine xr_if_le (pc := 76) (tgt := 91) (hI := d_DualPivotQuicksort_sort_SorteraJIII_76) (ht := by decide) (fun q9 => ?_) (fun q9 => ?_)
        · replace hyp := hyp.1 q9
          have q5_ := q9
          clear q9
          exact hyp
        · replace hyp := hyp.2 q9
          have q5_ := q9
          clear q9
          refine xr_aload_n (pc := 79) (i := 0) (hI := d_DualPivotQuicksort_sort_SorteraJIII_79) (hi := rfl) (hl := rfl) ?_
          refine xr_aload_n (pc := 80) (i := 1) (hI := d_DualPivotQuicksort_sort_SorteraJIII_80) (hi := rfl) (hl := rfl) ?_
          refine xr_iload_n (pc := 81) (i := 3) (hI := d_DualPivotQuicksort_sort_SorteraJIII_81) (hi := rfl) (hl := rfl) ?_
          refine xr_iload (pc := 82) (i := 6) (hI := d_DualPivotQuicksort_sort_SorteraJIII_82) (hl := rfl) ?_
          exact xq_callS (pc := 84) (index := 108) (K := m_DualPivotQuicksort_tryMergeRuns) (As := [xR (-1), xR 64, xI x3, xI x6]) (S := []) (L0 := [xR (-1), xR 64, xI x3, xI x6, xZ, xZ, xZ, xZ, xZ, xZ, xZ, xZ, xZ]) (hI := d_DualPivotQuicksort_sort_SorteraJIII_84) (hK := k_DualPivotQuicksort_tryMergeRuns) (hlk := w_2154) (hnoM := rfl) (hS8 := Nat.le_of_ble_eq_true rfl) (hstat := w_2155) (hlen := Nat.le_of_ble_eq_true rfl) (hst := rfl) (hL0 := rfl)  hyp
  · replace hyp := hyp.2 q9
    have q1_ := q9
    clear q9
    refine xr_aload_n (pc := 53) (i := 1) (hI := d_DualPivotQuicksort_sort_SorteraJIII_53) (hi := rfl) (hl := rfl) ?_
    refine xr_iload_n (pc := 54) (i := 3) (hI := d_DualPivotQuicksort_sort_SorteraJIII_54) (hi := rfl) (hl := rfl) ?_
    refine xr_iload (pc := 55) (i := 4) (hI := d_DualPivotQuicksort_sort_SorteraJIII_55) (hl := rfl) ?_
    exact xq_callS (pc := 57) (index := 105) (K := m_DualPivotQuicksort_insertionSort) (As := [xR 64, xI x3, xI x4]) (S := []) (L0 := [xR 64, xI x3, xI x4, xZ, xZ, xZ, xZ]) (hI := d_DualPivotQuicksort_sort_SorteraJIII_57) (hK := k_DualPivotQuicksort_insertionSort) (hlk := w_2151) (hnoM := rfl) (hS8 := Nat.le_of_ble_eq_true rfl) (hstat := w_2152) (hlen := Nat.le_of_ble_eq_true rfl) (hst := rfl) (hL0 := rfl)  (xwp_mono hyp (fun v9 h9 q9 => xr_drop (L9 := [xZ, xZ, xZ, xZ, xZ, xZ, xZ, xZ, xZ, xZ, xZ, xZ, xZ, xZ, xZ, xZ, xZ, xZ, xZ, xZ, xZ, xZ, xZ, xZ, xZ]) (xdrz (xdrz (xdrz (xdrz (xdrz (xdrz (xdrz (xdrs (xdrs (xdrs (xdrs (xdrs (xdrs (xdrs (xdrs (xdrs (xdrs (xdrs (xdrs (xdrs (xdrs (xdrs (xdrs (xdrs (xdrs xdr0))))))))))))))))))))))))) q9) (fun _ _ z9 => z9))
theorem d_DualPivotQuicksort_sort_SorteraJIII_60 : decode prog_46_method_13_code 60 = .ok (.return_, 1) := by decide +kernel
theorem v_DualPivotQuicksort_sort_SorteraJIII_60 {G : XG} {d : Nat} {h : XH} {Q : XV → XH → Prop} {X : Nat → XH → Prop} (F : xFix h) (hyp : (Q xN h)) : xwp G m_DualPivotQuicksort_sort_SorteraJIII (d + 141) 60 [xZ, xZ, xZ, xZ, xZ, xZ, xZ, xZ, xZ, xZ, xZ, xZ, xZ, xZ, xZ, xZ, xZ, xZ, xZ, xZ, xZ, xZ, xZ, xZ, xZ] [] h Q X := by
  have hnx9 : (93 : Int) ≤ xnx h := F.2.2
  refine xr_return (S := []) (pc := 60) (hI := d_DualPivotQuicksort_sort_SorteraJIII_60) (hr := rfl) ?_
  exact hyp
theorem d_DualPivotQuicksort_sort_SorteraJIII_87 : decode prog_46_method_13_code 87 = .ok (.ifCond .eq 4, 3) := by decide +kernel
theorem d_DualPivotQuicksort_sort_SorteraJIII_90 : decode prog_46_method_13_code 90 = .ok (.return_, 1) := by decide +kernel
theorem v_DualPivotQuicksort_sort_SorteraJIII_87 {G : XG} {d : Nat} {h : XH} {Q : XV → XH → Prop} {X : Nat → XH → Prop} {x2 x3 x4 x5 x6 s0 : Int} (F : xFix h) (hyp : ((s0 = 0 → (xwp G m_DualPivotQuicksort_sort_SorteraJIII (d + 141) 91 [xR (-1), xR 64, xI x2, xI x3, xI x4, xI x5, xI x6, xZ, xZ, xZ, xZ, xZ, xZ, xZ, xZ, xZ, xZ, xZ, xZ, xZ, xZ, xZ, xZ, xZ, xZ] [] h Q X)) ∧ (¬ s0 = 0 → (Q xN h)))) : xwp G m_DualPivotQuicksort_sort_SorteraJIII (d + 141) 87 [xR (-1), xR 64, xI x2, xI x3, xI x4, xI x5, xI x6, xZ, xZ, xZ, xZ, xZ, xZ, xZ, xZ, xZ, xZ, xZ, xZ, xZ, xZ, xZ, xZ, xZ, xZ] [xI s0] h Q X := by
  have hnx9 : (93 : Int) ≤ xnx h := F.2.2
  refine xr_okL (fun hl9 => ?_)
  have r_x2 : -2147483648 ≤ x2 ∧ x2 ≤ 2147483647 := hl9 (xI x2) (.tail _ (.tail _ (.head _))) (Nat.le_of_ble_eq_true rfl)
  have r_x3 : -2147483648 ≤ x3 ∧ x3 ≤ 2147483647 := hl9 (xI x3) (.tail _ (.tail _ (.tail _ (.head _)))) (Nat.le_of_ble_eq_true rfl)
  have r_x4 : -2147483648 ≤ x4 ∧ x4 ≤ 2147483647 := hl9 (xI x4) (.tail _ (.tail _ (.tail _ (.tail _ (.head _))))) (Nat.le_of_ble_eq_true rfl)
  have r_x5 : -2147483648 ≤ x5 ∧ x5 ≤ 2147483647 := hl9 (xI x5) (.tail _ (.tail _ (.tail _ (.tail _ (.tail _ (.head _)))))) (Nat.le_of_ble_eq_true rfl)
  have r_x6 : -2147483648 ≤ x6 ∧ x6 ≤ 2147483647 := hl9 (xI x6) (.tail _ (.tail _ (.tail _ (.tail _ (.tail _ (.tail _ (.head _))))))) (Nat.le_of_ble_eq_true rfl)
  refine xr_okS (fun hs9 => ?_)
  have r_s0 : -2147483648 ≤ s0 ∧ s0 ≤ 2147483647 := hs9 (xI s0) (.head _)
  refine xr_if_eq (pc := 87) (tgt := 91) (hI := d_DualPivotQuicksort_sort_SorteraJIII_87) (ht := by decide) (fun q9 => ?_) (fun q9 => ?_)
  · replace hyp := hyp.1 q9
    have q1_ := q9
    clear q9
    exact hyp
  · replace hyp := hyp.2 q9
    have q1_ := q9
    clear q9
    refine xr_return (S := []) (pc := 90) (hI := d_DualPivotQuicksort_sort_SorteraJIII_90) (hr := rfl) ?_
    exact hyp
theorem d_DualPivotQuicksort_sort_SorteraJIII_91 : decode prog_46_method_13_code 91 = .ok (.iinc 2 6, 3) := by decide +kernel
theorem d_DualPivotQuicksort_sort_SorteraJIII_94 : decode prog_46_method_13_code 94 = .ok (.iload_n 2, 1) := by decide +kernel
theorem d_DualPivotQuicksort_sort_SorteraJIII_95 : decode prog_46_method_13_code 95 = .ok (.sipush 384, 3) := by decide +kernel
theorem d_DualPivotQuicksort_sort_SorteraJIII_98 : decode prog_46_method_13_code 98 = .ok (.if_icmp .le 11, 3) := by decide +kernel
theorem d_DualPivotQuicksort_sort_SorteraJIII_109 : decode prog_46_method_13_code 109 = .ok (.iload 6, 2) := by decide +kernel
theorem d_DualPivotQuicksort_sort_SorteraJIII_111 : decode prog_46_method_13_code 111 = .ok (.iconst 3, 1) := by decide +kernel
theorem d_DualPivotQuicksort_sort_SorteraJIII_112 : decode prog_46_method_13_code 112 = .ok (.ishr, 1) := by decide +kernel
theorem d_DualPivotQuicksort_sort_SorteraJIII_113 : decode prog_46_method_13_code 113 = .ok (.iconst 3, 1) := by decide +kernel
theorem d_DualPivotQuicksort_sort_SorteraJIII_114 : decode prog_46_method_13_code 114 = .ok (.imul, 1) := by decide +kernel
theorem d_DualPivotQuicksort_sort_SorteraJIII_115 : decode prog_46_method_13_code 115 = .ok (.iconst 3, 1) := by decide +kernel
theorem d_DualPivotQuicksort_sort_SorteraJIII_116 : decode prog_46_method_13_code 116 = .ok (.iadd, 1) := by decide +kernel
theorem d_DualPivotQuicksort_sort_SorteraJIII_117 : decode prog_46_method_13_code 117 = .ok (.istore 7, 2) := by decide +kernel
theorem d_DualPivotQuicksort_sort_SorteraJIII_119 : decode prog_46_method_13_code 119 = .ok (.iload_n 3, 1) := by decide +kernel
theorem d_DualPivotQuicksort_sort_SorteraJIII_120 : decode prog_46_method_13_code 120 = .ok (.iload 7, 2) := by decide +kernel
theorem d_DualPivotQuicksort_sort_SorteraJIII_122 : decode prog_46_method_13_code 122 = .ok (.iadd, 1) := by decide +kernel
theorem d_DualPivotQuicksort_sort_SorteraJIII_123 : decode prog_46_method_13_code 123 = .ok (.istore 8, 2) := by decide +kernel
theorem d_DualPivotQuicksort_sort_SorteraJIII_125 : decode prog_46_method_13_code 125 = .ok (.iload 5, 2) := by decide +kernel
theorem d_DualPivotQuicksort_sort_SorteraJIII_127 : decode prog_46_method_13_code 127 = .ok (.iload 7, 2) := by decide +kernel
theorem d_DualPivotQuicksort_sort_SorteraJIII_129 : decode prog_46_method_13_code 129 = .ok (.isub, 1) := by decide +kernel
theorem d_DualPivotQuicksort_sort_SorteraJIII_130 : decode prog_46_method_13_code 130 = .ok (.istore 9, 2) := by decide +kernel
theorem d_DualPivotQuicksort_sort_SorteraJIII_132 : decode prog_46_method_13_code 132 = .ok (.iload 8, 2) := by decide +kernel
theorem d_DualPivotQuicksort_sort_SorteraJIII_134 : decode prog_46_method_13_code 134 = .ok (.iload 9, 2) := by decide +kernel
theorem d_DualPivotQuicksort_sort_SorteraJIII_136 : decode prog_46_method_13_code 136 = .ok (.iadd, 1) := by decide +kernel
theorem d_DualPivotQuicksort_sort_SorteraJIII_137 : decode prog_46_method_13_code 137 = .ok (.iconst 1, 1) := by decide +kernel
theorem d_DualPivotQuicksort_sort_SorteraJIII_138 : decode prog_46_method_13_code 138 = .ok (.iushr, 1) := by decide +kernel
theorem d_DualPivotQuicksort_sort_SorteraJIII_139 : decode prog_46_method_13_code 139 = .ok (.istore 10, 2) := by decide +kernel
theorem d_DualPivotQuicksort_sort_SorteraJIII_141 : decode prog_46_method_13_code 141 = .ok (.iload 8, 2) := by decide +kernel
theorem d_DualPivotQuicksort_sort_SorteraJIII_143 : decode prog_46_method_13_code 143 = .ok (.iload 10, 2) := by decide +kernel
theorem d_DualPivotQuicksort_sort_SorteraJIII_145 : decode prog_46_method_13_code 145 = .ok (.iadd, 1) := by decide +kernel
theorem d_DualPivotQuicksort_sort_SorteraJIII_146 : decode prog_46_method_13_code 146 = .ok (.iconst 1, 1) := by decide +kernel
theorem d_DualPivotQuicksort_sort_SorteraJIII_147 : decode prog_46_method_13_code 147 = .ok (.iushr, 1) := by decide +kernel
theorem d_DualPivotQuicksort_sort_SorteraJIII_148 : decode prog_46_method_13_code 148 = .ok (.istore 11, 2) := by decide +kernel
theorem d_DualPivotQuicksort_sort_SorteraJIII_150 : decode prog_46_method_13_code 150 = .ok (.iload 10, 2) := by decide +kernel
theorem d_DualPivotQuicksort_sort_SorteraJIII_152 : decode prog_46_method_13_code 152 = .ok (.iload 9, 2) := by decide +kernel
theorem d_DualPivotQuicksort_sort_SorteraJIII_154 : decode prog_46_method_13_code 154 = .ok (.iadd, 1) := by decide +kernel
theorem d_DualPivotQuicksort_sort_SorteraJIII_155 : decode prog_46_method_13_code 155 = .ok (.iconst 1, 1) := by decide +kernel
theorem d_DualPivotQuicksort_sort_SorteraJIII_156 : decode prog_46_method_13_code 156 = .ok (.iushr, 1) := by decide +kernel
theorem d_DualPivotQuicksort_sort_SorteraJIII_157 : decode prog_46_method_13_code 157 = .ok (.istore 12, 2) := by decide +kernel
theorem d_DualPivotQuicksort_sort_SorteraJIII_159 : decode prog_46_method_13_code 159 = .ok (.aload_n 1, 1) := by decide +kernel
theorem d_DualPivotQuicksort_sort_SorteraJIII_160 : decode prog_46_method_13_code 160 = .ok (.iload 10, 2) := by decide +kernel
theorem d_DualPivotQuicksort_sort_SorteraJIII_162 : decode prog_46_method_13_code 162 = .ok (.laload, 1) := by decide +kernel
theorem d_DualPivotQuicksort_sort_SorteraJIII_163 : decode prog_46_method_13_code 163 = .ok (.lstore 13, 2) := by decide +kernel
theorem d_DualPivotQuicksort_sort_SorteraJIII_165 : decode prog_46_method_13_code 165 = .ok (.aload_n 1, 1) := by decide +kernel
theorem d_DualPivotQuicksort_sort_SorteraJIII_166 : decode prog_46_method_13_code 166 = .ok (.iload 9, 2) := by decide +kernel
theorem d_DualPivotQuicksort_sort_SorteraJIII_168 : decode prog_46_method_13_code 168 = .ok (.laload, 1) := by decide +kernel
theorem d_DualPivotQuicksort_sort_SorteraJIII_169 : decode prog_46_method_13_code 169 = .ok (.aload_n 1, 1) := by decide +kernel
theorem d_DualPivotQuicksort_sort_SorteraJIII_170 : decode prog_46_method_13_code 170 = .ok (.iload 11, 2) := by decide +kernel
theorem d_DualPivotQuicksort_sort_SorteraJIII_172 : decode prog_46_method_13_code 172 = .ok (.laload, 1) := by decide +kernel
theorem d_DualPivotQuicksort_sort_SorteraJIII_173 : decode prog_46_method_13_code 173 = .ok (.lcmp, 1) := by decide +kernel
theorem d_DualPivotQuicksort_sort_SorteraJIII_174 : decode prog_46_method_13_code 174 = .ok (.ifCond .ge 23, 3) := by decide +kernel
theorem d_DualPivotQuicksort_sort_SorteraJIII_177 : decode prog_46_method_13_code 177 = .ok (.aload_n 1, 1) := by decide +kernel
theorem d_DualPivotQuicksort_sort_SorteraJIII_178 : decode prog_46_method_13_code 178 = .ok (.iload 9, 2) := by decide +kernel
theorem d_DualPivotQuicksort_sort_SorteraJIII_180 : decode prog_46_method_13_code 180 = .ok (.laload, 1) := by decide +kernel
theorem d_DualPivotQuicksort_sort_SorteraJIII_181 : decode prog_46_method_13_code 181 = .ok (.lstore 15, 2) := by decide +kernel
theorem d_DualPivotQuicksort_sort_SorteraJIII_183 : decode prog_46_method_13_code 183 = .ok (.aload_n 1, 1) := by decide +kernel
theorem d_DualPivotQuicksort_sort_SorteraJIII_184 : decode prog_46_method_13_code 184 = .ok (.iload 9, 2) := by decide +kernel
theorem d_DualPivotQuicksort_sort_SorteraJIII_186 : decode prog_46_method_13_code 186 = .ok (.aload_n 1, 1) := by decide +kernel
theorem d_DualPivotQuicksort_sort_SorteraJIII_187 : decode prog_46_method_13_code 187 = .ok (.iload 11, 2) := by decide +kernel
theorem d_DualPivotQuicksort_sort_SorteraJIII_189 : decode prog_46_method_13_code 189 = .ok (.laload, 1) := by decide +kernel
theorem d_DualPivotQuicksort_sort_SorteraJIII_190 : decode prog_46_method_13_code 190 = .ok (.lastore, 1) := by decide +kernel
theorem d_DualPivotQuicksort_sort_SorteraJIII_191 : decode prog_46_method_13_code 191 = .ok (.aload_n 1, 1) := by decide +kernel
theorem d_DualPivotQuicksort_sort_SorteraJIII_192 : decode prog_46_method_13_code 192 = .ok (.iload 11, 2) := by decide +kernel
theorem d_DualPivotQuicksort_sort_SorteraJIII_194 : decode prog_46_method_13_code 194 = .ok (.lload 15, 2) := by decide +kernel
theorem d_DualPivotQuicksort_sort_SorteraJIII_196 : decode prog_46_method_13_code 196 = .ok (.lastore, 1) := by decide +kernel
theorem d_DualPivotQuicksort_sort_SorteraJIII_101 : decode prog_46_method_13_code 101 = .ok (.aload_n 1, 1) := by decide +kernel
theorem d_DualPivotQuicksort_sort_SorteraJIII_102 : decode prog_46_method_13_code 102 = .ok (.iload_n 3, 1) := by decide +kernel
theorem d_DualPivotQuicksort_sort_SorteraJIII_103 : decode prog_46_method_13_code 103 = .ok (.iload 4, 2) := by decide +kernel
theorem d_DualPivotQuicksort_sort_SorteraJIII_105 : decode prog_46_method_13_code 105 = .ok (.invokestatic 111, 3) := by decide +kernel
theorem k_DualPivotQuicksort_heapSort : xCal m_DualPivotQuicksort_heapSort 3 := ⟨List.mem_append_right _ (List.mem_of_getElem? (i := 2167) (by decide +kernel)), w_38, Nat.le_of_ble_eq_true rfl, ⟨by decide +kernel, by decide +kernel⟩, by decide +kernel, by decide +kernel, rfl⟩
theorem w_2165 : Cond.methodLink "java/util/DualPivotQuicksort" 111 ⟨"java/util/DualPivotQuicksort", "heapSort", "([JII)V"⟩ ∈ lw_tbl := List.mem_append_right _ (List.mem_of_getElem? (i := 2165) (by decide +kernel))
theorem w_2166 : Cond.static ⟨"java/util/DualPivotQuicksort", "heapSort", "([JII)V"⟩ ∈ lw_tbl := List.mem_append_right _ (List.mem_of_getElem? (i := 2166) (by decide +kernel))
theorem v_DualPivotQuicksort_sort_SorteraJIII_91 {G : XG} {d : Nat} {h : XH} {Q : XV → XH → Prop} {X : Nat → XH → Prop} {x2 x3 x4 x5 x6 : Int} (F : xFix h) (hyp : xiR (x2 + 6) ∧ (((x2 + 6) ≤ 384 → xiR ((xshr x6 3) * 3) ∧ xiR (((xshr x6 3) * 3) + 3) ∧ xiR (x3 + (((xshr x6 3) * 3) + 3)) ∧ xiR (x5 - (((xshr x6 3) * 3) + 3)) ∧ xiR ((x3 + (((xshr x6 3) * 3) + 3)) + (x5 - (((xshr x6 3) * 3) + 3))) ∧ xiR ((x3 + (((xshr x6 3) * 3) + 3)) + (xushr ((x3 + (((xshr x6 3) * 3) + 3)) + (x5 - (((xshr x6 3) * 3) + 3))) 1)) ∧ xiR ((xushr ((x3 + (((xshr x6 3) * 3) + 3)) + (x5 - (((xshr x6 3) * 3) + 3))) 1) + (x5 - (((xshr x6 3) * 3) + 3))) ∧ 0 ≤ (xushr ((x3 + (((xshr x6 3) * 3) + 3)) + (x5 - (((xshr x6 3) * 3) + 3))) 1) ∧ (xushr ((x3 + (((xshr x6 3) * 3) + 3)) + (x5 - (((xshr x6 3) * 3) + 3))) 1) < 12000 ∧ 0 ≤ (x5 - (((xshr x6 3) * 3) + 3)) ∧ (x5 - (((xshr x6 3) * 3) + 3)) < 12000 ∧ 0 ≤ (xushr ((x3 + (((xshr x6 3) * 3) + 3)) + (xushr ((x3 + (((xshr x6 3) * 3) + 3)) + (x5 - (((xshr x6 3) * 3) + 3))) 1)) 1) ∧ (xushr ((x3 + (((xshr x6 3) * 3) + 3)) + (xushr ((x3 + (((xshr x6 3) * 3) + 3)) + (x5 - (((xshr x6 3) * 3) + 3))) 1)) 1) < 12000 ∧ (((xpl h 64 (xushr ((x3 + (((xshr x6 3) * 3) + 3)) + (xushr ((x3 + (((xshr x6 3) * 3) + 3)) + (x5 - (((xshr x6 3) * 3) + 3))) 1)) 1)) ≤ (xpl h 64 (x5 - (((xshr x6 3) * 3) + 3))) → (xwp G m_DualPivotQuicksort_sort_SorteraJIII (d + 141) 197 [xR (-1), xR 64, xI (x2 + 6), xI x3, xI x4, xI x5, xI x6, xZ, xI (x3 + (((xshr x6 3) * 3) + 3)), xI (x5 - (((xshr x6 3) * 3) + 3)), xI (xushr ((x3 + (((xshr x6 3) * 3) + 3)) + (x5 - (((xshr x6 3) * 3) + 3))) 1), xI (xushr ((x3 + (((xshr x6 3) * 3) + 3)) + (xushr ((x3 + (((xshr x6 3) * 3) + 3)) + (x5 - (((xshr x6 3) * 3) + 3))) 1)) 1), xI (xushr ((xushr ((x3 + (((xshr x6 3) * 3) + 3)) + (x5 - (((xshr x6 3) * 3) + 3))) 1) + (x5 - (((xshr x6 3) * 3) + 3))) 1), xL (xpl h 64 (xushr ((x3 + (((xshr x6 3) * 3) + 3)) + (x5 - (((xshr x6 3) * 3) + 3))) 1)), xZ, xZ, xZ, xZ, xZ, xZ, xZ, xZ, xZ, xZ, xZ] [] h Q X)) ∧ (¬ (xpl h 64 (xushr ((x3 + (((xshr x6 3) * 3) + 3)) + (xushr ((x3 + (((xshr x6 3) * 3) + 3)) + (x5 - (((xshr x6 3) * 3) + 3))) 1)) 1)) ≤ (xpl h 64 (x5 - (((xshr x6 3) * 3) + 3))) → (xFix (xst (xst h 64 (x5 - (((xshr x6 3) * 3) + 3)) (xpl h 64 (xushr ((x3 + (((xshr x6 3) * 3) + 3)) + (xushr ((x3 + (((xshr x6 3) * 3) + 3)) + (x5 - (((xshr x6 3) * 3) + 3))) 1)) 1))) 64 (xushr ((x3 + (((xshr x6 3) * 3) + 3)) + (xushr ((x3 + (((xshr x6 3) * 3) + 3)) + (x5 - (((xshr x6 3) * 3) + 3))) 1)) 1) (xpl h 64 (x5 - (((xshr x6 3) * 3) + 3)))) → xwp G m_DualPivotQuicksort_sort_SorteraJIII (d + 141) 197 [xR (-1), xR 64, xI (x2 + 6), xI x3, xI x4, xI x5, xI x6, xZ, xI (x3 + (((xshr x6 3) * 3) + 3)), xI (x5 - (((xshr x6 3) * 3) + 3)), xI (xushr ((x3 + (((xshr x6 3) * 3) + 3)) + (x5 - (((xshr x6 3) * 3) + 3))) 1), xI (xushr ((x3 + (((xshr x6 3) * 3) + 3)) + (xushr ((x3 + (((xshr x6 3) * 3) + 3)) + (x5 - (((xshr x6 3) * 3) + 3))) 1)) 1), xI (xushr ((xushr ((x3 + (((xshr x6 3) * 3) + 3)) + (x5 - (((xshr x6 3) * 3) + 3))) 1) + (x5 - (((xshr x6 3) * 3) + 3))) 1), xL (xpl h 64 (xushr ((x3 + (((xshr x6 3) * 3) + 3)) + (x5 - (((xshr x6 3) * 3) + 3))) 1)), xZ, xZ, xZ, xZ, xZ, xZ, xZ, xZ, xZ, xZ, xZ] [] (xst (xst h 64 (x5 - (((xshr x6 3) * 3) + 3)) (xpl h 64 (xushr ((x3 + (((xshr x6 3) * 3) + 3)) + (xushr ((x3 + (((xshr x6 3) * 3) + 3)) + (x5 - (((xshr x6 3) * 3) + 3))) 1)) 1))) 64 (xushr ((x3 + (((xshr x6 3) * 3) + 3)) + (xushr ((x3 + (((xshr x6 3) * 3) + 3)) + (x5 - (((xshr x6 3) * 3) + 3))) 1)) 1) (xpl h 64 (x5 - (((xshr x6 3) * 3) + 3)))) Q X)))) ∧ (¬ (x2 + 6) ≤ 384 → (xwp G m_DualPivotQuicksort_heapSort (d + 140) 0 [xR 64, xI x3, xI x4, xZ, xZ] [] h (fun v9 h9 => xwp G m_DualPivotQuicksort_sort_SorteraJIII (d + 141) 108 [xZ, xZ, xZ, xZ, xZ, xZ, xZ, xZ, xZ, xZ, xZ, xZ, xZ, xZ, xZ, xZ, xZ, xZ, xZ, xZ, xZ, xZ, xZ, xZ, xZ] (xpush v9 []) h9 Q X) X)))) : xwp G m_DualPivotQuicksort_sort_SorteraJIII (d + 141) 91 [xR (-1), xR 64, xI x2, xI x3, xI x4, xI x5, xI x6, xZ, xZ, xZ, xZ, xZ, xZ, xZ, xZ, xZ, xZ, xZ, xZ, xZ, xZ, xZ, xZ, xZ, xZ] [] h Q X := by
  have hnx9 : (93 : Int) ≤ xnx h := F.2.2
  refine xr_okL (fun hl9 => ?_)
  have r_x2 : -2147483648 ≤ x2 ∧ x2 ≤ 2147483647 := hl9 (xI x2) (.tail _ (.tail _ (.head _))) (Nat.le_of_ble_eq_true rfl)
  have r_x3 : -2147483648 ≤ x3 ∧ x3 ≤ 2147483647 := hl9 (xI x3) (.tail _ (.tail _ (.tail _ (.head _)))) (Nat.le_of_ble_eq_true rfl)
  have r_x4 : -2147483648 ≤ x4 ∧ x4 ≤ 2147483647 := hl9 (xI x4) (.tail _ (.tail _ (.tail _ (.tail _ (.head _))))) (Nat.le_of_ble_eq_true rfl)
  have r_x5 : -2147483648 ≤ x5 ∧ x5 ≤ 2147483647 := hl9 (xI x5) (.tail _ (.tail _ (.tail _ (.tail _ (.tail _ (.head _)))))) (Nat.le_of_ble_eq_true rfl)
  have r_x6 : -2147483648 ≤ x6 ∧ x6 ≤ 2147483647 := hl9 (xI x6) (.tail _ (.tail _ (.tail _ (.tail _ (.tail _ (.tail _ (.head _))))))) (Nat.le_of_ble_eq_true rfl)
  obtain ⟨c9, hyp⟩ := hyp
  refine xr_iinc (pc := 91) (i := 2) (L9 := [xR (-1), xR 64, xI (x2 + 6), xI x3, xI x4, xI x5, xI x6, xZ, xZ, xZ, xZ, xZ, xZ, xZ, xZ, xZ, xZ, xZ, xZ, xZ, xZ, xZ, xZ, xZ, xZ]) (hI := d_DualPivotQuicksort_sort_SorteraJIII_91) (hl := rfl) (hn := Nat.le_of_ble_eq_true rfl) (hr := c9) (hL9 := rfl) ?_
  refine xr_iload_n (pc := 94) (i := 2) (hI := d_DualPivotQuicksort_sort_SorteraJIII_94) (hi := rfl) (hl := rfl) ?_
  refine xr_sipush (pc := 95) (hI := d_DualPivotQuicksort_sort_SorteraJIII_95) (hr := by decide) (hv := by decide) ?_
  refine xr_icmp_le (pc := 98) (tgt := 109) (hI := d_DualPivotQuicksort_sort_SorteraJIII_98) (ht := by decide) (fun q9 => ?_) (fun q9 => ?_)
  · replace hyp := hyp.1 q9
    have q1_ := q9
    clear q9
    refine xr_iload (pc := 109) (i := 6) (hI := d_DualPivotQuicksort_sort_SorteraJIII_109) (hl := rfl) ?_
    refine xr_iconst (pc := 111) (hI := d_DualPivotQuicksort_sort_SorteraJIII_111) (hr := by decide) ?_
    refine xr_ishr (pc := 112) (hI := d_DualPivotQuicksort_sort_SorteraJIII_112) ?_
    have f2_ : -2147483648 ≤ (xshr x6 3) ∧ (xshr x6 3) ≤ 2147483647 := xi_toR _
    refine xr_iconst (pc := 113) (hI := d_DualPivotQuicksort_sort_SorteraJIII_113) (hr := by decide) ?_
    obtain ⟨c9, hyp⟩ := hyp
    refine xr_imul (pc := 114) (hI := d_DualPivotQuicksort_sort_SorteraJIII_114) (hr := c9) ?_
    refine xr_iconst (pc := 115) (hI := d_DualPivotQuicksort_sort_SorteraJIII_115) (hr := by decide) ?_
    obtain ⟨c9, hyp⟩ := hyp
    refine xr_iadd (pc := 116) (hI := d_DualPivotQuicksort_sort_SorteraJIII_116) (hr := c9) ?_
    refine xr_istore (pc := 117) (i := 7) (L9 := [xR (-1), xR 64, xI (x2 + 6), xI x3, xI x4, xI x5, xI x6, xI (((xshr x6 3) * 3) + 3), xZ, xZ, xZ, xZ, xZ, xZ, xZ, xZ, xZ, xZ, xZ, xZ, xZ, xZ, xZ, xZ, xZ]) (hI := d_DualPivotQuicksort_sort_SorteraJIII_117) (hn := Nat.le_of_ble_eq_true rfl) (hL9 := rfl) ?_
    refine xr_iload_n (pc := 119) (i := 3) (hI := d_DualPivotQuicksort_sort_SorteraJIII_119) (hi := rfl) (hl := rfl) ?_
    refine xr_iload (pc := 120) (i := 7) (hI := d_DualPivotQuicksort_sort_SorteraJIII_120) (hl := rfl) ?_
    obtain ⟨c9, hyp⟩ := hyp
    refine xr_iadd (pc := 122) (hI := d_DualPivotQuicksort_sort_SorteraJIII_122) (hr := c9) ?_
    refine xr_istore (pc := 123) (i := 8) (L9 := [xR (-1), xR 64, xI (x2 + 6), xI x3, xI x4, xI x5, xI x6, xI (((xshr x6 3) * 3) + 3), xI (x3 + (((xshr x6 3) * 3) + 3)), xZ, xZ, xZ, xZ, xZ, xZ, xZ, xZ, xZ, xZ, xZ, xZ, xZ, xZ, xZ, xZ]) (hI := d_DualPivotQuicksort_sort_SorteraJIII_123) (hn := Nat.le_of_ble_eq_true rfl) (hL9 := rfl) ?_
    refine xr_iload (pc := 125) (i := 5) (hI := d_DualPivotQuicksort_sort_SorteraJIII_125) (hl := rfl) ?_
    refine xr_iload (pc := 127) (i := 7) (hI := d_DualPivotQuicksort_sort_SorteraJIII_127) (hl := rfl) ?_
    obtain ⟨c9, hyp⟩ := hyp
    refine xr_isub (pc := 129) (hI := d_DualPivotQuicksort_sort_SorteraJIII_129) (hr := c9) ?_
    refine xr_istore (pc := 130) (i := 9) (L9 := [xR (-1), xR 64, xI (x2 + 6), xI x3, xI x4, xI x5, xI x6, xI (((xshr x6 3) * 3) + 3), xI (x3 + (((xshr x6 3) * 3) + 3)), xI (x5 - (((xshr x6 3) * 3) + 3)), xZ, xZ, xZ, xZ, xZ, xZ, xZ, xZ, xZ, xZ, xZ, xZ, xZ, xZ, xZ]) (hI := d_DualPivotQuicksort_sort_SorteraJIII_130) (hn := Nat.le_of_ble_eq_true rfl) (hL9 := rfl) ?_
    refine xr_iload (pc := 132) (i := 8) (hI := d_DualPivotQuicksort_sort_SorteraJIII_132) (hl := rfl) ?_
    refine xr_iload (pc := 134) (i := 9) (hI := d_DualPivotQuicksort_sort_SorteraJIII_134) (hl := rfl) ?_
    obtain ⟨c9, hyp⟩ := hyp
    refine xr_iadd (pc := 136) (hI := d_DualPivotQuicksort_sort_SorteraJIII_136) (hr := c9) ?_
    refine xr_iconst (pc := 137) (hI := d_DualPivotQuicksort_sort_SorteraJIII_137) (hr := by decide) ?_
    refine xr_iushr (pc := 138) (hI := d_DualPivotQuicksort_sort_SorteraJIII_138) ?_
    have f3_ : -2147483648 ≤ (xushr ((x3 + (((xshr x6 3) * 3) + 3)) + (x5 - (((xshr x6 3) * 3) + 3))) 1) ∧ (xushr ((x3 + (((xshr x6 3) * 3) + 3)) + (x5 - (((xshr x6 3) * 3) + 3))) 1) ≤ 2147483647 := xi_toR _
    refine xr_istore (pc := 139) (i := 10) (L9 := [xR (-1), xR 64, xI (x2 + 6), xI x3, xI x4, xI x5, xI x6, xI (((xshr x6 3) * 3) + 3), xI (x3 + (((xshr x6 3) * 3) + 3)), xI (x5 - (((xshr x6 3) * 3) + 3)), xI (xushr ((x3 + (((xshr x6 3) * 3) + 3)) + (x5 - (((xshr x6 3) * 3) + 3))) 1), xZ, xZ, xZ, xZ, xZ, xZ, xZ, xZ, xZ, xZ, xZ, xZ, xZ, xZ]) (hI := d_DualPivotQuicksort_sort_SorteraJIII_139) (hn := Nat.le_of_ble_eq_true rfl) (hL9 := rfl) ?_
    refine xr_iload (pc := 141) (i := 8) (hI := d_DualPivotQuicksort_sort_SorteraJIII_141) (hl := rfl) ?_
    refine xr_iload (pc := 143) (i := 10) (hI := d_DualPivotQuicksort_sort_SorteraJIII_143) (hl := rfl) ?_
    obtain ⟨c9, hyp⟩ := hyp
    refine xr_iadd (pc := 145) (hI := d_DualPivotQuicksort_sort_SorteraJIII_145) (hr := c9) ?_
    refine xr_iconst (pc := 146) (hI := d_DualPivotQuicksort_sort_SorteraJIII_146) (hr := by decide) ?_
    refine xr_iushr (pc := 147) (hI := d_DualPivotQuicksort_sort_SorteraJIII_147) ?_
    have f4_ : -2147483648 ≤ (xushr ((x3 + (((xshr x6 3) * 3) + 3)) + (xushr ((x3 + (((xshr x6 3) * 3) + 3)) + (x5 - (((xshr x6 3) * 3) + 3))) 1)) 1) ∧ (xushr ((x3 + (((xshr x6 3) * 3) + 3)) + (xushr ((x3 + (((xshr x6 3) * 3) + 3)) + (x5 - (((xshr x6 3) * 3) + 3))) 1)) 1) ≤ 2147483647 := xi_toR _
    refine xr_istore (pc := 148) (i := 11) (L9 := [xR (-1), xR 64, xI (x2 + 6), xI x3, xI x4, xI x5, xI x6, xI (((xshr x6 3) * 3) + 3), xI (x3 + (((xshr x6 3) * 3) + 3)), xI (x5 - (((xshr x6 3) * 3) + 3)), xI (xushr ((x3 + (((xshr x6 3) * 3) + 3)) + (x5 - (((xshr x6 3) * 3) + 3))) 1), xI (xushr ((x3 + (((xshr x6 3) * 3) + 3)) + (xushr ((x3 + (((xshr x6 3) * 3) + 3)) + (x5 - (((xshr x6 3) * 3) + 3))) 1)) 1), xZ, xZ, xZ, xZ, xZ, xZ, xZ, xZ, xZ, xZ, xZ, xZ, xZ]) (hI := d_DualPivotQuicksort_sort_SorteraJIII_148) (hn := Nat.le_of_ble_eq_true rfl) (hL9 := rfl) ?_
    refine xr_iload (pc := 150) (i := 10) (hI := d_DualPivotQuicksort_sort_SorteraJIII_150) (hl := rfl) ?_
    refine xr_iload (pc := 152) (i := 9) (hI := d_DualPivotQuicksort_sort_SorteraJIII_152) (hl := rfl) ?_
    obtain ⟨c9, hyp⟩ := hyp
    refine xr_iadd (pc := 154) (hI := d_DualPivotQuicksort_sort_SorteraJIII_154) (hr := c9) ?_
    refine xr_iconst (pc := 155) (hI := d_DualPivotQuicksort_sort_SorteraJIII_155) (hr := by decide) ?_
    refine xr_iushr (pc := 156) (hI := d_DualPivotQuicksort_sort_SorteraJIII_156) ?_
    have f5_ : -2147483648 ≤ (xushr ((xushr ((x3 + (((xshr x6 3) * 3) + 3)) + (x5 - (((xshr x6 3) * 3) + 3))) 1) + (x5 - (((xshr x6 3) * 3) + 3))) 1) ∧ (xushr ((xushr ((x3 + (((xshr x6 3) * 3) + 3)) + (x5 - (((xshr x6 3) * 3) + 3))) 1) + (x5 - (((xshr x6 3) * 3) + 3))) 1) ≤ 2147483647 := xi_toR _
    refine xr_istore (pc := 157) (i := 12) (L9 := [xR (-1), xR 64, xI (x2 + 6), xI x3, xI x4, xI x5, xI x6, xI (((xshr x6 3) * 3) + 3), xI (x3 + (((xshr x6 3) * 3) + 3)), xI (x5 - (((xshr x6 3) * 3) + 3)), xI (xushr ((x3 + (((xshr x6 3) * 3) + 3)) + (x5 - (((xshr x6 3) * 3) + 3))) 1), xI (xushr ((x3 + (((xshr x6 3) * 3) + 3)) + (xushr ((x3 + (((xshr x6 3) * 3) + 3)) + (x5 - (((xshr x6 3) * 3) + 3))) 1)) 1), xI (xushr ((xushr ((x3 + (((xshr x6 3) * 3) + 3)) + (x5 - (((xshr x6 3) * 3) + 3))) 1) + (x5 - (((xshr x6 3) * 3) + 3))) 1), xZ, xZ, xZ, xZ, xZ, xZ, xZ, xZ, xZ, xZ, xZ, xZ]) (hI := d_DualPivotQuicksort_sort_SorteraJIII_157) (hn := Nat.le_of_ble_eq_true rfl) (hL9 := rfl) ?_
    refine xr_aload_n (pc := 159) (i := 1) (hI := d_DualPivotQuicksort_sort_SorteraJIII_159) (hi := rfl) (hl := rfl) ?_
    refine xr_iload (pc := 160) (i := 10) (hI := d_DualPivotQuicksort_sort_SorteraJIII_160) (hl := rfl) ?_
    obtain ⟨c6_, hyp⟩ := hyp
    obtain ⟨c7_, hyp⟩ := hyp
    refine xg_laload (pc := 162) (v := (xpl h 64 (xushr ((x3 + (((xshr x6 3) * 3) + 3)) + (x5 - (((xshr x6 3) * 3) + 3))) 1))) (hI := d_DualPivotQuicksort_sort_SorteraJIII_162) (ft_64 F) c6_ (xlt_of (fl_64 F) c7_) rfl (fun f8_ => ?_)
    replace f8_ : -9223372036854775808 ≤ (xpl h 64 (xushr ((x3 + (((xshr x6 3) * 3) + 3)) + (x5 - (((xshr x6 3) * 3) + 3))) 1)) ∧ (xpl h 64 (xushr ((x3 + (((xshr x6 3) * 3) + 3)) + (x5 - (((xshr x6 3) * 3) + 3))) 1)) ≤ 9223372036854775807 := f8_
    refine xr_lstore (pc := 163) (i := 13) (L9 := [xR (-1), xR 64, xI (x2 + 6), xI x3, xI x4, xI x5, xI x6, xI (((xshr x6 3) * 3) + 3), xI (x3 + (((xshr x6 3) * 3) + 3)), xI (x5 - (((xshr x6 3) * 3) + 3)), xI (xushr ((x3 + (((xshr x6 3) * 3) + 3)) + (x5 - (((xshr x6 3) * 3) + 3))) 1), xI (xushr ((x3 + (((xshr x6 3) * 3) + 3)) + (xushr ((x3 + (((xshr x6 3) * 3) + 3)) + (x5 - (((xshr x6 3) * 3) + 3))) 1)) 1), xI (xushr ((xushr ((x3 + (((xshr x6 3) * 3) + 3)) + (x5 - (((xshr x6 3) * 3) + 3))) 1) + (x5 - (((xshr x6 3) * 3) + 3))) 1), xL (xpl h 64 (xushr ((x3 + (((xshr x6 3) * 3) + 3)) + (x5 - (((xshr x6 3) * 3) + 3))) 1)), xZ, xZ, xZ, xZ, xZ, xZ, xZ, xZ, xZ, xZ, xZ]) (hI := d_DualPivotQuicksort_sort_SorteraJIII_163) (hn := Nat.le_of_ble_eq_true rfl) (hL9 := rfl) ?_
    refine xr_aload_n (pc := 165) (i := 1) (hI := d_DualPivotQuicksort_sort_SorteraJIII_165) (hi := rfl) (hl := rfl) ?_
    refine xr_iload (pc := 166) (i := 9) (hI := d_DualPivotQuicksort_sort_SorteraJIII_166) (hl := rfl) ?_
    obtain ⟨c9_, hyp⟩ := hyp
    obtain ⟨c10_, hyp⟩ := hyp
    refine xg_laload (pc := 168) (v := (xpl h 64 (x5 - (((xshr x6 3) * 3) + 3)))) (hI := d_DualPivotQuicksort_sort_SorteraJIII_168) (ft_64 F) c9_ (xlt_of (fl_64 F) c10_) rfl (fun f11_ => ?_)
    replace f11_ : -9223372036854775808 ≤ (xpl h 64 (x5 - (((xshr x6 3) * 3) + 3))) ∧ (xpl h 64 (x5 - (((xshr x6 3) * 3) + 3))) ≤ 9223372036854775807 := f11_
    refine xr_aload_n (pc := 169) (i := 1) (hI := d_DualPivotQuicksort_sort_SorteraJIII_169) (hi := rfl) (hl := rfl) ?_
    refine xr_iload (pc := 170) (i := 11) (hI := d_DualPivotQuicksort_sort_SorteraJIII_170) (hl := rfl) ?_
    obtain ⟨c12_, hyp⟩ := hyp
    obtain ⟨c13_, hyp⟩ := hyp
    refine xg_laload (pc := 172) (v := (xpl h 64 (xushr ((x3 + (((xshr x6 3) * 3) + 3)) + (xushr ((x3 + (((xshr x6 3) * 3) + 3)) + (x5 - (((xshr x6 3) * 3) + 3))) 1)) 1))) (hI := d_DualPivotQuicksort_sort_SorteraJIII_172) (ft_64 F) c12_ (xlt_of (fl_64 F) c13_) rfl (fun f14_ => ?_)
    replace f14_ : -9223372036854775808 ≤ (xpl h 64 (xushr ((x3 + (((xshr x6 3) * 3) + 3)) + (xushr ((x3 + (((xshr x6 3) * 3) + 3)) + (x5 - (((xshr x6 3) * 3) + 3))) 1)) 1)) ∧ (xpl h 64 (xushr ((x3 + (((xshr x6 3) * 3) + 3)) + (xushr ((x3 + (((xshr x6 3) * 3) + 3)) + (x5 - (((xshr x6 3) * 3) + 3))) 1)) 1)) ≤ 9223372036854775807 := f14_
    refine xr_lcmp (pc := 173) (hI := d_DualPivotQuicksort_sort_SorteraJIII_173) ?_
    refine xg_lif_ge (pc := 174) (tgt := 197) (hI := d_DualPivotQuicksort_sort_SorteraJIII_174) (ht := by decide) (fun q9 => ?_) (fun q9 => ?_)
    · replace hyp := hyp.1 q9
      have q15_ := q9
      clear q9
      exact xr_drop (L9 := [xR (-1), xR 64, xI (x2 + 6), xI x3, xI x4, xI x5, xI x6, xZ, xI (x3 + (((xshr x6 3) * 3) + 3)), xI (x5 - (((xshr x6 3) * 3) + 3)), xI (xushr ((x3 + (((xshr x6 3) * 3) + 3)) + (x5 - (((xshr x6 3) * 3) + 3))) 1), xI (xushr ((x3 + (((xshr x6 3) * 3) + 3)) + (xushr ((x3 + (((xshr x6 3) * 3) + 3)) + (x5 - (((xshr x6 3) * 3) + 3))) 1)) 1), xI (xushr ((xushr ((x3 + (((xshr x6 3) * 3) + 3)) + (x5 - (((xshr x6 3) * 3) + 3))) 1) + (x5 - (((xshr x6 3) * 3) + 3))) 1), xL (xpl h 64 (xushr ((x3 + (((xshr x6 3) * 3) + 3)) + (x5 - (((xshr x6 3) * 3) + 3))) 1)), xZ, xZ, xZ, xZ, xZ, xZ, xZ, xZ, xZ, xZ, xZ]) (xdrs (xdrs (xdrs (xdrs (xdrs (xdrs (xdrs (xdrz (xdrs (xdrs (xdrs (xdrs (xdrs (xdrs (xdrs (xdrs (xdrs (xdrs (xdrs (xdrs (xdrs (xdrs (xdrs (xdrs (xdrs xdr0))))))))))))))))))))))))) hyp
    · replace hyp := hyp.2 q9
      have q15_ := q9
      clear q9
      refine xr_aload_n (pc := 177) (i := 1) (hI := d_DualPivotQuicksort_sort_SorteraJIII_177) (hi := rfl) (hl := rfl) ?_
      refine xr_iload (pc := 178) (i := 9) (hI := d_DualPivotQuicksort_sort_SorteraJIII_178) (hl := rfl) ?_
      refine xg_laload (pc := 180) (v := (xpl h 64 (x5 - (((xshr x6 3) * 3) + 3)))) (hI := d_DualPivotQuicksort_sort_SorteraJIII_180) (ft_64 F) (by clear hyp; omega) (xlt_of (fl_64 F) (by clear hyp; omega)) rfl (fun f16_ => ?_)
      replace f16_ : -9223372036854775808 ≤ (xpl h 64 (x5 - (((xshr x6 3) * 3) + 3))) ∧ (xpl h 64 (x5 - (((xshr x6 3) * 3) + 3))) ≤ 9223372036854775807 := f16_
      refine xr_lstore (pc := 181) (i := 15) (L9 := [xR (-1), xR 64, xI (x2 + 6), xI x3, xI x4, xI x5, xI x6, xI (((xshr x6 3) * 3) + 3), xI (x3 + (((xshr x6 3) * 3) + 3)), xI (x5 - (((xshr x6 3) * 3) + 3)), xI (xushr ((x3 + (((xshr x6 3) * 3) + 3)) + (x5 - (((xshr x6 3) * 3) + 3))) 1), xI (xushr ((x3 + (((xshr x6 3) * 3) + 3)) + (xushr ((x3 + (((xshr x6 3) * 3) + 3)) + (x5 - (((xshr x6 3) * 3) + 3))) 1)) 1), xI (xushr ((xushr ((x3 + (((xshr x6 3) * 3) + 3)) + (x5 - (((xshr x6 3) * 3) + 3))) 1) + (x5 - (((xshr x6 3) * 3) + 3))) 1), xL (xpl h 64 (xushr ((x3 + (((xshr x6 3) * 3) + 3)) + (x5 - (((xshr x6 3) * 3) + 3))) 1)), xZ, xL (xpl h 64 (x5 - (((xshr x6 3) * 3) + 3))), xZ, xZ, xZ, xZ, xZ, xZ, xZ, xZ, xZ]) (hI := d_DualPivotQuicksort_sort_SorteraJIII_181) (hn := Nat.le_of_ble_eq_true rfl) (hL9 := rfl) ?_
      refine xr_aload_n (pc := 183) (i := 1) (hI := d_DualPivotQuicksort_sort_SorteraJIII_183) (hi := rfl) (hl := rfl) ?_
      refine xr_iload (pc := 184) (i := 9) (hI := d_DualPivotQuicksort_sort_SorteraJIII_184) (hl := rfl) ?_
      refine xr_aload_n (pc := 186) (i := 1) (hI := d_DualPivotQuicksort_sort_SorteraJIII_186) (hi := rfl) (hl := rfl) ?_
      refine xr_iload (pc := 187) (i := 11) (hI := d_DualPivotQuicksort_sort_SorteraJIII_187) (hl := rfl) ?_
      refine xg_laload (pc := 189) (v := (xpl h 64 (xushr ((x3 + (((xshr x6 3) * 3) + 3)) + (xushr ((x3 + (((xshr x6 3) * 3) + 3)) + (x5 - (((xshr x6 3) * 3) + 3))) 1)) 1))) (hI := d_DualPivotQuicksort_sort_SorteraJIII_189) (ft_64 F) (by clear hyp; omega) (xlt_of (fl_64 F) (by clear hyp; omega)) rfl (fun f17_ => ?_)
      replace f17_ : -9223372036854775808 ≤ (xpl h 64 (xushr ((x3 + (((xshr x6 3) * 3) + 3)) + (xushr ((x3 + (((xshr x6 3) * 3) + 3)) + (x5 - (((xshr x6 3) * 3) + 3))) 1)) 1)) ∧ (xpl h 64 (xushr ((x3 + (((xshr x6 3) * 3) + 3)) + (xushr ((x3 + (((xshr x6 3) * 3) + 3)) + (x5 - (((xshr x6 3) * 3) + 3))) 1)) 1)) ≤ 9223372036854775807 := f17_
      refine xr_lastore (pc := 190) (hI := d_DualPivotQuicksort_sort_SorteraJIII_190) (ft_64 F) (by decide) (by clear hyp; omega) (xlt_of (fl_64 F) (by clear hyp; omega)) ?_
      have F18_ : xFix (xst h 64 (x5 - (((xshr x6 3) * 3) + 3)) (xpl h 64 (xushr ((x3 + (((xshr x6 3) * 3) + 3)) + (xushr ((x3 + (((xshr x6 3) * 3) + 3)) + (x5 - (((xshr x6 3) * 3) + 3))) 1)) 1))) := F.stA xfa_64
      refine xr_aload_n (pc := 191) (i := 1) (hI := d_DualPivotQuicksort_sort_SorteraJIII_191) (hi := rfl) (hl := rfl) ?_
      refine xr_iload (pc := 192) (i := 11) (hI := d_DualPivotQuicksort_sort_SorteraJIII_192) (hl := rfl) ?_
      refine xr_lload (pc := 194) (i := 15) (hI := d_DualPivotQuicksort_sort_SorteraJIII_194) (hl := rfl) ?_
      refine xr_lastore (pc := 196) (hI := d_DualPivotQuicksort_sort_SorteraJIII_196) (ft_64 F18_) (by decide) (by clear hyp; omega) (xlt_of (fl_64 F18_) (by clear hyp; omega)) ?_
      have F19_ : xFix (xst (xst h 64 (x5 - (((xshr x6 3) * 3) + 3)) (xpl h 64 (xushr ((x3 + (((xshr x6 3) * 3) + 3)) + (xushr ((x3 + (((xshr x6 3) * 3) + 3)) + (x5 - (((xshr x6 3) * 3) + 3))) 1)) 1))) 64 (xushr ((x3 + (((xshr x6 3) * 3) + 3)) + (xushr ((x3 + (((xshr x6 3) * 3) + 3)) + (x5 - (((xshr x6 3) * 3) + 3))) 1)) 1) (xpl h 64 (x5 - (((xshr x6 3) * 3) + 3)))) := F18_.stA xfa_64
      exact xr_drop (L9 := [xR (-1), xR 64, xI (x2 + 6), xI x3, xI x4, xI x5, xI x6, xZ, xI (x3 + (((xshr x6 3) * 3) + 3)), xI (x5 - (((xshr x6 3) * 3) + 3)), xI (xushr ((x3 + (((xshr x6 3) * 3) + 3)) + (x5 - (((xshr x6 3) * 3) + 3))) 1), xI (xushr ((x3 + (((xshr x6 3) * 3) + 3)) + (xushr ((x3 + (((xshr x6 3) * 3) + 3)) + (x5 - (((xshr x6 3) * 3) + 3))) 1)) 1), xI (xushr ((xushr ((x3 + (((xshr x6 3) * 3) + 3)) + (x5 - (((xshr x6 3) * 3) + 3))) 1) + (x5 - (((xshr x6 3) * 3) + 3))) 1), xL (xpl h 64 (xushr ((x3 + (((xshr x6 3) * 3) + 3)) + (x5 - (((xshr x6 3) * 3) + 3))) 1)), xZ, xZ, xZ, xZ, xZ, xZ, xZ, xZ, xZ, xZ, xZ]) (xdrs (xdrs (xdrs (xdrs (xdrs (xdrs (xdrs (xdrz (xdrs (xdrs (xdrs (xdrs (xdrs (xdrs (xdrs (xdrz (xdrs (xdrs (xdrs (xdrs (xdrs (xdrs (xdrs (xdrs (xdrs xdr0))))))))))))))))))))))))) (hyp F19_)
  · replace hyp := hyp.2 q9
    have q1_ := q9
    clear q9
    refine xr_aload_n (pc := 101) (i := 1) (hI := d_DualPivotQuicksort_sort_SorteraJIII_101) (hi := rfl) (hl := rfl) ?_
    refine xr_iload_n (pc := 102) (i := 3) (hI := d_DualPivotQuicksort_sort_SorteraJIII_102) (hi := rfl) (hl := rfl) ?_
    refine xr_iload (pc := 103) (i := 4) (hI := d_DualPivotQuicksort_sort_SorteraJIII_103) (hl := rfl) ?_
    exact xq_callS (pc := 105) (index := 111) (K := m_DualPivotQuicksort_heapSort) (As := [xR 64, xI x3, xI x4]) (S := []) (L0 := [xR 64, xI x3, xI x4, xZ, xZ]) (hI := d_DualPivotQuicksort_sort_SorteraJIII_105) (hK := k_DualPivotQuicksort_heapSort) (hlk := w_2165) (hnoM := rfl) (hS8 := Nat.le_of_ble_eq_true rfl) (hstat := w_2166) (hlen := Nat.le_of_ble_eq_true rfl) (hst := rfl) (hL0 := rfl)  (xwp_mono hyp (fun v9 h9 q9 => xr_drop (L9 := [xZ, xZ, xZ, xZ, xZ, xZ, xZ, xZ, xZ, xZ, xZ, xZ, xZ, xZ, xZ, xZ, xZ, xZ, xZ, xZ, xZ, xZ, xZ, xZ, xZ]) (xdrz (xdrz (xdrz (xdrz (xdrz (xdrz (xdrz (xdrs (xdrs (xdrs (xdrs (xdrs (xdrs (xdrs (xdrs (xdrs (xdrs (xdrs (xdrs (xdrs (xdrs (xdrs (xdrs (xdrs (xdrs xdr0))))))))))))))))))))))))) q9) (fun _ _ z9 => z9))
theorem d_DualPivotQuicksort_sort_SorteraJIII_108 : decode prog_46_method_13_code 108 = .ok (.return_, 1) := by decide +kernel
theorem v_DualPivotQuicksort_sort_SorteraJIII_108 {G : XG} {d : Nat} {h : XH} {Q : XV → XH → Prop} {X : Nat → XH → Prop} (F : xFix h) (hyp : (Q xN h)) : xwp G m_DualPivotQuicksort_sort_SorteraJIII (d + 141) 108 [xZ, xZ, xZ, xZ, xZ, xZ, xZ, xZ, xZ, xZ, xZ, xZ, xZ, xZ, xZ, xZ, xZ, xZ, xZ, xZ, xZ, xZ, xZ, xZ, xZ] [] h Q X := by
  have hnx9 : (93 : Int) ≤ xnx h := F.2.2
  refine xr_return (S := []) (pc := 108) (hI := d_DualPivotQuicksort_sort_SorteraJIII_108) (hr := rfl) ?_
  exact hyp
theorem d_DualPivotQuicksort_sort_SorteraJIII_197 : decode prog_46_method_13_code 197 = .ok (.aload_n 1, 1) := by decide +kernel
theorem d_DualPivotQuicksort_sort_SorteraJIII_198 : decode prog_46_method_13_code 198 = .ok (.iload 12, 2) := by decide +kernel
theorem d_DualPivotQuicksort_sort_SorteraJIII_200 : decode prog_46_method_13_code 200 = .ok (.laload, 1) := by decide +kernel
theorem d_DualPivotQuicksort_sort_SorteraJIII_201 : decode prog_46_method_13_code 201 = .ok (.aload_n 1, 1) := by decide +kernel
theorem d_DualPivotQuicksort_sort_SorteraJIII_202 : decode prog_46_method_13_code 202 = .ok (.iload 8, 2) := by decide +kernel
theorem d_DualPivotQuicksort_sort_SorteraJIII_204 : decode prog_46_method_13_code 204 = .ok (.laload, 1) := by decide +kernel
theorem d_DualPivotQuicksort_sort_SorteraJIII_205 : decode prog_46_method_13_code 205 = .ok (.lcmp, 1) := by decide +kernel
theorem d_DualPivotQuicksort_sort_SorteraJIII_206 : decode prog_46_method_13_code 206 = .ok (.ifCond .ge 23, 3) := by decide +kernel
theorem d_DualPivotQuicksort_sort_SorteraJIII_209 : decode prog_46_method_13_code 209 = .ok (.aload_n 1, 1) := by decide +kernel
theorem d_DualPivotQuicksort_sort_SorteraJIII_210 : decode prog_46_method_13_code 210 = .ok (.iload 12, 2) := by decide +kernel
theorem d_DualPivotQuicksort_sort_SorteraJIII_212 : decode prog_46_method_13_code 212 = .ok (.laload, 1) := by decide +kernel
theorem d_DualPivotQuicksort_sort_SorteraJIII_213 : decode prog_46_method_13_code 213 = .ok (.lstore 15, 2) := by decide +kernel
theorem d_DualPivotQuicksort_sort_SorteraJIII_215 : decode prog_46_method_13_code 215 = .ok (.aload_n 1, 1) := by decide +kernel
theorem d_DualPivotQuicksort_sort_SorteraJIII_216 : decode prog_46_method_13_code 216 = .ok (.iload 12, 2) := by decide +kernel
theorem d_DualPivotQuicksort_sort_SorteraJIII_218 : decode prog_46_method_13_code 218 = .ok (.aload_n 1, 1) := by decide +kernel
theorem d_DualPivotQuicksort_sort_SorteraJIII_219 : decode prog_46_method_13_code 219 = .ok (.iload 8, 2) := by decide +kernel
theorem d_DualPivotQuicksort_sort_SorteraJIII_221 : decode prog_46_method_13_code 221 = .ok (.laload, 1) := by decide +kernel
theorem d_DualPivotQuicksort_sort_SorteraJIII_222 : decode prog_46_method_13_code 222 = .ok (.lastore, 1) := by decide +kernel
theorem d_DualPivotQuicksort_sort_SorteraJIII_223 : decode prog_46_method_13_code 223 = .ok (.aload_n 1, 1) := by decide +kernel
theorem d_DualPivotQuicksort_sort_SorteraJIII_224 : decode prog_46_method_13_code 224 = .ok (.iload 8, 2) := by decide +kernel
theorem d_DualPivotQuicksort_sort_SorteraJIII_226 : decode prog_46_method_13_code 226 = .ok (.lload 15, 2) := by decide +kernel
theorem d_DualPivotQuicksort_sort_SorteraJIII_228 : decode prog_46_method_13_code 228 = .ok (.lastore, 1) := by decide +kernel
theorem v_DualPivotQuicksort_sort_SorteraJIII_197 {G : XG} {d : Nat} {h : XH} {Q : XV → XH → Prop} {X : Nat → XH → Prop} {x2 x3 x4 x5 x6 x8 x9 x10 x11 x12 x13 : Int} (F : xFix h) (hyp : 0 ≤ x12 ∧ x12 < 12000 ∧ 0 ≤ x8 ∧ x8 < 12000 ∧ (((xpl h 64 x8) ≤ (xpl h 64 x12) → (xwp G m_DualPivotQuicksort_sort_SorteraJIII (d + 141) 229 [xR (-1), xR 64, xI x2, xI x3, xI x4, xI x5, xI x6, xZ, xI x8, xI x9, xI x10, xI x11, xI x12, xL x13, xZ, xZ, xZ, xZ, xZ, xZ, xZ, xZ, xZ, xZ, xZ] [] h Q X)) ∧ (¬ (xpl h 64 x8) ≤ (xpl h 64 x12) → (xFix (xst (xst h 64 x12 (xpl h 64 x8)) 64 x8 (xpl h 64 x12)) → xwp G m_DualPivotQuicksort_sort_SorteraJIII (d + 141) 229 [xR (-1), xR 64, xI x2, xI x3, xI x4, xI x5, xI x6, xZ, xI x8, xI x9, xI x10, xI x11, xI x12, xL x13, xZ, xZ, xZ, xZ, xZ, xZ, xZ, xZ, xZ, xZ, xZ] [] (xst (xst h 64 x12 (xpl h 64 x8)) 64 x8 (xpl h 64 x12)) Q X)))) : xwp G m_DualPivotQuicksort_sort_SorteraJIII (d + 141) 197 [xR (-1), xR 64, xI x2, xI x3, xI x4, xI x5, xI x6, xZ, xI x8, xI x9, xI x10, xI x11, xI x12, xL x13, xZ, xZ, xZ, xZ, xZ, xZ, xZ, xZ, xZ, xZ, xZ] [] h Q X := by
  have hnx9 : (93 : Int) ≤ xnx h := F.2.2
  refine xr_okL (fun hl9 => ?_)
  have r_x2 : -2147483648 ≤ x2 ∧ x2 ≤ 2147483647 := hl9 (xI x2) (.tail _ (.tail _ (.head _))) (Nat.le_of_ble_eq_true rfl)
  have r_x3 : -2147483648 ≤ x3 ∧ x3 ≤ 2147483647 := hl9 (xI x3) (.tail _ (.tail _ (.tail _ (.head _)))) (Nat.le_of_ble_eq_true rfl)
  have r_x4 : -2147483648 ≤ x4 ∧ x4 ≤ 2147483647 := hl9 (xI x4) (.tail _ (.tail _ (.tail _ (.tail _ (.head _))))) (Nat.le_of_ble_eq_true rfl)
  have r_x5 : -2147483648 ≤ x5 ∧ x5 ≤ 2147483647 := hl9 (xI x5) (.tail _ (.tail _ (.tail _ (.tail _ (.tail _ (.head _)))))) (Nat.le_of_ble_eq_true rfl)
  have r_x6 : -2147483648 ≤ x6 ∧ x6 ≤ 2147483647 := hl9 (xI x6) (.tail _ (.tail _ (.tail _ (.tail _ (.tail _ (.tail _ (.head _))))))) (Nat.le_of_ble_eq_true rfl)
  have r_x8 : -2147483648 ≤ x8 ∧ x8 ≤ 2147483647 := hl9 (xI x8) (.tail _ (.tail _ (.tail _ (.tail _ (.tail _ (.tail _ (.tail _ (.tail _ (.head _))))))))) (Nat.le_of_ble_eq_true rfl)
  have r_x9 : -2147483648 ≤ x9 ∧ x9 ≤ 2147483647 := hl9 (xI x9) (.tail _ (.tail _ (.tail _ (.tail _ (.tail _ (.tail _ (.tail _ (.tail _ (.tail _ (.head _)))))))))) (Nat.le_of_ble_eq_true rfl)
  have r_x10 : -2147483648 ≤ x10 ∧ x10 ≤ 2147483647 := hl9 (xI x10) (.tail _ (.tail _ (.tail _ (.tail _ (.tail _ (.tail _ (.tail _ (.tail _ (.tail _ (.tail _ (.head _))))))))))) (Nat.le_of_ble_eq_true rfl)
  have r_x11 : -2147483648 ≤ x11 ∧ x11 ≤ 2147483647 := hl9 (xI x11) (.tail _ (.tail _ (.tail _ (.tail _ (.tail _ (.tail _ (.tail _ (.tail _ (.tail _ (.tail _ (.tail _ (.head _)))))))))))) (Nat.le_of_ble_eq_true rfl)
  have r_x12 : -2147483648 ≤ x12 ∧ x12 ≤ 2147483647 := hl9 (xI x12) (.tail _ (.tail _ (.tail _ (.tail _ (.tail _ (.tail _ (.tail _ (.tail _ (.tail _ (.tail _ (.tail _ (.tail _ (.head _))))))))))))) (Nat.le_of_ble_eq_true rfl)
  have r_x13 : -9223372036854775808 ≤ x13 ∧ x13 ≤ 9223372036854775807 := hl9 (xL x13) (.tail _ (.tail _ (.tail _ (.tail _ (.tail _ (.tail _ (.tail _ (.tail _ (.tail _ (.tail _ (.tail _ (.tail _ (.tail _ (.head _)))))))))))))) (Nat.le_of_ble_eq_true rfl)
  refine xr_aload_n (pc := 197) (i := 1) (hI := d_DualPivotQuicksort_sort_SorteraJIII_197) (hi := rfl) (hl := rfl) ?_
  refine xr_iload (pc := 198) (i := 12) (hI := d_DualPivotQuicksort_sort_SorteraJIII_198) (hl := rfl) ?_
  obtain ⟨c1_, hyp⟩ := hyp
  obtain ⟨c2_, hyp⟩ := hyp
  refine xg_laload (pc := 200) (v := (xpl h 64 x12)) (hI := d_DualPivotQuicksort_sort_SorteraJIII_200) (ft_64 F) c1_ (xlt_of (fl_64 F) c2_) rfl (fun f3_ => ?_)
  replace f3_ : -9223372036854775808 ≤ (xpl h 64 x12) ∧ (xpl h 64 x12) ≤ 9223372036854775807 := f3_
  refine xr_aload_n (pc := 201) (i := 1) (hI := d_DualPivotQuicksort_sort_SorteraJIII_201) (hi := rfl) (hl := rfl) ?_
  refine xr_iload (pc := 202) (i := 8) (hI := d_DualPivotQuicksort_sort_SorteraJIII_202) (hl := rfl) ?_
  obtain ⟨c4_, hyp⟩ := hyp
  obtain ⟨c5_, hyp⟩ := hyp
  refine xg_laload (pc := 204) (v := (xpl h 64 x8)) (hI := d_DualPivotQuicksort_sort_SorteraJIII_204) (ft_64 F) c4_ (xlt_of (fl_64 F) c5_) rfl (fun f6_ => ?_)
  replace f6_ : -9223372036854775808 ≤ (xpl h 64 x8) ∧ (xpl h 64 x8) ≤ 9223372036854775807 := f6_
  refine xr_lcmp (pc := 205) (hI := d_DualPivotQuicksort_sort_SorteraJIII_205) ?_
  refine xg_lif_ge (pc := 206) (tgt := 229) (hI := d_DualPivotQuicksort_sort_SorteraJIII_206) (ht := by decide) (fun q9 => ?_) (fun q9 => ?_)
  · replace hyp := hyp.1 q9
    have q7_ := q9
    clear q9
    exact hyp
  · replace hyp := hyp.2 q9
    have q7_ := q9
    clear q9
    refine xr_aload_n (pc := 209) (i := 1) (hI := d_DualPivotQuicksort_sort_SorteraJIII_209) (hi := rfl) (hl := rfl) ?_
    refine xr_iload (pc := 210) (i := 12) (hI := d_DualPivotQuicksort_sort_SorteraJIII_210) (hl := rfl) ?_
    refine xg_laload (pc := 212) (v := (xpl h 64 x12)) (hI := d_DualPivotQuicksort_sort_SorteraJIII_212) (ft_64 F) (by clear hyp; omega) (xlt_of (fl_64 F) (by clear hyp; omega)) rfl (fun f8_ => ?_)
    replace f8_ : -9223372036854775808 ≤ (xpl h 64 x12) ∧ (xpl h 64 x12) ≤ 9223372036854775807 := f8_
    refine xr_lstore (pc := 213) (i := 15) (L9 := [xR (-1), xR 64, xI x2, xI x3, xI x4, xI x5, xI x6, xZ, xI x8, xI x9, xI x10, xI x11, xI x12, xL x13, xZ, xL (xpl h 64 x12), xZ, xZ, xZ, xZ, xZ, xZ, xZ, xZ, xZ]) (hI := d_DualPivotQuicksort_sort_SorteraJIII_213) (hn := Nat.le_of_ble_eq_true rfl) (hL9 := rfl) ?_
    refine xr_aload_n (pc := 215) (i := 1) (hI := d_DualPivotQuicksort_sort_SorteraJIII_215) (hi := rfl) (hl := rfl) ?_
    refine xr_iload (pc := 216) (i := 12) (hI := d_DualPivotQuicksort_sort_SorteraJIII_216) (hl := rfl) ?_
    refine xr_aload_n (pc := 218) (i := 1) (hI := d_DualPivotQuicksort_sort_SorteraJIII_218) (hi := rfl) (hl := rfl) ?_
    refine xr_iload (pc := 219) (i := 8) (hI := d_DualPivotQuicksort_sort_SorteraJIII_219) (hl := rfl) ?_
    refine xg_laload (pc := 221) (v := (xpl h 64 x8)) (hI := d_DualPivotQuicksort_sort_SorteraJIII_221) (ft_64 F) (by clear hyp; omega) (xlt_of (fl_64 F) (by clear hyp; omega)) rfl (fun f9_ => ?_)
    replace f9_ : -9223372036854775808 ≤ (xpl h 64 x8) ∧ (xpl h 64 x8) ≤ 9223372036854775807 := f9_
    refine xr_lastore (pc := 222) (hI := d_DualPivotQuicksort_sort_SorteraJIII_222) (ft_64 F) (by decide) (by clear hyp; omega) (xlt_of (fl_64 F) (by clear hyp; omega)) ?_
    have F10_ : xFix (xst h 64 x12 (xpl h 64 x8)) := F.stA xfa_64
    refine xr_aload_n (pc := 223) (i := 1) (hI := d_DualPivotQuicksort_sort_SorteraJIII_223) (hi := rfl) (hl := rfl) ?_
    refine xr_iload (pc := 224) (i := 8) (hI := d_DualPivotQuicksort_sort_SorteraJIII_224) (hl := rfl) ?_
    refine xr_lload (pc := 226) (i := 15) (hI := d_DualPivotQuicksort_sort_SorteraJIII_226) (hl := rfl) ?_
    refine xr_lastore (pc := 228) (hI := d_DualPivotQuicksort_sort_SorteraJIII_228) (ft_64 F10_) (by decide) (by clear hyp; omega) (xlt_of (fl_64 F10_) (by clear hyp; omega)) ?_
    have F11_ : xFix (xst (xst h 64 x12 (xpl h 64 x8)) 64 x8 (xpl h 64 x12)) := F10_.stA xfa_64
    exact xr_drop (L9 := [xR (-1), xR 64, xI x2, xI x3, xI x4, xI x5, xI x6, xZ, xI x8, xI x9, xI x10, xI x11, xI x12, xL x13, xZ, xZ, xZ, xZ, xZ, xZ, xZ, xZ, xZ, xZ, xZ]) (xdrs (xdrs (xdrs (xdrs (xdrs (xdrs (xdrs (xdrs (xdrs (xdrs (xdrs (xdrs (xdrs (xdrs (xdrs (xdrz (xdrs (xdrs (xdrs (xdrs (xdrs (xdrs (xdrs (xdrs (xdrs xdr0))))))))))))))))))))))))) (hyp F11_)
theorem d_DualPivotQuicksort_sort_SorteraJIII_229 : decode prog_46_method_13_code 229 = .ok (.aload_n 1, 1) := by decide +kernel
theorem d_DualPivotQuicksort_sort_SorteraJIII_230 : decode prog_46_method_13_code 230 = .ok (.iload 9, 2) := by decide +kernel
theorem d_DualPivotQuicksort_sort_SorteraJIII_232 : decode prog_46_method_13_code 232 = .ok (.laload, 1) := by decide +kernel
theorem d_DualPivotQuicksort_sort_SorteraJIII_233 : decode prog_46_method_13_code 233 = .ok (.aload_n 1, 1) := by decide +kernel
theorem d_DualPivotQuicksort_sort_SorteraJIII_234 : decode prog_46_method_13_code 234 = .ok (.iload 12, 2) := by decide +kernel
theorem d_DualPivotQuicksort_sort_SorteraJIII_236 : decode prog_46_method_13_code 236 = .ok (.laload, 1) := by decide +kernel
theorem d_DualPivotQuicksort_sort_SorteraJIII_237 : decode prog_46_method_13_code 237 = .ok (.lcmp, 1) := by decide +kernel
theorem d_DualPivotQuicksort_sort_SorteraJIII_238 : decode prog_46_method_13_code 238 = .ok (.ifCond .ge 23, 3) := by decide +kernel
theorem d_DualPivotQuicksort_sort_SorteraJIII_241 : decode prog_46_method_13_code 241 = .ok (.aload_n 1, 1) := by decide +kernel
theorem d_DualPivotQuicksort_sort_SorteraJIII_242 : decode prog_46_method_13_code 242 = .ok (.iload 9, 2) := by decide +kernel
theorem d_DualPivotQuicksort_sort_SorteraJIII_244 : decode prog_46_method_13_code 244 = .ok (.laload, 1) := by decide +kernel
theorem d_DualPivotQuicksort_sort_SorteraJIII_245 : decode prog_46_method_13_code 245 = .ok (.lstore 15, 2) := by decide +kernel
theorem d_DualPivotQuicksort_sort_SorteraJIII_247 : decode prog_46_method_13_code 247 = .ok (.aload_n 1, 1) := by decide +kernel
theorem d_DualPivotQuicksort_sort_SorteraJIII_248 : decode prog_46_method_13_code 248 = .ok (.iload 9, 2) := by decide +kernel
theorem d_DualPivotQuicksort_sort_SorteraJIII_250 : decode prog_46_method_13_code 250 = .ok (.aload_n 1, 1) := by decide +kernel
theorem d_DualPivotQuicksort_sort_SorteraJIII_251 : decode prog_46_method_13_code 251 = .ok (.iload 12, 2) := by decide +kernel
theorem d_DualPivotQuicksort_sort_SorteraJIII_253 : decode prog_46_method_13_code 253 = .ok (.laload, 1) := by decide +kernel
theorem d_DualPivotQuicksort_sort_SorteraJIII_254 : decode prog_46_method_13_code 254 = .ok (.lastore, 1) := by decide +kernel
theorem d_DualPivotQuicksort_sort_SorteraJIII_255 : decode prog_46_method_13_code 255 = .ok (.aload_n 1, 1) := by decide +kernel
theorem d_DualPivotQuicksort_sort_SorteraJIII_256 : decode prog_46_method_13_code 256 = .ok (.iload 12, 2) := by decide +kernel
theorem d_DualPivotQuicksort_sort_SorteraJIII_258 : decode prog_46_method_13_code 258 = .ok (.lload 15, 2) := by decide +kernel
theorem d_DualPivotQuicksort_sort_SorteraJIII_260 : decode prog_46_method_13_code 260 = .ok (.lastore, 1) := by decide +kernel
theorem v_DualPivotQuicksort_sort_SorteraJIII_229 {G : XG} {d : Nat} {h : XH} {Q : XV → XH → Prop} {X : Nat → XH → Prop} {x2 x3 x4 x5 x6 x8 x9 x10 x11 x12 x13 : Int} (F : xFix h) (hyp : 0 ≤ x9 ∧ x9 < 12000 ∧ 0 ≤ x12 ∧ x12 < 12000 ∧ (((xpl h 64 x12) ≤ (xpl h 64 x9) → (xwp G m_DualPivotQuicksort_sort_SorteraJIII (d + 141) 261 [xR (-1), xR 64, xI x2, xI x3, xI x4, xI x5, xI x6, xZ, xI x8, xI x9, xI x10, xI x11, xI x12, xL x13, xZ, xZ, xZ, xZ, xZ, xZ, xZ, xZ, xZ, xZ, xZ] [] h Q X)) ∧ (¬ (xpl h 64 x12) ≤ (xpl h 64 x9) → (xFix (xst (xst h 64 x9 (xpl h 64 x12)) 64 x12 (xpl h 64 x9)) → xwp G m_DualPivotQuicksort_sort_SorteraJIII (d + 141) 261 [xR (-1), xR 64, xI x2, xI x3, xI x4, xI x5, xI x6, xZ, xI x8, xI x9, xI x10, xI x11, xI x12, xL x13, xZ, xZ, xZ, xZ, xZ, xZ, xZ, xZ, xZ, xZ, xZ] [] (xst (xst h 64 x9 (xpl h 64 x12)) 64 x12 (xpl h 64 x9)) Q X)))) : xwp G m_DualPivotQuicksort_sort_SorteraJIII (d + 141) 229 [xR (-1), xR 64, xI x2, xI x3, xI x4, xI x5, xI x6, xZ, xI x8, xI x9, xI x10, xI x11, xI x12, xL x13, xZ, xZ, xZ, xZ, xZ, xZ, xZ, xZ, xZ, xZ, xZ] [] h Q X := by
  have hnx9 : (93 : Int) ≤ xnx h := F.2.2
  refine xr_okL (fun hl9 => ?_)
  have r_x2 : -2147483648 ≤ x2 ∧ x2 ≤ 2147483647 := hl9 (xI x2) (.tail _ (.tail _ (.head _))) (Nat.le_of_ble_eq_true rfl)
  have r_x3 : -2147483648 ≤ x3 ∧ x3 ≤ 2147483647 := hl9 (xI x3) (.tail _ (.tail _ (.tail _ (.head _)))) (Nat.le_of_ble_eq_true rfl)
  have r_x4 : -2147483648 ≤ x4 ∧ x4 ≤ 2147483647 := hl9 (xI x4) (.tail _ (.tail _ (.tail _ (.tail _ (.head _))))) (Nat.le_of_ble_eq_true rfl)
  have r_x5 : -2147483648 ≤ x5 ∧ x5 ≤ 2147483647 := hl9 (xI x5) (.tail _ (.tail _ (.tail _ (.tail _ (.tail _ (.head _)))))) (Nat.le_of_ble_eq_true rfl)
  have r_x6 : -2147483648 ≤ x6 ∧ x6 ≤ 2147483647 := hl9 (xI x6) (.tail _ (.tail _ (.tail _ (.tail _ (.tail _ (.tail _ (.head _))))))) (Nat.le_of_ble_eq_true rfl)
  have r_x8 : -2147483648 ≤ x8 ∧ x8 ≤ 2147483647 := hl9 (xI x8) (.tail _ (.tail _ (.tail _ (.tail _ (.tail _ (.tail _ (.tail _ (.tail _ (.head _))))))))) (Nat.le_of_ble_eq_true rfl)
  have r_x9 : -2147483648 ≤ x9 ∧ x9 ≤ 2147483647 := hl9 (xI x9) (.tail _ (.tail _ (.tail _ (.tail _ (.tail _ (.tail _ (.tail _ (.tail _ (.tail _ (.head _)))))))))) (Nat.le_of_ble_eq_true rfl)
  have r_x10 : -2147483648 ≤ x10 ∧ x10 ≤ 2147483647 := hl9 (xI x10) (.tail _ (.tail _ (.tail _ (.tail _ (.tail _ (.tail _ (.tail _ (.tail _ (.tail _ (.tail _ (.head _))))))))))) (Nat.le_of_ble_eq_true rfl)
  have r_x11 : -2147483648 ≤ x11 ∧ x11 ≤ 2147483647 := hl9 (xI x11) (.tail _ (.tail _ (.tail _ (.tail _ (.tail _ (.tail _ (.tail _ (.tail _ (.tail _ (.tail _ (.tail _ (.head _)))))))))))) (Nat.le_of_ble_eq_true rfl)
  have r_x12 : -2147483648 ≤ x12 ∧ x12 ≤ 2147483647 := hl9 (xI x12) (.tail _ (.tail _ (.tail _ (.tail _ (.tail _ (.tail _ (.tail _ (.tail _ (.tail _ (.tail _ (.tail _ (.tail _ (.head _))))))))))))) (Nat.le_of_ble_eq_true rfl)
  have r_x13 : -9223372036854775808 ≤ x13 ∧ x13 ≤ 9223372036854775807 := hl9 (xL x13) (.tail _ (.tail _ (.tail _ (.tail _ (.tail _ (.tail _ (.tail _ (.tail _ (.tail _ (.tail _ (.tail _ (.tail _ (.tail _ (.head _)))))))))))))) (Nat.le_of_ble_eq_true rfl)
  refine xr_aload_n (pc := 229) (i := 1) (hI := d_DualPivotQuicksort_sort_SorteraJIII_229) (hi := rfl) (hl := rfl) ?_
  refine xr_iload (pc := 230) (i := 9) (hI := d_DualPivotQuicksort_sort_SorteraJIII_230) (hl := rfl) ?_
  obtain ⟨c1_, hyp⟩ := hyp
  obtain ⟨c2_, hyp⟩ := hyp
  refine xg_laload (pc := 232) (v := (xpl h 64 x9)) (hI := d_DualPivotQuicksort_sort_SorteraJIII_232) (ft_64 F) c1_ (xlt_of (fl_64 F) c2_) rfl (fun f3_ => ?_)
  replace f3_ : -9223372036854775808 ≤ (xpl h 64 x9) ∧ (xpl h 64 x9) ≤ 9223372036854775807 := f3_
  refine xr_aload_n (pc := 233) (i := 1) (hI := d_DualPivotQuicksort_sort_SorteraJIII_233) (hi := rfl) (hl := rfl) ?_
  refine xr_iload (pc := 234) (i := 12) (hI := d_DualPivotQuicksort_sort_SorteraJIII_234) (hl := rfl) ?_
  obtain ⟨c4_, hyp⟩ := hyp
  obtain ⟨c5_, hyp⟩ := hyp
  refine xg_laload (pc := 236) (v := (xpl h 64 x12)) (hI := d_DualPivotQuicksort_sort_SorteraJIII_236) (ft_64 F) c4_ (xlt_of (fl_64 F) c5_) rfl (fun f6_ => ?_)
  replace f6_ : -9223372036854775808 ≤ (xpl h 64 x12) ∧ (xpl h 64 x12) ≤ 9223372036854775807 := f6_
  refine xr_lcmp (pc := 237) (hI := d_DualPivotQuicksort_sort_SorteraJIII_237) ?_
  refine xg_lif_ge (pc := 238) (tgt := 261) (hI := d_DualPivotQuicksort_sort_SorteraJIII_238) (ht := by decide) (fun q9 => ?_) (fun q9 => ?_)
  · replace hyp := hyp.1 q9
    have q7_ := q9
    clear q9
    exact hyp
  · replace hyp := hyp.2 q9
    have q7_ := q9
    clear q9
    refine xr_aload_n (pc := 241) (i := 1) (hI := d_DualPivotQuicksort_sort_SorteraJIII_241) (hi := rfl) (hl := rfl) ?_
    refine xr_iload (pc := 242) (i := 9) (hI := d_DualPivotQuicksort_sort_SorteraJIII_242) (hl := rfl) ?_
    refine xg_laload (pc := 244) (v := (xpl h 64 x9)) (hI := d_DualPivotQuicksort_sort_SorteraJIII_244) (ft_64 F) (by clear hyp; omega) (xlt_of (fl_64 F) (by clear hyp; omega)) rfl (fun f8_ => ?_)
    replace f8_ : -9223372036854775808 ≤ (xpl h 64 x9) ∧ (xpl h 64 x9) ≤ 9223372036854775807 := f8_
    refine xr_lstore (pc := 245) (i := 15) (L9 := [xR (-1), xR 64, xI x2, xI x3, xI x4, xI x5, xI x6, xZ, xI x8, xI x9, xI x10, xI x11, xI x12, xL x13, xZ, xL (xpl h 64 x9), xZ, xZ, xZ, xZ, xZ, xZ, xZ, xZ, xZ]) (hI := d_DualPivotQuicksort_sort_SorteraJIII_245) (hn := Nat.le_of_ble_eq_true rfl) (hL9 := rfl) ?_
    refine xr_aload_n (pc := 247) (i := 1) (hI := d_DualPivotQuicksort_sort_SorteraJIII_247) (hi := rfl) (hl := rfl) ?_
    refine xr_iload (pc := 248) (i := 9) (hI := d_DualPivotQuicksort_sort_SorteraJIII_248) (hl := rfl) ?_
    refine xr_aload_n (pc := 250) (i := 1) (hI := d_DualPivotQuicksort_sort_SorteraJIII_250) (hi := rfl) (hl := rfl) ?_
    refine xr_iload (pc := 251) (i := 12) (hI := d_DualPivotQuicksort_sort_SorteraJIII_251) (hl := rfl) ?_
    refine xg_laload (pc := 253) (v := (xpl h 64 x12)) (hI := d_DualPivotQuicksort_sort_SorteraJIII_253) (ft_64 F) (by clear hyp; omega) (xlt_of (fl_64 F) (by clear hyp; omega)) rfl (fun f9_ => ?_)
    replace f9_ : -9223372036854775808 ≤ (xpl h 64 x12) ∧ (xpl h 64 x12) ≤ 9223372036854775807 := f9_
    refine xr_lastore (pc := 254) (hI := d_DualPivotQuicksort_sort_SorteraJIII_254) (ft_64 F) (by decide) (by clear hyp; omega) (xlt_of (fl_64 F) (by clear hyp; omega)) ?_
    have F10_ : xFix (xst h 64 x9 (xpl h 64 x12)) := F.stA xfa_64
    refine xr_aload_n (pc := 255) (i := 1) (hI := d_DualPivotQuicksort_sort_SorteraJIII_255) (hi := rfl) (hl := rfl) ?_
    refine xr_iload (pc := 256) (i := 12) (hI := d_DualPivotQuicksort_sort_SorteraJIII_256) (hl := rfl) ?_
    refine xr_lload (pc := 258) (i := 15) (hI := d_DualPivotQuicksort_sort_SorteraJIII_258) (hl := rfl) ?_
    refine xr_lastore (pc := 260) (hI := d_DualPivotQuicksort_sort_SorteraJIII_260) (ft_64 F10_) (by decide) (by clear hyp; omega) (xlt_of (fl_64 F10_) (by clear hyp; omega)) ?_
    have F11_ : xFix (xst (xst h 64 x9 (xpl h 64 x12)) 64 x12 (xpl h 64 x9)) := F10_.stA xfa_64
    exact xr_drop (L9 := [xR (-1), xR 64, xI x2, xI x3, xI x4, xI x5, xI x6, xZ, xI x8, xI x9, xI x10, xI x11, xI x12, xL x13, xZ, xZ, xZ, xZ, xZ, xZ, xZ, xZ, xZ, xZ, xZ]) (xdrs (xdrs (xdrs (xdrs (xdrs (xdrs (xdrs (xdrs (xdrs (xdrs (xdrs (xdrs (xdrs (xdrs (xdrs (xdrz (xdrs (xdrs (xdrs (xdrs (xdrs (xdrs (xdrs (xdrs (xdrs xdr0))))))))))))))))))))))))) (hyp F11_)
theorem d_DualPivotQuicksort_sort_SorteraJIII_261 : decode prog_46_method_13_code 261 = .ok (.aload_n 1, 1) := by decide +kernel
theorem d_DualPivotQuicksort_sort_SorteraJIII_262 : decode prog_46_method_13_code 262 = .ok (.iload 11, 2) := by decide +kernel
theorem d_DualPivotQuicksort_sort_SorteraJIII_264 : decode prog_46_method_13_code 264 = .ok (.laload, 1) := by decide +kernel
theorem d_DualPivotQuicksort_sort_SorteraJIII_265 : decode prog_46_method_13_code 265 = .ok (.aload_n 1, 1) := by decide +kernel
theorem d_DualPivotQuicksort_sort_SorteraJIII_266 : decode prog_46_method_13_code 266 = .ok (.iload 8, 2) := by decide +kernel
theorem d_DualPivotQuicksort_sort_SorteraJIII_268 : decode prog_46_method_13_code 268 = .ok (.laload, 1) := by decide +kernel
theorem d_DualPivotQuicksort_sort_SorteraJIII_269 : decode prog_46_method_13_code 269 = .ok (.lcmp, 1) := by decide +kernel
theorem d_DualPivotQuicksort_sort_SorteraJIII_270 : decode prog_46_method_13_code 270 = .ok (.ifCond .ge 23, 3) := by decide +kernel
theorem d_DualPivotQuicksort_sort_SorteraJIII_273 : decode prog_46_method_13_code 273 = .ok (.aload_n 1, 1) := by decide +kernel
theorem d_DualPivotQuicksort_sort_SorteraJIII_274 : decode prog_46_method_13_code 274 = .ok (.iload 11, 2) := by decide +kernel
theorem d_DualPivotQuicksort_sort_SorteraJIII_276 : decode prog_46_method_13_code 276 = .ok (.laload, 1) := by decide +kernel
theorem d_DualPivotQuicksort_sort_SorteraJIII_277 : decode prog_46_method_13_code 277 = .ok (.lstore 15, 2) := by decide +kernel
theorem d_DualPivotQuicksort_sort_SorteraJIII_279 : decode prog_46_method_13_code 279 = .ok (.aload_n 1, 1) := by decide +kernel
theorem d_DualPivotQuicksort_sort_SorteraJIII_280 : decode prog_46_method_13_code 280 = .ok (.iload 11, 2) := by decide +kernel
theorem d_DualPivotQuicksort_sort_SorteraJIII_282 : decode prog_46_method_13_code 282 = .ok (.aload_n 1, 1) := by decide +kernel
theorem d_DualPivotQuicksort_sort_SorteraJIII_283 : decode prog_46_method_13_code 283 = .ok (.iload 8, 2) := by decide +kernel
theorem d_DualPivotQuicksort_sort_SorteraJIII_285 : decode prog_46_method_13_code 285 = .ok (.laload, 1) := by decide +kernel
theorem d_DualPivotQuicksort_sort_SorteraJIII_286 : decode prog_46_method_13_code 286 = .ok (.lastore, 1) := by decide +kernel
theorem d_DualPivotQuicksort_sort_SorteraJIII_287 : decode prog_46_method_13_code 287 = .ok (.aload_n 1, 1) := by decide +kernel
theorem d_DualPivotQuicksort_sort_SorteraJIII_288 : decode prog_46_method_13_code 288 = .ok (.iload 8, 2) := by decide +kernel
theorem d_DualPivotQuicksort_sort_SorteraJIII_290 : decode prog_46_method_13_code 290 = .ok (.lload 15, 2) := by decide +kernel
theorem d_DualPivotQuicksort_sort_SorteraJIII_292 : decode prog_46_method_13_code 292 = .ok (.lastore, 1) := by decide +kernel
theorem v_DualPivotQuicksort_sort_SorteraJIII_261 {G : XG} {d : Nat} {h : XH} {Q : XV → XH → Prop} {X : Nat → XH → Prop} {x2 x3 x4 x5 x6 x8 x9 x10 x11 x12 x13 : Int} (F : xFix h) (hyp : 0 ≤ x11 ∧ x11 < 12000 ∧ 0 ≤ x8 ∧ x8 < 12000 ∧ (((xpl h 64 x8) ≤ (xpl h 64 x11) → (xwp G m_DualPivotQuicksort_sort_SorteraJIII (d + 141) 293 [xR (-1), xR 64, xI x2, xI x3, xI x4, xI x5, xI x6, xZ, xI x8, xI x9, xI x10, xI x11, xI x12, xL x13, xZ, xZ, xZ, xZ, xZ, xZ, xZ, xZ, xZ, xZ, xZ] [] h Q X)) ∧ (¬ (xpl h 64 x8) ≤ (xpl h 64 x11) → (xFix (xst (xst h 64 x11 (xpl h 64 x8)) 64 x8 (xpl h 64 x11)) → xwp G m_DualPivotQuicksort_sort_SorteraJIII (d + 141) 293 [xR (-1), xR 64, xI x2, xI x3, xI x4, xI x5, xI x6, xZ, xI x8, xI x9, xI x10, xI x11, xI x12, xL x13, xZ, xZ, xZ, xZ, xZ, xZ, xZ, xZ, xZ, xZ, xZ] [] (xst (xst h 64 x11 (xpl h 64 x8)) 64 x8 (xpl h 64 x11)) Q X)))) : xwp G m_DualPivotQuicksort_sort_SorteraJIII (d + 141) 261 [xR (-1), xR 64, xI x2, xI x3, xI x4, xI x5, xI x6, xZ, xI x8, xI x9, xI x10, xI x11, xI x12, xL x13, xZ, xZ, xZ, xZ, xZ, xZ, xZ, xZ, xZ, xZ, xZ] [] h Q X := by
  have hnx9 : (93 : Int) ≤ xnx h := F.2.2
  refine xr_okL (fun hl9 => ?_)
  have r_x2 : -2147483648 ≤ x2 ∧ x2 ≤ 2147483647 := hl9 (xI x2) (.tail _ (.tail _ (.head _))) (Nat.le_of_ble_eq_true rfl)
  have r_x3 : -2147483648 ≤ x3 ∧ x3 ≤ 2147483647 := hl9 (xI x3) (.tail _ (.tail _ (.tail _ (.head _)))) (Nat.le_of_ble_eq_true rfl)
  have r_x4 : -2147483648 ≤ x4 ∧ x4 ≤ 2147483647 := hl9 (xI x4) (.tail _ (.tail _ (.tail _ (.tail _ (.head _))))) (Nat.le_of_ble_eq_true rfl)
  have r_x5 : -2147483648 ≤ x5 ∧ x5 ≤ 2147483647 := hl9 (xI x5) (.tail _ (.tail _ (.tail _ (.tail _ (.tail _ (.head _)))))) (Nat.le_of_ble_eq_true rfl)
  have r_x6 : -2147483648 ≤ x6 ∧ x6 ≤ 2147483647 := hl9 (xI x6) (.tail _ (.tail _ (.tail _ (.tail _ (.tail _ (.tail _ (.head _))))))) (Nat.le_of_ble_eq_true rfl)
  have r_x8 : -2147483648 ≤ x8 ∧ x8 ≤ 2147483647 := hl9 (xI x8) (.tail _ (.tail _ (.tail _ (.tail _ (.tail _ (.tail _ (.tail _ (.tail _ (.head _))))))))) (Nat.le_of_ble_eq_true rfl)
  have r_x9 : -2147483648 ≤ x9 ∧ x9 ≤ 2147483647 := hl9 (xI x9) (.tail _ (.tail _ (.tail _ (.tail _ (.tail _ (.tail _ (.tail _ (.tail _ (.tail _ (.head _)))))))))) (Nat.le_of_ble_eq_true rfl)
  have r_x10 : -2147483648 ≤ x10 ∧ x10 ≤ 2147483647 := hl9 (xI x10) (.tail _ (.tail _ (.tail _ (.tail _ (.tail _ (.tail _ (.tail _ (.tail _ (.tail _ (.tail _ (.head _))))))))))) (Nat.le_of_ble_eq_true rfl)
  have r_x11 : -2147483648 ≤ x11 ∧ x11 ≤ 2147483647 := hl9 (xI x11) (.tail _ (.tail _ (.tail _ (.tail _ (.tail _ (.tail _ (.tail _ (.tail _ (.tail _ (.tail _ (.tail _ (.head _)))))))))))) (Nat.le_of_ble_eq_true rfl)
  have r_x12 : -2147483648 ≤ x12 ∧ x12 ≤ 2147483647 := hl9 (xI x12) (.tail _ (.tail _ (.tail _ (.tail _ (.tail _ (.tail _ (.tail _ (.tail _ (.tail _ (.tail _ (.tail _ (.tail _ (.head _))))))))))))) (Nat.le_of_ble_eq_true rfl)
  have r_x13 : -9223372036854775808 ≤ x13 ∧ x13 ≤ 9223372036854775807 := hl9 (xL x13) (.tail _ (.tail _ (.tail _ (.tail _ (.tail _ (.tail _ (.tail _ (.tail _ (.tail _ (.tail _ (.tail _ (.tail _ (.tail _ (.head _)))))))))))))) (Nat.le_of_ble_eq_true rfl)
  refine xr_aload_n (pc := 261) (i := 1) (hI := d_DualPivotQuicksort_sort_SorteraJIII_261) (hi := rfl) (hl := rfl) ?_
  refine xr_iload (pc := 262) (i := 11) (hI := d_DualPivotQuicksort_sort_SorteraJIII_262) (hl := rfl) ?_
  obtain ⟨c1_, hyp⟩ := hyp
  obtain ⟨c2_, hyp⟩ := hyp
  refine xg_laload (pc := 264) (v := (xpl h 64 x11)) (hI := d_DualPivotQuicksort_sort_SorteraJIII_264) (ft_64 F) c1_ (xlt_of (fl_64 F) c2_) rfl (fun f3_ => ?_)
  replace f3_ : -9223372036854775808 ≤ (xpl h 64 x11) ∧ (xpl h 64 x11) ≤ 9223372036854775807 := f3_
  refine xr_aload_n (pc := 265) (i := 1) (hI := d_DualPivotQuicksort_sort_SorteraJIII_265) (hi := rfl) (hl := rfl) ?_
  refine xr_iload (pc := 266) (i := 8) (hI := d_DualPivotQuicksort_sort_SorteraJIII_266) (hl := rfl) ?_
  obtain ⟨c4_, hyp⟩ := hyp
  obtain ⟨c5_, hyp⟩ := hyp
  refine xg_laload (pc := 268) (v := (xpl h 64 x8)) (hI := d_DualPivotQuicksort_sort_SorteraJIII_268) (ft_64 F) c4_ (xlt_of (fl_64 F) c5_) rfl (fun f6_ => ?_)
  replace f6_ : -9223372036854775808 ≤ (xpl h 64 x8) ∧ (xpl h 64 x8) ≤ 9223372036854775807 := f6_
  refine xr_lcmp (pc := 269) (hI := d_DualPivotQuicksort_sort_SorteraJIII_269) ?_
  refine xg_lif_ge (pc := 270) (tgt := 293) (hI := d_DualPivotQuicksort_sort_SorteraJIII_270) (ht := by decide) (fun q9 => ?_) (fun q9 => ?_)
  · replace hyp := hyp.1 q9
    have q7_ := q9
    clear q9
    exact hyp
  · replace hyp := hyp.2 q9
    have q7_ := q9
    clear q9
    refine xr_aload_n (pc := 273) (i := 1) (hI := d_DualPivotQuicksort_sort_SorteraJIII_273) (hi := rfl) (hl := rfl) ?_
    refine xr_iload (pc := 274) (i := 11) (hI := d_DualPivotQuicksort_sort_SorteraJIII_274) (hl := rfl) ?_
    refine xg_laload (pc := 276) (v := (xpl h 64 x11)) (hI := d_DualPivotQuicksort_sort_SorteraJIII_276) (ft_64 F) (by clear hyp; omega) (xlt_of (fl_64 F) (by clear hyp; omega)) rfl (fun f8_ => ?_)
    replace f8_ : -9223372036854775808 ≤ (xpl h 64 x11) ∧ (xpl h 64 x11) ≤ 9223372036854775807 := f8_
    refine xr_lstore (pc := 277) (i := 15) (L9 := [xR (-1), xR 64, xI x2, xI x3, xI x4, xI x5, xI x6, xZ, xI x8, xI x9, xI x10, xI x11, xI x12, xL x13, xZ, xL (xpl h 64 x11), xZ, xZ, xZ, xZ, xZ, xZ, xZ, xZ, xZ]) (hI := d_DualPivotQuicksort_sort_SorteraJIII_277) (hn := Nat.le_of_ble_eq_true rfl) (hL9 := rfl) ?_
    refine xr_aload_n (pc := 279) (i := 1) (hI := d_DualPivotQuicksort_sort_SorteraJIII_279) (hi := rfl) (hl := rfl) ?_
    refine xr_iload (pc := 280) (i := 11) (hI := d_DualPivotQuicksort_sort_SorteraJIII_280) (hl := rfl) ?_
    refine xr_aload_n (pc := 282) (i := 1) (hI := d_DualPivotQuicksort_sort_SorteraJIII_282) (hi := rfl) (hl := rfl) ?_
    refine xr_iload (pc := 283) (i := 8) (hI := d_DualPivotQuicksort_sort_SorteraJIII_283) (hl := rfl) ?_
    refine xg_laload (pc := 285) (v := (xpl h 64 x8)) (hI := d_DualPivotQuicksort_sort_SorteraJIII_285) (ft_64 F) (by clear hyp; omega) (xlt_of (fl_64 F) (by clear hyp; omega)) rfl (fun f9_ => ?_)
    replace f9_ : -9223372036854775808 ≤ (xpl h 64 x8) ∧ (xpl h 64 x8) ≤ 9223372036854775807 := f9_
    refine xr_lastore (pc := 286) (hI := d_DualPivotQuicksort_sort_SorteraJIII_286) (ft_64 F) (by decide) (by clear hyp; omega) (xlt_of (fl_64 F) (by clear hyp; omega)) ?_
    have F10_ : xFix (xst h 64 x11 (xpl h 64 x8)) := F.stA xfa_64
    refine xr_aload_n (pc := 287) (i := 1) (hI := d_DualPivotQuicksort_sort_SorteraJIII_287) (hi := rfl) (hl := rfl) ?_
    refine xr_iload (pc := 288) (i := 8) (hI := d_DualPivotQuicksort_sort_SorteraJIII_288) (hl := rfl) ?_
    refine xr_lload (pc := 290) (i := 15) (hI := d_DualPivotQuicksort_sort_SorteraJIII_290) (hl := rfl) ?_
    refine xr_lastore (pc := 292) (hI := d_DualPivotQuicksort_sort_SorteraJIII_292) (ft_64 F10_) (by decide) (by clear hyp; omega) (xlt_of (fl_64 F10_) (by clear hyp; omega)) ?_
    have F11_ : xFix (xst (xst h 64 x11 (xpl h 64 x8)) 64 x8 (xpl h 64 x11)) := F10_.stA xfa_64
    exact xr_drop (L9 := [xR (-1), xR 64, xI x2, xI x3, xI x4, xI x5, xI x6, xZ, xI x8, xI x9, xI x10, xI x11, xI x12, xL x13, xZ, xZ, xZ, xZ, xZ, xZ, xZ, xZ, xZ, xZ, xZ]) (xdrs (xdrs (xdrs (xdrs (xdrs (xdrs (xdrs (xdrs (xdrs (xdrs (xdrs (xdrs (xdrs (xdrs (xdrs (xdrz (xdrs (xdrs (xdrs (xdrs (xdrs (xdrs (xdrs (xdrs (xdrs xdr0))))))))))))))))))))))))) (hyp F11_)
theorem d_DualPivotQuicksort_sort_SorteraJIII_293 : decode prog_46_method_13_code 293 = .ok (.aload_n 1, 1) := by decide +kernel
theorem d_DualPivotQuicksort_sort_SorteraJIII_294 : decode prog_46_method_13_code 294 = .ok (.iload 12, 2) := by decide +kernel
theorem d_DualPivotQuicksort_sort_SorteraJIII_296 : decode prog_46_method_13_code 296 = .ok (.laload, 1) := by decide +kernel
theorem d_DualPivotQuicksort_sort_SorteraJIII_297 : decode prog_46_method_13_code 297 = .ok (.aload_n 1, 1) := by decide +kernel
theorem d_DualPivotQuicksort_sort_SorteraJIII_298 : decode prog_46_method_13_code 298 = .ok (.iload 11, 2) := by decide +kernel
theorem d_DualPivotQuicksort_sort_SorteraJIII_300 : decode prog_46_method_13_code 300 = .ok (.laload, 1) := by decide +kernel
theorem d_DualPivotQuicksort_sort_SorteraJIII_301 : decode prog_46_method_13_code 301 = .ok (.lcmp, 1) := by decide +kernel
theorem d_DualPivotQuicksort_sort_SorteraJIII_302 : decode prog_46_method_13_code 302 = .ok (.ifCond .ge 23, 3) := by decide +kernel
theorem d_DualPivotQuicksort_sort_SorteraJIII_305 : decode prog_46_method_13_code 305 = .ok (.aload_n 1, 1) := by decide +kernel
theorem d_DualPivotQuicksort_sort_SorteraJIII_306 : decode prog_46_method_13_code 306 = .ok (.iload 12, 2) := by decide +kernel
theorem d_DualPivotQuicksort_sort_SorteraJIII_308 : decode prog_46_method_13_code 308 = .ok (.laload, 1) := by decide +kernel
theorem d_DualPivotQuicksort_sort_SorteraJIII_309 : decode prog_46_method_13_code 309 = .ok (.lstore 15, 2) := by decide +kernel
theorem d_DualPivotQuicksort_sort_SorteraJIII_311 : decode prog_46_method_13_code 311 = .ok (.aload_n 1, 1) := by decide +kernel
theorem d_DualPivotQuicksort_sort_SorteraJIII_312 : decode prog_46_method_13_code 312 = .ok (.iload 12, 2) := by decide +kernel
theorem d_DualPivotQuicksort_sort_SorteraJIII_314 : decode prog_46_method_13_code 314 = .ok (.aload_n 1, 1) := by decide +kernel
theorem d_DualPivotQuicksort_sort_SorteraJIII_315 : decode prog_46_method_13_code 315 = .ok (.iload 11, 2) := by decide +kernel
theorem d_DualPivotQuicksort_sort_SorteraJIII_317 : decode prog_46_method_13_code 317 = .ok (.laload, 1) := by decide +kernel
theorem d_DualPivotQuicksort_sort_SorteraJIII_318 : decode prog_46_method_13_code 318 = .ok (.lastore, 1) := by decide +kernel
theorem d_DualPivotQuicksort_sort_SorteraJIII_319 : decode prog_46_method_13_code 319 = .ok (.aload_n 1, 1) := by decide +kernel
theorem d_DualPivotQuicksort_sort_SorteraJIII_320 : decode prog_46_method_13_code 320 = .ok (.iload 11, 2) := by decide +kernel
theorem d_DualPivotQuicksort_sort_SorteraJIII_322 : decode prog_46_method_13_code 322 = .ok (.lload 15, 2) := by decide +kernel
theorem d_DualPivotQuicksort_sort_SorteraJIII_324 : decode prog_46_method_13_code 324 = .ok (.lastore, 1) := by decide +kernel
theorem v_DualPivotQuicksort_sort_SorteraJIII_293 {G : XG} {d : Nat} {h : XH} {Q : XV → XH → Prop} {X : Nat → XH → Prop} {x2 x3 x4 x5 x6 x8 x9 x10 x11 x12 x13 : Int} (F : xFix h) (hyp : 0 ≤ x12 ∧ x12 < 12000 ∧ 0 ≤ x11 ∧ x11 < 12000 ∧ (((xpl h 64 x11) ≤ (xpl h 64 x12) → (xwp G m_DualPivotQuicksort_sort_SorteraJIII (d + 141) 325 [xR (-1), xR 64, xI x2, xI x3, xI x4, xI x5, xI x6, xZ, xI x8, xI x9, xI x10, xI x11, xI x12, xL x13, xZ, xZ, xZ, xZ, xZ, xZ, xZ, xZ, xZ, xZ, xZ] [] h Q X)) ∧ (¬ (xpl h 64 x11) ≤ (xpl h 64 x12) → (xFix (xst (xst h 64 x12 (xpl h 64 x11)) 64 x11 (xpl h 64 x12)) → xwp G m_DualPivotQuicksort_sort_SorteraJIII (d + 141) 325 [xR (-1), xR 64, xI x2, xI x3, xI x4, xI x5, xI x6, xZ, xI x8, xI x9, xI x10, xI x11, xI x12, xL x13, xZ, xZ, xZ, xZ, xZ, xZ, xZ, xZ, xZ, xZ, xZ] [] (xst (xst h 64 x12 (xpl h 64 x11)) 64 x11 (xpl h 64 x12)) Q X)))) : xwp G m_DualPivotQuicksort_sort_SorteraJIII (d + 141) 293 [xR (-1), xR 64, xI x2, xI x3, xI x4, xI x5, xI x6, xZ, xI x8, xI x9, xI x10, xI x11, xI x12, xL x13, xZ, xZ, xZ, xZ, xZ, xZ, xZ, xZ, xZ, xZ, xZ] [] h Q X := by
  have hnx9 : (93 : Int) ≤ xnx h := F.2.2
  refine xr_okL (fun hl9 => ?_)
  have r_x2 : -2147483648 ≤ x2 ∧ x2 ≤ 2147483647 := hl9 (xI x2) (.tail _ (.tail _ (.head _))) (Nat.le_of_ble_eq_true rfl)
  have r_x3 : -2147483648 ≤ x3 ∧ x3 ≤ 2147483647 := hl9 (xI x3) (.tail _ (.tail _ (.tail _ (.head _)))) (Nat.le_of_ble_eq_true rfl)
  have r_x4 : -2147483648 ≤ x4 ∧ x4 ≤ 2147483647 := hl9 (xI x4) (.tail _ (.tail _ (.tail _ (.tail _ (.head _))))) (Nat.le_of_ble_eq_true rfl)
  have r_x5 : -2147483648 ≤ x5 ∧ x5 ≤ 2147483647 := hl9 (xI x5) (.tail _ (.tail _ (.tail _ (.tail _ (.tail _ (.head _)))))) (Nat.le_of_ble_eq_true rfl)
  have r_x6 : -2147483648 ≤ x6 ∧ x6 ≤ 2147483647 := hl9 (xI x6) (.tail _ (.tail _ (.tail _ (.tail _ (.tail _ (.tail _ (.head _))))))) (Nat.le_of_ble_eq_true rfl)
  have r_x8 : -2147483648 ≤ x8 ∧ x8 ≤ 2147483647 := hl9 (xI x8) (.tail _ (.tail _ (.tail _ (.tail _ (.tail _ (.tail _ (.tail _ (.tail _ (.head _))))))))) (Nat.le_of_ble_eq_true rfl)
  have r_x9 : -2147483648 ≤ x9 ∧ x9 ≤ 2147483647 := hl9 (xI x9) (.tail _ (.tail _ (.tail _ (.tail _ (.tail _ (.tail _ (.tail _ (.tail _ (.tail _ (.head _)))))))))) (Nat.le_of_ble_eq_true rfl)
  have r_x10 : -2147483648 ≤ x10 ∧ x10 ≤ 2147483647 := hl9 (xI x10) (.tail _ (.tail _ (.tail _ (.tail _ (.tail _ (.tail _ (.tail _ (.tail _ (.tail _ (.tail _ (.head _))))))))))) (Nat.le_of_ble_eq_true rfl)
  have r_x11 : -2147483648 ≤ x11 ∧ x11 ≤ 2147483647 := hl9 (xI x11) (.tail _ (.tail _ (.tail _ (.tail _ (.tail _ (.tail _ (.tail _ (.tail _ (.tail _ (.tail _ (.tail _ (.head _)))))))))))) (Nat.le_of_ble_eq_true rfl)
  have r_x12 : -2147483648 ≤ x12 ∧ x12 ≤ 2147483647 := hl9 (xI x12) (.tail _ (.tail _ (.tail _ (.tail _ (.tail _ (.tail _ (.tail _ (.tail _ (.tail _ (.tail _ (.tail _ (.tail _ (.head _))))))))))))) (Nat.le_of_ble_eq_true rfl)
  have r_x13 : -9223372036854775808 ≤ x13 ∧ x13 ≤ 9223372036854775807 := hl9 (xL x13) (.tail _ (.tail _ (.tail _ (.tail _ (.tail _ (.tail _ (.tail _ (.tail _ (.tail _ (.tail _ (.tail _ (.tail _ (.tail _ (.head _)))))))))))))) (Nat.le_of_ble_eq_true rfl)
  refine xr_aload_n (pc := 293) (i := 1) (hI := d_DualPivotQuicksort_sort_SorteraJIII_293) (hi := rfl) (hl := rfl) ?_
  refine xr_iload (pc := 294) (i := 12) (hI := d_DualPivotQuicksort_sort_SorteraJIII_294) (hl := rfl) ?_
  obtain ⟨c1_, hyp⟩ := hyp
  obtain ⟨c2_, hyp⟩ := hyp
  refine xg_laload (pc := 296) (v := (xpl h 64 x12)) (hI := d_DualPivotQuicksort_sort_SorteraJIII_296) (ft_64 F) c1_ (xlt_of (fl_64 F) c2_) rfl (fun f3_ => ?_)
  replace f3_ : -9223372036854775808 ≤ (xpl h 64 x12) ∧ (xpl h 64 x12) ≤ 9223372036854775807 := f3_
  refine xr_aload_n (pc := 297) (i := 1) (hI := d_DualPivotQuicksort_sort_SorteraJIII_297) (hi := rfl) (hl := rfl) ?_
  refine xr_iload (pc := 298) (i := 11) (hI := d_DualPivotQuicksort_sort_SorteraJIII_298) (hl := rfl) ?_
  obtain ⟨c4_, hyp⟩ := hyp
  obtain ⟨c5_, hyp⟩ := hyp
  refine xg_laload (pc := 300) (v := (xpl h 64 x11)) (hI := d_DualPivotQuicksort_sort_SorteraJIII_300) (ft_64 F) c4_ (xlt_of (fl_64 F) c5_) rfl (fun f6_ => ?_)
  replace f6_ : -9223372036854775808 ≤ (xpl h 64 x11) ∧ (xpl h 64 x11) ≤ 9223372036854775807 := f6_
  refine xr_lcmp (pc := 301) (hI := d_DualPivotQuicksort_sort_SorteraJIII_301) ?_
  refine xg_lif_ge (pc := 302) (tgt := 325) (hI := d_DualPivotQuicksort_sort_SorteraJIII_302) (ht := by decide) (fun q9 => ?_) (fun q9 => ?_)
  · replace hyp := hyp.1 q9
    have q7_ := q9
    clear q9
    exact hyp
  · replace hyp := hyp.2 q9
    have q7_ := q9
    clear q9
    refine xr_aload_n (pc := 305) (i := 1) (hI := d_DualPivotQuicksort_sort_SorteraJIII_305) (hi := rfl) (hl := rfl) ?_
    refine xr_iload (pc := 306) (i := 12) (hI := d_DualPivotQuicksort_sort_SorteraJIII_306) (hl := rfl) ?_
    refine xg_laload (pc := 308) (v := (xpl h 64 x12)) (hI := d_DualPivotQuicksort_sort_SorteraJIII_308) (ft_64 F) (by clear hyp; omega) (xlt_of (fl_64 F) (by clear hyp; omega)) rfl (fun f8_ => ?_)
    replace f8_ : -9223372036854775808 ≤ (xpl h 64 x12) ∧ (xpl h 64 x12) ≤ 9223372036854775807 := f8_
    refine xr_lstore (pc := 309) (i := 15) (L9 := [xR (-1), xR 64, xI x2, xI x3, xI x4, xI x5, xI x6, xZ, xI x8, xI x9, xI x10, xI x11, xI x12, xL x13, xZ, xL (xpl h 64 x12), xZ, xZ, xZ, xZ, xZ, xZ, xZ, xZ, xZ]) (hI := d_DualPivotQuicksort_sort_SorteraJIII_309) (hn := Nat.le_of_ble_eq_true rfl) (hL9 := rfl) ?_
    refine xr_aload_n (pc := 311) (i := 1) (hI := d_DualPivotQuicksort_sort_SorteraJIII_311) (hi := rfl) (hl := rfl) ?_
    refine xr_iload (pc := 312) (i := 12) (hI := d_DualPivotQuicksort_sort_SorteraJIII_312) (hl := rfl) ?_
    refine xr_aload_n (pc := 314) (i := 1) (hI := d_DualPivotQuicksort_sort_SorteraJIII_314) (hi := rfl) (hl := rfl) ?_
    refine xr_iload (pc := 315) (i := 11) (hI := d_DualPivotQuicksort_sort_SorteraJIII_315) (hl := rfl) ?_
    refine xg_laload (pc := 317) (v := (xpl h 64 x11)) (hI := d_DualPivotQuicksort_sort_SorteraJIII_317) (ft_64 F) (by clear hyp; omega) (xlt_of (fl_64 F) (by clear hyp; omega)) rfl (fun f9_ => ?_)
    replace f9_ : -9223372036854775808 ≤ (xpl h 64 x11) ∧ (xpl h 64 x11) ≤ 9223372036854775807 := f9_
    refine xr_lastore (pc := 318) (hI := d_DualPivotQuicksort_sort_SorteraJIII_318) (ft_64 F) (by decide) (by clear hyp; omega) (xlt_of (fl_64 F) (by clear hyp; omega)) ?_
    have F10_ : xFix (xst h 64 x12 (xpl h 64 x11)) := F.stA xfa_64
    refine xr_aload_n (pc := 319) (i := 1) (hI := d_DualPivotQuicksort_sort_SorteraJIII_319) (hi := rfl) (hl := rfl) ?_
    refine xr_iload (pc := 320) (i := 11) (hI := d_DualPivotQuicksort_sort_SorteraJIII_320) (hl := rfl) ?_
    refine xr_lload (pc := 322) (i := 15) (hI := d_DualPivotQuicksort_sort_SorteraJIII_322) (hl := rfl) ?_
    refine xr_lastore (pc := 324) (hI := d_DualPivotQuicksort_sort_SorteraJIII_324) (ft_64 F10_) (by decide) (by clear hyp; omega) (xlt_of (fl_64 F10_) (by clear hyp; omega)) ?_
    have F11_ : xFix (xst (xst h 64 x12 (xpl h 64 x11)) 64 x11 (xpl h 64 x12)) := F10_.stA xfa_64
    exact xr_drop (L9 := [xR (-1), xR 64, xI x2, xI x3, xI x4, xI x5, xI x6, xZ, xI x8, xI x9, xI x10, xI x11, xI x12, xL x13, xZ, xZ, xZ, xZ, xZ, xZ, xZ, xZ, xZ, xZ, xZ]) (xdrs (xdrs (xdrs (xdrs (xdrs (xdrs (xdrs (xdrs (xdrs (xdrs (xdrs (xdrs (xdrs (xdrs (xdrs (xdrz (xdrs (xdrs (xdrs (xdrs (xdrs (xdrs (xdrs (xdrs (xdrs xdr0))))))))))))))))))))))))) (hyp F11_)
theorem d_DualPivotQuicksort_sort_SorteraJIII_325 : decode prog_46_method_13_code 325 = .ok (.lload 13, 2) := by decide +kernel
theorem d_DualPivotQuicksort_sort_SorteraJIII_327 : decode prog_46_method_13_code 327 = .ok (.aload_n 1, 1) := by decide +kernel
theorem d_DualPivotQuicksort_sort_SorteraJIII_328 : decode prog_46_method_13_code 328 = .ok (.iload 11, 2) := by decide +kernel
theorem d_DualPivotQuicksort_sort_SorteraJIII_330 : decode prog_46_method_13_code 330 = .ok (.laload, 1) := by decide +kernel
theorem d_DualPivotQuicksort_sort_SorteraJIII_331 : decode prog_46_method_13_code 331 = .ok (.lcmp, 1) := by decide +kernel
theorem d_DualPivotQuicksort_sort_SorteraJIII_332 : decode prog_46_method_13_code 332 = .ok (.ifCond .ge 55, 3) := by decide +kernel
theorem d_DualPivotQuicksort_sort_SorteraJIII_387 : decode prog_46_method_13_code 387 = .ok (.lload 13, 2) := by decide +kernel
theorem d_DualPivotQuicksort_sort_SorteraJIII_389 : decode prog_46_method_13_code 389 = .ok (.aload_n 1, 1) := by decide +kernel
theorem d_DualPivotQuicksort_sort_SorteraJIII_390 : decode prog_46_method_13_code 390 = .ok (.iload 12, 2) := by decide +kernel
theorem d_DualPivotQuicksort_sort_SorteraJIII_392 : decode prog_46_method_13_code 392 = .ok (.laload, 1) := by decide +kernel
theorem d_DualPivotQuicksort_sort_SorteraJIII_393 : decode prog_46_method_13_code 393 = .ok (.lcmp, 1) := by decide +kernel
theorem d_DualPivotQuicksort_sort_SorteraJIII_394 : decode prog_46_method_13_code 394 = .ok (.ifCond .le 52, 3) := by decide +kernel
theorem d_DualPivotQuicksort_sort_SorteraJIII_397 : decode prog_46_method_13_code 397 = .ok (.lload 13, 2) := by decide +kernel
theorem d_DualPivotQuicksort_sort_SorteraJIII_399 : decode prog_46_method_13_code 399 = .ok (.aload_n 1, 1) := by decide +kernel
theorem d_DualPivotQuicksort_sort_SorteraJIII_400 : decode prog_46_method_13_code 400 = .ok (.iload 9, 2) := by decide +kernel
theorem d_DualPivotQuicksort_sort_SorteraJIII_402 : decode prog_46_method_13_code 402 = .ok (.laload, 1) := by decide +kernel
theorem d_DualPivotQuicksort_sort_SorteraJIII_403 : decode prog_46_method_13_code 403 = .ok (.lcmp, 1) := by decide +kernel
theorem d_DualPivotQuicksort_sort_SorteraJIII_404 : decode prog_46_method_13_code 404 = .ok (.ifCond .le 28, 3) := by decide +kernel
theorem d_DualPivotQuicksort_sort_SorteraJIII_432 : decode prog_46_method_13_code 432 = .ok (.aload_n 1, 1) := by decide +kernel
theorem d_DualPivotQuicksort_sort_SorteraJIII_433 : decode prog_46_method_13_code 433 = .ok (.iload 10, 2) := by decide +kernel
theorem d_DualPivotQuicksort_sort_SorteraJIII_435 : decode prog_46_method_13_code 435 = .ok (.aload_n 1, 1) := by decide +kernel
theorem d_DualPivotQuicksort_sort_SorteraJIII_436 : decode prog_46_method_13_code 436 = .ok (.iload 12, 2) := by decide +kernel
theorem d_DualPivotQuicksort_sort_SorteraJIII_438 : decode prog_46_method_13_code 438 = .ok (.laload, 1) := by decide +kernel
theorem d_DualPivotQuicksort_sort_SorteraJIII_439 : decode prog_46_method_13_code 439 = .ok (.lastore, 1) := by decide +kernel
theorem d_DualPivotQuicksort_sort_SorteraJIII_440 : decode prog_46_method_13_code 440 = .ok (.aload_n 1, 1) := by decide +kernel
theorem d_DualPivotQuicksort_sort_SorteraJIII_441 : decode prog_46_method_13_code 441 = .ok (.iload 12, 2) := by decide +kernel
theorem d_DualPivotQuicksort_sort_SorteraJIII_443 : decode prog_46_method_13_code 443 = .ok (.lload 13, 2) := by decide +kernel
theorem d_DualPivotQuicksort_sort_SorteraJIII_445 : decode prog_46_method_13_code 445 = .ok (.lastore, 1) := by decide +kernel
theorem d_DualPivotQuicksort_sort_SorteraJIII_407 : decode prog_46_method_13_code 407 = .ok (.aload_n 1, 1) := by decide +kernel
theorem d_DualPivotQuicksort_sort_SorteraJIII_408 : decode prog_46_method_13_code 408 = .ok (.iload 10, 2) := by decide +kernel
theorem d_DualPivotQuicksort_sort_SorteraJIII_410 : decode prog_46_method_13_code 410 = .ok (.aload_n 1, 1) := by decide +kernel
theorem d_DualPivotQuicksort_sort_SorteraJIII_411 : decode prog_46_method_13_code 411 = .ok (.iload 12, 2) := by decide +kernel
theorem d_DualPivotQuicksort_sort_SorteraJIII_413 : decode prog_46_method_13_code 413 = .ok (.laload, 1) := by decide +kernel
theorem d_DualPivotQuicksort_sort_SorteraJIII_414 : decode prog_46_method_13_code 414 = .ok (.lastore, 1) := by decide +kernel
theorem d_DualPivotQuicksort_sort_SorteraJIII_415 : decode prog_46_method_13_code 415 = .ok (.aload_n 1, 1) := by decide +kernel
theorem d_DualPivotQuicksort_sort_SorteraJIII_416 : decode prog_46_method_13_code 416 = .ok (.iload 12, 2) := by decide +kernel
theorem d_DualPivotQuicksort_sort_SorteraJIII_418 : decode prog_46_method_13_code 418 = .ok (.aload_n 1, 1) := by decide +kernel
theorem d_DualPivotQuicksort_sort_SorteraJIII_419 : decode prog_46_method_13_code 419 = .ok (.iload 9, 2) := by decide +kernel
theorem d_DualPivotQuicksort_sort_SorteraJIII_421 : decode prog_46_method_13_code 421 = .ok (.laload, 1) := by decide +kernel
theorem d_DualPivotQuicksort_sort_SorteraJIII_422 : decode prog_46_method_13_code 422 = .ok (.lastore, 1) := by decide +kernel
theorem d_DualPivotQuicksort_sort_SorteraJIII_423 : decode prog_46_method_13_code 423 = .ok (.aload_n 1, 1) := by decide +kernel
theorem d_DualPivotQuicksort_sort_SorteraJIII_424 : decode prog_46_method_13_code 424 = .ok (.iload 9, 2) := by decide +kernel
theorem d_DualPivotQuicksort_sort_SorteraJIII_426 : decode prog_46_method_13_code 426 = .ok (.lload 13, 2) := by decide +kernel
theorem d_DualPivotQuicksort_sort_SorteraJIII_428 : decode prog_46_method_13_code 428 = .ok (.lastore, 1) := by decide +kernel
theorem d_DualPivotQuicksort_sort_SorteraJIII_429 : decode prog_46_method_13_code 429 = .ok (.goto 17, 3) := by decide +kernel
theorem d_DualPivotQuicksort_sort_SorteraJIII_335 : decode prog_46_method_13_code 335 = .ok (.lload 13, 2) := by decide +kernel
theorem d_DualPivotQuicksort_sort_SorteraJIII_337 : decode prog_46_method_13_code 337 = .ok (.aload_n 1, 1) := by decide +kernel
theorem d_DualPivotQuicksort_sort_SorteraJIII_338 : decode prog_46_method_13_code 338 = .ok (.iload 8, 2) := by decide +kernel
theorem d_DualPivotQuicksort_sort_SorteraJIII_340 : decode prog_46_method_13_code 340 = .ok (.laload, 1) := by decide +kernel
theorem d_DualPivotQuicksort_sort_SorteraJIII_341 : decode prog_46_method_13_code 341 = .ok (.lcmp, 1) := by decide +kernel
theorem d_DualPivotQuicksort_sort_SorteraJIII_342 : decode prog_46_method_13_code 342 = .ok (.ifCond .ge 28, 3) := by decide +kernel
theorem d_DualPivotQuicksort_sort_SorteraJIII_370 : decode prog_46_method_13_code 370 = .ok (.aload_n 1, 1) := by decide +kernel
theorem d_DualPivotQuicksort_sort_SorteraJIII_371 : decode prog_46_method_13_code 371 = .ok (.iload 10, 2) := by decide +kernel
theorem d_DualPivotQuicksort_sort_SorteraJIII_373 : decode prog_46_method_13_code 373 = .ok (.aload_n 1, 1) := by decide +kernel
theorem d_DualPivotQuicksort_sort_SorteraJIII_374 : decode prog_46_method_13_code 374 = .ok (.iload 11, 2) := by decide +kernel
theorem d_DualPivotQuicksort_sort_SorteraJIII_376 : decode prog_46_method_13_code 376 = .ok (.laload, 1) := by decide +kernel
theorem d_DualPivotQuicksort_sort_SorteraJIII_377 : decode prog_46_method_13_code 377 = .ok (.lastore, 1) := by decide +kernel
theorem d_DualPivotQuicksort_sort_SorteraJIII_378 : decode prog_46_method_13_code 378 = .ok (.aload_n 1, 1) := by decide +kernel
theorem d_DualPivotQuicksort_sort_SorteraJIII_379 : decode prog_46_method_13_code 379 = .ok (.iload 11, 2) := by decide +kernel
theorem d_DualPivotQuicksort_sort_SorteraJIII_381 : decode prog_46_method_13_code 381 = .ok (.lload 13, 2) := by decide +kernel
theorem d_DualPivotQuicksort_sort_SorteraJIII_383 : decode prog_46_method_13_code 383 = .ok (.lastore, 1) := by decide +kernel
theorem d_DualPivotQuicksort_sort_SorteraJIII_384 : decode prog_46_method_13_code 384 = .ok (.goto 62, 3) := by decide +kernel
theorem d_DualPivotQuicksort_sort_SorteraJIII_345 : decode prog_46_method_13_code 345 = .ok (.aload_n 1, 1) := by decide +kernel
theorem d_DualPivotQuicksort_sort_SorteraJIII_346 : decode prog_46_method_13_code 346 = .ok (.iload 10, 2) := by decide +kernel
theorem d_DualPivotQuicksort_sort_SorteraJIII_348 : decode prog_46_method_13_code 348 = .ok (.aload_n 1, 1) := by decide +kernel
theorem d_DualPivotQuicksort_sort_SorteraJIII_349 : decode prog_46_method_13_code 349 = .ok (.iload 11, 2) := by decide +kernel
theorem d_DualPivotQuicksort_sort_SorteraJIII_351 : decode prog_46_method_13_code 351 = .ok (.laload, 1) := by decide +kernel
theorem d_DualPivotQuicksort_sort_SorteraJIII_352 : decode prog_46_method_13_code 352 = .ok (.lastore, 1) := by decide +kernel
theorem d_DualPivotQuicksort_sort_SorteraJIII_353 : decode prog_46_method_13_code 353 = .ok (.aload_n 1, 1) := by decide +kernel
theorem d_DualPivotQuicksort_sort_SorteraJIII_354 : decode prog_46_method_13_code 354 = .ok (.iload 11, 2) := by decide +kernel
theorem d_DualPivotQuicksort_sort_SorteraJIII_356 : decode prog_46_method_13_code 356 = .ok (.aload_n 1, 1) := by decide +kernel
theorem d_DualPivotQuicksort_sort_SorteraJIII_357 : decode prog_46_method_13_code 357 = .ok (.iload 8, 2) := by decide +kernel
theorem d_DualPivotQuicksort_sort_SorteraJIII_359 : decode prog_46_method_13_code 359 = .ok (.laload, 1) := by decide +kernel
theorem d_DualPivotQuicksort_sort_SorteraJIII_360 : decode prog_46_method_13_code 360 = .ok (.lastore, 1) := by decide +kernel
theorem d_DualPivotQuicksort_sort_SorteraJIII_361 : decode prog_46_method_13_code 361 = .ok (.aload_n 1, 1) := by decide +kernel
theorem d_DualPivotQuicksort_sort_SorteraJIII_362 : decode prog_46_method_13_code 362 = .ok (.iload 8, 2) := by decide +kernel
theorem d_DualPivotQuicksort_sort_SorteraJIII_364 : decode prog_46_method_13_code 364 = .ok (.lload 13, 2) := by decide +kernel
theorem d_DualPivotQuicksort_sort_SorteraJIII_366 : decode prog_46_method_13_code 366 = .ok (.lastore, 1) := by decide +kernel
theorem d_DualPivotQuicksort_sort_SorteraJIII_367 : decode prog_46_method_13_code 367 = .ok (.goto 79, 3) := by decide +kernel
theorem v_DualPivotQuicksort_sort_SorteraJIII_325 {G : XG} {d : Nat} {h : XH} {Q : XV → XH → Prop} {X : Nat → XH → Prop} {x2 x3 x4 x5 x6 x8 x9 x10 x11 x12 x13 : Int} (F : xFix h) (hyp : 0 ≤ x11 ∧ x11 < 12000 ∧ (((xpl h 64 x11) ≤ x13 → 0 ≤ x12 ∧ x12 < 12000 ∧ ((x13 ≤ (xpl h 64 x12) → (xwp G m_DualPivotQuicksort_sort_SorteraJIII (d + 141) 446 [xR (-1), xR 64, xI x2, xI x3, xI x4, xI x5, xI x6, xZ, xI x8, xI x9, xI x10, xI x11, xI x12, xZ, xZ, xZ, xZ, xZ, xZ, xZ, xZ, xZ, xZ, xZ, xZ] [] h Q X)) ∧ (¬ x13 ≤ (xpl h 64 x12) → 0 ≤ x9 ∧ x9 < 12000 ∧ ((x13 ≤ (xpl h 64 x9) → 0 ≤ x10 ∧ x10 < 12000 ∧ (xFix (xst (xst h 64 x10 (xpl h 64 x12)) 64 x12 x13) → xwp G m_DualPivotQuicksort_sort_SorteraJIII (d + 141) 446 [xR (-1), xR 64, xI x2, xI x3, xI x4, xI x5, xI x6, xZ, xI x8, xI x9, xI x10, xI x11, xI x12, xZ, xZ, xZ, xZ, xZ, xZ, xZ, xZ, xZ, xZ, xZ, xZ] [] (xst (xst h 64 x10 (xpl h 64 x12)) 64 x12 x13) Q X)) ∧ (¬ x13 ≤ (xpl h 64 x9) → 0 ≤ x10 ∧ x10 < 12000 ∧ (xFix (xst (xst (xst h 64 x10 (xpl h 64 x12)) 64 x12 (xpl (xst h 64 x10 (xpl h 64 x12)) 64 x9)) 64 x9 x13) → xwp G m_DualPivotQuicksort_sort_SorteraJIII (d + 141) 446 [xR (-1), xR 64, xI x2, xI x3, xI x4, xI x5, xI x6, xZ, xI x8, xI x9, xI x10, xI x11, xI x12, xZ, xZ, xZ, xZ, xZ, xZ, xZ, xZ, xZ, xZ, xZ, xZ] [] (xst (xst (xst h 64 x10 (xpl h 64 x12)) 64 x12 (xpl (xst h 64 x10 (xpl h 64 x12)) 64 x9)) 64 x9 x13) Q X)))))) ∧ (¬ (xpl h 64 x11) ≤ x13 → 0 ≤ x8 ∧ x8 < 12000 ∧ (((xpl h 64 x8) ≤ x13 → 0 ≤ x10 ∧ x10 < 12000 ∧ (xFix (xst (xst h 64 x10 (xpl h 64 x11)) 64 x11 x13) → xwp G m_DualPivotQuicksort_sort_SorteraJIII (d + 141) 446 [xR (-1), xR 64, xI x2, xI x3, xI x4, xI x5, xI x6, xZ, xI x8, xI x9, xI x10, xI x11, xI x12, xZ, xZ, xZ, xZ, xZ, xZ, xZ, xZ, xZ, xZ, xZ, xZ] [] (xst (xst h 64 x10 (xpl h 64 x11)) 64 x11 x13) Q X)) ∧ (¬ (xpl h 64 x8) ≤ x13 → 0 ≤ x10 ∧ x10 < 12000 ∧ (xFix (xst (xst (xst h 64 x10 (xpl h 64 x11)) 64 x11 (xpl (xst h 64 x10 (xpl h 64 x11)) 64 x8)) 64 x8 x13) → xwp G m_DualPivotQuicksort_sort_SorteraJIII (d + 141) 446 [xR (-1), xR 64, xI x2, xI x3, xI x4, xI x5, xI x6, xZ, xI x8, xI x9, xI x10, xI x11, xI x12, xZ, xZ, xZ, xZ, xZ, xZ, xZ, xZ, xZ, xZ, xZ, xZ] [] (xst (xst (xst h 64 x10 (xpl h 64 x11)) 64 x11 (xpl (xst h 64 x10 (xpl h 64 x11)) 64 x8)) 64 x8 x13) Q X)))))) : xwp G m_DualPivotQuicksort_sort_SorteraJIII (d + 141) 325 [xR (-1), xR 64, xI x2, xI x3, xI x4, xI x5, xI x6, xZ, xI x8, xI x9, xI x10, xI x11, xI x12, xL x13, xZ, xZ, xZ, xZ, xZ, xZ, xZ, xZ, xZ, xZ, xZ] [] h Q X := by
  have hnx9 : (93 : Int) ≤ xnx h := F.2.2
  refine xr_okL (fun hl9 => ?_)
  have r_x2 : -2147483648 ≤ x2 ∧ x2 ≤ 2147483647 := hl9 (xI x2) (.tail _ (.tail _ (.head _))) (Nat.le_of_ble_eq_true rfl)
  have r_x3 : -2147483648 ≤ x3 ∧ x3 ≤ 2147483647 := hl9 (xI x3) (.tail _ (.tail _ (.tail _ (.head _)))) (Nat.le_of_ble_eq_true rfl)
  have r_x4 : -2147483648 ≤ x4 ∧ x4 ≤ 2147483647 := hl9 (xI x4) (.tail _ (.tail _ (.tail _ (.tail _ (.head _))))) (Nat.le_of_ble_eq_true rfl)
  have r_x5 : -2147483648 ≤ x5 ∧ x5 ≤ 2147483647 := hl9 (xI x5) (.tail _ (.tail _ (.tail _ (.tail _ (.tail _ (.head _)))))) (Nat.le_of_ble_eq_true rfl)
  have r_x6 : -2147483648 ≤ x6 ∧ x6 ≤ 2147483647 := hl9 (xI x6) (.tail _ (.tail _ (.tail _ (.tail _ (.tail _ (.tail _ (.head _))))))) (Nat.le_of_ble_eq_true rfl)
  have r_x8 : -2147483648 ≤ x8 ∧ x8 ≤ 2147483647 := hl9 (xI x8) (.tail _ (.tail _ (.tail _ (.tail _ (.tail _ (.tail _ (.tail _ (.tail _ (.head _))))))))) (Nat.le_of_ble_eq_true rfl)
  have r_x9 : -2147483648 ≤ x9 ∧ x9 ≤ 2147483647 := hl9 (xI x9) (.tail _ (.tail _ (.tail _ (.tail _ (.tail _ (.tail _ (.tail _ (.tail _ (.tail _ (.head _)))))))))) (Nat.le_of_ble_eq_true rfl)
  have r_x10 : -2147483648 ≤ x10 ∧ x10 ≤ 2147483647 := hl9 (xI x10) (.tail _ (.tail _ (.tail _ (.tail _ (.tail _ (.tail _ (.tail _ (.tail _ (.tail _ (.tail _ (.head _))))))))))) (Nat.le_of_ble_eq_true rfl)
  have r_x11 : -2147483648 ≤ x11 ∧ x11 ≤ 2147483647 := hl9 (xI x11) (.tail _ (.tail _ (.tail _ (.tail _ (.tail _ (.tail _ (.tail _ (.tail _ (.tail _ (.tail _ (.tail _ (.head _)))))))))))) (Nat.le_of_ble_eq_true rfl)
  have r_x12 : -2147483648 ≤ x12 ∧ x12 ≤ 2147483647 := hl9 (xI x12) (.tail _ (.tail _ (.tail _ (.tail _ (.tail _ (.tail _ (.tail _ (.tail _ (.tail _ (.tail _ (.tail _ (.tail _ (.head _))))))))))))) (Nat.le_of_ble_eq_true rfl)
  have r_x13 : -9223372036854775808 ≤ x13 ∧ x13 ≤ 9223372036854775807 := hl9 (xL x13) (.tail _ (.tail _ (.tail _ (.tail _ (.tail _ (.tail _ (.tail _ (.tail _ (.tail _ (.tail _ (.tail _ (.tail _ (.tail _ (.head _)))))))))))))) (Nat.le_of_ble_eq_true rfl)
  refine xr_lload (pc := 325) (i := 13) (hI := d_DualPivotQuicksort_sort_SorteraJIII_325) (hl := rfl) ?_
  refine xr_aload_n (pc := 327) (i := 1) (hI := d_DualPivotQuicksort_sort_SorteraJIII_327) (hi := rfl) (hl := rfl) ?_
  refine xr_iload (pc := 328) (i := 11) (hI := d_DualPivotQuicksort_sort_SorteraJIII_328) (hl := rfl) ?_
  obtain ⟨c1_, hyp⟩ := hyp
  obtain ⟨c2_, hyp⟩ := hyp
  refine xg_laload (pc := 330) (v := (xpl h 64 x11)) (hI := d_DualPivotQuicksort_sort_SorteraJIII_330) (ft_64 F) c1_ (xlt_of (fl_64 F) c2_) rfl (fun f3_ => ?_)
  replace f3_ : -9223372036854775808 ≤ (xpl h 64 x11) ∧ (xpl h 64 x11) ≤ 9223372036854775807 := f3_
  refine xr_lcmp (pc := 331) (hI := d_DualPivotQuicksort_sort_SorteraJIII_331) ?_
  refine xg_lif_ge (pc := 332) (tgt := 387) (hI := d_DualPivotQuicksort_sort_SorteraJIII_332) (ht := by decide) (fun q9 => ?_) (fun q9 => ?_)
  · replace hyp := hyp.1 q9
    have q4_ := q9
    clear q9
    refine xr_lload (pc := 387) (i := 13) (hI := d_DualPivotQuicksort_sort_SorteraJIII_387) (hl := rfl) ?_
    refine xr_aload_n (pc := 389) (i := 1) (hI := d_DualPivotQuicksort_sort_SorteraJIII_389) (hi := rfl) (hl := rfl) ?_
    refine xr_iload (pc := 390) (i := 12) (hI := d_DualPivotQuicksort_sort_SorteraJIII_390) (hl := rfl) ?_
    obtain ⟨c5_, hyp⟩ := hyp
    obtain ⟨c6_, hyp⟩ := hyp
    refine xg_laload (pc := 392) (v := (xpl h 64 x12)) (hI := d_DualPivotQuicksort_sort_SorteraJIII_392) (ft_64 F) c5_ (xlt_of (fl_64 F) c6_) rfl (fun f7_ => ?_)
    replace f7_ : -9223372036854775808 ≤ (xpl h 64 x12) ∧ (xpl h 64 x12) ≤ 9223372036854775807 := f7_
    refine xr_lcmp (pc := 393) (hI := d_DualPivotQuicksort_sort_SorteraJIII_393) ?_
    refine xg_lif_le (pc := 394) (tgt := 446) (hI := d_DualPivotQuicksort_sort_SorteraJIII_394) (ht := by decide) (fun q9 => ?_) (fun q9 => ?_)
    · replace hyp := hyp.1 q9
      have q8_ := q9
      clear q9
      exact xr_drop (L9 := [xR (-1), xR 64, xI x2, xI x3, xI x4, xI x5, xI x6, xZ, xI x8, xI x9, xI x10, xI x11, xI x12, xZ, xZ, xZ, xZ, xZ, xZ, xZ, xZ, xZ, xZ, xZ, xZ]) (xdrs (xdrs (xdrs (xdrs (xdrs (xdrs (xdrs (xdrs (xdrs (xdrs (xdrs (xdrs (xdrs (xdrz (xdrs (xdrs (xdrs (xdrs (xdrs (xdrs (xdrs (xdrs (xdrs (xdrs (xdrs xdr0))))))))))))))))))))))))) hyp
    · replace hyp := hyp.2 q9
      have q8_ := q9
      clear q9
      refine xr_lload (pc := 397) (i := 13) (hI := d_DualPivotQuicksort_sort_SorteraJIII_397) (hl := rfl) ?_
      refine xr_aload_n (pc := 399) (i := 1) (hI := d_DualPivotQuicksort_sort_SorteraJIII_399) (hi := rfl) (hl := rfl) ?_
      refine xr_iload (pc := 400) (i := 9) (hI := d_DualPivotQuicksort_sort_SorteraJIII_400) (hl := rfl) ?_
      obtain ⟨c9_, hyp⟩ := hyp
      obtain ⟨c10_, hyp⟩ := hyp
      refine xg_laload (pc := 402) (v := (xpl h 64 x9)) (hI := d_DualPivotQuicksort_sort_SorteraJIII_402) (ft_64 F) c9_ (xlt_of (fl_64 F) c10_) rfl (fun f11_ => ?_)
      replace f11_ : -9223372036854775808 ≤ (xpl h 64 x9) ∧ (xpl h 64 x9) ≤ 9223372036854775807 := f11_
      refine xr_lcmp (pc := 403) (hI := d_DualPivotQuicksort_sort_SorteraJIII_403) ?_
      refine xg_lif_le (pc := 404) (tgt := 432) (hI := d_DualPivotQuicksort_sort_SorteraJIII_404) (ht := by decide) (fun q9 => ?_) (fun q9 => ?_)
      · replace hyp := hyp.1 q9
        have q12_ := q9
        clear q9
        refine xr_aload_n (pc := 432) (i := 1) (hI := d_DualPivotQuicksort_sort_SorteraJIII_432) (hi := rfl) (hl := rfl) ?_
        refine xr_iload (pc := 433) (i := 10) (hI := d_DualPivotQuicksort_sort_SorteraJIII_433) (hl := rfl) ?_
        refine xr_aload_n (pc := 435) (i := 1) (hI := d_DualPivotQuicksort_sort_SorteraJIII_435) (hi := rfl) (hl := rfl) ?_
        refine xr_iload (pc := 436) (i := 12) (hI := d_DualPivotQuicksort_sort_SorteraJIII_436) (hl := rfl) ?_
        refine xg_laload (pc := 438) (v := (xpl h 64 x12)) (hI := d_DualPivotQuicksort_sort_SorteraJIII_438) (ft_64 F) (by clear hyp; omega) (xlt_of (fl_64 F) (by clear hyp; omega)) rfl (fun f13_ => ?_)
        replace f13_ : -9223372036854775808 ≤ (xpl h 64 x12) ∧ (xpl h 64 x12) ≤ 9223372036854775807 := f13_
        obtain ⟨c14_, hyp⟩ := hyp
        obtain ⟨c15_, hyp⟩ := hyp
        refine xr_lastore (pc := 439) (hI := d_DualPivotQuicksort_sort_SorteraJIII_439) (ft_64 F) (by decide) c14_ (xlt_of (fl_64 F) c15_) ?_
        have F16_ : xFix (xst h 64 x10 (xpl h 64 x12)) := F.stA xfa_64
        refine xr_aload_n (pc := 440) (i := 1) (hI := d_DualPivotQuicksort_sort_SorteraJIII_440) (hi := rfl) (hl := rfl) ?_
        refine xr_iload (pc := 441) (i := 12) (hI := d_DualPivotQuicksort_sort_SorteraJIII_441) (hl := rfl) ?_
        refine xr_lload (pc := 443) (i := 13) (hI := d_DualPivotQuicksort_sort_SorteraJIII_443) (hl := rfl) ?_
        refine xr_lastore (pc := 445) (hI := d_DualPivotQuicksort_sort_SorteraJIII_445) (ft_64 F16_) (by decide) (by clear hyp; omega) (xlt_of (fl_64 F16_) (by clear hyp; omega)) ?_
        have F17_ : xFix (xst (xst h 64 x10 (xpl h 64 x12)) 64 x12 x13) := F16_.stA xfa_64
        exact xr_drop (L9 := [xR (-1), xR 64, xI x2, xI x3, xI x4, xI x5, xI x6, xZ, xI x8, xI x9, xI x10, xI x11, xI x12, xZ, xZ, xZ, xZ, xZ, xZ, xZ, xZ, xZ, xZ, xZ, xZ]) (xdrs (xdrs (xdrs (xdrs (xdrs (xdrs (xdrs (xdrs (xdrs (xdrs (xdrs (xdrs (xdrs (xdrz (xdrs (xdrs (xdrs (xdrs (xdrs (xdrs (xdrs (xdrs (xdrs (xdrs (xdrs xdr0))))))))))))))))))))))))) (hyp F17_)
      · replace hyp := hyp.2 q9
        have q12_ := q9
        clear q9
        refine xr_aload_n (pc := 407) (i := 1) (hI := d_DualPivotQuicksort_sort_SorteraJIII_407) (hi := rfl) (hl := rfl) ?_
        refine xr_iload (pc := 408) (i := 10) (hI := d_DualPivotQuicksort_sort_SorteraJIII_408) (hl := rfl) ?_
        refine xr_aload_n (pc := 410) (i := 1) (hI := d_DualPivotQuicksort_sort_SorteraJIII_410) (hi := rfl) (hl := rfl) ?_
        refine xr_iload (pc := 411) (i := 12) (hI := d_DualPivotQuicksort_sort_SorteraJIII_411) (hl := rfl) ?_
        refine xg_laload (pc := 413) (v := (xpl h 64 x12)) (hI := d_DualPivotQuicksort_sort_SorteraJIII_413) (ft_64 F) (by clear hyp; omega) (xlt_of (fl_64 F) (by clear hyp; omega)) rfl (fun f18_ => ?_)
        replace f18_ : -9223372036854775808 ≤ (xpl h 64 x12) ∧ (xpl h 64 x12) ≤ 9223372036854775807 := f18_
        obtain ⟨c19_, hyp⟩ := hyp
        obtain ⟨c20_, hyp⟩ := hyp
        refine xr_lastore (pc := 414) (hI := d_DualPivotQuicksort_sort_SorteraJIII_414) (ft_64 F) (by decide) c19_ (xlt_of (fl_64 F) c20_) ?_
        have F21_ : xFix (xst h 64 x10 (xpl h 64 x12)) := F.stA xfa_64
        refine xr_aload_n (pc := 415) (i := 1) (hI := d_DualPivotQuicksort_sort_SorteraJIII_415) (hi := rfl) (hl := rfl) ?_
        refine xr_iload (pc := 416) (i := 12) (hI := d_DualPivotQuicksort_sort_SorteraJIII_416) (hl := rfl) ?_
        refine xr_aload_n (pc := 418) (i := 1) (hI := d_DualPivotQuicksort_sort_SorteraJIII_418) (hi := rfl) (hl := rfl) ?_
        refine xr_iload (pc := 419) (i := 9) (hI := d_DualPivotQuicksort_sort_SorteraJIII_419) (hl := rfl) ?_
        refine xg_laload (pc := 421) (v := (xpl (xst h 64 x10 (xpl h 64 x12)) 64 x9)) (hI := d_DualPivotQuicksort_sort_SorteraJIII_421) (ft_64 F21_) (by clear hyp; omega) (xlt_of (fl_64 F21_) (by clear hyp; omega)) rfl (fun f22_ => ?_)
        replace f22_ : -9223372036854775808 ≤ (xpl (xst h 64 x10 (xpl h 64 x12)) 64 x9) ∧ (xpl (xst h 64 x10 (xpl h 64 x12)) 64 x9) ≤ 9223372036854775807 := f22_
        refine xr_lastore (pc := 422) (hI := d_DualPivotQuicksort_sort_SorteraJIII_422) (ft_64 F21_) (by decide) (by clear hyp; omega) (xlt_of (fl_64 F21_) (by clear hyp; omega)) ?_
        have F23_ : xFix (xst (xst h 64 x10 (xpl h 64 x12)) 64 x12 (xpl (xst h 64 x10 (xpl h 64 x12)) 64 x9)) := F21_.stA xfa_64
        refine xr_aload_n (pc := 423) (i := 1) (hI := d_DualPivotQuicksort_sort_SorteraJIII_423) (hi := rfl) (hl := rfl) ?_
        refine xr_iload (pc := 424) (i := 9) (hI := d_DualPivotQuicksort_sort_SorteraJIII_424) (hl := rfl) ?_
        refine xr_lload (pc := 426) (i := 13) (hI := d_DualPivotQuicksort_sort_SorteraJIII_426) (hl := rfl) ?_
        refine xr_lastore (pc := 428) (hI := d_DualPivotQuicksort_sort_SorteraJIII_428) (ft_64 F23_) (by decide) (by clear hyp; omega) (xlt_of (fl_64 F23_) (by clear hyp; omega)) ?_
        have F24_ : xFix (xst (xst (xst h 64 x10 (xpl h 64 x12)) 64 x12 (xpl (xst h 64 x10 (xpl h 64 x12)) 64 x9)) 64 x9 x13) := F23_.stA xfa_64
        refine xr_goto (pc := 429) (tgt := 446) (hI := d_DualPivotQuicksort_sort_SorteraJIII_429) (ht := by decide) ?_
        exact xr_drop (L9 := [xR (-1), xR 64, xI x2, xI x3, xI x4, xI x5, xI x6, xZ, xI x8, xI x9, xI x10, xI x11, xI x12, xZ, xZ, xZ, xZ, xZ, xZ, xZ, xZ, xZ, xZ, xZ, xZ]) (xdrs (xdrs (xdrs (xdrs (xdrs (xdrs (xdrs (xdrs (xdrs (xdrs (xdrs (xdrs (xdrs (xdrz (xdrs (xdrs (xdrs (xdrs (xdrs (xdrs (xdrs (xdrs (xdrs (xdrs (xdrs xdr0))))))))))))))))))))))))) (hyp F24_)
  · replace hyp := hyp.2 q9
    have q4_ := q9
    clear q9
    refine xr_lload (pc := 335) (i := 13) (hI := d_DualPivotQuicksort_sort_SorteraJIII_335) (hl := rfl) ?_
    refine xr_aload_n (pc := 337) (i := 1) (hI := d_DualPivotQuicksort_sort_SorteraJIII_337) (hi := rfl) (hl := rfl) ?_
    refine xr_iload (pc := 338) (i := 8) (hI := d_DualPivotQuicksort_sort_SorteraJIII_338) (hl := rfl) ?_
    obtain ⟨c25_, hyp⟩ := hyp
    obtain ⟨c26_, hyp⟩ := hyp
    refine xg_laload (pc := 340) (v := (xpl h 64 x8)) (hI := d_DualPivotQuicksort_sort_SorteraJIII_340) (ft_64 F) c25_ (xlt_of (fl_64 F) c26_) rfl (fun f27_ => ?_)
    replace f27_ : -9223372036854775808 ≤ (xpl h 64 x8) ∧ (xpl h 64 x8) ≤ 9223372036854775807 := f27_
    refine xr_lcmp (pc := 341) (hI := d_DualPivotQuicksort_sort_SorteraJIII_341) ?_
    refine xg_lif_ge (pc := 342) (tgt := 370) (hI := d_DualPivotQuicksort_sort_SorteraJIII_342) (ht := by decide) (fun q9 => ?_) (fun q9 => ?_)
    · replace hyp := hyp.1 q9
      have q28_ := q9
      clear q9
      refine xr_aload_n (pc := 370) (i := 1) (hI := d_DualPivotQuicksort_sort_SorteraJIII_370) (hi := rfl) (hl := rfl) ?_
      refine xr_iload (pc := 371) (i := 10) (hI := d_DualPivotQuicksort_sort_SorteraJIII_371) (hl := rfl) ?_
      refine xr_aload_n (pc := 373) (i := 1) (hI := d_DualPivotQuicksort_sort_SorteraJIII_373) (hi := rfl) (hl := rfl) ?_
      refine xr_iload (pc := 374) (i := 11) (hI := d_DualPivotQuicksort_sort_SorteraJIII_374) (hl := rfl) ?_
      refine xg_laload (pc := 376) (v := (xpl h 64 x11)) (hI := d_DualPivotQuicksort_sort_SorteraJIII_376) (ft_64 F) (by clear hyp; omega) (xlt_of (fl_64 F) (by clear hyp; omega)) rfl (fun f29_ => ?_)
      replace f29_ : -9223372036854775808 ≤ (xpl h 64 x11) ∧ (xpl h 64 x11) ≤ 9223372036854775807 := f29_
      obtain ⟨c30_, hyp⟩ := hyp
      obtain ⟨c31_, hyp⟩ := hyp
      refine xr_lastore (pc := 377) (hI := d_DualPivotQuicksort_sort_SorteraJIII_377) (ft_64 F) (by decide) c30_ (xlt_of (fl_64 F) c31_) ?_
      have F32_ : xFix (xst h 64 x10 (xpl h 64 x11)) := F.stA xfa_64
      refine xr_aload_n (pc := 378) (i := 1) (hI := d_DualPivotQuicksort_sort_SorteraJIII_378) (hi := rfl) (hl := rfl) ?_
      refine xr_iload (pc := 379) (i := 11) (hI := d_DualPivotQuicksort_sort_SorteraJIII_379) (hl := rfl) ?_
      refine xr_lload (pc := 381) (i := 13) (hI := d_DualPivotQuicksort_sort_SorteraJIII_381) (hl := rfl) ?_
      refine xr_lastore (pc := 383) (hI := d_DualPivotQuicksort_sort_SorteraJIII_383) (ft_64 F32_) (by decide) (by clear hyp; omega) (xlt_of (fl_64 F32_) (by clear hyp; omega)) ?_
      have F33_ : xFix (xst (xst h 64 x10 (xpl h 64 x11)) 64 x11 x13) := F32_.stA xfa_64
      refine xr_goto (pc := 384) (tgt := 446) (hI := d_DualPivotQuicksort_sort_SorteraJIII_384) (ht := by decide) ?_
      exact xr_drop (L9 := [xR (-1), xR 64, xI x2, xI x3, xI x4, xI x5, xI x6, xZ, xI x8, xI x9, xI x10, xI x11, xI x12, xZ, xZ, xZ, xZ, xZ, xZ, xZ, xZ, xZ, xZ, xZ, xZ]) (xdrs (xdrs (xdrs (xdrs (xdrs (xdrs (xdrs (xdrs (xdrs (xdrs (xdrs (xdrs (xdrs (xdrz (xdrs (xdrs (xdrs (xdrs (xdrs (xdrs (xdrs (xdrs (xdrs (xdrs (xdrs xdr0))))))))))))))))))))))))) (hyp F33_)
    · replace hyp := hyp.2 q9
      have q28_ := q9
      clear q9
      refine xr_aload_n (pc := 345) (i := 1) (hI := d_DualPivotQuicksort_sort_SorteraJIII_345) (hi := rfl) (hl := rfl) ?_
      refine xr_iload (pc := 346) (i := 10) (hI := d_DualPivotQuicksort_sort_SorteraJIII_346) (hl := rfl) ?_
      refine xr_aload_n (pc := 348) (i := 1) (hI := d_DualPivotQuicksort_sort_SorteraJIII_348) (hi := rfl) (hl := rfl) ?_
      refine xr_iload (pc := 349) (i := 11) (hI := d_DualPivotQuicksort_sort_SorteraJIII_349) (hl := rfl) ?_
      refine xg_laload (pc := 351) (v := (xpl h 64 x11)) (hI := d_DualPivotQuicksort_sort_SorteraJIII_351) (ft_64 F) (by clear hyp; omega) (xlt_of (fl_64 F) (by clear hyp; omega)) rfl (fun f34_ => ?_)
      replace f34_ : -9223372036854775808 ≤ (xpl h 64 x11) ∧ (xpl h 64 x11) ≤ 9223372036854775807 := f34_
      obtain ⟨c35_, hyp⟩ := hyp
      obtain ⟨c36_, hyp⟩ := hyp
      refine xr_lastore (pc := 352) (hI := d_DualPivotQuicksort_sort_SorteraJIII_352) (ft_64 F) (by decide) c35_ (xlt_of (fl_64 F) c36_) ?_
      have F37_ : xFix (xst h 64 x10 (xpl h 64 x11)) := F.stA xfa_64
      refine xr_aload_n (pc := 353) (i := 1) (hI := d_DualPivotQuicksort_sort_SorteraJIII_353) (hi := rfl) (hl := rfl) ?_
      refine xr_iload (pc := 354) (i := 11) (hI := d_DualPivotQuicksort_sort_SorteraJIII_354) (hl := rfl) ?_
      refine xr_aload_n (pc := 356) (i := 1) (hI := d_DualPivotQuicksort_sort_SorteraJIII_356) (hi := rfl) (hl := rfl) ?_
      refine xr_iload (pc := 357) (i := 8) (hI := d_DualPivotQuicksort_sort_SorteraJIII_357) (hl := rfl) ?_
      refine xg_laload (pc := 359) (v := (xpl (xst h 64 x10 (xpl h 64 x11)) 64 x8)) (hI := d_DualPivotQuicksort_sort_SorteraJIII_359) (ft_64 F37_) (by clear hyp; omega) (xlt_of (fl_64 F37_) (by clear hyp; omega)) rfl (fun f38_ => ?_)
      replace f38_ : -9223372036854775808 ≤ (xpl (xst h 64 x10 (xpl h 64 x11)) 64 x8) ∧ (xpl (xst h 64 x10 (xpl h 64 x11)) 64 x8) ≤ 9223372036854775807 := f38_
      refine xr_lastore (pc := 360) (hI := d_DualPivotQuicksort_sort_SorteraJIII_360) (ft_64 F37_) (by decide) (by clear hyp; omega) (xlt_of (fl_64 F37_) (by clear hyp; omega)) ?_
      have F39_ : xFix (xst (xst h 64 x10 (xpl h 64 x11)) 64 x11 (xpl (xst h 64 x10 (xpl h 64 x11)) 64 x8)) := F37_.stA xfa_64
      refine xr_aload_n (pc := 361) (i := 1) (hI := d_DualPivotQuicksort_sort_SorteraJIII_361) (hi := rfl) (hl := rfl) ?_
      refine xr_iload (pc := 362) (i := 8) (hI := d_DualPivotQuicksort_sort_SorteraJIII_362) (hl := rfl) ?_
      refine xr_lload (pc := 364) (i := 13) (hI := d_DualPivotQuicksort_sort_SorteraJIII_364) (hl := rfl) ?_
      refine xr_lastore (pc := 366) (hI := d_DualPivotQuicksort_sort_SorteraJIII_366) (ft_64 F39_) (by decide) (by clear hyp; omega) (xlt_of (fl_64 F39_) (by clear hyp; omega)) ?_
      have F40_ : xFix (xst (xst (xst h 64 x10 (xpl h 64 x11)) 64 x11 (xpl (xst h 64 x10 (xpl h 64 x11)) 64 x8)) 64 x8 x13) := F39_.stA xfa_64
      refine xr_goto (pc := 367) (tgt := 446) (hI := d_DualPivotQuicksort_sort_SorteraJIII_367) (ht := by decide) ?_
      exact xr_drop (L9 := [xR (-1), xR 64, xI x2, xI x3, xI x4, xI x5, xI x6, xZ, xI x8, xI x9, xI x10, xI x11, xI x12, xZ, xZ, xZ, xZ, xZ, xZ, xZ, xZ, xZ, xZ, xZ, xZ]) (xdrs (xdrs (xdrs (xdrs (xdrs (xdrs (xdrs (xdrs (xdrs (xdrs (xdrs (xdrs (xdrs (xdrz (xdrs (xdrs (xdrs (xdrs (xdrs (xdrs (xdrs (xdrs (xdrs (xdrs (xdrs xdr0))))))))))))))))))))))))) (hyp F40_)
theorem d_DualPivotQuicksort_sort_SorteraJIII_446 : decode prog_46_method_13_code 446 = .ok (.iload_n 3, 1) := by decide +kernel
theorem d_DualPivotQuicksort_sort_SorteraJIII_447 : decode prog_46_method_13_code 447 = .ok (.istore 15, 2) := by decide +kernel
theorem d_DualPivotQuicksort_sort_SorteraJIII_449 : decode prog_46_method_13_code 449 = .ok (.iload 5, 2) := by decide +kernel
theorem d_DualPivotQuicksort_sort_SorteraJIII_451 : decode prog_46_method_13_code 451 = .ok (.istore 16, 2) := by decide +kernel
theorem d_DualPivotQuicksort_sort_SorteraJIII_453 : decode prog_46_method_13_code 453 = .ok (.aload_n 1, 1) := by decide +kernel
theorem d_DualPivotQuicksort_sort_SorteraJIII_454 : decode prog_46_method_13_code 454 = .ok (.iload 8, 2) := by decide +kernel
theorem d_DualPivotQuicksort_sort_SorteraJIII_456 : decode prog_46_method_13_code 456 = .ok (.laload, 1) := by decide +kernel
theorem d_DualPivotQuicksort_sort_SorteraJIII_457 : decode prog_46_method_13_code 457 = .ok (.aload_n 1, 1) := by decide +kernel
theorem d_DualPivotQuicksort_sort_SorteraJIII_458 : decode prog_46_method_13_code 458 = .ok (.iload 11, 2) := by decide +kernel
theorem d_DualPivotQuicksort_sort_SorteraJIII_460 : decode prog_46_method_13_code 460 = .ok (.laload, 1) := by decide +kernel
theorem d_DualPivotQuicksort_sort_SorteraJIII_461 : decode prog_46_method_13_code 461 = .ok (.lcmp, 1) := by decide +kernel
theorem d_DualPivotQuicksort_sort_SorteraJIII_462 : decode prog_46_method_13_code 462 = .ok (.ifCond .ge 333, 3) := by decide +kernel
theorem d_DualPivotQuicksort_sort_SorteraJIII_465 : decode prog_46_method_13_code 465 = .ok (.aload_n 1, 1) := by decide +kernel
theorem d_DualPivotQuicksort_sort_SorteraJIII_466 : decode prog_46_method_13_code 466 = .ok (.iload 11, 2) := by decide +kernel
theorem d_DualPivotQuicksort_sort_SorteraJIII_468 : decode prog_46_method_13_code 468 = .ok (.laload, 1) := by decide +kernel
theorem d_DualPivotQuicksort_sort_SorteraJIII_469 : decode prog_46_method_13_code 469 = .ok (.aload_n 1, 1) := by decide +kernel
theorem d_DualPivotQuicksort_sort_SorteraJIII_470 : decode prog_46_method_13_code 470 = .ok (.iload 10, 2) := by decide +kernel
theorem d_DualPivotQuicksort_sort_SorteraJIII_472 : decode prog_46_method_13_code 472 = .ok (.laload, 1) := by decide +kernel
theorem d_DualPivotQuicksort_sort_SorteraJIII_473 : decode prog_46_method_13_code 473 = .ok (.lcmp, 1) := by decide +kernel
theorem d_DualPivotQuicksort_sort_SorteraJIII_474 : decode prog_46_method_13_code 474 = .ok (.ifCond .ge 321, 3) := by decide +kernel
theorem d_DualPivotQuicksort_sort_SorteraJIII_477 : decode prog_46_method_13_code 477 = .ok (.aload_n 1, 1) := by decide +kernel
theorem d_DualPivotQuicksort_sort_SorteraJIII_478 : decode prog_46_method_13_code 478 = .ok (.iload 10, 2) := by decide +kernel
theorem d_DualPivotQuicksort_sort_SorteraJIII_480 : decode prog_46_method_13_code 480 = .ok (.laload, 1) := by decide +kernel
theorem d_DualPivotQuicksort_sort_SorteraJIII_481 : decode prog_46_method_13_code 481 = .ok (.aload_n 1, 1) := by decide +kernel
theorem d_DualPivotQuicksort_sort_SorteraJIII_482 : decode prog_46_method_13_code 482 = .ok (.iload 12, 2) := by decide +kernel
theorem d_DualPivotQuicksort_sort_SorteraJIII_484 : decode prog_46_method_13_code 484 = .ok (.laload, 1) := by decide +kernel
theorem d_DualPivotQuicksort_sort_SorteraJIII_485 : decode prog_46_method_13_code 485 = .ok (.lcmp, 1) := by decide +kernel
theorem d_DualPivotQuicksort_sort_SorteraJIII_486 : decode prog_46_method_13_code 486 = .ok (.ifCond .ge 309, 3) := by decide +kernel
theorem d_DualPivotQuicksort_sort_SorteraJIII_489 : decode prog_46_method_13_code 489 = .ok (.aload_n 1, 1) := by decide +kernel
theorem d_DualPivotQuicksort_sort_SorteraJIII_490 : decode prog_46_method_13_code 490 = .ok (.iload 12, 2) := by decide +kernel
theorem d_DualPivotQuicksort_sort_SorteraJIII_492 : decode prog_46_method_13_code 492 = .ok (.laload, 1) := by decide +kernel
theorem d_DualPivotQuicksort_sort_SorteraJIII_493 : decode prog_46_method_13_code 493 = .ok (.aload_n 1, 1) := by decide +kernel
theorem d_DualPivotQuicksort_sort_SorteraJIII_494 : decode prog_46_method_13_code 494 = .ok (.iload 9, 2) := by decide +kernel
theorem d_DualPivotQuicksort_sort_SorteraJIII_496 : decode prog_46_method_13_code 496 = .ok (.laload, 1) := by decide +kernel
theorem d_DualPivotQuicksort_sort_SorteraJIII_497 : decode prog_46_method_13_code 497 = .ok (.lcmp, 1) := by decide +kernel
theorem d_DualPivotQuicksort_sort_SorteraJIII_498 : decode prog_46_method_13_code 498 = .ok (.ifCond .ge 297, 3) := by decide +kernel
theorem d_DualPivotQuicksort_sort_SorteraJIII_501 : decode prog_46_method_13_code 501 = .ok (.aload_n 1, 1) := by decide +kernel
theorem d_DualPivotQuicksort_sort_SorteraJIII_502 : decode prog_46_method_13_code 502 = .ok (.iload 8, 2) := by decide +kernel
theorem d_DualPivotQuicksort_sort_SorteraJIII_504 : decode prog_46_method_13_code 504 = .ok (.laload, 1) := by decide +kernel
theorem d_DualPivotQuicksort_sort_SorteraJIII_505 : decode prog_46_method_13_code 505 = .ok (.lstore 17, 2) := by decide +kernel
theorem d_DualPivotQuicksort_sort_SorteraJIII_507 : decode prog_46_method_13_code 507 = .ok (.aload_n 1, 1) := by decide +kernel
theorem d_DualPivotQuicksort_sort_SorteraJIII_508 : decode prog_46_method_13_code 508 = .ok (.iload 9, 2) := by decide +kernel
theorem d_DualPivotQuicksort_sort_SorteraJIII_510 : decode prog_46_method_13_code 510 = .ok (.laload, 1) := by decide +kernel
theorem d_DualPivotQuicksort_sort_SorteraJIII_511 : decode prog_46_method_13_code 511 = .ok (.lstore 19, 2) := by decide +kernel
theorem d_DualPivotQuicksort_sort_SorteraJIII_513 : decode prog_46_method_13_code 513 = .ok (.aload_n 1, 1) := by decide +kernel
theorem d_DualPivotQuicksort_sort_SorteraJIII_514 : decode prog_46_method_13_code 514 = .ok (.iload 8, 2) := by decide +kernel
theorem d_DualPivotQuicksort_sort_SorteraJIII_516 : decode prog_46_method_13_code 516 = .ok (.aload_n 1, 1) := by decide +kernel
theorem d_DualPivotQuicksort_sort_SorteraJIII_517 : decode prog_46_method_13_code 517 = .ok (.iload 15, 2) := by decide +kernel
theorem d_DualPivotQuicksort_sort_SorteraJIII_519 : decode prog_46_method_13_code 519 = .ok (.laload, 1) := by decide +kernel
theorem d_DualPivotQuicksort_sort_SorteraJIII_520 : decode prog_46_method_13_code 520 = .ok (.lastore, 1) := by decide +kernel
theorem d_DualPivotQuicksort_sort_SorteraJIII_521 : decode prog_46_method_13_code 521 = .ok (.aload_n 1, 1) := by decide +kernel
theorem d_DualPivotQuicksort_sort_SorteraJIII_522 : decode prog_46_method_13_code 522 = .ok (.iload 9, 2) := by decide +kernel
theorem d_DualPivotQuicksort_sort_SorteraJIII_524 : decode prog_46_method_13_code 524 = .ok (.aload_n 1, 1) := by decide +kernel
theorem d_DualPivotQuicksort_sort_SorteraJIII_525 : decode prog_46_method_13_code 525 = .ok (.iload 16, 2) := by decide +kernel
theorem d_DualPivotQuicksort_sort_SorteraJIII_527 : decode prog_46_method_13_code 527 = .ok (.laload, 1) := by decide +kernel
theorem d_DualPivotQuicksort_sort_SorteraJIII_528 : decode prog_46_method_13_code 528 = .ok (.lastore, 1) := by decide +kernel
theorem v_DualPivotQuicksort_sort_SorteraJIII_446 {G : XG} {d : Nat} {h : XH} {Q : XV → XH → Prop} {X : Nat → XH → Prop} {x2 x3 x4 x5 x6 x8 x9 x10 x11 x12 : Int} (F : xFix h) (hyp : 0 ≤ x8 ∧ x8 < 12000 ∧ 0 ≤ x11 ∧ x11 < 12000 ∧ (((xpl h 64 x11) ≤ (xpl h 64 x8) → (xwp G m_DualPivotQuicksort_sort_SorteraJIII (d + 141) 795 [xR (-1), xR 64, xI x2, xI x3, xI x4, xZ, xI x6, xZ, xZ, xZ, xI x10, xZ, xZ, xZ, xZ, xI x3, xI x5, xZ, xZ, xZ, xZ, xZ, xZ, xZ, xZ] [] h Q X)) ∧ (¬ (xpl h 64 x11) ≤ (xpl h 64 x8) → 0 ≤ x10 ∧ x10 < 12000 ∧ (((xpl h 64 x10) ≤ (xpl h 64 x11) → (xwp G m_DualPivotQuicksort_sort_SorteraJIII (d + 141) 795 [xR (-1), xR 64, xI x2, xI x3, xI x4, xZ, xI x6, xZ, xZ, xZ, xI x10, xZ, xZ, xZ, xZ, xI x3, xI x5, xZ, xZ, xZ, xZ, xZ, xZ, xZ, xZ] [] h Q X)) ∧ (¬ (xpl h 64 x10) ≤ (xpl h 64 x11) → 0 ≤ x12 ∧ x12 < 12000 ∧ (((xpl h 64 x12) ≤ (xpl h 64 x10) → (xwp G m_DualPivotQuicksort_sort_SorteraJIII (d + 141) 795 [xR (-1), xR 64, xI x2, xI x3, xI x4, xZ, xI x6, xZ, xZ, xZ, xI x10, xZ, xZ, xZ, xZ, xI x3, xI x5, xZ, xZ, xZ, xZ, xZ, xZ, xZ, xZ] [] h Q X)) ∧ (¬ (xpl h 64 x12) ≤ (xpl h 64 x10) → 0 ≤ x9 ∧ x9 < 12000 ∧ (((xpl h 64 x9) ≤ (xpl h 64 x12) → (xwp G m_DualPivotQuicksort_sort_SorteraJIII (d + 141) 795 [xR (-1), xR 64, xI x2, xI x3, xI x4, xZ, xI x6, xZ, xZ, xZ, xI x10, xZ, xZ, xZ, xZ, xI x3, xI x5, xZ, xZ, xZ, xZ, xZ, xZ, xZ, xZ] [] h Q X)) ∧ (¬ (xpl h 64 x9) ≤ (xpl h 64 x12) → 0 ≤ x3 ∧ x3 < 12000 ∧ 0 ≤ x5 ∧ x5 < 12000 ∧ (xFix (xst (xst h 64 x8 (xpl h 64 x3)) 64 x9 (xpl (xst h 64 x8 (xpl h 64 x3)) 64 x5)) → xwp G m_DualPivotQuicksort_sort_SorteraJIII (d + 141) 529 [xR (-1), xR 64, xI x2, xI x3, xI x4, xI x5, xI x6, xZ, xZ, xZ, xZ, xZ, xZ, xZ, xZ, xI x3, xI x5, xL (xpl h 64 x8), xZ, xL (xpl h 64 x9), xZ, xZ, xZ, xZ, xZ] [] (xst (xst h 64 x8 (xpl h 64 x3)) 64 x9 (xpl (xst h 64 x8 (xpl h 64 x3)) 64 x5)) Q X)))))))))) : xwp G m_DualPivotQuicksort_sort_SorteraJIII (d + 141) 446 [xR (-1), xR 64, xI x2, xI x3, xI x4, xI x5, xI x6, xZ, xI x8, xI x9, xI x10, xI x11, xI x12, xZ, xZ, xZ, xZ, xZ, xZ, xZ, xZ, xZ, xZ, xZ, xZ] [] h Q X := by
  have hnx9 : (93 : Int) ≤ xnx h := F.2.2
  refine xr_okL (fun hl9 => ?_)
  have r_x2 : -2147483648 ≤ x2 ∧ x2 ≤ 2147483647 := hl9 (xI x2) (.tail _ (.tail _ (.head _))) (Nat.le_of_ble_eq_true rfl)
  have r_x3 : -2147483648 ≤ x3 ∧ x3 ≤ 2147483647 := hl9 (xI x3) (.tail _ (.tail _ (.tail _ (.head _)))) (Nat.le_of_ble_eq_true rfl)
  have r_x4 : -2147483648 ≤ x4 ∧ x4 ≤ 2147483647 := hl9 (xI x4) (.tail _ (.tail _ (.tail _ (.tail _ (.head _))))) (Nat.le_of_ble_eq_true rfl)
  have r_x5 : -2147483648 ≤ x5 ∧ x5 ≤ 2147483647 := hl9 (xI x5) (.tail _ (.tail _ (.tail _ (.tail _ (.tail _ (.head _)))))) (Nat.le_of_ble_eq_true rfl)
  have r_x6 : -2147483648 ≤ x6 ∧ x6 ≤ 2147483647 := hl9 (xI x6) (.tail _ (.tail _ (.tail _ (.tail _ (.tail _ (.tail _ (.head _))))))) (Nat.le_of_ble_eq_true rfl)
  have r_x8 : -2147483648 ≤ x8 ∧ x8 ≤ 2147483647 := hl9 (xI x8) (.tail _ (.tail _ (.tail _ (.tail _ (.tail _ (.tail _ (.tail _ (.tail _ (.head _))))))))) (Nat.le_of_ble_eq_true rfl)
  have r_x9 : -2147483648 ≤ x9 ∧ x9 ≤ 2147483647 := hl9 (xI x9) (.tail _ (.tail _ (.tail _ (.tail _ (.tail _ (.tail _ (.tail _ (.tail _ (.tail _ (.head _)))))))))) (Nat.le_of_ble_eq_true rfl)
  have r_x10 : -2147483648 ≤ x10 ∧ x10 ≤ 2147483647 := hl9 (xI x10) (.tail _ (.tail _ (.tail _ (.tail _ (.tail _ (.tail _ (.tail _ (.tail _ (.tail _ (.tail _ (.head _))))))))))) (Nat.le_of_ble_eq_true rfl)
  have r_x11 : -2147483648 ≤ x11 ∧ x11 ≤ 2147483647 := hl9 (xI x11) (.tail _ (.tail _ (.tail _ (.tail _ (.tail _ (.tail _ (.tail _ (.tail _ (.tail _ (.tail _ (.tail _ (.head _)))))))))))) (Nat.le_of_ble_eq_true rfl)
  have r_x12 : -2147483648 ≤ x12 ∧ x12 ≤ 2147483647 := hl9 (xI x12) (.tail _ (.tail _ (.tail _ (.tail _ (.tail _ (.tail _ (.tail _ (.tail _ (.tail _ (.tail _ (.tail _ (.tail _ (.head _))))))))))))) (Nat.le_of_ble_eq_true rfl)
  refine xr_iload_n (pc := 446) (i := 3) (hI := d_DualPivotQuicksort_sort_SorteraJIII_446) (hi := rfl) (hl := rfl) ?_
  refine xr_istore (pc := 447) (i := 15) (L9 := [xR (-1), xR 64, xI x2, xI x3, xI x4, xI x5, xI x6, xZ, xI x8, xI x9, xI x10, xI x11, xI x12, xZ, xZ, xI x3, xZ, xZ, xZ, xZ, xZ, xZ, xZ, xZ, xZ]) (hI := d_DualPivotQuicksort_sort_SorteraJIII_447) (hn := Nat.le_of_ble_eq_true rfl) (hL9 := rfl) ?_
  refine xr_iload (pc := 449) (i := 5) (hI := d_DualPivotQuicksort_sort_SorteraJIII_449) (hl := rfl) ?_
  refine xr_istore (pc := 451) (i := 16) (L9 := [xR (-1), xR 64, xI x2, xI x3, xI x4, xI x5, xI x6, xZ, xI x8, xI x9, xI x10, xI x11, xI x12, xZ, xZ, xI x3, xI x5, xZ, xZ, xZ, xZ, xZ, xZ, xZ, xZ]) (hI := d_DualPivotQuicksort_sort_SorteraJIII_451) (hn := Nat.le_of_ble_eq_true rfl) (hL9 := rfl) ?_
  refine xr_aload_n (pc := 453) (i := 1) (hI := d_DualPivotQuicksort_sort_SorteraJIII_453) (hi := rfl) (hl := rfl) ?_
  refine xr_iload (pc := 454) (i := 8) (hI := d_DualPivotQuicksort_sort_SorteraJIII_454) (hl := rfl) ?_
  obtain ⟨c1_, hyp⟩ := hyp
  obtain ⟨c2_, hyp⟩ := hyp
  refine xg_laload (pc := 456) (v := (xpl h 64 x8)) (hI := d_DualPivotQuicksort_sort_SorteraJIII_456) (ft_64 F) c1_ (xlt_of (fl_64 F) c2_) rfl (fun f3_ => ?_)
  replace f3_ : -9223372036854775808 ≤ (xpl h 64 x8) ∧ (xpl h 64 x8) ≤ 9223372036854775807 := f3_
  refine xr_aload_n (pc := 457) (i := 1) (hI := d_DualPivotQuicksort_sort_SorteraJIII_457) (hi := rfl) (hl := rfl) ?_
  refine xr_iload (pc := 458) (i := 11) (hI := d_DualPivotQuicksort_sort_SorteraJIII_458) (hl := rfl) ?_
  obtain ⟨c4_, hyp⟩ := hyp
  obtain ⟨c5_, hyp⟩ := hyp
  refine xg_laload (pc := 460) (v := (xpl h 64 x11)) (hI := d_DualPivotQuicksort_sort_SorteraJIII_460) (ft_64 F) c4_ (xlt_of (fl_64 F) c5_) rfl (fun f6_ => ?_)
  replace f6_ : -9223372036854775808 ≤ (xpl h 64 x11) ∧ (xpl h 64 x11) ≤ 9223372036854775807 := f6_
  refine xr_lcmp (pc := 461) (hI := d_DualPivotQuicksort_sort_SorteraJIII_461) ?_
  refine xg_lif_ge (pc := 462) (tgt := 795) (hI := d_DualPivotQuicksort_sort_SorteraJIII_462) (ht := by decide) (fun q9 => ?_) (fun q9 => ?_)
  · replace hyp := hyp.1 q9
    have q7_ := q9
    clear q9
    exact xr_drop (L9 := [xR (-1), xR 64, xI x2, xI x3, xI x4, xZ, xI x6, xZ, xZ, xZ, xI x10, xZ, xZ, xZ, xZ, xI x3, xI x5, xZ, xZ, xZ, xZ, xZ, xZ, xZ, xZ]) (xdrs (xdrs (xdrs (xdrs (xdrs (xdrz (xdrs (xdrs (xdrz (xdrz (xdrs (xdrz (xdrz (xdrs (xdrs (xdrs (xdrs (xdrs (xdrs (xdrs (xdrs (xdrs (xdrs (xdrs (xdrs xdr0))))))))))))))))))))))))) hyp
  · replace hyp := hyp.2 q9
    have q7_ := q9
    clear q9
    refine xr_aload_n (pc := 465) (i := 1) (hI := d_DualPivotQuicksort_sort_SorteraJIII_465) (hi := rfl) (hl := rfl) ?_
    refine xr_iload (pc := 466) (i := 11) (hI := d_DualPivotQuicksort_sort_SorteraJIII_466) (hl := rfl) ?_
    refine xg_laload (pc := 468) (v := (xpl h 64 x11)) (hI := d_DualPivotQuicksort_sort_SorteraJIII_468) (ft_64 F) (by clear hyp; omega) (xlt_of (fl_64 F) (by clear hyp; omega)) rfl (fun f8_ => ?_)
    replace f8_ : -9223372036854775808 ≤ (xpl h 64 x11) ∧ (xpl h 64 x11) ≤ 9223372036854775807 := f8_
    refine xr_aload_n (pc := 469) (i := 1) (hI := d_DualPivotQuicksort_sort_SorteraJIII_469) (hi := rfl) (hl := rfl) ?_
    refine xr_iload (pc := 470) (i := 10) (hI := d_DualPivotQuicksort_sort_SorteraJIII_470) (hl := rfl) ?_
    obtain ⟨c9_, hyp⟩ := hyp
    obtain ⟨c10_, hyp⟩ := hyp
    refine xg_laload (pc := 472) (v := (xpl h 64 x10)) (hI := d_DualPivotQuicksort_sort_SorteraJIII_472) (ft_64 F) c9_ (xlt_of (fl_64 F) c10_) rfl (fun f11_ => ?_)
    replace f11_ : -9223372036854775808 ≤ (xpl h 64 x10) ∧ (xpl h 64 x10) ≤ 9223372036854775807 := f11_
    refine xr_lcmp (pc := 473) (hI := d_DualPivotQuicksort_sort_SorteraJIII_473) ?_
    refine xg_lif_ge (pc := 474) (tgt := 795) (hI := d_DualPivotQuicksort_sort_SorteraJIII_474) (ht := by decide) (fun q9 => ?_) (fun q9 => ?_)
    · replace hyp := hyp.1 q9
      have q12_ := q9
      clear q9
      exact xr_drop (L9 := [xR (-1), xR 64, xI x2, xI x3, xI x4, xZ, xI x6, xZ, xZ, xZ, xI x10, xZ, xZ, xZ, xZ, xI x3, xI x5, xZ, xZ, xZ, xZ, xZ, xZ, xZ, xZ]) (xdrs (xdrs (xdrs (xdrs (xdrs (xdrz (xdrs (xdrs (xdrz (xdrz (xdrs (xdrz (xdrz (xdrs (xdrs (xdrs (xdrs (xdrs (xdrs (xdrs (xdrs (xdrs (xdrs (xdrs (xdrs xdr0))))))))))))))))))))))))) hyp
    · replace hyp := hyp.2 q9
      have q12_ := q9
      clear q9
      refine xr_aload_n (pc := 477) (i := 1) (hI := d_DualPivotQuicksort_sort_SorteraJIII_477) (hi := rfl) (hl := rfl) ?_
      refine xr_iload (pc := 478) (i := 10) (hI := d_DualPivotQuicksort_sort_SorteraJIII_478) (hl := rfl) ?_
      refine xg_laload (pc := 480) (v := (xpl h 64 x10)) (hI := d_DualPivotQuicksort_sort_SorteraJIII_480) (ft_64 F) (by clear hyp; omega) (xlt_of (fl_64 F) (by clear hyp; omega)) rfl (fun f13_ => ?_)
      replace f13_ : -9223372036854775808 ≤ (xpl h 64 x10) ∧ (xpl h 64 x10) ≤ 9223372036854775807 := f13_
      refine xr_aload_n (pc := 481) (i := 1) (hI := d_DualPivotQuicksort_sort_SorteraJIII_481) (hi := rfl) (hl := rfl) ?_
      refine xr_iload (pc := 482) (i := 12) (hI := d_DualPivotQuicksort_sort_SorteraJIII_482) (hl := rfl) ?_
      obtain ⟨c14_, hyp⟩ := hyp
      obtain ⟨c15_, hyp⟩ := hyp
      refine xg_laload (pc := 484) (v := (xpl h 64 x12)) (hI := d_DualPivotQuicksort_sort_SorteraJIII_484) (ft_64 F) c14_ (xlt_of (fl_64 F) c15_) rfl (fun f16_ => ?_)
      replace f16_ : -9223372036854775808 ≤ (xpl h 64 x12) ∧ (xpl h 64 x12) ≤ 9223372036854775807 := f16_
      refine xr_lcmp (pc := 485) (hI := d_DualPivotQuicksort_sort_SorteraJIII_485) ?_
      refine xg_lif_ge (pc := 486) (tgt := 795) (hI := d_DualPivotQuicksort_sort_SorteraJIII_486) (ht := by decide) (fun q9 => ?_) (fun q9 => ?_)
      · replace hyp := hyp.1 q9
        have q17_ := q9
        clear q9
        exact xr_drop (L9 := [xR (-1), xR 64, xI x2, xI x3, xI x4, xZ, xI x6, xZ, xZ, xZ, xI x10, xZ, xZ, xZ, xZ, xI x3, xI x5, xZ, xZ, xZ, xZ, xZ, xZ, xZ, xZ]) (xdrs (xdrs (xdrs (xdrs (xdrs (xdrz (xdrs (xdrs (xdrz (xdrz (xdrs (xdrz (xdrz (xdrs (xdrs (xdrs (xdrs (xdrs (xdrs (xdrs (xdrs (xdrs (xdrs (xdrs (xdrs xdr0))))))))))))))))))))))))) hyp
      · replace hyp := hyp.2 q9
        have q17_ := q9
        clear q9
        refine xr_aload_n (pc := 489) (i := 1) (hI := d_DualPivotQuicksort_sort_SorteraJIII_489) (hi := rfl) (hl := rfl) ?_
        refine xr_iload (pc := 490) (i := 12) (hI := d_DualPivotQuicksort_sort_SorteraJIII_490) (hl := rfl) ?_
        refine xg_laload (pc := 492) (v := (xpl h 64 x12)) (hI := d_DualPivotQuicksort_sort_SorteraJIII_492) (ft_64 F) (by clear hyp; omega) (xlt_of (fl_64 F) (by clear hyp; omega)) rfl (fun f18_ => ?_)
        replace f18_ : -9223372036854775808 ≤ (xpl h 64 x12) ∧ (xpl h 64 x12) ≤ 9223372036854775807 := f18_
        refine xr_aload_n (pc := 493) (i := 1) (hI := d_DualPivotQuicksort_sort_SorteraJIII_493) (hi := rfl) (hl := rfl) ?_
        refine xr_iload (pc := 494) (i := 9) (hI := d_DualPivotQuicksort_sort_SorteraJIII_494) (hl := rfl) ?_
        obtain ⟨c19_, hyp⟩ := hyp
        obtain ⟨c20_, hyp⟩ := hyp
        refine xg_laload (pc := 496) (v := (xpl h 64 x9)) (hI := d_DualPivotQuicksort_sort_SorteraJIII_496) (ft_64 F) c19_ (xlt_of (fl_64 F) c20_) rfl (fun f21_ => ?_)
        replace f21_ : -9223372036854775808 ≤ (xpl h 64 x9) ∧ (xpl h 64 x9) ≤ 9223372036854775807 := f21_
        refine xr_lcmp (pc := 497) (hI := d_DualPivotQuicksort_sort_SorteraJIII_497) ?_
        refine xg_lif_ge (pc := 498) (tgt := 795) (hI := d_DualPivotQuicksort_sort_SorteraJIII_498) (ht := by decide) (fun q9 => ?_) (fun q9 => ?_)
        · replace hyp := hyp.1 q9
          have q22_ := q9
          clear q9
          exact xr_drop (L9 := [xR (-1), xR 64, xI x2, xI x3, xI x4, xZ, xI x6, xZ, xZ, xZ, xI x10, xZ, xZ, xZ, xZ, xI x3, xI x5, xZ, xZ, xZ, xZ, xZ, xZ, xZ, xZ]) (xdrs (xdrs (xdrs (xdrs (xdrs (xdrz (xdrs (xdrs (xdrz (xdrz (xdrs (xdrz (xdrz (xdrs (xdrs (xdrs (xdrs (xdrs (xdrs (xdrs (xdrs (xdrs (xdrs (xdrs (xdrs xdr0))))))))))))))))))))))))) hyp
        · replace hyp := hyp.2 q9
          have q22_ := q9
          clear q9
          refine xr_aload_n (pc := 501) (i := 1) (hI := d_DualPivotQuicksort_sort_SorteraJIII_501) (hi := rfl) (hl := rfl) ?_
          refine xr_iload (pc := 502) (i := 8) (hI := d_DualPivotQuicksort_sort_SorteraJIII_502) (hl := rfl) ?_
          refine xg_laload (pc := 504) (v := (xpl h 64 x8)) (hI := d_DualPivotQuicksort_sort_SorteraJIII_504) (ft_64 F) (by clear hyp; omega) (xlt_of (fl_64 F) (by clear hyp; omega)) rfl (fun f23_ => ?_)
          replace f23_ : -9223372036854775808 ≤ (xpl h 64 x8) ∧ (xpl h 64 x8) ≤ 9223372036854775807 := f23_
          refine xr_lstore (pc := 505) (i := 17) (L9 := [xR (-1), xR 64, xI x2, xI x3, xI x4, xI x5, xI x6, xZ, xI x8, xI x9, xI x10, xI x11, xI x12, xZ, xZ, xI x3, xI x5, xL (xpl h 64 x8), xZ, xZ, xZ, xZ, xZ, xZ, xZ]) (hI := d_DualPivotQuicksort_sort_SorteraJIII_505) (hn := Nat.le_of_ble_eq_true rfl) (hL9 := rfl) ?_
          refine xr_aload_n (pc := 507) (i := 1) (hI := d_DualPivotQuicksort_sort_SorteraJIII_507) (hi := rfl) (hl := rfl) ?_
          refine xr_iload (pc := 508) (i := 9) (hI := d_DualPivotQuicksort_sort_SorteraJIII_508) (hl := rfl) ?_
          refine xg_laload (pc := 510) (v := (xpl h 64 x9)) (hI := d_DualPivotQuicksort_sort_SorteraJIII_510) (ft_64 F) (by clear hyp; omega) (xlt_of (fl_64 F) (by clear hyp; omega)) rfl (fun f24_ => ?_)
          replace f24_ : -9223372036854775808 ≤ (xpl h 64 x9) ∧ (xpl h 64 x9) ≤ 9223372036854775807 := f24_
          refine xr_lstore (pc := 511) (i := 19) (L9 := [xR (-1), xR 64, xI x2, xI x3, xI x4, xI x5, xI x6, xZ, xI x8, xI x9, xI x10, xI x11, xI x12, xZ, xZ, xI x3, xI x5, xL (xpl h 64 x8), xZ, xL (xpl h 64 x9), xZ, xZ, xZ, xZ, xZ]) (hI := d_DualPivotQuicksort_sort_SorteraJIII_511) (hn := Nat.le_of_ble_eq_true rfl) (hL9 := rfl) ?_
          refine xr_aload_n (pc := 513) (i := 1) (hI := d_DualPivotQuicksort_sort_SorteraJIII_513) (hi := rfl) (hl := rfl) ?_
          refine xr_iload (pc := 514) (i := 8) (hI := d_DualPivotQuicksort_sort_SorteraJIII_514) (hl := rfl) ?_
          refine xr_aload_n (pc := 516) (i := 1) (hI := d_DualPivotQuicksort_sort_SorteraJIII_516) (hi := rfl) (hl := rfl) ?_
          refine xr_iload (pc := 517) (i := 15) (hI := d_DualPivotQuicksort_sort_SorteraJIII_517) (hl := rfl) ?_
          obtain ⟨c25_, hyp⟩ := hyp
          obtain ⟨c26_, hyp⟩ := hyp
          refine xg_laload (pc := 519) (v := (xpl h 64 x3)) (hI := d_DualPivotQuicksort_sort_SorteraJIII_519) (ft_64 F) c25_ (xlt_of (fl_64 F) c26_) rfl (fun f27_ => ?_)
          replace f27_ : -9223372036854775808 ≤ (xpl h 64 x3) ∧ (xpl h 64 x3) ≤ 9223372036854775807 := f27_
          refine xr_lastore (pc := 520) (hI := d_DualPivotQuicksort_sort_SorteraJIII_520) (ft_64 F) (by decide) (by clear hyp; omega) (xlt_of (fl_64 F) (by clear hyp; omega)) ?_
          have F28_ : xFix (xst h 64 x8 (xpl h 64 x3)) := F.stA xfa_64
          refine xr_aload_n (pc := 521) (i := 1) (hI := d_DualPivotQuicksort_sort_SorteraJIII_521) (hi := rfl) (hl := rfl) ?_
          refine xr_iload (pc := 522) (i := 9) (hI := d_DualPivotQuicksort_sort_SorteraJIII_522) (hl := rfl) ?_
          refine xr_aload_n (pc := 524) (i := 1) (hI := d_DualPivotQuicksort_sort_SorteraJIII_524) (hi := rfl) (hl := rfl) ?_
          refine xr_iload (pc := 525) (i := 16) (hI := d_DualPivotQuicksort_sort_SorteraJIII_525) (hl := rfl) ?_
          obtain ⟨c29_, hyp⟩ := hyp
          obtain ⟨c30_, hyp⟩ := hyp
          refine xg_laload (pc := 527) (v := (xpl (xst h 64 x8 (xpl h 64 x3)) 64 x5)) (hI := d_DualPivotQuicksort_sort_SorteraJIII_527) (ft_64 F28_) c29_ (xlt_of (fl_64 F28_) c30_) rfl (fun f31_ => ?_)
          replace f31_ : -9223372036854775808 ≤ (xpl (xst h 64 x8 (xpl h 64 x3)) 64 x5) ∧ (xpl (xst h 64 x8 (xpl h 64 x3)) 64 x5) ≤ 9223372036854775807 := f31_
          refine xr_lastore (pc := 528) (hI := d_DualPivotQuicksort_sort_SorteraJIII_528) (ft_64 F28_) (by decide) (by clear hyp; omega) (xlt_of (fl_64 F28_) (by clear hyp; omega)) ?_
          have F32_ : xFix (xst (xst h 64 x8 (xpl h 64 x3)) 64 x9 (xpl (xst h 64 x8 (xpl h 64 x3)) 64 x5)) := F28_.stA xfa_64
          exact xr_drop (L9 := [xR (-1), xR 64, xI x2, xI x3, xI x4, xI x5, xI x6, xZ, xZ, xZ, xZ, xZ, xZ, xZ, xZ, xI x3, xI x5, xL (xpl h 64 x8), xZ, xL (xpl h 64 x9), xZ, xZ, xZ, xZ, xZ]) (xdrs (xdrs (xdrs (xdrs (xdrs (xdrs (xdrs (xdrs (xdrz (xdrz (xdrz (xdrz (xdrz (xdrs (xdrs (xdrs (xdrs (xdrs (xdrs (xdrs (xdrs (xdrs (xdrs (xdrs (xdrs xdr0))))))))))))))))))))))))) (hyp F32_)
theorem d_DualPivotQuicksort_sort_SorteraJIII_529 : decode prog_46_method_13_code 529 = .ok (.aload_n 1, 1) := by decide +kernel
theorem d_DualPivotQuicksort_sort_SorteraJIII_530 : decode prog_46_method_13_code 530 = .ok (.iinc 15 1, 3) := by decide +kernel
theorem d_DualPivotQuicksort_sort_SorteraJIII_533 : decode prog_46_method_13_code 533 = .ok (.iload 15, 2) := by decide +kernel
theorem d_DualPivotQuicksort_sort_SorteraJIII_535 : decode prog_46_method_13_code 535 = .ok (.laload, 1) := by decide +kernel
theorem d_DualPivotQuicksort_sort_SorteraJIII_536 : decode prog_46_method_13_code 536 = .ok (.lload 17, 2) := by decide +kernel
theorem d_DualPivotQuicksort_sort_SorteraJIII_538 : decode prog_46_method_13_code 538 = .ok (.lcmp, 1) := by decide +kernel
theorem d_DualPivotQuicksort_sort_SorteraJIII_539 : decode prog_46_method_13_code 539 = .ok (.ifCond .ge 6, 3) := by decide +kernel
theorem d_DualPivotQuicksort_sort_SorteraJIII_542 : decode prog_46_method_13_code 542 = .ok (.goto (-13), 3) := by decide +kernel
theorem v_DualPivotQuicksort_sort_SorteraJIII_529 {G : XG} {d : Nat} {h : XH} {Q : XV → XH → Prop} {X : Nat → XH → Prop} {x2 x3 x4 x5 x6 x15 x16 x17 x19 : Int} (F : xFix h) (hyp : xiR (x15 + 1) ∧ 0 ≤ (x15 + 1) ∧ (x15 + 1) < 12000 ∧ ((x17 ≤ (xpl h 64 (x15 + 1)) → (xwp G m_DualPivotQuicksort_sort_SorteraJIII (d + 141) 545 [xR (-1), xR 64, xI x2, xI x3, xI x4, xI x5, xI x6, xZ, xZ, xZ, xZ, xZ, xZ, xZ, xZ, xI (x15 + 1), xI x16, xL x17, xZ, xL x19, xZ, xZ, xZ, xZ, xZ] [] h Q X)) ∧ (¬ x17 ≤ (xpl h 64 (x15 + 1)) → (xwp G m_DualPivotQuicksort_sort_SorteraJIII (d + 141) 529 [xR (-1), xR 64, xI x2, xI x3, xI x4, xI x5, xI x6, xZ, xZ, xZ, xZ, xZ, xZ, xZ, xZ, xI (x15 + 1), xI x16, xL x17, xZ, xL x19, xZ, xZ, xZ, xZ, xZ] [] h Q X)))) : xwp G m_DualPivotQuicksort_sort_SorteraJIII (d + 141) 529 [xR (-1), xR 64, xI x2, xI x3, xI x4, xI x5, xI x6, xZ, xZ, xZ, xZ, xZ, xZ, xZ, xZ, xI x15, xI x16, xL x17, xZ, xL x19, xZ, xZ, xZ, xZ, xZ] [] h Q X := by
  have hnx9 : (93 : Int) ≤ xnx h := F.2.2
  refine xr_okL (fun hl9 => ?_)
  have r_x2 : -2147483648 ≤ x2 ∧ x2 ≤ 2147483647 := hl9 (xI x2) (.tail _ (.tail _ (.head _))) (Nat.le_of_ble_eq_true rfl)
  have r_x3 : -2147483648 ≤ x3 ∧ x3 ≤ 2147483647 := hl9 (xI x3) (.tail _ (.tail _ (.tail _ (.head _)))) (Nat.le_of_ble_eq_true rfl)
  have r_x4 : -2147483648 ≤ x4 ∧ x4 ≤ 2147483647 := hl9 (xI x4) (.tail _ (.tail _ (.tail _ (.tail _ (.head _))))) (Nat.le_of_ble_eq_true rfl)
  have r_x5 : -2147483648 ≤ x5 ∧ x5 ≤ 2147483647 := hl9 (xI x5) (.tail _ (.tail _ (.tail _ (.tail _ (.tail _ (.head _)))))) (Nat.le_of_ble_eq_true rfl)
  have r_x6 : -2147483648 ≤ x6 ∧ x6 ≤ 2147483647 := hl9 (xI x6) (.tail _ (.tail _ (.tail _ (.tail _ (.tail _ (.tail _ (.head _))))))) (Nat.le_of_ble_eq_true rfl)
  have r_x15 : -2147483648 ≤ x15 ∧ x15 ≤ 2147483647 := hl9 (xI x15) (.tail _ (.tail _ (.tail _ (.tail _ (.tail _ (.tail _ (.tail _ (.tail _ (.tail _ (.tail _ (.tail _ (.tail _ (.tail _ (.tail _ (.tail _ (.head _)))))))))))))))) (Nat.le_of_ble_eq_true rfl)
  have r_x16 : -2147483648 ≤ x16 ∧ x16 ≤ 2147483647 := hl9 (xI x16) (.tail _ (.tail _ (.tail _ (.tail _ (.tail _ (.tail _ (.tail _ (.tail _ (.tail _ (.tail _ (.tail _ (.tail _ (.tail _ (.tail _ (.tail _ (.tail _ (.head _))))))))))))))))) (Nat.le_of_ble_eq_true rfl)
  have r_x17 : -9223372036854775808 ≤ x17 ∧ x17 ≤ 9223372036854775807 := hl9 (xL x17) (.tail _ (.tail _ (.tail _ (.tail _ (.tail _ (.tail _ (.tail _ (.tail _ (.tail _ (.tail _ (.tail _ (.tail _ (.tail _ (.tail _ (.tail _ (.tail _ (.tail _ (.head _)))))))))))))))))) (Nat.le_of_ble_eq_true rfl)
  have r_x19 : -9223372036854775808 ≤ x19 ∧ x19 ≤ 9223372036854775807 := hl9 (xL x19) (.tail _ (.tail _ (.tail _ (.tail _ (.tail _ (.tail _ (.tail _ (.tail _ (.tail _ (.tail _ (.tail _ (.tail _ (.tail _ (.tail _ (.tail _ (.tail _ (.tail _ (.tail _ (.tail _ (.head _)))))))))))))))))))) (Nat.le_of_ble_eq_true rfl)
  refine xr_aload_n (pc := 529) (i := 1) (hI := d_DualPivotQuicksort_sort_SorteraJIII_529) (hi := rfl) (hl := rfl) ?_
  obtain ⟨c9, hyp⟩ := hyp
  refine xr_iinc (pc := 530) (i := 15) (L9 := [xR (-1), xR 64, xI x2, xI x3, xI x4, xI x5, xI x6, xZ, xZ, xZ, xZ, xZ, xZ, xZ, xZ, xI (x15 + 1), xI x16, xL x17, xZ, xL x19, xZ, xZ, xZ, xZ, xZ]) (hI := d_DualPivotQuicksort_sort_SorteraJIII_530) (hl := rfl) (hn := Nat.le_of_ble_eq_true rfl) (hr := c9) (hL9 := rfl) ?_
  refine xr_iload (pc := 533) (i := 15) (hI := d_DualPivotQuicksort_sort_SorteraJIII_533) (hl := rfl) ?_
  obtain ⟨c1_, hyp⟩ := hyp
  obtain ⟨c2_, hyp⟩ := hyp
  refine xg_laload (pc := 535) (v := (xpl h 64 (x15 + 1))) (hI := d_DualPivotQuicksort_sort_SorteraJIII_535) (ft_64 F) c1_ (xlt_of (fl_64 F) c2_) rfl (fun f3_ => ?_)
  replace f3_ : -9223372036854775808 ≤ (xpl h 64 (x15 + 1)) ∧ (xpl h 64 (x15 + 1)) ≤ 9223372036854775807 := f3_
  refine xr_lload (pc := 536) (i := 17) (hI := d_DualPivotQuicksort_sort_SorteraJIII_536) (hl := rfl) ?_
  refine xr_lcmp (pc := 538) (hI := d_DualPivotQuicksort_sort_SorteraJIII_538) ?_
  refine xg_lif_ge (pc := 539) (tgt := 545) (hI := d_DualPivotQuicksort_sort_SorteraJIII_539) (ht := by decide) (fun q9 => ?_) (fun q9 => ?_)
  · replace hyp := hyp.1 q9
    have q4_ := q9
    clear q9
    exact hyp
  · replace hyp := hyp.2 q9
    have q4_ := q9
    clear q9
    refine xr_goto (pc := 542) (tgt := 529) (hI := d_DualPivotQuicksort_sort_SorteraJIII_542) (ht := by decide) ?_
    exact hyp
theorem d_DualPivotQuicksort_sort_SorteraJIII_545 : decode prog_46_method_13_code 545 = .ok (.aload_n 1, 1) := by decide +kernel
theorem d_DualPivotQuicksort_sort_SorteraJIII_546 : decode prog_46_method_13_code 546 = .ok (.iinc 16 (-1), 3) := by decide +kernel
theorem d_DualPivotQuicksort_sort_SorteraJIII_549 : decode prog_46_method_13_code 549 = .ok (.iload 16, 2) := by decide +kernel
theorem d_DualPivotQuicksort_sort_SorteraJIII_551 : decode prog_46_method_13_code 551 = .ok (.laload, 1) := by decide +kernel
theorem d_DualPivotQuicksort_sort_SorteraJIII_552 : decode prog_46_method_13_code 552 = .ok (.lload 19, 2) := by decide +kernel
theorem d_DualPivotQuicksort_sort_SorteraJIII_554 : decode prog_46_method_13_code 554 = .ok (.lcmp, 1) := by decide +kernel
theorem d_DualPivotQuicksort_sort_SorteraJIII_555 : decode prog_46_method_13_code 555 = .ok (.ifCond .le 6, 3) := by decide +kernel
theorem d_DualPivotQuicksort_sort_SorteraJIII_561 : decode prog_46_method_13_code 561 = .ok (.iinc 15 (-1), 3) := by decide +kernel
theorem d_DualPivotQuicksort_sort_SorteraJIII_564 : decode prog_46_method_13_code 564 = .ok (.iload 15, 2) := by decide +kernel
theorem d_DualPivotQuicksort_sort_SorteraJIII_566 : decode prog_46_method_13_code 566 = .ok (.istore 21, 2) := by decide +kernel
theorem d_DualPivotQuicksort_sort_SorteraJIII_568 : decode prog_46_method_13_code 568 = .ok (.iinc 16 1, 3) := by decide +kernel
theorem d_DualPivotQuicksort_sort_SorteraJIII_571 : decode prog_46_method_13_code 571 = .ok (.iload 16, 2) := by decide +kernel
theorem d_DualPivotQuicksort_sort_SorteraJIII_573 : decode prog_46_method_13_code 573 = .ok (.istore 22, 2) := by decide +kernel
theorem d_DualPivotQuicksort_sort_SorteraJIII_558 : decode prog_46_method_13_code 558 = .ok (.goto (-13), 3) := by decide +kernel
theorem v_DualPivotQuicksort_sort_SorteraJIII_545 {G : XG} {d : Nat} {h : XH} {Q : XV → XH → Prop} {X : Nat → XH → Prop} {x2 x3 x4 x5 x6 x15 x16 x17 x19 : Int} (F : xFix h) (hyp : xiR (x16 + (-1)) ∧ 0 ≤ (x16 + (-1)) ∧ (x16 + (-1)) < 12000 ∧ (((xpl h 64 (x16 + (-1))) ≤ x19 → xiR (x15 + (-1)) ∧ (xwp G m_DualPivotQuicksort_sort_SorteraJIII (d + 141) 575 [xR (-1), xR 64, xI x2, xI x3, xI x4, xI x5, xI x6, xZ, xZ, xZ, xZ, xZ, xZ, xZ, xZ, xI (x15 + (-1)), xI ((x16 + (-1)) + 1), xL x17, xZ, xL x19, xZ, xZ, xI ((x16 + (-1)) + 1), xZ, xZ] [] h Q X)) ∧ (¬ (xpl h 64 (x16 + (-1))) ≤ x19 → (xwp G m_DualPivotQuicksort_sort_SorteraJIII (d + 141) 545 [xR (-1), xR 64, xI x2, xI x3, xI x4, xI x5, xI x6, xZ, xZ, xZ, xZ, xZ, xZ, xZ, xZ, xI x15, xI (x16 + (-1)), xL x17, xZ, xL x19, xZ, xZ, xZ, xZ, xZ] [] h Q X)))) : xwp G m_DualPivotQuicksort_sort_SorteraJIII (d + 141) 545 [xR (-1), xR 64, xI x2, xI x3, xI x4, xI x5, xI x6, xZ, xZ, xZ, xZ, xZ, xZ, xZ, xZ, xI x15, xI x16, xL x17, xZ, xL x19, xZ, xZ, xZ, xZ, xZ] [] h Q X := by
  have hnx9 : (93 : Int) ≤ xnx h := F.2.2
  refine xr_okL (fun hl9 => ?_)
  have r_x2 : -2147483648 ≤ x2 ∧ x2 ≤ 2147483647 := hl9 (xI x2) (.tail _ (.tail _ (.head _))) (Nat.le_of_ble_eq_true rfl)
  have r_x3 : -2147483648 ≤ x3 ∧ x3 ≤ 2147483647 := hl9 (xI x3) (.tail _ (.tail _ (.tail _ (.head _)))) (Nat.le_of_ble_eq_true rfl)
  have r_x4 : -2147483648 ≤ x4 ∧ x4 ≤ 2147483647 := hl9 (xI x4) (.tail _ (.tail _ (.tail _ (.tail _ (.head _))))) (Nat.le_of_ble_eq_true rfl)
  have r_x5 : -2147483648 ≤ x5 ∧ x5 ≤ 2147483647 := hl9 (xI x5) (.tail _ (.tail _ (.tail _ (.tail _ (.tail _ (.head _)))))) (Nat.le_of_ble_eq_true rfl)
  have r_x6 : -2147483648 ≤ x6 ∧ x6 ≤ 2147483647 := hl9 (xI x6) (.tail _ (.tail _ (.tail _ (.tail _ (.tail _ (.tail _ (.head _))))))) (Nat.le_of_ble_eq_true rfl)
  have r_x15 : -2147483648 ≤ x15 ∧ x15 ≤ 2147483647 := hl9 (xI x15) (.tail _ (.tail _ (.tail _ (.tail _ (.tail _ (.tail _ (.tail _ (.tail _ (.tail _ (.tail _ (.tail _ (.tail _ (.tail _ (.tail _ (.tail _ (.head _)))))))))))))))) (Nat.le_of_ble_eq_true rfl)
  have r_x16 : -2147483648 ≤ x16 ∧ x16 ≤ 2147483647 := hl9 (xI x16) (.tail _ (.tail _ (.tail _ (.tail _ (.tail _ (.tail _ (.tail _ (.tail _ (.tail _ (.tail _ (.tail _ (.tail _ (.tail _ (.tail _ (.tail _ (.tail _ (.head _))))))))))))))))) (Nat.le_of_ble_eq_true rfl)
  have r_x17 : -9223372036854775808 ≤ x17 ∧ x17 ≤ 9223372036854775807 := hl9 (xL x17) (.tail _ (.tail _ (.tail _ (.tail _ (.tail _ (.tail _ (.tail _ (.tail _ (.tail _ (.tail _ (.tail _ (.tail _ (.tail _ (.tail _ (.tail _ (.tail _ (.tail _ (.head _)))))))))))))))))) (Nat.le_of_ble_eq_true rfl)
  have r_x19 : -9223372036854775808 ≤ x19 ∧ x19 ≤ 9223372036854775807 := hl9 (xL x19) (.tail _ (.tail _ (.tail _ (.tail _ (.tail _ (.tail _ (.tail _ (.tail _ (.tail _ (.tail _ (.tail _ (.tail _ (.tail _ (.tail _ (.tail _ (.tail _ (.tail _ (.tail _ (.tail _ (.head _)))))))))))))))))))) (Nat.le_of_ble_eq_true rfl)
  refine xr_aload_n (pc := 545) (i := 1) (hI := d_DualPivotQuicksort_sort_SorteraJIII_545) (hi := rfl) (hl := rfl) ?_
  obtain ⟨c9, hyp⟩ := hyp
  refine xr_iinc (pc := 546) (i := 16) (L9 := [xR (-1), xR 64, xI x2, xI x3, xI x4, xI x5, xI x6, xZ, xZ, xZ, xZ, xZ, xZ, xZ, xZ, xI x15, xI (x16 + (-1)), xL x17, xZ, xL x19, xZ, xZ, xZ, xZ, xZ]) (hI := d_DualPivotQuicksort_sort_SorteraJIII_546) (hl := rfl) (hn := Nat.le_of_ble_eq_true rfl) (hr := c9) (hL9 := rfl) ?_
  refine xr_iload (pc := 549) (i := 16) (hI := d_DualPivotQuicksort_sort_SorteraJIII_549) (hl := rfl) ?_
  obtain ⟨c1_, hyp⟩ := hyp
  obtain ⟨c2_, hyp⟩ := hyp
  refine xg_laload (pc := 551) (v := (xpl h 64 (x16 + (-1)))) (hI := d_DualPivotQuicksort_sort_SorteraJIII_551) (ft_64 F) c1_ (xlt_of (fl_64 F) c2_) rfl (fun f3_ => ?_)
  replace f3_ : -9223372036854775808 ≤ (xpl h 64 (x16 + (-1))) ∧ (xpl h 64 (x16 + (-1))) ≤ 9223372036854775807 := f3_
  refine xr_lload (pc := 552) (i := 19) (hI := d_DualPivotQuicksort_sort_SorteraJIII_552) (hl := rfl) ?_
  refine xr_lcmp (pc := 554) (hI := d_DualPivotQuicksort_sort_SorteraJIII_554) ?_
  refine xg_lif_le (pc := 555) (tgt := 561) (hI := d_DualPivotQuicksort_sort_SorteraJIII_555) (ht := by decide) (fun q9 => ?_) (fun q9 => ?_)
  · replace hyp := hyp.1 q9
    have q4_ := q9
    clear q9
    obtain ⟨c9, hyp⟩ := hyp
    refine xr_iinc (pc := 561) (i := 15) (L9 := [xR (-1), xR 64, xI x2, xI x3, xI x4, xI x5, xI x6, xZ, xZ, xZ, xZ, xZ, xZ, xZ, xZ, xI (x15 + (-1)), xI (x16 + (-1)), xL x17, xZ, xL x19, xZ, xZ, xZ, xZ, xZ]) (hI := d_DualPivotQuicksort_sort_SorteraJIII_561) (hl := rfl) (hn := Nat.le_of_ble_eq_true rfl) (hr := c9) (hL9 := rfl) ?_
    refine xr_iload (pc := 564) (i := 15) (hI := d_DualPivotQuicksort_sort_SorteraJIII_564) (hl := rfl) ?_
    refine xr_istore (pc := 566) (i := 21) (L9 := [xR (-1), xR 64, xI x2, xI x3, xI x4, xI x5, xI x6, xZ, xZ, xZ, xZ, xZ, xZ, xZ, xZ, xI (x15 + (-1)), xI (x16 + (-1)), xL x17, xZ, xL x19, xZ, xI (x15 + (-1)), xZ, xZ, xZ]) (hI := d_DualPivotQuicksort_sort_SorteraJIII_566) (hn := Nat.le_of_ble_eq_true rfl) (hL9 := rfl) ?_
    refine xr_iinc (pc := 568) (i := 16) (L9 := [xR (-1), xR 64, xI x2, xI x3, xI x4, xI x5, xI x6, xZ, xZ, xZ, xZ, xZ, xZ, xZ, xZ, xI (x15 + (-1)), xI ((x16 + (-1)) + 1), xL x17, xZ, xL x19, xZ, xI (x15 + (-1)), xZ, xZ, xZ]) (hI := d_DualPivotQuicksort_sort_SorteraJIII_568) (hl := rfl) (hn := Nat.le_of_ble_eq_true rfl) (hr := ⟨by clear hyp; omega, by clear hyp; omega⟩) (hL9 := rfl) ?_
    refine xr_iload (pc := 571) (i := 16) (hI := d_DualPivotQuicksort_sort_SorteraJIII_571) (hl := rfl) ?_
    refine xr_istore (pc := 573) (i := 22) (L9 := [xR (-1), xR 64, xI x2, xI x3, xI x4, xI x5, xI x6, xZ, xZ, xZ, xZ, xZ, xZ, xZ, xZ, xI (x15 + (-1)), xI ((x16 + (-1)) + 1), xL x17, xZ, xL x19, xZ, xI (x15 + (-1)), xI ((x16 + (-1)) + 1), xZ, xZ]) (hI := d_DualPivotQuicksort_sort_SorteraJIII_573) (hn := Nat.le_of_ble_eq_true rfl) (hL9 := rfl) ?_
    exact xr_drop (L9 := [xR (-1), xR 64, xI x2, xI x3, xI x4, xI x5, xI x6, xZ, xZ, xZ, xZ, xZ, xZ, xZ, xZ, xI (x15 + (-1)), xI ((x16 + (-1)) + 1), xL x17, xZ, xL x19, xZ, xZ, xI ((x16 + (-1)) + 1), xZ, xZ]) (xdrs (xdrs (xdrs (xdrs (xdrs (xdrs (xdrs (xdrs (xdrs (xdrs (xdrs (xdrs (xdrs (xdrs (xdrs (xdrs (xdrs (xdrs (xdrs (xdrs (xdrs (xdrz (xdrs (xdrs (xdrs xdr0))))))))))))))))))))))))) hyp
  · replace hyp := hyp.2 q9
    have q4_ := q9
    clear q9
    refine xr_goto (pc := 558) (tgt := 545) (hI := d_DualPivotQuicksort_sort_SorteraJIII_558) (ht := by decide) ?_
    exact hyp
theorem d_DualPivotQuicksort_sort_SorteraJIII_575 : decode prog_46_method_13_code 575 = .ok (.iinc 22 (-1), 3) := by decide +kernel
theorem d_DualPivotQuicksort_sort_SorteraJIII_578 : decode prog_46_method_13_code 578 = .ok (.iload 22, 2) := by decide +kernel
theorem d_DualPivotQuicksort_sort_SorteraJIII_580 : decode prog_46_method_13_code 580 = .ok (.iload 15, 2) := by decide +kernel
theorem d_DualPivotQuicksort_sort_SorteraJIII_582 : decode prog_46_method_13_code 582 = .ok (.if_icmp .le 114, 3) := by decide +kernel
theorem d_DualPivotQuicksort_sort_SorteraJIII_696 : decode prog_46_method_13_code 696 = .ok (.aload_n 1, 1) := by decide +kernel
theorem d_DualPivotQuicksort_sort_SorteraJIII_697 : decode prog_46_method_13_code 697 = .ok (.iload_n 3, 1) := by decide +kernel
theorem d_DualPivotQuicksort_sort_SorteraJIII_698 : decode prog_46_method_13_code 698 = .ok (.aload_n 1, 1) := by decide +kernel
theorem d_DualPivotQuicksort_sort_SorteraJIII_699 : decode prog_46_method_13_code 699 = .ok (.iload 15, 2) := by decide +kernel
theorem d_DualPivotQuicksort_sort_SorteraJIII_701 : decode prog_46_method_13_code 701 = .ok (.laload, 1) := by decide +kernel
theorem d_DualPivotQuicksort_sort_SorteraJIII_702 : decode prog_46_method_13_code 702 = .ok (.lastore, 1) := by decide +kernel
theorem d_DualPivotQuicksort_sort_SorteraJIII_703 : decode prog_46_method_13_code 703 = .ok (.aload_n 1, 1) := by decide +kernel
theorem d_DualPivotQuicksort_sort_SorteraJIII_704 : decode prog_46_method_13_code 704 = .ok (.iload 15, 2) := by decide +kernel
theorem d_DualPivotQuicksort_sort_SorteraJIII_706 : decode prog_46_method_13_code 706 = .ok (.lload 17, 2) := by decide +kernel
theorem d_DualPivotQuicksort_sort_SorteraJIII_708 : decode prog_46_method_13_code 708 = .ok (.lastore, 1) := by decide +kernel
theorem d_DualPivotQuicksort_sort_SorteraJIII_709 : decode prog_46_method_13_code 709 = .ok (.aload_n 1, 1) := by decide +kernel
theorem d_DualPivotQuicksort_sort_SorteraJIII_710 : decode prog_46_method_13_code 710 = .ok (.iload 5, 2) := by decide +kernel
theorem d_DualPivotQuicksort_sort_SorteraJIII_712 : decode prog_46_method_13_code 712 = .ok (.aload_n 1, 1) := by decide +kernel
theorem d_DualPivotQuicksort_sort_SorteraJIII_713 : decode prog_46_method_13_code 713 = .ok (.iload 16, 2) := by decide +kernel
theorem d_DualPivotQuicksort_sort_SorteraJIII_715 : decode prog_46_method_13_code 715 = .ok (.laload, 1) := by decide +kernel
theorem d_DualPivotQuicksort_sort_SorteraJIII_716 : decode prog_46_method_13_code 716 = .ok (.lastore, 1) := by decide +kernel
theorem d_DualPivotQuicksort_sort_SorteraJIII_717 : decode prog_46_method_13_code 717 = .ok (.aload_n 1, 1) := by decide +kernel
theorem d_DualPivotQuicksort_sort_SorteraJIII_718 : decode prog_46_method_13_code 718 = .ok (.iload 16, 2) := by decide +kernel
theorem d_DualPivotQuicksort_sort_SorteraJIII_720 : decode prog_46_method_13_code 720 = .ok (.lload 19, 2) := by decide +kernel
theorem d_DualPivotQuicksort_sort_SorteraJIII_722 : decode prog_46_method_13_code 722 = .ok (.lastore, 1) := by decide +kernel
theorem d_DualPivotQuicksort_sort_SorteraJIII_723 : decode prog_46_method_13_code 723 = .ok (.iload 6, 2) := by decide +kernel
theorem d_DualPivotQuicksort_sort_SorteraJIII_725 : decode prog_46_method_13_code 725 = .ok (.sipush 4096, 3) := by decide +kernel
theorem d_DualPivotQuicksort_sort_SorteraJIII_728 : decode prog_46_method_13_code 728 = .ok (.if_icmp .le 36, 3) := by decide +kernel
theorem d_DualPivotQuicksort_sort_SorteraJIII_731 : decode prog_46_method_13_code 731 = .ok (.aload_n 0, 1) := by decide +kernel
theorem d_DualPivotQuicksort_sort_SorteraJIII_732 : decode prog_46_method_13_code 732 = .ok (.ifnull 32, 3) := by decide +kernel
theorem d_DualPivotQuicksort_sort_SorteraJIII_585 : decode prog_46_method_13_code 585 = .ok (.aload_n 1, 1) := by decide +kernel
theorem d_DualPivotQuicksort_sort_SorteraJIII_586 : decode prog_46_method_13_code 586 = .ok (.iload 22, 2) := by decide +kernel
theorem d_DualPivotQuicksort_sort_SorteraJIII_588 : decode prog_46_method_13_code 588 = .ok (.laload, 1) := by decide +kernel
theorem d_DualPivotQuicksort_sort_SorteraJIII_589 : decode prog_46_method_13_code 589 = .ok (.lstore 23, 2) := by decide +kernel
theorem d_DualPivotQuicksort_sort_SorteraJIII_591 : decode prog_46_method_13_code 591 = .ok (.lload 23, 2) := by decide +kernel
theorem d_DualPivotQuicksort_sort_SorteraJIII_593 : decode prog_46_method_13_code 593 = .ok (.lload 17, 2) := by decide +kernel
theorem d_DualPivotQuicksort_sort_SorteraJIII_595 : decode prog_46_method_13_code 595 = .ok (.lcmp, 1) := by decide +kernel
theorem d_DualPivotQuicksort_sort_SorteraJIII_596 : decode prog_46_method_13_code 596 = .ok (.ifCond .ge 72, 3) := by decide +kernel
theorem d_DualPivotQuicksort_sort_SorteraJIII_668 : decode prog_46_method_13_code 668 = .ok (.lload 23, 2) := by decide +kernel
theorem d_DualPivotQuicksort_sort_SorteraJIII_670 : decode prog_46_method_13_code 670 = .ok (.lload 19, 2) := by decide +kernel
theorem d_DualPivotQuicksort_sort_SorteraJIII_672 : decode prog_46_method_13_code 672 = .ok (.lcmp, 1) := by decide +kernel
theorem d_DualPivotQuicksort_sort_SorteraJIII_673 : decode prog_46_method_13_code 673 = .ok (.ifCond .le 20, 3) := by decide +kernel
theorem d_DualPivotQuicksort_sort_SorteraJIII_693 : decode prog_46_method_13_code 693 = .ok (.goto (-118), 3) := by decide +kernel
theorem d_DualPivotQuicksort_sort_SorteraJIII_676 : decode prog_46_method_13_code 676 = .ok (.aload_n 1, 1) := by decide +kernel
theorem d_DualPivotQuicksort_sort_SorteraJIII_677 : decode prog_46_method_13_code 677 = .ok (.iload 22, 2) := by decide +kernel
theorem d_DualPivotQuicksort_sort_SorteraJIII_679 : decode prog_46_method_13_code 679 = .ok (.aload_n 1, 1) := by decide +kernel
theorem d_DualPivotQuicksort_sort_SorteraJIII_680 : decode prog_46_method_13_code 680 = .ok (.iinc 16 (-1), 3) := by decide +kernel
theorem d_DualPivotQuicksort_sort_SorteraJIII_683 : decode prog_46_method_13_code 683 = .ok (.iload 16, 2) := by decide +kernel
theorem d_DualPivotQuicksort_sort_SorteraJIII_685 : decode prog_46_method_13_code 685 = .ok (.laload, 1) := by decide +kernel
theorem d_DualPivotQuicksort_sort_SorteraJIII_686 : decode prog_46_method_13_code 686 = .ok (.lastore, 1) := by decide +kernel
theorem d_DualPivotQuicksort_sort_SorteraJIII_687 : decode prog_46_method_13_code 687 = .ok (.aload_n 1, 1) := by decide +kernel
theorem d_DualPivotQuicksort_sort_SorteraJIII_688 : decode prog_46_method_13_code 688 = .ok (.iload 16, 2) := by decide +kernel
theorem d_DualPivotQuicksort_sort_SorteraJIII_690 : decode prog_46_method_13_code 690 = .ok (.lload 23, 2) := by decide +kernel
theorem d_DualPivotQuicksort_sort_SorteraJIII_692 : decode prog_46_method_13_code 692 = .ok (.lastore, 1) := by decide +kernel
theorem v_DualPivotQuicksort_sort_SorteraJIII_575 {G : XG} {d : Nat} {h : XH} {Q : XV → XH → Prop} {X : Nat → XH → Prop} {x2 x3 x4 x5 x6 x15 x16 x17 x19 x22 : Int} (F : xFix h) (hyp : xiR (x22 + (-1)) ∧ (((x22 + (-1)) ≤ x15 → 0 ≤ x15 ∧ x15 < 12000 ∧ 0 ≤ x3 ∧ x3 < 12000 ∧ 0 ≤ x16 ∧ x16 < 12000 ∧ 0 ≤ x5 ∧ x5 < 12000 ∧ ((x6 ≤ 4096 → (xFix (xst (xst (xst (xst h 64 x3 (xpl h 64 x15)) 64 x15 x17) 64 x5 (xpl (xst (xst h 64 x3 (xpl h 64 x15)) 64 x15 x17) 64 x16)) 64 x16 x19) → xwp G m_DualPivotQuicksort_sort_SorteraJIII (d + 141) 764 [xR (-1), xR 64, xI x2, xI x3, xI x4, xZ, xZ, xZ, xZ, xZ, xZ, xZ, xZ, xZ, xZ, xI x15, xI x16, xZ, xZ, xZ, xZ, xZ, xZ, xZ, xZ] [] (xst (xst (xst (xst h 64 x3 (xpl h 64 x15)) 64 x15 x17) 64 x5 (xpl (xst (xst h 64 x3 (xpl h 64 x15)) 64 x15 x17) 64 x16)) 64 x16 x19) Q X)) ∧ (¬ x6 ≤ 4096 → (xFix (xst (xst (xst (xst h 64 x3 (xpl h 64 x15)) 64 x15 x17) 64 x5 (xpl (xst (xst h 64 x3 (xpl h 64 x15)) 64 x15 x17) 64 x16)) 64 x16 x19) → xwp G m_DualPivotQuicksort_sort_SorteraJIII (d + 141) 764 [xR (-1), xR 64, xI x2, xI x3, xI x4, xZ, xZ, xZ, xZ, xZ, xZ, xZ, xZ, xZ, xZ, xI x15, xI x16, xZ, xZ, xZ, xZ, xZ, xZ, xZ, xZ] [] (xst (xst (xst (xst h 64 x3 (xpl h 64 x15)) 64 x15 x17) 64 x5 (xpl (xst (xst h 64 x3 (xpl h 64 x15)) 64 x15 x17) 64 x16)) 64 x16 x19) Q X)))) ∧ (¬ (x22 + (-1)) ≤ x15 → 0 ≤ (x22 + (-1)) ∧ (x22 + (-1)) < 12000 ∧ ((x17 ≤ (xpl h 64 (x22 + (-1))) → (((xpl h 64 (x22 + (-1))) ≤ x19 → (xwp G m_DualPivotQuicksort_sort_SorteraJIII (d + 141) 575 [xR (-1), xR 64, xI x2, xI x3, xI x4, xI x5, xI x6, xZ, xZ, xZ, xZ, xZ, xZ, xZ, xZ, xI x15, xI x16, xL x17, xZ, xL x19, xZ, xZ, xI (x22 + (-1)), xZ, xZ] [] h Q X)) ∧ (¬ (xpl h 64 (x22 + (-1))) ≤ x19 → xiR (x16 + (-1)) ∧ 0 ≤ (x16 + (-1)) ∧ (x16 + (-1)) < 12000 ∧ (xFix (xst (xst h 64 (x22 + (-1)) (xpl h 64 (x16 + (-1)))) 64 (x16 + (-1)) (xpl h 64 (x22 + (-1)))) → xwp G m_DualPivotQuicksort_sort_SorteraJIII (d + 141) 575 [xR (-1), xR 64, xI x2, xI x3, xI x4, xI x5, xI x6, xZ, xZ, xZ, xZ, xZ, xZ, xZ, xZ, xI x15, xI (x16 + (-1)), xL x17, xZ, xL x19, xZ, xZ, xI (x22 + (-1)), xZ, xZ] [] (xst (xst h 64 (x22 + (-1)) (xpl h 64 (x16 + (-1)))) 64 (x16 + (-1)) (xpl h 64 (x22 + (-1)))) Q X)))) ∧ (¬ x17 ≤ (xpl h 64 (x22 + (-1))) → (xwp G m_DualPivotQuicksort_sort_SorteraJIII (d + 141) 599 [xR (-1), xR 64, xI x2, xI x3, xI x4, xI x5, xI x6, xZ, xZ, xZ, xZ, xZ, xZ, xZ, xZ, xI x15, xI x16, xL x17, xZ, xL x19, xZ, xZ, xI (x22 + (-1)), xL (xpl h 64 (x22 + (-1))), xZ] [] h Q X)))))) : xwp G m_DualPivotQuicksort_sort_SorteraJIII (d + 141) 575 [xR (-1), xR 64, xI x2, xI x3, xI x4, xI x5, xI x6, xZ, xZ, xZ, xZ, xZ, xZ, xZ, xZ, xI x15, xI x16, xL x17, xZ, xL x19, xZ, xZ, xI x22, xZ, xZ] [] h Q X := by
  have hnx9 : (93 : Int) ≤ xnx h := F.2.2
  refine xr_okL (fun hl9 => ?_)
  have r_x2 : -2147483648 ≤ x2 ∧ x2 ≤ 2147483647 := hl9 (xI x2) (.tail _ (.tail _ (.head _))) (Nat.le_of_ble_eq_true rfl)
  have r_x3 : -2147483648 ≤ x3 ∧ x3 ≤ 2147483647 := hl9 (xI x3) (.tail _ (.tail _ (.tail _ (.head _)))) (Nat.le_of_ble_eq_true rfl)
  have r_x4 : -2147483648 ≤ x4 ∧ x4 ≤ 2147483647 := hl9 (xI x4) (.tail _ (.tail _ (.tail _ (.tail _ (.head _))))) (Nat.le_of_ble_eq_true rfl)
  have r_x5 : -2147483648 ≤ x5 ∧ x5 ≤ 2147483647 := hl9 (xI x5) (.tail _ (.tail _ (.tail _ (.tail _ (.tail _ (.head _)))))) (Nat.le_of_ble_eq_true rfl)
  have r_x6 : -2147483648 ≤ x6 ∧ x6 ≤ 2147483647 := hl9 (xI x6) (.tail _ (.tail _ (.tail _ (.tail _ (.tail _ (.tail _ (.head _))))))) (Nat.le_of_ble_eq_true rfl)
  have r_x15 : -2147483648 ≤ x15 ∧ x15 ≤ 2147483647 := hl9 (xI x15) (.tail _ (.tail _ (.tail _ (.tail _ (.tail _ (.tail _ (.tail _ (.tail _ (.tail _ (.tail _ (.tail _ (.tail _ (.tail _ (.tail _ (.tail _ (.head _)))))))))))))))) (Nat.le_of_ble_eq_true rfl)
  have r_x16 : -2147483648 ≤ x16 ∧ x16 ≤ 2147483647 := hl9 (xI x16) (.tail _ (.tail _ (.tail _ (.tail _ (.tail _ (.tail _ (.tail _ (.tail _ (.tail _ (.tail _ (.tail _ (.tail _ (.tail _ (.tail _ (.tail _ (.tail _ (.head _))))))))))))))))) (Nat.le_of_ble_eq_true rfl)
  have r_x17 : -9223372036854775808 ≤ x17 ∧ x17 ≤ 9223372036854775807 := hl9 (xL x17) (.tail _ (.tail _ (.tail _ (.tail _ (.tail _ (.tail _ (.tail _ (.tail _ (.tail _ (.tail _ (.tail _ (.tail _ (.tail _ (.tail _ (.tail _ (.tail _ (.tail _ (.head _)))))))))))))))))) (Nat.le_of_ble_eq_true rfl)
  have r_x19 : -9223372036854775808 ≤ x19 ∧ x19 ≤ 9223372036854775807 := hl9 (xL x19) (.tail _ (.tail _ (.tail _ (.tail _ (.tail _ (.tail _ (.tail _ (.tail _ (.tail _ (.tail _ (.tail _ (.tail _ (.tail _ (.tail _ (.tail _ (.tail _ (.tail _ (.tail _ (.tail _ (.head _)))))))))))))))))))) (Nat.le_of_ble_eq_true rfl)
  have r_x22 : -2147483648 ≤ x22 ∧ x22 ≤ 2147483647 := hl9 (xI x22) (.tail _ (.tail _ (.tail _ (.tail _ (.tail _ (.tail _ (.tail _ (.tail _ (.tail _ (.tail _ (.tail _ (.tail _ (.tail _ (.tail _ (.tail _ (.tail _ (.tail _ (.tail _ (.tail _ (.tail _ (.tail _ (.tail _ (.head _))))))))))))))))))))))) (Nat.le_of_ble_eq_true rfl)
  obtain ⟨c9, hyp⟩ := hyp
  refine xr_iinc (pc := 575) (i := 22) (L9 := [xR (-1), xR 64, xI x2, xI x3, xI x4, xI x5, xI x6, xZ, xZ, xZ, xZ, xZ, xZ, xZ, xZ, xI x15, xI x16, xL x17, xZ, xL x19, xZ, xZ, xI (x22 + (-1)), xZ, xZ]) (hI := d_DualPivotQuicksort_sort_SorteraJIII_575) (hl := rfl) (hn := Nat.le_of_ble_eq_true rfl) (hr := c9) (hL9 := rfl) ?_
  refine xr_iload (pc := 578) (i := 22) (hI := d_DualPivotQuicksort_sort_SorteraJIII_578) (hl := rfl) ?_
  refine xr_iload (pc := 580) (i := 15) (hI := d_DualPivotQuicksort_sort_SorteraJIII_580) (hl := rfl) ?_
  refine xr_icmp_le (pc := 582) (tgt := 696) (hI := d_DualPivotQuicksort_sort_SorteraJIII_582) (ht := by decide) (fun q9 => ?_) (fun q9 => ?_)
  · replace hyp := hyp.1 q9
    have q1_ := q9
    clear q9
    refine xr_aload_n (pc := 696) (i := 1) (hI := d_DualPivotQuicksort_sort_SorteraJIII_696) (hi := rfl) (hl := rfl) ?_
    refine xr_iload_n (pc := 697) (i := 3) (hI := d_DualPivotQuicksort_sort_SorteraJIII_697) (hi := rfl) (hl := rfl) ?_
    refine xr_aload_n (pc := 698) (i := 1) (hI := d_DualPivotQuicksort_sort_SorteraJIII_698) (hi := rfl) (hl := rfl) ?_
    refine xr_iload (pc := 699) (i := 15) (hI := d_DualPivotQuicksort_sort_SorteraJIII_699) (hl := rfl) ?_
    obtain ⟨c2_, hyp⟩ := hyp
    obtain ⟨c3_, hyp⟩ := hyp
    refine xg_laload (pc := 701) (v := (xpl h 64 x15)) (hI := d_DualPivotQuicksort_sort_SorteraJIII_701) (ft_64 F) c2_ (xlt_of (fl_64 F) c3_) rfl (fun f4_ => ?_)
    replace f4_ : -9223372036854775808 ≤ (xpl h 64 x15) ∧ (xpl h 64 x15) ≤ 9223372036854775807 := f4_
    obtain ⟨c5_, hyp⟩ := hyp
    obtain ⟨c6_, hyp⟩ := hyp
    refine xr_lastore (pc := 702) (hI := d_DualPivotQuicksort_sort_SorteraJIII_702) (ft_64 F) (by decide) c5_ (xlt_of (fl_64 F) c6_) ?_
    have F7_ : xFix (xst h 64 x3 (xpl h 64 x15)) := F.stA xfa_64
    refine xr_aload_n (pc := 703) (i := 1) (hI := d_DualPivotQuicksort_sort_SorteraJIII_703) (hi := rfl) (hl := rfl) ?_
    refine xr_iload (pc := 704) (i := 15) (hI := d_DualPivotQuicksort_sort_SorteraJIII_704) (hl := rfl) ?_
    refine xr_lload (pc := 706) (i := 17) (hI := d_DualPivotQuicksort_sort_SorteraJIII_706) (hl := rfl) ?_
    refine xr_lastore (pc := 708) (hI := d_DualPivotQuicksort_sort_SorteraJIII_708) (ft_64 F7_) (by decide) (by clear hyp; omega) (xlt_of (fl_64 F7_) (by clear hyp; omega)) ?_
    have F8_ : xFix (xst (xst h 64 x3 (xpl h 64 x15)) 64 x15 x17) := F7_.stA xfa_64
    refine xr_aload_n (pc := 709) (i := 1) (hI := d_DualPivotQuicksort_sort_SorteraJIII_709) (hi := rfl) (hl := rfl) ?_
    refine xr_iload (pc := 710) (i := 5) (hI := d_DualPivotQuicksort_sort_SorteraJIII_710) (hl := rfl) ?_
    refine xr_aload_n (pc := 712) (i := 1) (hI := d_DualPivotQuicksort_sort_SorteraJIII_712) (hi := rfl) (hl := rfl) ?_
    refine xr_iload (pc := 713) (i := 16) (hI := d_DualPivotQuicksort_sort_SorteraJIII_713) (hl := rfl) ?_
    obtain ⟨c9_, hyp⟩ := hyp
    obtain ⟨c10_, hyp⟩ := hyp
    refine xg_laload (pc := 715) (v := (xpl (xst (xst h 64 x3 (xpl h 64 x15)) 64 x15 x17) 64 x16)) (hI := d_DualPivotQuicksort_sort_SorteraJIII_715) (ft_64 F8_) c9_ (xlt_of (fl_64 F8_) c10_) rfl (fun f11_ => ?_)
    replace f11_ : -9223372036854775808 ≤ (xpl (xst (xst h 64 x3 (xpl h 64 x15)) 64 x15 x17) 64 x16) ∧ (xpl (xst (xst h 64 x3 (xpl h 64 x15)) 64 x15 x17) 64 x16) ≤ 9223372036854775807 := f11_
    obtain ⟨c12_, hyp⟩ := hyp
    obtain ⟨c13_, hyp⟩ := hyp
    refine xr_lastore (pc := 716) (hI := d_DualPivotQuicksort_sort_SorteraJIII_716) (ft_64 F8_) (by decide) c12_ (xlt_of (fl_64 F8_) c13_) ?_
    have F14_ : xFix (xst (xst (xst h 64 x3 (xpl h 64 x15)) 64 x15 x17) 64 x5 (xpl (xst (xst h 64 x3 (xpl h 64 x15)) 64 x15 x17) 64 x16)) := F8_.stA xfa_64
    refine xr_aload_n (pc := 717) (i := 1) (hI := d_DualPivotQuicksort_sort_SorteraJIII_717) (hi := rfl) (hl := rfl) ?_
    refine xr_iload (pc := 718) (i := 16) (hI := d_DualPivotQuicksort_sort_SorteraJIII_718) (hl := rfl) ?_
    refine xr_lload (pc := 720) (i := 19) (hI := d_DualPivotQuicksort_sort_SorteraJIII_720) (hl := rfl) ?_
    refine xr_lastore (pc := 722) (hI := d_DualPivotQuicksort_sort_SorteraJIII_722) (ft_64 F14_) (by decide) (by clear hyp; omega) (xlt_of (fl_64 F14_) (by clear hyp; omega)) ?_
    have F15_ : xFix (xst (xst (xst (xst h 64 x3 (xpl h 64 x15)) 64 x15 x17) 64 x5 (xpl (xst (xst h 64 x3 (xpl h 64 x15)) 64 x15 x17) 64 x16)) 64 x16 x19) := F14_.stA xfa_64
    refine xr_iload (pc := 723) (i := 6) (hI := d_DualPivotQuicksort_sort_SorteraJIII_723) (hl := rfl) ?_
    refine xr_sipush (pc := 725) (hI := d_DualPivotQuicksort_sort_SorteraJIII_725) (hr := by decide) (hv := by decide) ?_
    refine xr_icmp_le (pc := 728) (tgt := 764) (hI := d_DualPivotQuicksort_sort_SorteraJIII_728) (ht := by decide) (fun q9 => ?_) (fun q9 => ?_)
    · replace hyp := hyp.1 q9
      have q16_ := q9
      clear q9
      exact xr_drop (L9 := [xR (-1), xR 64, xI x2, xI x3, xI x4, xZ, xZ, xZ, xZ, xZ, xZ, xZ, xZ, xZ, xZ, xI x15, xI x16, xZ, xZ, xZ, xZ, xZ, xZ, xZ, xZ]) (xdrs (xdrs (xdrs (xdrs (xdrs (xdrz (xdrz (xdrs (xdrs (xdrs (xdrs (xdrs (xdrs (xdrs (xdrs (xdrs (xdrs (xdrz (xdrs (xdrz (xdrs (xdrs (xdrz (xdrs (xdrs xdr0))))))))))))))))))))))))) (hyp F15_)
    · replace hyp := hyp.2 q9
      have q16_ := q9
      clear q9
      refine xr_aload_n (pc := 731) (i := 0) (hI := d_DualPivotQuicksort_sort_SorteraJIII_731) (hi := rfl) (hl := rfl) ?_
      refine xr_ifnull (pc := 732) (tgt := 764) (hI := d_DualPivotQuicksort_sort_SorteraJIII_732) (ht := by decide) (fun q9 => ?_) (fun q9 => ?_)
      · clear q9
        exact xr_drop (L9 := [xR (-1), xR 64, xI x2, xI x3, xI x4, xZ, xZ, xZ, xZ, xZ, xZ, xZ, xZ, xZ, xZ, xI x15, xI x16, xZ, xZ, xZ, xZ, xZ, xZ, xZ, xZ]) (xdrs (xdrs (xdrs (xdrs (xdrs (xdrz (xdrz (xdrs (xdrs (xdrs (xdrs (xdrs (xdrs (xdrs (xdrs (xdrs (xdrs (xdrz (xdrs (xdrz (xdrs (xdrs (xdrz (xdrs (xdrs xdr0))))))))))))))))))))))))) (hyp F15_)
      · exact absurd q9 (by decide)
  · replace hyp := hyp.2 q9
    have q1_ := q9
    clear q9
    refine xr_aload_n (pc := 585) (i := 1) (hI := d_DualPivotQuicksort_sort_SorteraJIII_585) (hi := rfl) (hl := rfl) ?_
    refine xr_iload (pc := 586) (i := 22) (hI := d_DualPivotQuicksort_sort_SorteraJIII_586) (hl := rfl) ?_
    obtain ⟨c17_, hyp⟩ := hyp
    obtain ⟨c18_, hyp⟩ := hyp
    refine xg_laload (pc := 588) (v := (xpl h 64 (x22 + (-1)))) (hI := d_DualPivotQuicksort_sort_SorteraJIII_588) (ft_64 F) c17_ (xlt_of (fl_64 F) c18_) rfl (fun f19_ => ?_)
    replace f19_ : -9223372036854775808 ≤ (xpl h 64 (x22 + (-1))) ∧ (xpl h 64 (x22 + (-1))) ≤ 9223372036854775807 := f19_
    refine xr_lstore (pc := 589) (i := 23) (L9 := [xR (-1), xR 64, xI x2, xI x3, xI x4, xI x5, xI x6, xZ, xZ, xZ, xZ, xZ, xZ, xZ, xZ, xI x15, xI x16, xL x17, xZ, xL x19, xZ, xZ, xI (x22 + (-1)), xL (xpl h 64 (x22 + (-1))), xZ]) (hI := d_DualPivotQuicksort_sort_SorteraJIII_589) (hn := Nat.le_of_ble_eq_true rfl) (hL9 := rfl) ?_
    refine xr_lload (pc := 591) (i := 23) (hI := d_DualPivotQuicksort_sort_SorteraJIII_591) (hl := rfl) ?_
    refine xr_lload (pc := 593) (i := 17) (hI := d_DualPivotQuicksort_sort_SorteraJIII_593) (hl := rfl) ?_
    refine xr_lcmp (pc := 595) (hI := d_DualPivotQuicksort_sort_SorteraJIII_595) ?_
    refine xg_lif_ge (pc := 596) (tgt := 668) (hI := d_DualPivotQuicksort_sort_SorteraJIII_596) (ht := by decide) (fun q9 => ?_) (fun q9 => ?_)
    · replace hyp := hyp.1 q9
      have q20_ := q9
      clear q9
      refine xr_lload (pc := 668) (i := 23) (hI := d_DualPivotQuicksort_sort_SorteraJIII_668) (hl := rfl) ?_
      refine xr_lload (pc := 670) (i := 19) (hI := d_DualPivotQuicksort_sort_SorteraJIII_670) (hl := rfl) ?_
      refine xr_lcmp (pc := 672) (hI := d_DualPivotQuicksort_sort_SorteraJIII_672) ?_
      refine xg_lif_le (pc := 673) (tgt := 693) (hI := d_DualPivotQuicksort_sort_SorteraJIII_673) (ht := by decide) (fun q9 => ?_) (fun q9 => ?_)
      · replace hyp := hyp.1 q9
        have q21_ := q9
        clear q9
        refine xr_goto (pc := 693) (tgt := 575) (hI := d_DualPivotQuicksort_sort_SorteraJIII_693) (ht := by decide) ?_
        exact xr_drop (L9 := [xR (-1), xR 64, xI x2, xI x3, xI x4, xI x5, xI x6, xZ, xZ, xZ, xZ, xZ, xZ, xZ, xZ, xI x15, xI x16, xL x17, xZ, xL x19, xZ, xZ, xI (x22 + (-1)), xZ, xZ]) (xdrs (xdrs (xdrs (xdrs (xdrs (xdrs (xdrs (xdrs (xdrs (xdrs (xdrs (xdrs (xdrs (xdrs (xdrs (xdrs (xdrs (xdrs (xdrs (xdrs (xdrs (xdrs (xdrs (xdrz (xdrs xdr0))))))))))))))))))))))))) hyp
      · replace hyp := hyp.2 q9
        have q21_ := q9
        clear q9
        refine xr_aload_n (pc := 676) (i := 1) (hI := d_DualPivotQuicksort_sort_SorteraJIII_676) (hi := rfl) (hl := rfl) ?_
        refine xr_iload (pc := 677) (i := 22) (hI := d_DualPivotQuicksort_sort_SorteraJIII_677) (hl := rfl) ?_
        refine xr_aload_n (pc := 679) (i := 1) (hI := d_DualPivotQuicksort_sort_SorteraJIII_679) (hi := rfl) (hl := rfl) ?_
        obtain ⟨c9, hyp⟩ := hyp
        refine xr_iinc (pc := 680) (i := 16) (L9 := [xR (-1), xR 64, xI x2, xI x3, xI x4, xI x5, xI x6, xZ, xZ, xZ, xZ, xZ, xZ, xZ, xZ, xI x15, xI (x16 + (-1)), xL x17, xZ, xL x19, xZ, xZ, xI (x22 + (-1)), xL (xpl h 64 (x22 + (-1))), xZ]) (hI := d_DualPivotQuicksort_sort_SorteraJIII_680) (hl := rfl) (hn := Nat.le_of_ble_eq_true rfl) (hr := c9) (hL9 := rfl) ?_
        refine xr_iload (pc := 683) (i := 16) (hI := d_DualPivotQuicksort_sort_SorteraJIII_683) (hl := rfl) ?_
        obtain ⟨c22_, hyp⟩ := hyp
        obtain ⟨c23_, hyp⟩ := hyp
        refine xg_laload (pc := 685) (v := (xpl h 64 (x16 + (-1)))) (hI := d_DualPivotQuicksort_sort_SorteraJIII_685) (ft_64 F) c22_ (xlt_of (fl_64 F) c23_) rfl (fun f24_ => ?_)
        replace f24_ : -9223372036854775808 ≤ (xpl h 64 (x16 + (-1))) ∧ (xpl h 64 (x16 + (-1))) ≤ 9223372036854775807 := f24_
        refine xr_lastore (pc := 686) (hI := d_DualPivotQuicksort_sort_SorteraJIII_686) (ft_64 F) (by decide) (by clear hyp; omega) (xlt_of (fl_64 F) (by clear hyp; omega)) ?_
        have F25_ : xFix (xst h 64 (x22 + (-1)) (xpl h 64 (x16 + (-1)))) := F.stA xfa_64
        refine xr_aload_n (pc := 687) (i := 1) (hI := d_DualPivotQuicksort_sort_SorteraJIII_687) (hi := rfl) (hl := rfl) ?_
        refine xr_iload (pc := 688) (i := 16) (hI := d_DualPivotQuicksort_sort_SorteraJIII_688) (hl := rfl) ?_
        refine xr_lload (pc := 690) (i := 23) (hI := d_DualPivotQuicksort_sort_SorteraJIII_690) (hl := rfl) ?_
        refine xr_lastore (pc := 692) (hI := d_DualPivotQuicksort_sort_SorteraJIII_692) (ft_64 F25_) (by decide) (by clear hyp; omega) (xlt_of (fl_64 F25_) (by clear hyp; omega)) ?_
        have F26_ : xFix (xst (xst h 64 (x22 + (-1)) (xpl h 64 (x16 + (-1)))) 64 (x16 + (-1)) (xpl h 64 (x22 + (-1)))) := F25_.stA xfa_64
        refine xr_goto (pc := 693) (tgt := 575) (hI := d_DualPivotQuicksort_sort_SorteraJIII_693) (ht := by decide) ?_
        exact xr_drop (L9 := [xR (-1), xR 64, xI x2, xI x3, xI x4, xI x5, xI x6, xZ, xZ, xZ, xZ, xZ, xZ, xZ, xZ, xI x15, xI (x16 + (-1)), xL x17, xZ, xL x19, xZ, xZ, xI (x22 + (-1)), xZ, xZ]) (xdrs (xdrs (xdrs (xdrs (xdrs (xdrs (xdrs (xdrs (xdrs (xdrs (xdrs (xdrs (xdrs (xdrs (xdrs (xdrs (xdrs (xdrs (xdrs (xdrs (xdrs (xdrs (xdrs (xdrz (xdrs xdr0))))))))))))))))))))))))) (hyp F26_)
    · replace hyp := hyp.2 q9
      have q20_ := q9
      clear q9
      exact hyp
theorem d_DualPivotQuicksort_sort_SorteraJIII_599 : decode prog_46_method_13_code 599 = .ok (.iload 15, 2) := by decide +kernel
theorem d_DualPivotQuicksort_sort_SorteraJIII_601 : decode prog_46_method_13_code 601 = .ok (.iload 22, 2) := by decide +kernel
theorem d_DualPivotQuicksort_sort_SorteraJIII_603 : decode prog_46_method_13_code 603 = .ok (.if_icmp .ge 90, 3) := by decide +kernel
theorem d_DualPivotQuicksort_sort_SorteraJIII_606 : decode prog_46_method_13_code 606 = .ok (.aload_n 1, 1) := by decide +kernel
theorem d_DualPivotQuicksort_sort_SorteraJIII_607 : decode prog_46_method_13_code 607 = .ok (.iinc 15 1, 3) := by decide +kernel
theorem d_DualPivotQuicksort_sort_SorteraJIII_610 : decode prog_46_method_13_code 610 = .ok (.iload 15, 2) := by decide +kernel
theorem d_DualPivotQuicksort_sort_SorteraJIII_612 : decode prog_46_method_13_code 612 = .ok (.laload, 1) := by decide +kernel
theorem d_DualPivotQuicksort_sort_SorteraJIII_613 : decode prog_46_method_13_code 613 = .ok (.lload 17, 2) := by decide +kernel
theorem d_DualPivotQuicksort_sort_SorteraJIII_615 : decode prog_46_method_13_code 615 = .ok (.lcmp, 1) := by decide +kernel
theorem d_DualPivotQuicksort_sort_SorteraJIII_616 : decode prog_46_method_13_code 616 = .ok (.ifCond .lt (-17), 3) := by decide +kernel
theorem d_DualPivotQuicksort_sort_SorteraJIII_619 : decode prog_46_method_13_code 619 = .ok (.aload_n 1, 1) := by decide +kernel
theorem d_DualPivotQuicksort_sort_SorteraJIII_620 : decode prog_46_method_13_code 620 = .ok (.iload 15, 2) := by decide +kernel
theorem d_DualPivotQuicksort_sort_SorteraJIII_622 : decode prog_46_method_13_code 622 = .ok (.laload, 1) := by decide +kernel
theorem d_DualPivotQuicksort_sort_SorteraJIII_623 : decode prog_46_method_13_code 623 = .ok (.lload 19, 2) := by decide +kernel
theorem d_DualPivotQuicksort_sort_SorteraJIII_625 : decode prog_46_method_13_code 625 = .ok (.lcmp, 1) := by decide +kernel
theorem d_DualPivotQuicksort_sort_SorteraJIII_626 : decode prog_46_method_13_code 626 = .ok (.ifCond .le 25, 3) := by decide +kernel
theorem d_DualPivotQuicksort_sort_SorteraJIII_651 : decode prog_46_method_13_code 651 = .ok (.aload_n 1, 1) := by decide +kernel
theorem d_DualPivotQuicksort_sort_SorteraJIII_652 : decode prog_46_method_13_code 652 = .ok (.iload 22, 2) := by decide +kernel
theorem d_DualPivotQuicksort_sort_SorteraJIII_654 : decode prog_46_method_13_code 654 = .ok (.aload_n 1, 1) := by decide +kernel
theorem d_DualPivotQuicksort_sort_SorteraJIII_655 : decode prog_46_method_13_code 655 = .ok (.iload 15, 2) := by decide +kernel
theorem d_DualPivotQuicksort_sort_SorteraJIII_657 : decode prog_46_method_13_code 657 = .ok (.laload, 1) := by decide +kernel
theorem d_DualPivotQuicksort_sort_SorteraJIII_658 : decode prog_46_method_13_code 658 = .ok (.lastore, 1) := by decide +kernel
theorem d_DualPivotQuicksort_sort_SorteraJIII_659 : decode prog_46_method_13_code 659 = .ok (.aload_n 1, 1) := by decide +kernel
theorem d_DualPivotQuicksort_sort_SorteraJIII_660 : decode prog_46_method_13_code 660 = .ok (.iload 15, 2) := by decide +kernel
theorem d_DualPivotQuicksort_sort_SorteraJIII_662 : decode prog_46_method_13_code 662 = .ok (.lload 23, 2) := by decide +kernel
theorem d_DualPivotQuicksort_sort_SorteraJIII_664 : decode prog_46_method_13_code 664 = .ok (.lastore, 1) := by decide +kernel
theorem d_DualPivotQuicksort_sort_SorteraJIII_665 : decode prog_46_method_13_code 665 = .ok (.goto 28, 3) := by decide +kernel
theorem d_DualPivotQuicksort_sort_SorteraJIII_629 : decode prog_46_method_13_code 629 = .ok (.aload_n 1, 1) := by decide +kernel
theorem d_DualPivotQuicksort_sort_SorteraJIII_630 : decode prog_46_method_13_code 630 = .ok (.iload 22, 2) := by decide +kernel
theorem d_DualPivotQuicksort_sort_SorteraJIII_632 : decode prog_46_method_13_code 632 = .ok (.aload_n 1, 1) := by decide +kernel
theorem d_DualPivotQuicksort_sort_SorteraJIII_633 : decode prog_46_method_13_code 633 = .ok (.iinc 16 (-1), 3) := by decide +kernel
theorem d_DualPivotQuicksort_sort_SorteraJIII_636 : decode prog_46_method_13_code 636 = .ok (.iload 16, 2) := by decide +kernel
theorem d_DualPivotQuicksort_sort_SorteraJIII_638 : decode prog_46_method_13_code 638 = .ok (.laload, 1) := by decide +kernel
theorem d_DualPivotQuicksort_sort_SorteraJIII_639 : decode prog_46_method_13_code 639 = .ok (.lastore, 1) := by decide +kernel
theorem d_DualPivotQuicksort_sort_SorteraJIII_640 : decode prog_46_method_13_code 640 = .ok (.aload_n 1, 1) := by decide +kernel
theorem d_DualPivotQuicksort_sort_SorteraJIII_641 : decode prog_46_method_13_code 641 = .ok (.iload 16, 2) := by decide +kernel
theorem d_DualPivotQuicksort_sort_SorteraJIII_643 : decode prog_46_method_13_code 643 = .ok (.aload_n 1, 1) := by decide +kernel
theorem d_DualPivotQuicksort_sort_SorteraJIII_644 : decode prog_46_method_13_code 644 = .ok (.iload 15, 2) := by decide +kernel
theorem d_DualPivotQuicksort_sort_SorteraJIII_646 : decode prog_46_method_13_code 646 = .ok (.laload, 1) := by decide +kernel
theorem d_DualPivotQuicksort_sort_SorteraJIII_647 : decode prog_46_method_13_code 647 = .ok (.lastore, 1) := by decide +kernel
theorem d_DualPivotQuicksort_sort_SorteraJIII_648 : decode prog_46_method_13_code 648 = .ok (.goto 11, 3) := by decide +kernel
theorem v_DualPivotQuicksort_sort_SorteraJIII_599 {G : XG} {d : Nat} {h : XH} {Q : XV → XH → Prop} {X : Nat → XH → Prop} {x2 x3 x4 x5 x6 x15 x16 x17 x19 x22 x23 : Int} (F : xFix h) (hyp : ((x22 ≤ x15 → (xwp G m_DualPivotQuicksort_sort_SorteraJIII (d + 141) 575 [xR (-1), xR 64, xI x2, xI x3, xI x4, xI x5, xI x6, xZ, xZ, xZ, xZ, xZ, xZ, xZ, xZ, xI x15, xI x16, xL x17, xZ, xL x19, xZ, xZ, xI x22, xZ, xZ] [] h Q X)) ∧ (¬ x22 ≤ x15 → 0 ≤ (x15 + 1) ∧ (x15 + 1) < 12000 ∧ (((xpl h 64 (x15 + 1)) < x17 → (xwp G m_DualPivotQuicksort_sort_SorteraJIII (d + 141) 599 [xR (-1), xR 64, xI x2, xI x3, xI x4, xI x5, xI x6, xZ, xZ, xZ, xZ, xZ, xZ, xZ, xZ, xI (x15 + 1), xI x16, xL x17, xZ, xL x19, xZ, xZ, xI x22, xL x23, xZ] [] h Q X)) ∧ (¬ (xpl h 64 (x15 + 1)) < x17 → (((xpl h 64 (x15 + 1)) ≤ x19 → x22 < 12000 ∧ (xFix (xst (xst h 64 x22 (xpl h 64 (x15 + 1))) 64 (x15 + 1) x23) → xwp G m_DualPivotQuicksort_sort_SorteraJIII (d + 141) 575 [xR (-1), xR 64, xI x2, xI x3, xI x4, xI x5, xI x6, xZ, xZ, xZ, xZ, xZ, xZ, xZ, xZ, xI (x15 + 1), xI x16, xL x17, xZ, xL x19, xZ, xZ, xI x22, xZ, xZ] [] (xst (xst h 64 x22 (xpl h 64 (x15 + 1))) 64 (x15 + 1) x23) Q X)) ∧ (¬ (xpl h 64 (x15 + 1)) ≤ x19 → xiR (x16 + (-1)) ∧ 0 ≤ (x16 + (-1)) ∧ (x16 + (-1)) < 12000 ∧ x22 < 12000 ∧ (xFix (xst (xst (xst h 64 x22 (xpl h 64 (x16 + (-1)))) 64 (x16 + (-1)) (xpl (xst h 64 x22 (xpl h 64 (x16 + (-1)))) 64 (x15 + 1))) 64 (x15 + 1) x23) → xwp G m_DualPivotQuicksort_sort_SorteraJIII (d + 141) 575 [xR (-1), xR 64, xI x2, xI x3, xI x4, xI x5, xI x6, xZ, xZ, xZ, xZ, xZ, xZ, xZ, xZ, xI (x15 + 1), xI (x16 + (-1)), xL x17, xZ, xL x19, xZ, xZ, xI x22, xZ, xZ] [] (xst (xst (xst h 64 x22 (xpl h 64 (x16 + (-1)))) 64 (x16 + (-1)) (xpl (xst h 64 x22 (xpl h 64 (x16 + (-1)))) 64 (x15 + 1))) 64 (x15 + 1) x23) Q X)))))))) : xwp G m_DualPivotQuicksort_sort_SorteraJIII (d + 141) 599 [xR (-1), xR 64, xI x2, xI x3, xI x4, xI x5, xI x6, xZ, xZ, xZ, xZ, xZ, xZ, xZ, xZ, xI x15, xI x16, xL x17, xZ, xL x19, xZ, xZ, xI x22, xL x23, xZ] [] h Q X := by
  have hnx9 : (93 : Int) ≤ xnx h := F.2.2
  refine xr_okL (fun hl9 => ?_)
  have r_x2 : -2147483648 ≤ x2 ∧ x2 ≤ 2147483647 := hl9 (xI x2) (.tail _ (.tail _ (.head _))) (Nat.le_of_ble_eq_true rfl)
  have r_x3 : -2147483648 ≤ x3 ∧ x3 ≤ 2147483647 := hl9 (xI x3) (.tail _ (.tail _ (.tail _ (.head _)))) (Nat.le_of_ble_eq_true rfl)
  have r_x4 : -2147483648 ≤ x4 ∧ x4 ≤ 2147483647 := hl9 (xI x4) (.tail _ (.tail _ (.tail _ (.tail _ (.head _))))) (Nat.le_of_ble_eq_true rfl)
  have r_x5 : -2147483648 ≤ x5 ∧ x5 ≤ 2147483647 := hl9 (xI x5) (.tail _ (.tail _ (.tail _ (.tail _ (.tail _ (.head _)))))) (Nat.le_of_ble_eq_true rfl)
  have r_x6 : -2147483648 ≤ x6 ∧ x6 ≤ 2147483647 := hl9 (xI x6) (.tail _ (.tail _ (.tail _ (.tail _ (.tail _ (.tail _ (.head _))))))) (Nat.le_of_ble_eq_true rfl)
  have r_x15 : -2147483648 ≤ x15 ∧ x15 ≤ 2147483647 := hl9 (xI x15) (.tail _ (.tail _ (.tail _ (.tail _ (.tail _ (.tail _ (.tail _ (.tail _ (.tail _ (.tail _ (.tail _ (.tail _ (.tail _ (.tail _ (.tail _ (.head _)))))))))))))))) (Nat.le_of_ble_eq_true rfl)
  have r_x16 : -2147483648 ≤ x16 ∧ x16 ≤ 2147483647 := hl9 (xI x16) (.tail _ (.tail _ (.tail _ (.tail _ (.tail _ (.tail _ (.tail _ (.tail _ (.tail _ (.tail _ (.tail _ (.tail _ (.tail _ (.tail _ (.tail _ (.tail _ (.head _))))))))))))))))) (Nat.le_of_ble_eq_true rfl)
  have r_x17 : -9223372036854775808 ≤ x17 ∧ x17 ≤ 9223372036854775807 := hl9 (xL x17) (.tail _ (.tail _ (.tail _ (.tail _ (.tail _ (.tail _ (.tail _ (.tail _ (.tail _ (.tail _ (.tail _ (.tail _ (.tail _ (.tail _ (.tail _ (.tail _ (.tail _ (.head _)))))))))))))))))) (Nat.le_of_ble_eq_true rfl)
  have r_x19 : -9223372036854775808 ≤ x19 ∧ x19 ≤ 9223372036854775807 := hl9 (xL x19) (.tail _ (.tail _ (.tail _ (.tail _ (.tail _ (.tail _ (.tail _ (.tail _ (.tail _ (.tail _ (.tail _ (.tail _ (.tail _ (.tail _ (.tail _ (.tail _ (.tail _ (.tail _ (.tail _ (.head _)))))))))))))))))))) (Nat.le_of_ble_eq_true rfl)
  have r_x22 : -2147483648 ≤ x22 ∧ x22 ≤ 2147483647 := hl9 (xI x22) (.tail _ (.tail _ (.tail _ (.tail _ (.tail _ (.tail _ (.tail _ (.tail _ (.tail _ (.tail _ (.tail _ (.tail _ (.tail _ (.tail _ (.tail _ (.tail _ (.tail _ (.tail _ (.tail _ (.tail _ (.tail _ (.tail _ (.head _))))))))))))))))))))))) (Nat.le_of_ble_eq_true rfl)
  have r_x23 : -9223372036854775808 ≤ x23 ∧ x23 ≤ 9223372036854775807 := hl9 (xL x23) (.tail _ (.tail _ (.tail _ (.tail _ (.tail _ (.tail _ (.tail _ (.tail _ (.tail _ (.tail _ (.tail _ (.tail _ (.tail _ (.tail _ (.tail _ (.tail _ (.tail _ (.tail _ (.tail _ (.tail _ (.tail _ (.tail _ (.tail _ (.head _)))))))))))))))))))))))) (Nat.le_of_ble_eq_true rfl)
  refine xr_iload (pc := 599) (i := 15) (hI := d_DualPivotQuicksort_sort_SorteraJIII_599) (hl := rfl) ?_
  refine xr_iload (pc := 601) (i := 22) (hI := d_DualPivotQuicksort_sort_SorteraJIII_601) (hl := rfl) ?_
  refine xr_icmp_ge (pc := 603) (tgt := 693) (hI := d_DualPivotQuicksort_sort_SorteraJIII_603) (ht := by decide) (fun q9 => ?_) (fun q9 => ?_)
  · replace hyp := hyp.1 q9
    have q1_ := q9
    clear q9
    refine xr_goto (pc := 693) (tgt := 575) (hI := d_DualPivotQuicksort_sort_SorteraJIII_693) (ht := by decide) ?_
    exact xr_drop (L9 := [xR (-1), xR 64, xI x2, xI x3, xI x4, xI x5, xI x6, xZ, xZ, xZ, xZ, xZ, xZ, xZ, xZ, xI x15, xI x16, xL x17, xZ, xL x19, xZ, xZ, xI x22, xZ, xZ]) (xdrs (xdrs (xdrs (xdrs (xdrs (xdrs (xdrs (xdrs (xdrs (xdrs (xdrs (xdrs (xdrs (xdrs (xdrs (xdrs (xdrs (xdrs (xdrs (xdrs (xdrs (xdrs (xdrs (xdrz (xdrs xdr0))))))))))))))))))))))))) hyp
  · replace hyp := hyp.2 q9
    have q1_ := q9
    clear q9
    refine xr_aload_n (pc := 606) (i := 1) (hI := d_DualPivotQuicksort_sort_SorteraJIII_606) (hi := rfl) (hl := rfl) ?_
    refine xr_iinc (pc := 607) (i := 15) (L9 := [xR (-1), xR 64, xI x2, xI x3, xI x4, xI x5, xI x6, xZ, xZ, xZ, xZ, xZ, xZ, xZ, xZ, xI (x15 + 1), xI x16, xL x17, xZ, xL x19, xZ, xZ, xI x22, xL x23, xZ]) (hI := d_DualPivotQuicksort_sort_SorteraJIII_607) (hl := rfl) (hn := Nat.le_of_ble_eq_true rfl) (hr := ⟨by clear hyp; omega, by clear hyp; omega⟩) (hL9 := rfl) ?_
    refine xr_iload (pc := 610) (i := 15) (hI := d_DualPivotQuicksort_sort_SorteraJIII_610) (hl := rfl) ?_
    obtain ⟨c2_, hyp⟩ := hyp
    obtain ⟨c3_, hyp⟩ := hyp
    refine xg_laload (pc := 612) (v := (xpl h 64 (x15 + 1))) (hI := d_DualPivotQuicksort_sort_SorteraJIII_612) (ft_64 F) c2_ (xlt_of (fl_64 F) c3_) rfl (fun f4_ => ?_)
    replace f4_ : -9223372036854775808 ≤ (xpl h 64 (x15 + 1)) ∧ (xpl h 64 (x15 + 1)) ≤ 9223372036854775807 := f4_
    refine xr_lload (pc := 613) (i := 17) (hI := d_DualPivotQuicksort_sort_SorteraJIII_613) (hl := rfl) ?_
    refine xr_lcmp (pc := 615) (hI := d_DualPivotQuicksort_sort_SorteraJIII_615) ?_
    refine xg_lif_lt (pc := 616) (tgt := 599) (hI := d_DualPivotQuicksort_sort_SorteraJIII_616) (ht := by decide) (fun q9 => ?_) (fun q9 => ?_)
    · replace hyp := hyp.1 q9
      have q5_ := q9
      clear q9
      exact hyp
    · replace hyp := hyp.2 q9
      have q5_ := q9
      clear q9
      refine xr_aload_n (pc := 619) (i := 1) (hI := d_DualPivotQuicksort_sort_SorteraJIII_619) (hi := rfl) (hl := rfl) ?_
      refine xr_iload (pc := 620) (i := 15) (hI := d_DualPivotQuicksort_sort_SorteraJIII_620) (hl := rfl) ?_
      refine xg_laload (pc := 622) (v := (xpl h 64 (x15 + 1))) (hI := d_DualPivotQuicksort_sort_SorteraJIII_622) (ft_64 F) (by clear hyp; omega) (xlt_of (fl_64 F) (by clear hyp; omega)) rfl (fun f6_ => ?_)
      replace f6_ : -9223372036854775808 ≤ (xpl h 64 (x15 + 1)) ∧ (xpl h 64 (x15 + 1)) ≤ 9223372036854775807 := f6_
      refine xr_lload (pc := 623) (i := 19) (hI := d_DualPivotQuicksort_sort_SorteraJIII_623) (hl := rfl) ?_
      refine xr_lcmp (pc := 625) (hI := d_DualPivotQuicksort_sort_SorteraJIII_625) ?_
      refine xg_lif_le (pc := 626) (tgt := 651) (hI := d_DualPivotQuicksort_sort_SorteraJIII_626) (ht := by decide) (fun q9 => ?_) (fun q9 => ?_)
      · replace hyp := hyp.1 q9
        have q7_ := q9
        clear q9
        refine xr_aload_n (pc := 651) (i := 1) (hI := d_DualPivotQuicksort_sort_SorteraJIII_651) (hi := rfl) (hl := rfl) ?_
        refine xr_iload (pc := 652) (i := 22) (hI := d_DualPivotQuicksort_sort_SorteraJIII_652) (hl := rfl) ?_
        refine xr_aload_n (pc := 654) (i := 1) (hI := d_DualPivotQuicksort_sort_SorteraJIII_654) (hi := rfl) (hl := rfl) ?_
        refine xr_iload (pc := 655) (i := 15) (hI := d_DualPivotQuicksort_sort_SorteraJIII_655) (hl := rfl) ?_
        refine xg_laload (pc := 657) (v := (xpl h 64 (x15 + 1))) (hI := d_DualPivotQuicksort_sort_SorteraJIII_657) (ft_64 F) (by clear hyp; omega) (xlt_of (fl_64 F) (by clear hyp; omega)) rfl (fun f8_ => ?_)
        replace f8_ : -9223372036854775808 ≤ (xpl h 64 (x15 + 1)) ∧ (xpl h 64 (x15 + 1)) ≤ 9223372036854775807 := f8_
        obtain ⟨c9_, hyp⟩ := hyp
        refine xr_lastore (pc := 658) (hI := d_DualPivotQuicksort_sort_SorteraJIII_658) (ft_64 F) (by decide) (by clear hyp; omega) (xlt_of (fl_64 F) c9_) ?_
        have F10_ : xFix (xst h 64 x22 (xpl h 64 (x15 + 1))) := F.stA xfa_64
        refine xr_aload_n (pc := 659) (i := 1) (hI := d_DualPivotQuicksort_sort_SorteraJIII_659) (hi := rfl) (hl := rfl) ?_
        refine xr_iload (pc := 660) (i := 15) (hI := d_DualPivotQuicksort_sort_SorteraJIII_660) (hl := rfl) ?_
        refine xr_lload (pc := 662) (i := 23) (hI := d_DualPivotQuicksort_sort_SorteraJIII_662) (hl := rfl) ?_
        refine xr_lastore (pc := 664) (hI := d_DualPivotQuicksort_sort_SorteraJIII_664) (ft_64 F10_) (by decide) (by clear hyp; omega) (xlt_of (fl_64 F10_) (by clear hyp; omega)) ?_
        have F11_ : xFix (xst (xst h 64 x22 (xpl h 64 (x15 + 1))) 64 (x15 + 1) x23) := F10_.stA xfa_64
        refine xr_goto (pc := 665) (tgt := 693) (hI := d_DualPivotQuicksort_sort_SorteraJIII_665) (ht := by decide) ?_
        refine xr_goto (pc := 693) (tgt := 575) (hI := d_DualPivotQuicksort_sort_SorteraJIII_693) (ht := by decide) ?_
        exact xr_drop (L9 := [xR (-1), xR 64, xI x2, xI x3, xI x4, xI x5, xI x6, xZ, xZ, xZ, xZ, xZ, xZ, xZ, xZ, xI (x15 + 1), xI x16, xL x17, xZ, xL x19, xZ, xZ, xI x22, xZ, xZ]) (xdrs (xdrs (xdrs (xdrs (xdrs (xdrs (xdrs (xdrs (xdrs (xdrs (xdrs (xdrs (xdrs (xdrs (xdrs (xdrs (xdrs (xdrs (xdrs (xdrs (xdrs (xdrs (xdrs (xdrz (xdrs xdr0))))))))))))))))))))))))) (hyp F11_)
      · replace hyp := hyp.2 q9
        have q7_ := q9
        clear q9
        refine xr_aload_n (pc := 629) (i := 1) (hI := d_DualPivotQuicksort_sort_SorteraJIII_629) (hi := rfl) (hl := rfl) ?_
        refine xr_iload (pc := 630) (i := 22) (hI := d_DualPivotQuicksort_sort_SorteraJIII_630) (hl := rfl) ?_
        refine xr_aload_n (pc := 632) (i := 1) (hI := d_DualPivotQuicksort_sort_SorteraJIII_632) (hi := rfl) (hl := rfl) ?_
        obtain ⟨c9, hyp⟩ := hyp
        refine xr_iinc (pc := 633) (i := 16) (L9 := [xR (-1), xR 64, xI x2, xI x3, xI x4, xI x5, xI x6, xZ, xZ, xZ, xZ, xZ, xZ, xZ, xZ, xI (x15 + 1), xI (x16 + (-1)), xL x17, xZ, xL x19, xZ, xZ, xI x22, xL x23, xZ]) (hI := d_DualPivotQuicksort_sort_SorteraJIII_633) (hl := rfl) (hn := Nat.le_of_ble_eq_true rfl) (hr := c9) (hL9 := rfl) ?_
        refine xr_iload (pc := 636) (i := 16) (hI := d_DualPivotQuicksort_sort_SorteraJIII_636) (hl := rfl) ?_
        obtain ⟨c12_, hyp⟩ := hyp
        obtain ⟨c13_, hyp⟩ := hyp
        refine xg_laload (pc := 638) (v := (xpl h 64 (x16 + (-1)))) (hI := d_DualPivotQuicksort_sort_SorteraJIII_638) (ft_64 F) c12_ (xlt_of (fl_64 F) c13_) rfl (fun f14_ => ?_)
        replace f14_ : -9223372036854775808 ≤ (xpl h 64 (x16 + (-1))) ∧ (xpl h 64 (x16 + (-1))) ≤ 9223372036854775807 := f14_
        obtain ⟨c15_, hyp⟩ := hyp
        refine xr_lastore (pc := 639) (hI := d_DualPivotQuicksort_sort_SorteraJIII_639) (ft_64 F) (by decide) (by clear hyp; omega) (xlt_of (fl_64 F) c15_) ?_
        have F16_ : xFix (xst h 64 x22 (xpl h 64 (x16 + (-1)))) := F.stA xfa_64
        refine xr_aload_n (pc := 640) (i := 1) (hI := d_DualPivotQuicksort_sort_SorteraJIII_640) (hi := rfl) (hl := rfl) ?_
        refine xr_iload (pc := 641) (i := 16) (hI := d_DualPivotQuicksort_sort_SorteraJIII_641) (hl := rfl) ?_
        refine xr_aload_n (pc := 643) (i := 1) (hI := d_DualPivotQuicksort_sort_SorteraJIII_643) (hi := rfl) (hl := rfl) ?_
        refine xr_iload (pc := 644) (i := 15) (hI := d_DualPivotQuicksort_sort_SorteraJIII_644) (hl := rfl) ?_
        refine xg_laload (pc := 646) (v := (xpl (xst h 64 x22 (xpl h 64 (x16 + (-1)))) 64 (x15 + 1))) (hI := d_DualPivotQuicksort_sort_SorteraJIII_646) (ft_64 F16_) (by clear hyp; omega) (xlt_of (fl_64 F16_) (by clear hyp; omega)) rfl (fun f17_ => ?_)
        replace f17_ : -9223372036854775808 ≤ (xpl (xst h 64 x22 (xpl h 64 (x16 + (-1)))) 64 (x15 + 1)) ∧ (xpl (xst h 64 x22 (xpl h 64 (x16 + (-1)))) 64 (x15 + 1)) ≤ 9223372036854775807 := f17_
        refine xr_lastore (pc := 647) (hI := d_DualPivotQuicksort_sort_SorteraJIII_647) (ft_64 F16_) (by decide) (by clear hyp; omega) (xlt_of (fl_64 F16_) (by clear hyp; omega)) ?_
        have F18_ : xFix (xst (xst h 64 x22 (xpl h 64 (x16 + (-1)))) 64 (x16 + (-1)) (xpl (xst h 64 x22 (xpl h 64 (x16 + (-1)))) 64 (x15 + 1))) := F16_.stA xfa_64
        refine xr_goto (pc := 648) (tgt := 659) (hI := d_DualPivotQuicksort_sort_SorteraJIII_648) (ht := by decide) ?_
        refine xr_aload_n (pc := 659) (i := 1) (hI := d_DualPivotQuicksort_sort_SorteraJIII_659) (hi := rfl) (hl := rfl) ?_
        refine xr_iload (pc := 660) (i := 15) (hI := d_DualPivotQuicksort_sort_SorteraJIII_660) (hl := rfl) ?_
        refine xr_lload (pc := 662) (i := 23) (hI := d_DualPivotQuicksort_sort_SorteraJIII_662) (hl := rfl) ?_
        refine xr_lastore (pc := 664) (hI := d_DualPivotQuicksort_sort_SorteraJIII_664) (ft_64 F18_) (by decide) (by clear hyp; omega) (xlt_of (fl_64 F18_) (by clear hyp; omega)) ?_
        have F19_ : xFix (xst (xst (xst h 64 x22 (xpl h 64 (x16 + (-1)))) 64 (x16 + (-1)) (xpl (xst h 64 x22 (xpl h 64 (x16 + (-1)))) 64 (x15 + 1))) 64 (x15 + 1) x23) := F18_.stA xfa_64
        refine xr_goto (pc := 665) (tgt := 693) (hI := d_DualPivotQuicksort_sort_SorteraJIII_665) (ht := by decide) ?_
        refine xr_goto (pc := 693) (tgt := 575) (hI := d_DualPivotQuicksort_sort_SorteraJIII_693) (ht := by decide) ?_
        exact xr_drop (L9 := [xR (-1), xR 64, xI x2, xI x3, xI x4, xI x5, xI x6, xZ, xZ, xZ, xZ, xZ, xZ, xZ, xZ, xI (x15 + 1), xI (x16 + (-1)), xL x17, xZ, xL x19, xZ, xZ, xI x22, xZ, xZ]) (xdrs (xdrs (xdrs (xdrs (xdrs (xdrs (xdrs (xdrs (xdrs (xdrs (xdrs (xdrs (xdrs (xdrs (xdrs (xdrs (xdrs (xdrs (xdrs (xdrs (xdrs (xdrs (xdrs (xdrz (xdrs xdr0))))))))))))))))))))))))) (hyp F19_)
theorem d_DualPivotQuicksort_sort_SorteraJIII_764 : decode prog_46_method_13_code 764 = .ok (.aload_n 0, 1) := by decide +kernel
theorem d_DualPivotQuicksort_sort_SorteraJIII_765 : decode prog_46_method_13_code 765 = .ok (.aload_n 1, 1) := by decide +kernel
theorem d_DualPivotQuicksort_sort_SorteraJIII_766 : decode prog_46_method_13_code 766 = .ok (.iload_n 2, 1) := by decide +kernel
theorem d_DualPivotQuicksort_sort_SorteraJIII_767 : decode prog_46_method_13_code 767 = .ok (.iconst 1, 1) := by decide +kernel
theorem d_DualPivotQuicksort_sort_SorteraJIII_768 : decode prog_46_method_13_code 768 = .ok (.ior, 1) := by decide +kernel
theorem d_DualPivotQuicksort_sort_SorteraJIII_769 : decode prog_46_method_13_code 769 = .ok (.iload 15, 2) := by decide +kernel
theorem d_DualPivotQuicksort_sort_SorteraJIII_771 : decode prog_46_method_13_code 771 = .ok (.iconst 1, 1) := by decide +kernel
theorem d_DualPivotQuicksort_sort_SorteraJIII_772 : decode prog_46_method_13_code 772 = .ok (.iadd, 1) := by decide +kernel
theorem d_DualPivotQuicksort_sort_SorteraJIII_773 : decode prog_46_method_13_code 773 = .ok (.iload 16, 2) := by decide +kernel
theorem d_DualPivotQuicksort_sort_SorteraJIII_775 : decode prog_46_method_13_code 775 = .ok (.invokestatic 99, 3) := by decide +kernel
theorem k_DualPivotQuicksort_sort_SorteraJIII : xCal m_DualPivotQuicksort_sort_SorteraJIII 5 := ⟨List.mem_append_right _ (List.mem_of_getElem? (i := 2147) (by decide +kernel)), w_38, Nat.le_of_ble_eq_true rfl, ⟨by decide +kernel, by decide +kernel⟩, by decide +kernel, by decide +kernel, rfl⟩
theorem w_2145 : Cond.methodLink "java/util/DualPivotQuicksort" 99 ⟨"java/util/DualPivotQuicksort", "sort", "(Ljava/util/DualPivotQuicksort$Sorter;[JIII)V"⟩ ∈ lw_tbl := List.mem_append_right _ (List.mem_of_getElem? (i := 2145) (by decide +kernel))
theorem w_2146 : Cond.static ⟨"java/util/DualPivotQuicksort", "sort", "(Ljava/util/DualPivotQuicksort$Sorter;[JIII)V"⟩ ∈ lw_tbl := List.mem_append_right _ (List.mem_of_getElem? (i := 2146) (by decide +kernel))
theorem v_DualPivotQuicksort_sort_SorteraJIII_764 {G : XG} {d : Nat} {h : XH} {Q : XV → XH → Prop} {X : Nat → XH → Prop} {x2 x3 x4 x15 x16 : Int} (F : xFix h) (hyp : xiR (x15 + 1) ∧ (xwp G m_DualPivotQuicksort_sort_SorteraJIII (d + 140) 0 [xR (-1), xR 64, xI (xior x2 1), xI (x15 + 1), xI x16, xZ, xZ, xZ, xZ, xZ, xZ, xZ, xZ, xZ, xZ, xZ, xZ, xZ, xZ, xZ, xZ, xZ, xZ, xZ, xZ] [] h (fun v9 h9 => xwp G m_DualPivotQuicksort_sort_SorteraJIII (d + 141) 778 [xR (-1), xR 64, xI x2, xI x3, xI x4, xZ, xZ, xZ, xZ, xZ, xZ, xZ, xZ, xZ, xZ, xI x15, xI x16, xZ, xZ, xZ, xZ, xZ, xZ, xZ, xZ] (xpush v9 []) h9 Q X) X)) : xwp G m_DualPivotQuicksort_sort_SorteraJIII (d + 141) 764 [xR (-1), xR 64, xI x2, xI x3, xI x4, xZ, xZ, xZ, xZ, xZ, xZ, xZ, xZ, xZ, xZ, xI x15, xI x16, xZ, xZ, xZ, xZ, xZ, xZ, xZ, xZ] [] h Q X := by
  have hnx9 : (93 : Int) ≤ xnx h := F.2.2
  refine xr_okL (fun hl9 => ?_)
  have r_x2 : -2147483648 ≤ x2 ∧ x2 ≤ 2147483647 := hl9 (xI x2) (.tail _ (.tail _ (.head _))) (Nat.le_of_ble_eq_true rfl)
  have r_x3 : -2147483648 ≤ x3 ∧ x3 ≤ 2147483647 := hl9 (xI x3) (.tail _ (.tail _ (.tail _ (.head _)))) (Nat.le_of_ble_eq_true rfl)
  have r_x4 : -2147483648 ≤ x4 ∧ x4 ≤ 2147483647 := hl9 (xI x4) (.tail _ (.tail _ (.tail _ (.tail _ (.head _))))) (Nat.le_of_ble_eq_true rfl)
  have r_x15 : -2147483648 ≤ x15 ∧ x15 ≤ 2147483647 := hl9 (xI x15) (.tail _ (.tail _ (.tail _ (.tail _ (.tail _ (.tail _ (.tail _ (.tail _ (.tail _ (.tail _ (.tail _ (.tail _ (.tail _ (.tail _ (.tail _ (.head _)))))))))))))))) (Nat.le_of_ble_eq_true rfl)
  have r_x16 : -2147483648 ≤ x16 ∧ x16 ≤ 2147483647 := hl9 (xI x16) (.tail _ (.tail _ (.tail _ (.tail _ (.tail _ (.tail _ (.tail _ (.tail _ (.tail _ (.tail _ (.tail _ (.tail _ (.tail _ (.tail _ (.tail _ (.tail _ (.head _))))))))))))))))) (Nat.le_of_ble_eq_true rfl)
  refine xr_aload_n (pc := 764) (i := 0) (hI := d_DualPivotQuicksort_sort_SorteraJIII_764) (hi := rfl) (hl := rfl) ?_
  refine xr_aload_n (pc := 765) (i := 1) (hI := d_DualPivotQuicksort_sort_SorteraJIII_765) (hi := rfl) (hl := rfl) ?_
  refine xr_iload_n (pc := 766) (i := 2) (hI := d_DualPivotQuicksort_sort_SorteraJIII_766) (hi := rfl) (hl := rfl) ?_
  refine xr_iconst (pc := 767) (hI := d_DualPivotQuicksort_sort_SorteraJIII_767) (hr := by decide) ?_
  refine xr_ior (pc := 768) (hI := d_DualPivotQuicksort_sort_SorteraJIII_768) ?_
  have f1_ : -2147483648 ≤ (xior x2 1) ∧ (xior x2 1) ≤ 2147483647 := xi_toR _
  refine xr_iload (pc := 769) (i := 15) (hI := d_DualPivotQuicksort_sort_SorteraJIII_769) (hl := rfl) ?_
  refine xr_iconst (pc := 771) (hI := d_DualPivotQuicksort_sort_SorteraJIII_771) (hr := by decide) ?_
  obtain ⟨c9, hyp⟩ := hyp
  refine xr_iadd (pc := 772) (hI := d_DualPivotQuicksort_sort_SorteraJIII_772) (hr := c9) ?_
  refine xr_iload (pc := 773) (i := 16) (hI := d_DualPivotQuicksort_sort_SorteraJIII_773) (hl := rfl) ?_
  exact xq_callS (pc := 775) (index := 99) (K := m_DualPivotQuicksort_sort_SorteraJIII) (As := [xR (-1), xR 64, xI (xior x2 1), xI (x15 + 1), xI x16]) (S := []) (L0 := [xR (-1), xR 64, xI (xior x2 1), xI (x15 + 1), xI x16, xZ, xZ, xZ, xZ, xZ, xZ, xZ, xZ, xZ, xZ, xZ, xZ, xZ, xZ, xZ, xZ, xZ, xZ, xZ, xZ]) (hI := d_DualPivotQuicksort_sort_SorteraJIII_775) (hK := k_DualPivotQuicksort_sort_SorteraJIII) (hlk := w_2145) (hnoM := rfl) (hS8 := Nat.le_of_ble_eq_true rfl) (hstat := w_2146) (hlen := Nat.le_of_ble_eq_true rfl) (hst := rfl) (hL0 := rfl)  hyp
theorem d_DualPivotQuicksort_sort_SorteraJIII_778 : decode prog_46_method_13_code 778 = .ok (.aload_n 0, 1) := by decide +kernel
theorem d_DualPivotQuicksort_sort_SorteraJIII_779 : decode prog_46_method_13_code 779 = .ok (.aload_n 1, 1) := by decide +kernel
theorem d_DualPivotQuicksort_sort_SorteraJIII_780 : decode prog_46_method_13_code 780 = .ok (.iload_n 2, 1) := by decide +kernel
theorem d_DualPivotQuicksort_sort_SorteraJIII_781 : decode prog_46_method_13_code 781 = .ok (.iconst 1, 1) := by decide +kernel
theorem d_DualPivotQuicksort_sort_SorteraJIII_782 : decode prog_46_method_13_code 782 = .ok (.ior, 1) := by decide +kernel
theorem d_DualPivotQuicksort_sort_SorteraJIII_783 : decode prog_46_method_13_code 783 = .ok (.iload 16, 2) := by decide +kernel
theorem d_DualPivotQuicksort_sort_SorteraJIII_785 : decode prog_46_method_13_code 785 = .ok (.iconst 1, 1) := by decide +kernel
theorem d_DualPivotQuicksort_sort_SorteraJIII_786 : decode prog_46_method_13_code 786 = .ok (.iadd, 1) := by decide +kernel
theorem d_DualPivotQuicksort_sort_SorteraJIII_787 : decode prog_46_method_13_code 787 = .ok (.iload 4, 2) := by decide +kernel
theorem d_DualPivotQuicksort_sort_SorteraJIII_789 : decode prog_46_method_13_code 789 = .ok (.invokestatic 99, 3) := by decide +kernel
theorem v_DualPivotQuicksort_sort_SorteraJIII_778 {G : XG} {d : Nat} {h : XH} {Q : XV → XH → Prop} {X : Nat → XH → Prop} {x2 x3 x4 x15 x16 : Int} (F : xFix h) (hyp : xiR (x16 + 1) ∧ (xwp G m_DualPivotQuicksort_sort_SorteraJIII (d + 140) 0 [xR (-1), xR 64, xI (xior x2 1), xI (x16 + 1), xI x4, xZ, xZ, xZ, xZ, xZ, xZ, xZ, xZ, xZ, xZ, xZ, xZ, xZ, xZ, xZ, xZ, xZ, xZ, xZ, xZ] [] h (fun v9 h9 => xwp G m_DualPivotQuicksort_sort_SorteraJIII (d + 141) 792 [xR (-1), xR 64, xI x2, xI x3, xZ, xZ, xZ, xZ, xZ, xZ, xZ, xZ, xZ, xZ, xZ, xI x15, xZ, xZ, xZ, xZ, xZ, xZ, xZ, xZ, xZ] (xpush v9 []) h9 Q X) X)) : xwp G m_DualPivotQuicksort_sort_SorteraJIII (d + 141) 778 [xR (-1), xR 64, xI x2, xI x3, xI x4, xZ, xZ, xZ, xZ, xZ, xZ, xZ, xZ, xZ, xZ, xI x15, xI x16, xZ, xZ, xZ, xZ, xZ, xZ, xZ, xZ] [] h Q X := by
  have hnx9 : (93 : Int) ≤ xnx h := F.2.2
  refine xr_okL (fun hl9 => ?_)
  have r_x2 : -2147483648 ≤ x2 ∧ x2 ≤ 2147483647 := hl9 (xI x2) (.tail _ (.tail _ (.head _))) (Nat.le_of_ble_eq_true rfl)
  have r_x3 : -2147483648 ≤ x3 ∧ x3 ≤ 2147483647 := hl9 (xI x3) (.tail _ (.tail _ (.tail _ (.head _)))) (Nat.le_of_ble_eq_true rfl)
  have r_x4 : -2147483648 ≤ x4 ∧ x4 ≤ 2147483647 := hl9 (xI x4) (.tail _ (.tail _ (.tail _ (.tail _ (.head _))))) (Nat.le_of_ble_eq_true rfl)
  have r_x15 : -2147483648 ≤ x15 ∧ x15 ≤ 2147483647 := hl9 (xI x15) (.tail _ (.tail _ (.tail _ (.tail _ (.tail _ (.tail _ (.tail _ (.tail _ (.tail _ (.tail _ (.tail _ (.tail _ (.tail _ (.tail _ (.tail _ (.head _)))))))))))))))) (Nat.le_of_ble_eq_true rfl)
  have r_x16 : -2147483648 ≤ x16 ∧ x16 ≤ 2147483647 := hl9 (xI x16) (.tail _ (.tail _ (.tail _ (.tail _ (.tail _ (.tail _ (.tail _ (.tail _ (.tail _ (.tail _ (.tail _ (.tail _ (.tail _ (.tail _ (.tail _ (.tail _ (.head _))))))))))))))))) (Nat.le_of_ble_eq_true rfl)
  refine xr_aload_n (pc := 778) (i := 0) (hI := d_DualPivotQuicksort_sort_SorteraJIII_778) (hi := rfl) (hl := rfl) ?_
  refine xr_aload_n (pc := 779) (i := 1) (hI := d_DualPivotQuicksort_sort_SorteraJIII_779) (hi := rfl) (hl := rfl) ?_
  refine xr_iload_n (pc := 780) (i := 2) (hI := d_DualPivotQuicksort_sort_SorteraJIII_780) (hi := rfl) (hl := rfl) ?_
  refine xr_iconst (pc := 781) (hI := d_DualPivotQuicksort_sort_SorteraJIII_781) (hr := by decide) ?_
  refine xr_ior (pc := 782) (hI := d_DualPivotQuicksort_sort_SorteraJIII_782) ?_
  have f1_ : -2147483648 ≤ (xior x2 1) ∧ (xior x2 1) ≤ 2147483647 := xi_toR _
  refine xr_iload (pc := 783) (i := 16) (hI := d_DualPivotQuicksort_sort_SorteraJIII_783) (hl := rfl) ?_
  refine xr_iconst (pc := 785) (hI := d_DualPivotQuicksort_sort_SorteraJIII_785) (hr := by decide) ?_
  obtain ⟨c9, hyp⟩ := hyp
  refine xr_iadd (pc := 786) (hI := d_DualPivotQuicksort_sort_SorteraJIII_786) (hr := c9) ?_
  refine xr_iload (pc := 787) (i := 4) (hI := d_DualPivotQuicksort_sort_SorteraJIII_787) (hl := rfl) ?_
  exact xq_callS (pc := 789) (index := 99) (K := m_DualPivotQuicksort_sort_SorteraJIII) (As := [xR (-1), xR 64, xI (xior x2 1), xI (x16 + 1), xI x4]) (S := []) (L0 := [xR (-1), xR 64, xI (xior x2 1), xI (x16 + 1), xI x4, xZ, xZ, xZ, xZ, xZ, xZ, xZ, xZ, xZ, xZ, xZ, xZ, xZ, xZ, xZ, xZ, xZ, xZ, xZ, xZ]) (hI := d_DualPivotQuicksort_sort_SorteraJIII_789) (hK := k_DualPivotQuicksort_sort_SorteraJIII) (hlk := w_2145) (hnoM := rfl) (hS8 := Nat.le_of_ble_eq_true rfl) (hstat := w_2146) (hlen := Nat.le_of_ble_eq_true rfl) (hst := rfl) (hL0 := rfl)  (xwp_mono hyp (fun v9 h9 q9 => xr_drop (L9 := [xR (-1), xR 64, xI x2, xI x3, xZ, xZ, xZ, xZ, xZ, xZ, xZ, xZ, xZ, xZ, xZ, xI x15, xZ, xZ, xZ, xZ, xZ, xZ, xZ, xZ, xZ]) (xdrs (xdrs (xdrs (xdrs (xdrz (xdrs (xdrs (xdrs (xdrs (xdrs (xdrs (xdrs (xdrs (xdrs (xdrs (xdrs (xdrz (xdrs (xdrs (xdrs (xdrs (xdrs (xdrs (xdrs (xdrs xdr0))))))))))))))))))))))))) q9) (fun _ _ z9 => z9))
theorem d_DualPivotQuicksort_sort_SorteraJIII_792 : decode prog_46_method_13_code 792 = .ok (.goto 171, 3) := by decide +kernel
theorem v_DualPivotQuicksort_sort_SorteraJIII_792 {G : XG} {d : Nat} {h : XH} {Q : XV → XH → Prop} {X : Nat → XH → Prop} {x2 x3 x15 : Int} (F : xFix h) (hyp : (xwp G m_DualPivotQuicksort_sort_SorteraJIII (d + 141) 963 [xR (-1), xR 64, xI x2, xI x3, xZ, xZ, xZ, xZ, xZ, xZ, xZ, xZ, xZ, xZ, xZ, xI x15, xZ, xZ, xZ, xZ, xZ, xZ, xZ, xZ, xZ] [] h Q X)) : xwp G m_DualPivotQuicksort_sort_SorteraJIII (d + 141) 792 [xR (-1), xR 64, xI x2, xI x3, xZ, xZ, xZ, xZ, xZ, xZ, xZ, xZ, xZ, xZ, xZ, xI x15, xZ, xZ, xZ, xZ, xZ, xZ, xZ, xZ, xZ] [] h Q X := by
  have hnx9 : (93 : Int) ≤ xnx h := F.2.2
  refine xr_okL (fun hl9 => ?_)
  have r_x2 : -2147483648 ≤ x2 ∧ x2 ≤ 2147483647 := hl9 (xI x2) (.tail _ (.tail _ (.head _))) (Nat.le_of_ble_eq_true rfl)
  have r_x3 : -2147483648 ≤ x3 ∧ x3 ≤ 2147483647 := hl9 (xI x3) (.tail _ (.tail _ (.tail _ (.head _)))) (Nat.le_of_ble_eq_true rfl)
  have r_x15 : -2147483648 ≤ x15 ∧ x15 ≤ 2147483647 := hl9 (xI x15) (.tail _ (.tail _ (.tail _ (.tail _ (.tail _ (.tail _ (.tail _ (.tail _ (.tail _ (.tail _ (.tail _ (.tail _ (.tail _ (.tail _ (.tail _ (.head _)))))))))))))))) (Nat.le_of_ble_eq_true rfl)
  refine xr_goto (pc := 792) (tgt := 963) (hI := d_DualPivotQuicksort_sort_SorteraJIII_792) (ht := by decide) ?_
  exact hyp
theorem d_DualPivotQuicksort_sort_SorteraJIII_795 : decode prog_46_method_13_code 795 = .ok (.aload_n 1, 1) := by decide +kernel
theorem d_DualPivotQuicksort_sort_SorteraJIII_796 : decode prog_46_method_13_code 796 = .ok (.iload 10, 2) := by decide +kernel
theorem d_DualPivotQuicksort_sort_SorteraJIII_798 : decode prog_46_method_13_code 798 = .ok (.laload, 1) := by decide +kernel
theorem d_DualPivotQuicksort_sort_SorteraJIII_799 : decode prog_46_method_13_code 799 = .ok (.lstore 17, 2) := by decide +kernel
theorem d_DualPivotQuicksort_sort_SorteraJIII_801 : decode prog_46_method_13_code 801 = .ok (.aload_n 1, 1) := by decide +kernel
theorem d_DualPivotQuicksort_sort_SorteraJIII_802 : decode prog_46_method_13_code 802 = .ok (.iload 10, 2) := by decide +kernel
theorem d_DualPivotQuicksort_sort_SorteraJIII_804 : decode prog_46_method_13_code 804 = .ok (.aload_n 1, 1) := by decide +kernel
theorem d_DualPivotQuicksort_sort_SorteraJIII_805 : decode prog_46_method_13_code 805 = .ok (.iload 15, 2) := by decide +kernel
theorem d_DualPivotQuicksort_sort_SorteraJIII_807 : decode prog_46_method_13_code 807 = .ok (.laload, 1) := by decide +kernel
theorem d_DualPivotQuicksort_sort_SorteraJIII_808 : decode prog_46_method_13_code 808 = .ok (.lastore, 1) := by decide +kernel
theorem d_DualPivotQuicksort_sort_SorteraJIII_809 : decode prog_46_method_13_code 809 = .ok (.iinc 16 1, 3) := by decide +kernel
theorem d_DualPivotQuicksort_sort_SorteraJIII_812 : decode prog_46_method_13_code 812 = .ok (.iload 16, 2) := by decide +kernel
theorem d_DualPivotQuicksort_sort_SorteraJIII_814 : decode prog_46_method_13_code 814 = .ok (.istore 19, 2) := by decide +kernel
theorem v_DualPivotQuicksort_sort_SorteraJIII_795 {G : XG} {d : Nat} {h : XH} {Q : XV → XH → Prop} {X : Nat → XH → Prop} {x2 x3 x4 x6 x10 x15 x16 : Int} (F : xFix h) (hyp : 0 ≤ x10 ∧ x10 < 12000 ∧ 0 ≤ x15 ∧ x15 < 12000 ∧ xiR (x16 + 1) ∧ (xFix (xst h 64 x10 (xpl h 64 x15)) → xwp G m_DualPivotQuicksort_sort_SorteraJIII (d + 141) 816 [xR (-1), xR 64, xI x2, xI x3, xI x4, xZ, xI x6, xZ, xZ, xZ, xZ, xZ, xZ, xZ, xZ, xI x15, xI (x16 + 1), xL (xpl h 64 x10), xZ, xI (x16 + 1), xZ, xZ, xZ, xZ, xZ] [] (xst h 64 x10 (xpl h 64 x15)) Q X)) : xwp G m_DualPivotQuicksort_sort_SorteraJIII (d + 141) 795 [xR (-1), xR 64, xI x2, xI x3, xI x4, xZ, xI x6, xZ, xZ, xZ, xI x10, xZ, xZ, xZ, xZ, xI x15, xI x16, xZ, xZ, xZ, xZ, xZ, xZ, xZ, xZ] [] h Q X := by
  have hnx9 : (93 : Int) ≤ xnx h := F.2.2
  refine xr_okL (fun hl9 => ?_)
  have r_x2 : -2147483648 ≤ x2 ∧ x2 ≤ 2147483647 := hl9 (xI x2) (.tail _ (.tail _ (.head _))) (Nat.le_of_ble_eq_true rfl)
  have r_x3 : -2147483648 ≤ x3 ∧ x3 ≤ 2147483647 := hl9 (xI x3) (.tail _ (.tail _ (.tail _ (.head _)))) (Nat.le_of_ble_eq_true rfl)
  have r_x4 : -2147483648 ≤ x4 ∧ x4 ≤ 2147483647 := hl9 (xI x4) (.tail _ (.tail _ (.tail _ (.tail _ (.head _))))) (Nat.le_of_ble_eq_true rfl)
  have r_x6 : -2147483648 ≤ x6 ∧ x6 ≤ 2147483647 := hl9 (xI x6) (.tail _ (.tail _ (.tail _ (.tail _ (.tail _ (.tail _ (.head _))))))) (Nat.le_of_ble_eq_true rfl)
  have r_x10 : -2147483648 ≤ x10 ∧ x10 ≤ 2147483647 := hl9 (xI x10) (.tail _ (.tail _ (.tail _ (.tail _ (.tail _ (.tail _ (.tail _ (.tail _ (.tail _ (.tail _ (.head _))))))))))) (Nat.le_of_ble_eq_true rfl)
  have r_x15 : -2147483648 ≤ x15 ∧ x15 ≤ 2147483647 := hl9 (xI x15) (.tail _ (.tail _ (.tail _ (.tail _ (.tail _ (.tail _ (.tail _ (.tail _ (.tail _ (.tail _ (.tail _ (.tail _ (.tail _ (.tail _ (.tail _ (.head _)))))))))))))))) (Nat.le_of_ble_eq_true rfl)
  have r_x16 : -2147483648 ≤ x16 ∧ x16 ≤ 2147483647 := hl9 (xI x16) (.tail _ (.tail _ (.tail _ (.tail _ (.tail _ (.tail _ (.tail _ (.tail _ (.tail _ (.tail _ (.tail _ (.tail _ (.tail _ (.tail _ (.tail _ (.tail _ (.head _))))))))))))))))) (Nat.le_of_ble_eq_true rfl)
  refine xr_aload_n (pc := 795) (i := 1) (hI := d_DualPivotQuicksort_sort_SorteraJIII_795) (hi := rfl) (hl := rfl) ?_
  refine xr_iload (pc := 796) (i := 10) (hI := d_DualPivotQuicksort_sort_SorteraJIII_796) (hl := rfl) ?_
  obtain ⟨c1_, hyp⟩ := hyp
  obtain ⟨c2_, hyp⟩ := hyp
  refine xg_laload (pc := 798) (v := (xpl h 64 x10)) (hI := d_DualPivotQuicksort_sort_SorteraJIII_798) (ft_64 F) c1_ (xlt_of (fl_64 F) c2_) rfl (fun f3_ => ?_)
  replace f3_ : -9223372036854775808 ≤ (xpl h 64 x10) ∧ (xpl h 64 x10) ≤ 9223372036854775807 := f3_
  refine xr_lstore (pc := 799) (i := 17) (L9 := [xR (-1), xR 64, xI x2, xI x3, xI x4, xZ, xI x6, xZ, xZ, xZ, xI x10, xZ, xZ, xZ, xZ, xI x15, xI x16, xL (xpl h 64 x10), xZ, xZ, xZ, xZ, xZ, xZ, xZ]) (hI := d_DualPivotQuicksort_sort_SorteraJIII_799) (hn := Nat.le_of_ble_eq_true rfl) (hL9 := rfl) ?_
  refine xr_aload_n (pc := 801) (i := 1) (hI := d_DualPivotQuicksort_sort_SorteraJIII_801) (hi := rfl) (hl := rfl) ?_
  refine xr_iload (pc := 802) (i := 10) (hI := d_DualPivotQuicksort_sort_SorteraJIII_802) (hl := rfl) ?_
  refine xr_aload_n (pc := 804) (i := 1) (hI := d_DualPivotQuicksort_sort_SorteraJIII_804) (hi := rfl) (hl := rfl) ?_
  refine xr_iload (pc := 805) (i := 15) (hI := d_DualPivotQuicksort_sort_SorteraJIII_805) (hl := rfl) ?_
  obtain ⟨c4_, hyp⟩ := hyp
  obtain ⟨c5_, hyp⟩ := hyp
  refine xg_laload (pc := 807) (v := (xpl h 64 x15)) (hI := d_DualPivotQuicksort_sort_SorteraJIII_807) (ft_64 F) c4_ (xlt_of (fl_64 F) c5_) rfl (fun f6_ => ?_)
  replace f6_ : -9223372036854775808 ≤ (xpl h 64 x15) ∧ (xpl h 64 x15) ≤ 9223372036854775807 := f6_
  refine xr_lastore (pc := 808) (hI := d_DualPivotQuicksort_sort_SorteraJIII_808) (ft_64 F) (by decide) (by clear hyp; omega) (xlt_of (fl_64 F) (by clear hyp; omega)) ?_
  have F7_ : xFix (xst h 64 x10 (xpl h 64 x15)) := F.stA xfa_64
  obtain ⟨c9, hyp⟩ := hyp
  refine xr_iinc (pc := 809) (i := 16) (L9 := [xR (-1), xR 64, xI x2, xI x3, xI x4, xZ, xI x6, xZ, xZ, xZ, xI x10, xZ, xZ, xZ, xZ, xI x15, xI (x16 + 1), xL (xpl h 64 x10), xZ, xZ, xZ, xZ, xZ, xZ, xZ]) (hI := d_DualPivotQuicksort_sort_SorteraJIII_809) (hl := rfl) (hn := Nat.le_of_ble_eq_true rfl) (hr := c9) (hL9 := rfl) ?_
  refine xr_iload (pc := 812) (i := 16) (hI := d_DualPivotQuicksort_sort_SorteraJIII_812) (hl := rfl) ?_
  refine xr_istore (pc := 814) (i := 19) (L9 := [xR (-1), xR 64, xI x2, xI x3, xI x4, xZ, xI x6, xZ, xZ, xZ, xI x10, xZ, xZ, xZ, xZ, xI x15, xI (x16 + 1), xL (xpl h 64 x10), xZ, xI (x16 + 1), xZ, xZ, xZ, xZ, xZ]) (hI := d_DualPivotQuicksort_sort_SorteraJIII_814) (hn := Nat.le_of_ble_eq_true rfl) (hL9 := rfl) ?_
  exact xr_drop (L9 := [xR (-1), xR 64, xI x2, xI x3, xI x4, xZ, xI x6, xZ, xZ, xZ, xZ, xZ, xZ, xZ, xZ, xI x15, xI (x16 + 1), xL (xpl h 64 x10), xZ, xI (x16 + 1), xZ, xZ, xZ, xZ, xZ]) (xdrs (xdrs (xdrs (xdrs (xdrs (xdrs (xdrs (xdrs (xdrs (xdrs (xdrz (xdrs (xdrs (xdrs (xdrs (xdrs (xdrs (xdrs (xdrs (xdrs (xdrs (xdrs (xdrs (xdrs (xdrs xdr0))))))))))))))))))))))))) (hyp F7_)
theorem d_DualPivotQuicksort_sort_SorteraJIII_816 : decode prog_46_method_13_code 816 = .ok (.iinc 19 (-1), 3) := by decide +kernel
theorem d_DualPivotQuicksort_sort_SorteraJIII_819 : decode prog_46_method_13_code 819 = .ok (.iload 19, 2) := by decide +kernel
theorem d_DualPivotQuicksort_sort_SorteraJIII_821 : decode prog_46_method_13_code 821 = .ok (.iload 15, 2) := by decide +kernel
theorem d_DualPivotQuicksort_sort_SorteraJIII_823 : decode prog_46_method_13_code 823 = .ok (.if_icmp .le 89, 3) := by decide +kernel
theorem d_DualPivotQuicksort_sort_SorteraJIII_912 : decode prog_46_method_13_code 912 = .ok (.aload_n 1, 1) := by decide +kernel
theorem d_DualPivotQuicksort_sort_SorteraJIII_913 : decode prog_46_method_13_code 913 = .ok (.iload_n 3, 1) := by decide +kernel
theorem d_DualPivotQuicksort_sort_SorteraJIII_914 : decode prog_46_method_13_code 914 = .ok (.aload_n 1, 1) := by decide +kernel
theorem d_DualPivotQuicksort_sort_SorteraJIII_915 : decode prog_46_method_13_code 915 = .ok (.iload 15, 2) := by decide +kernel
theorem d_DualPivotQuicksort_sort_SorteraJIII_917 : decode prog_46_method_13_code 917 = .ok (.laload, 1) := by decide +kernel
theorem d_DualPivotQuicksort_sort_SorteraJIII_918 : decode prog_46_method_13_code 918 = .ok (.lastore, 1) := by decide +kernel
theorem d_DualPivotQuicksort_sort_SorteraJIII_919 : decode prog_46_method_13_code 919 = .ok (.aload_n 1, 1) := by decide +kernel
theorem d_DualPivotQuicksort_sort_SorteraJIII_920 : decode prog_46_method_13_code 920 = .ok (.iload 15, 2) := by decide +kernel
theorem d_DualPivotQuicksort_sort_SorteraJIII_922 : decode prog_46_method_13_code 922 = .ok (.lload 17, 2) := by decide +kernel
theorem d_DualPivotQuicksort_sort_SorteraJIII_924 : decode prog_46_method_13_code 924 = .ok (.lastore, 1) := by decide +kernel
theorem d_DualPivotQuicksort_sort_SorteraJIII_925 : decode prog_46_method_13_code 925 = .ok (.iload 6, 2) := by decide +kernel
theorem d_DualPivotQuicksort_sort_SorteraJIII_927 : decode prog_46_method_13_code 927 = .ok (.sipush 4096, 3) := by decide +kernel
theorem d_DualPivotQuicksort_sort_SorteraJIII_930 : decode prog_46_method_13_code 930 = .ok (.if_icmp .le 21, 3) := by decide +kernel
theorem d_DualPivotQuicksort_sort_SorteraJIII_933 : decode prog_46_method_13_code 933 = .ok (.aload_n 0, 1) := by decide +kernel
theorem d_DualPivotQuicksort_sort_SorteraJIII_934 : decode prog_46_method_13_code 934 = .ok (.ifnull 17, 3) := by decide +kernel
theorem d_DualPivotQuicksort_sort_SorteraJIII_826 : decode prog_46_method_13_code 826 = .ok (.aload_n 1, 1) := by decide +kernel
theorem d_DualPivotQuicksort_sort_SorteraJIII_827 : decode prog_46_method_13_code 827 = .ok (.iload 19, 2) := by decide +kernel
theorem d_DualPivotQuicksort_sort_SorteraJIII_829 : decode prog_46_method_13_code 829 = .ok (.laload, 1) := by decide +kernel
theorem d_DualPivotQuicksort_sort_SorteraJIII_830 : decode prog_46_method_13_code 830 = .ok (.lstore 20, 2) := by decide +kernel
theorem d_DualPivotQuicksort_sort_SorteraJIII_832 : decode prog_46_method_13_code 832 = .ok (.lload 20, 2) := by decide +kernel
theorem d_DualPivotQuicksort_sort_SorteraJIII_834 : decode prog_46_method_13_code 834 = .ok (.lload 17, 2) := by decide +kernel
theorem d_DualPivotQuicksort_sort_SorteraJIII_836 : decode prog_46_method_13_code 836 = .ok (.lcmp, 1) := by decide +kernel
theorem d_DualPivotQuicksort_sort_SorteraJIII_837 : decode prog_46_method_13_code 837 = .ok (.ifCond .eq 72, 3) := by decide +kernel
theorem d_DualPivotQuicksort_sort_SorteraJIII_909 : decode prog_46_method_13_code 909 = .ok (.goto (-93), 3) := by decide +kernel
theorem d_DualPivotQuicksort_sort_SorteraJIII_840 : decode prog_46_method_13_code 840 = .ok (.aload_n 1, 1) := by decide +kernel
theorem d_DualPivotQuicksort_sort_SorteraJIII_841 : decode prog_46_method_13_code 841 = .ok (.iload 19, 2) := by decide +kernel
theorem d_DualPivotQuicksort_sort_SorteraJIII_843 : decode prog_46_method_13_code 843 = .ok (.lload 17, 2) := by decide +kernel
theorem d_DualPivotQuicksort_sort_SorteraJIII_845 : decode prog_46_method_13_code 845 = .ok (.lastore, 1) := by decide +kernel
theorem d_DualPivotQuicksort_sort_SorteraJIII_846 : decode prog_46_method_13_code 846 = .ok (.lload 20, 2) := by decide +kernel
theorem d_DualPivotQuicksort_sort_SorteraJIII_848 : decode prog_46_method_13_code 848 = .ok (.lload 17, 2) := by decide +kernel
theorem d_DualPivotQuicksort_sort_SorteraJIII_850 : decode prog_46_method_13_code 850 = .ok (.lcmp, 1) := by decide +kernel
theorem d_DualPivotQuicksort_sort_SorteraJIII_851 : decode prog_46_method_13_code 851 = .ok (.ifCond .ge 49, 3) := by decide +kernel
theorem d_DualPivotQuicksort_sort_SorteraJIII_900 : decode prog_46_method_13_code 900 = .ok (.aload_n 1, 1) := by decide +kernel
theorem d_DualPivotQuicksort_sort_SorteraJIII_901 : decode prog_46_method_13_code 901 = .ok (.iinc 16 (-1), 3) := by decide +kernel
theorem d_DualPivotQuicksort_sort_SorteraJIII_904 : decode prog_46_method_13_code 904 = .ok (.iload 16, 2) := by decide +kernel
theorem d_DualPivotQuicksort_sort_SorteraJIII_906 : decode prog_46_method_13_code 906 = .ok (.lload 20, 2) := by decide +kernel
theorem d_DualPivotQuicksort_sort_SorteraJIII_908 : decode prog_46_method_13_code 908 = .ok (.lastore, 1) := by decide +kernel
theorem v_DualPivotQuicksort_sort_SorteraJIII_816 {G : XG} {d : Nat} {h : XH} {Q : XV → XH → Prop} {X : Nat → XH → Prop} {x2 x3 x4 x6 x15 x16 x17 x19 : Int} (F : xFix h) (hyp : xiR (x19 + (-1)) ∧ (((x19 + (-1)) ≤ x15 → 0 ≤ x15 ∧ x15 < 12000 ∧ 0 ≤ x3 ∧ x3 < 12000 ∧ ((x6 ≤ 4096 → (xFix (xst (xst h 64 x3 (xpl h 64 x15)) 64 x15 x17) → xwp G m_DualPivotQuicksort_sort_SorteraJIII (d + 141) 951 [xR (-1), xR 64, xI x2, xI x3, xI x4, xZ, xZ, xZ, xZ, xZ, xZ, xZ, xZ, xZ, xZ, xI x15, xI x16, xZ, xZ, xZ, xZ, xZ, xZ, xZ, xZ] [] (xst (xst h 64 x3 (xpl h 64 x15)) 64 x15 x17) Q X)) ∧ (¬ x6 ≤ 4096 → (xFix (xst (xst h 64 x3 (xpl h 64 x15)) 64 x15 x17) → xwp G m_DualPivotQuicksort_sort_SorteraJIII (d + 141) 951 [xR (-1), xR 64, xI x2, xI x3, xI x4, xZ, xZ, xZ, xZ, xZ, xZ, xZ, xZ, xZ, xZ, xI x15, xI x16, xZ, xZ, xZ, xZ, xZ, xZ, xZ, xZ] [] (xst (xst h 64 x3 (xpl h 64 x15)) 64 x15 x17) Q X)))) ∧ (¬ (x19 + (-1)) ≤ x15 → 0 ≤ (x19 + (-1)) ∧ (x19 + (-1)) < 12000 ∧ (((xpl h 64 (x19 + (-1))) = x17 → (xwp G m_DualPivotQuicksort_sort_SorteraJIII (d + 141) 816 [xR (-1), xR 64, xI x2, xI x3, xI x4, xZ, xI x6, xZ, xZ, xZ, xZ, xZ, xZ, xZ, xZ, xI x15, xI x16, xL x17, xZ, xI (x19 + (-1)), xZ, xZ, xZ, xZ, xZ] [] h Q X)) ∧ (¬ (xpl h 64 (x19 + (-1))) = x17 → ((x17 ≤ (xpl h 64 (x19 + (-1))) → xiR (x16 + (-1)) ∧ 0 ≤ (x16 + (-1)) ∧ (x16 + (-1)) < 12000 ∧ (xFix (xst (xst h 64 (x19 + (-1)) x17) 64 (x16 + (-1)) (xpl h 64 (x19 + (-1)))) → xwp G m_DualPivotQuicksort_sort_SorteraJIII (d + 141) 816 [xR (-1), xR 64, xI x2, xI x3, xI x4, xZ, xI x6, xZ, xZ, xZ, xZ, xZ, xZ, xZ, xZ, xI x15, xI (x16 + (-1)), xL x17, xZ, xI (x19 + (-1)), xZ, xZ, xZ, xZ, xZ] [] (xst (xst h 64 (x19 + (-1)) x17) 64 (x16 + (-1)) (xpl h 64 (x19 + (-1)))) Q X)) ∧ (¬ x17 ≤ (xpl h 64 (x19 + (-1))) → (xFix (xst h 64 (x19 + (-1)) x17) → xwp G m_DualPivotQuicksort_sort_SorteraJIII (d + 141) 854 [xR (-1), xR 64, xI x2, xI x3, xI x4, xZ, xI x6, xZ, xZ, xZ, xZ, xZ, xZ, xZ, xZ, xI x15, xI x16, xL x17, xZ, xI (x19 + (-1)), xL (xpl h 64 (x19 + (-1))), xZ, xZ, xZ, xZ] [] (xst h 64 (x19 + (-1)) x17) Q X)))))))) : xwp G m_DualPivotQuicksort_sort_SorteraJIII (d + 141) 816 [xR (-1), xR 64, xI x2, xI x3, xI x4, xZ, xI x6, xZ, xZ, xZ, xZ, xZ, xZ, xZ, xZ, xI x15, xI x16, xL x17, xZ, xI x19, xZ, xZ, xZ, xZ, xZ] [] h Q X := by
  have hnx9 : (93 : Int) ≤ xnx h := F.2.2
  refine xr_okL (fun hl9 => ?_)
  have r_x2 : -2147483648 ≤ x2 ∧ x2 ≤ 2147483647 := hl9 (xI x2) (.tail _ (.tail _ (.head _))) (Nat.le_of_ble_eq_true rfl)
  have r_x3 : -2147483648 ≤ x3 ∧ x3 ≤ 2147483647 := hl9 (xI x3) (.tail _ (.tail _ (.tail _ (.head _)))) (Nat.le_of_ble_eq_true rfl)
  have r_x4 : -2147483648 ≤ x4 ∧ x4 ≤ 2147483647 := hl9 (xI x4) (.tail _ (.tail _ (.tail _ (.tail _ (.head _))))) (Nat.le_of_ble_eq_true rfl)
  have r_x6 : -2147483648 ≤ x6 ∧ x6 ≤ 2147483647 := hl9 (xI x6) (.tail _ (.tail _ (.tail _ (.tail _ (.tail _ (.tail _ (.head _))))))) (Nat.le_of_ble_eq_true rfl)
  have r_x15 : -2147483648 ≤ x15 ∧ x15 ≤ 2147483647 := hl9 (xI x15) (.tail _ (.tail _ (.tail _ (.tail _ (.tail _ (.tail _ (.tail _ (.tail _ (.tail _ (.tail _ (.tail _ (.tail _ (.tail _ (.tail _ (.tail _ (.head _)))))))))))))))) (Nat.le_of_ble_eq_true rfl)
  have r_x16 : -2147483648 ≤ x16 ∧ x16 ≤ 2147483647 := hl9 (xI x16) (.tail _ (.tail _ (.tail _ (.tail _ (.tail _ (.tail _ (.tail _ (.tail _ (.tail _ (.tail _ (.tail _ (.tail _ (.tail _ (.tail _ (.tail _ (.tail _ (.head _))))))))))))))))) (Nat.le_of_ble_eq_true rfl)
  have r_x17 : -9223372036854775808 ≤ x17 ∧ x17 ≤ 9223372036854775807 := hl9 (xL x17) (.tail _ (.tail _ (.tail _ (.tail _ (.tail _ (.tail _ (.tail _ (.tail _ (.tail _ (.tail _ (.tail _ (.tail _ (.tail _ (.tail _ (.tail _ (.tail _ (.tail _ (.head _)))))))))))))))))) (Nat.le_of_ble_eq_true rfl)
  have r_x19 : -2147483648 ≤ x19 ∧ x19 ≤ 2147483647 := hl9 (xI x19) (.tail _ (.tail _ (.tail _ (.tail _ (.tail _ (.tail _ (.tail _ (.tail _ (.tail _ (.tail _ (.tail _ (.tail _ (.tail _ (.tail _ (.tail _ (.tail _ (.tail _ (.tail _ (.tail _ (.head _)))))))))))))))))))) (Nat.le_of_ble_eq_true rfl)
  obtain ⟨c9, hyp⟩ := hyp
  refine xr_iinc (pc := 816) (i := 19) (L9 := [xR (-1), xR 64, xI x2, xI x3, xI x4, xZ, xI x6, xZ, xZ, xZ, xZ, xZ, xZ, xZ, xZ, xI x15, xI x16, xL x17, xZ, xI (x19 + (-1)), xZ, xZ, xZ, xZ, xZ]) (hI := d_DualPivotQuicksort_sort_SorteraJIII_816) (hl := rfl) (hn := Nat.le_of_ble_eq_true rfl) (hr := c9) (hL9 := rfl) ?_
  refine xr_iload (pc := 819) (i := 19) (hI := d_DualPivotQuicksort_sort_SorteraJIII_819) (hl := rfl) ?_
  refine xr_iload (pc := 821) (i := 15) (hI := d_DualPivotQuicksort_sort_SorteraJIII_821) (hl := rfl) ?_
  refine xr_icmp_le (pc := 823) (tgt := 912) (hI := d_DualPivotQuicksort_sort_SorteraJIII_823) (ht := by decide) (fun q9 => ?_) (fun q9 => ?_)
  · replace hyp := hyp.1 q9
    have q1_ := q9
    clear q9
    refine xr_aload_n (pc := 912) (i := 1) (hI := d_DualPivotQuicksort_sort_SorteraJIII_912) (hi := rfl) (hl := rfl) ?_
    refine xr_iload_n (pc := 913) (i := 3) (hI := d_DualPivotQuicksort_sort_SorteraJIII_913) (hi := rfl) (hl := rfl) ?_
    refine xr_aload_n (pc := 914) (i := 1) (hI := d_DualPivotQuicksort_sort_SorteraJIII_914) (hi := rfl) (hl := rfl) ?_
    refine xr_iload (pc := 915) (i := 15) (hI := d_DualPivotQuicksort_sort_SorteraJIII_915) (hl := rfl) ?_
    obtain ⟨c2_, hyp⟩ := hyp
    obtain ⟨c3_, hyp⟩ := hyp
    refine xg_laload (pc := 917) (v := (xpl h 64 x15)) (hI := d_DualPivotQuicksort_sort_SorteraJIII_917) (ft_64 F) c2_ (xlt_of (fl_64 F) c3_) rfl (fun f4_ => ?_)
    replace f4_ : -9223372036854775808 ≤ (xpl h 64 x15) ∧ (xpl h 64 x15) ≤ 9223372036854775807 := f4_
    obtain ⟨c5_, hyp⟩ := hyp
    obtain ⟨c6_, hyp⟩ := hyp
    refine xr_lastore (pc := 918) (hI := d_DualPivotQuicksort_sort_SorteraJIII_918) (ft_64 F) (by decide) c5_ (xlt_of (fl_64 F) c6_) ?_
    have F7_ : xFix (xst h 64 x3 (xpl h 64 x15)) := F.stA xfa_64
    refine xr_aload_n (pc := 919) (i := 1) (hI := d_DualPivotQuicksort_sort_SorteraJIII_919) (hi := rfl) (hl := rfl) ?_
    refine xr_iload (pc := 920) (i := 15) (hI := d_DualPivotQuicksort_sort_SorteraJIII_920) (hl := rfl) ?_
    refine xr_lload (pc := 922) (i := 17) (hI := d_DualPivotQuicksort_sort_SorteraJIII_922) (hl := rfl) ?_
    refine xr_lastore (pc := 924) (hI := d_DualPivotQuicksort_sort_SorteraJIII_924) (ft_64 F7_) (by decide) (by clear hyp; omega) (xlt_of (fl_64 F7_) (by clear hyp; omega)) ?_
    have F8_ : xFix (xst (xst h 64 x3 (xpl h 64 x15)) 64 x15 x17) := F7_.stA xfa_64
    refine xr_iload (pc := 925) (i := 6) (hI := d_DualPivotQuicksort_sort_SorteraJIII_925) (hl := rfl) ?_
    refine xr_sipush (pc := 927) (hI := d_DualPivotQuicksort_sort_SorteraJIII_927) (hr := by decide) (hv := by decide) ?_
    refine xr_icmp_le (pc := 930) (tgt := 951) (hI := d_DualPivotQuicksort_sort_SorteraJIII_930) (ht := by decide) (fun q9 => ?_) (fun q9 => ?_)
    · replace hyp := hyp.1 q9
      have q9_ := q9
      clear q9
      exact xr_drop (L9 := [xR (-1), xR 64, xI x2, xI x3, xI x4, xZ, xZ, xZ, xZ, xZ, xZ, xZ, xZ, xZ, xZ, xI x15, xI x16, xZ, xZ, xZ, xZ, xZ, xZ, xZ, xZ]) (xdrs (xdrs (xdrs (xdrs (xdrs (xdrs (xdrz (xdrs (xdrs (xdrs (xdrs (xdrs (xdrs (xdrs (xdrs (xdrs (xdrs (xdrz (xdrs (xdrz (xdrs (xdrs (xdrs (xdrs (xdrs xdr0))))))))))))))))))))))))) (hyp F8_)
    · replace hyp := hyp.2 q9
      have q9_ := q9
      clear q9
      refine xr_aload_n (pc := 933) (i := 0) (hI := d_DualPivotQuicksort_sort_SorteraJIII_933) (hi := rfl) (hl := rfl) ?_
      refine xr_ifnull (pc := 934) (tgt := 951) (hI := d_DualPivotQuicksort_sort_SorteraJIII_934) (ht := by decide) (fun q9 => ?_) (fun q9 => ?_)
      · clear q9
        exact xr_drop (L9 := [xR (-1), xR 64, xI x2, xI x3, xI x4, xZ, xZ, xZ, xZ, xZ, xZ, xZ, xZ, xZ, xZ, xI x15, xI x16, xZ, xZ, xZ, xZ, xZ, xZ, xZ, xZ]) (xdrs (xdrs (xdrs (xdrs (xdrs (xdrs (xdrz (xdrs (xdrs (xdrs (xdrs (xdrs (xdrs (xdrs (xdrs (xdrs (xdrs (xdrz (xdrs (xdrz (xdrs (xdrs (xdrs (xdrs (xdrs xdr0))))))))))))))))))))))))) (hyp F8_)
      · exact absurd q9 (by decide)
  · replace hyp := hyp.2 q9
    have q1_ := q9
    clear q9
    refine xr_aload_n (pc := 826) (i := 1) (hI := d_DualPivotQuicksort_sort_SorteraJIII_826) (hi := rfl) (hl := rfl) ?_
    refine xr_iload (pc := 827) (i := 19) (hI := d_DualPivotQuicksort_sort_SorteraJIII_827) (hl := rfl) ?_
    obtain ⟨c10_, hyp⟩ := hyp
    obtain ⟨c11_, hyp⟩ := hyp
    refine xg_laload (pc := 829) (v := (xpl h 64 (x19 + (-1)))) (hI := d_DualPivotQuicksort_sort_SorteraJIII_829) (ft_64 F) c10_ (xlt_of (fl_64 F) c11_) rfl (fun f12_ => ?_)
    replace f12_ : -9223372036854775808 ≤ (xpl h 64 (x19 + (-1))) ∧ (xpl h 64 (x19 + (-1))) ≤ 9223372036854775807 := f12_
    refine xr_lstore (pc := 830) (i := 20) (L9 := [xR (-1), xR 64, xI x2, xI x3, xI x4, xZ, xI x6, xZ, xZ, xZ, xZ, xZ, xZ, xZ, xZ, xI x15, xI x16, xL x17, xZ, xI (x19 + (-1)), xL (xpl h 64 (x19 + (-1))), xZ, xZ, xZ, xZ]) (hI := d_DualPivotQuicksort_sort_SorteraJIII_830) (hn := Nat.le_of_ble_eq_true rfl) (hL9 := rfl) ?_
    refine xr_lload (pc := 832) (i := 20) (hI := d_DualPivotQuicksort_sort_SorteraJIII_832) (hl := rfl) ?_
    refine xr_lload (pc := 834) (i := 17) (hI := d_DualPivotQuicksort_sort_SorteraJIII_834) (hl := rfl) ?_
    refine xr_lcmp (pc := 836) (hI := d_DualPivotQuicksort_sort_SorteraJIII_836) ?_
    refine xg_lif_eq (pc := 837) (tgt := 909) (hI := d_DualPivotQuicksort_sort_SorteraJIII_837) (ht := by decide) (fun q9 => ?_) (fun q9 => ?_)
    · replace hyp := hyp.1 q9
      have q13_ := q9
      clear q9
      refine xr_goto (pc := 909) (tgt := 816) (hI := d_DualPivotQuicksort_sort_SorteraJIII_909) (ht := by decide) ?_
      exact xr_drop (L9 := [xR (-1), xR 64, xI x2, xI x3, xI x4, xZ, xI x6, xZ, xZ, xZ, xZ, xZ, xZ, xZ, xZ, xI x15, xI x16, xL x17, xZ, xI (x19 + (-1)), xZ, xZ, xZ, xZ, xZ]) (xdrs (xdrs (xdrs (xdrs (xdrs (xdrs (xdrs (xdrs (xdrs (xdrs (xdrs (xdrs (xdrs (xdrs (xdrs (xdrs (xdrs (xdrs (xdrs (xdrs (xdrz (xdrs (xdrs (xdrs (xdrs xdr0))))))))))))))))))))))))) hyp
    · replace hyp := hyp.2 q9
      have q13_ := q9
      clear q9
      refine xr_aload_n (pc := 840) (i := 1) (hI := d_DualPivotQuicksort_sort_SorteraJIII_840) (hi := rfl) (hl := rfl) ?_
      refine xr_iload (pc := 841) (i := 19) (hI := d_DualPivotQuicksort_sort_SorteraJIII_841) (hl := rfl) ?_
      refine xr_lload (pc := 843) (i := 17) (hI := d_DualPivotQuicksort_sort_SorteraJIII_843) (hl := rfl) ?_
      refine xr_lastore (pc := 845) (hI := d_DualPivotQuicksort_sort_SorteraJIII_845) (ft_64 F) (by decide) (by clear hyp; omega) (xlt_of (fl_64 F) (by clear hyp; omega)) ?_
      have F14_ : xFix (xst h 64 (x19 + (-1)) x17) := F.stA xfa_64
      refine xr_lload (pc := 846) (i := 20) (hI := d_DualPivotQuicksort_sort_SorteraJIII_846) (hl := rfl) ?_
      refine xr_lload (pc := 848) (i := 17) (hI := d_DualPivotQuicksort_sort_SorteraJIII_848) (hl := rfl) ?_
      refine xr_lcmp (pc := 850) (hI := d_DualPivotQuicksort_sort_SorteraJIII_850) ?_
      refine xg_lif_ge (pc := 851) (tgt := 900) (hI := d_DualPivotQuicksort_sort_SorteraJIII_851) (ht := by decide) (fun q9 => ?_) (fun q9 => ?_)
      · replace hyp := hyp.1 q9
        have q15_ := q9
        clear q9
        refine xr_aload_n (pc := 900) (i := 1) (hI := d_DualPivotQuicksort_sort_SorteraJIII_900) (hi := rfl) (hl := rfl) ?_
        obtain ⟨c9, hyp⟩ := hyp
        refine xr_iinc (pc := 901) (i := 16) (L9 := [xR (-1), xR 64, xI x2, xI x3, xI x4, xZ, xI x6, xZ, xZ, xZ, xZ, xZ, xZ, xZ, xZ, xI x15, xI (x16 + (-1)), xL x17, xZ, xI (x19 + (-1)), xL (xpl h 64 (x19 + (-1))), xZ, xZ, xZ, xZ]) (hI := d_DualPivotQuicksort_sort_SorteraJIII_901) (hl := rfl) (hn := Nat.le_of_ble_eq_true rfl) (hr := c9) (hL9 := rfl) ?_
        refine xr_iload (pc := 904) (i := 16) (hI := d_DualPivotQuicksort_sort_SorteraJIII_904) (hl := rfl) ?_
        refine xr_lload (pc := 906) (i := 20) (hI := d_DualPivotQuicksort_sort_SorteraJIII_906) (hl := rfl) ?_
        obtain ⟨c16_, hyp⟩ := hyp
        obtain ⟨c17_, hyp⟩ := hyp
        refine xr_lastore (pc := 908) (hI := d_DualPivotQuicksort_sort_SorteraJIII_908) (ft_64 F14_) (by decide) c16_ (xlt_of (fl_64 F14_) c17_) ?_
        have F18_ : xFix (xst (xst h 64 (x19 + (-1)) x17) 64 (x16 + (-1)) (xpl h 64 (x19 + (-1)))) := F14_.stA xfa_64
        refine xr_goto (pc := 909) (tgt := 816) (hI := d_DualPivotQuicksort_sort_SorteraJIII_909) (ht := by decide) ?_
        exact xr_drop (L9 := [xR (-1), xR 64, xI x2, xI x3, xI x4, xZ, xI x6, xZ, xZ, xZ, xZ, xZ, xZ, xZ, xZ, xI x15, xI (x16 + (-1)), xL x17, xZ, xI (x19 + (-1)), xZ, xZ, xZ, xZ, xZ]) (xdrs (xdrs (xdrs (xdrs (xdrs (xdrs (xdrs (xdrs (xdrs (xdrs (xdrs (xdrs (xdrs (xdrs (xdrs (xdrs (xdrs (xdrs (xdrs (xdrs (xdrz (xdrs (xdrs (xdrs (xdrs xdr0))))))))))))))))))))))))) (hyp F18_)
      · replace hyp := hyp.2 q9
        have q15_ := q9
        clear q9
        exact (hyp F14_)
theorem d_DualPivotQuicksort_sort_SorteraJIII_854 : decode prog_46_method_13_code 854 = .ok (.aload_n 1, 1) := by decide +kernel
theorem d_DualPivotQuicksort_sort_SorteraJIII_855 : decode prog_46_method_13_code 855 = .ok (.iinc 15 1, 3) := by decide +kernel
theorem d_DualPivotQuicksort_sort_SorteraJIII_858 : decode prog_46_method_13_code 858 = .ok (.iload 15, 2) := by decide +kernel
theorem d_DualPivotQuicksort_sort_SorteraJIII_860 : decode prog_46_method_13_code 860 = .ok (.laload, 1) := by decide +kernel
theorem d_DualPivotQuicksort_sort_SorteraJIII_861 : decode prog_46_method_13_code 861 = .ok (.lload 17, 2) := by decide +kernel
theorem d_DualPivotQuicksort_sort_SorteraJIII_863 : decode prog_46_method_13_code 863 = .ok (.lcmp, 1) := by decide +kernel
theorem d_DualPivotQuicksort_sort_SorteraJIII_864 : decode prog_46_method_13_code 864 = .ok (.ifCond .ge 6, 3) := by decide +kernel
theorem d_DualPivotQuicksort_sort_SorteraJIII_870 : decode prog_46_method_13_code 870 = .ok (.aload_n 1, 1) := by decide +kernel
theorem d_DualPivotQuicksort_sort_SorteraJIII_871 : decode prog_46_method_13_code 871 = .ok (.iload 15, 2) := by decide +kernel
theorem d_DualPivotQuicksort_sort_SorteraJIII_873 : decode prog_46_method_13_code 873 = .ok (.laload, 1) := by decide +kernel
theorem d_DualPivotQuicksort_sort_SorteraJIII_874 : decode prog_46_method_13_code 874 = .ok (.lload 17, 2) := by decide +kernel
theorem d_DualPivotQuicksort_sort_SorteraJIII_876 : decode prog_46_method_13_code 876 = .ok (.lcmp, 1) := by decide +kernel
theorem d_DualPivotQuicksort_sort_SorteraJIII_877 : decode prog_46_method_13_code 877 = .ok (.ifCond .le 14, 3) := by decide +kernel
theorem d_DualPivotQuicksort_sort_SorteraJIII_891 : decode prog_46_method_13_code 891 = .ok (.aload_n 1, 1) := by decide +kernel
theorem d_DualPivotQuicksort_sort_SorteraJIII_892 : decode prog_46_method_13_code 892 = .ok (.iload 15, 2) := by decide +kernel
theorem d_DualPivotQuicksort_sort_SorteraJIII_894 : decode prog_46_method_13_code 894 = .ok (.lload 20, 2) := by decide +kernel
theorem d_DualPivotQuicksort_sort_SorteraJIII_896 : decode prog_46_method_13_code 896 = .ok (.lastore, 1) := by decide +kernel
theorem d_DualPivotQuicksort_sort_SorteraJIII_897 : decode prog_46_method_13_code 897 = .ok (.goto 12, 3) := by decide +kernel
theorem d_DualPivotQuicksort_sort_SorteraJIII_880 : decode prog_46_method_13_code 880 = .ok (.aload_n 1, 1) := by decide +kernel
theorem d_DualPivotQuicksort_sort_SorteraJIII_881 : decode prog_46_method_13_code 881 = .ok (.iinc 16 (-1), 3) := by decide +kernel
theorem d_DualPivotQuicksort_sort_SorteraJIII_884 : decode prog_46_method_13_code 884 = .ok (.iload 16, 2) := by decide +kernel
theorem d_DualPivotQuicksort_sort_SorteraJIII_886 : decode prog_46_method_13_code 886 = .ok (.aload_n 1, 1) := by decide +kernel
theorem d_DualPivotQuicksort_sort_SorteraJIII_887 : decode prog_46_method_13_code 887 = .ok (.iload 15, 2) := by decide +kernel
theorem d_DualPivotQuicksort_sort_SorteraJIII_889 : decode prog_46_method_13_code 889 = .ok (.laload, 1) := by decide +kernel
theorem d_DualPivotQuicksort_sort_SorteraJIII_890 : decode prog_46_method_13_code 890 = .ok (.lastore, 1) := by decide +kernel
theorem d_DualPivotQuicksort_sort_SorteraJIII_867 : decode prog_46_method_13_code 867 = .ok (.goto (-13), 3) := by decide +kernel
theorem v_DualPivotQuicksort_sort_SorteraJIII_854 {G : XG} {d : Nat} {h : XH} {Q : XV → XH → Prop} {X : Nat → XH → Prop} {x2 x3 x4 x6 x15 x16 x17 x19 x20 : Int} (F : xFix h) (hyp : xiR (x15 + 1) ∧ 0 ≤ (x15 + 1) ∧ (x15 + 1) < 12000 ∧ ((x17 ≤ (xpl h 64 (x15 + 1)) → (((xpl h 64 (x15 + 1)) ≤ x17 → (xFix (xst h 64 (x15 + 1) x20) → xwp G m_DualPivotQuicksort_sort_SorteraJIII (d + 141) 816 [xR (-1), xR 64, xI x2, xI x3, xI x4, xZ, xI x6, xZ, xZ, xZ, xZ, xZ, xZ, xZ, xZ, xI (x15 + 1), xI x16, xL x17, xZ, xI x19, xZ, xZ, xZ, xZ, xZ] [] (xst h 64 (x15 + 1) x20) Q X)) ∧ (¬ (xpl h 64 (x15 + 1)) ≤ x17 → xiR (x16 + (-1)) ∧ 0 ≤ (x16 + (-1)) ∧ (x16 + (-1)) < 12000 ∧ (xFix (xst (xst h 64 (x16 + (-1)) (xpl h 64 (x15 + 1))) 64 (x15 + 1) x20) → xwp G m_DualPivotQuicksort_sort_SorteraJIII (d + 141) 816 [xR (-1), xR 64, xI x2, xI x3, xI x4, xZ, xI x6, xZ, xZ, xZ, xZ, xZ, xZ, xZ, xZ, xI (x15 + 1), xI (x16 + (-1)), xL x17, xZ, xI x19, xZ, xZ, xZ, xZ, xZ] [] (xst (xst h 64 (x16 + (-1)) (xpl h 64 (x15 + 1))) 64 (x15 + 1) x20) Q X)))) ∧ (¬ x17 ≤ (xpl h 64 (x15 + 1)) → (xwp G m_DualPivotQuicksort_sort_SorteraJIII (d + 141) 854 [xR (-1), xR 64, xI x2, xI x3, xI x4, xZ, xI x6, xZ, xZ, xZ, xZ, xZ, xZ, xZ, xZ, xI (x15 + 1), xI x16, xL x17, xZ, xI x19, xL x20, xZ, xZ, xZ, xZ] [] h Q X)))) : xwp G m_DualPivotQuicksort_sort_SorteraJIII (d + 141) 854 [xR (-1), xR 64, xI x2, xI x3, xI x4, xZ, xI x6, xZ, xZ, xZ, xZ, xZ, xZ, xZ, xZ, xI x15, xI x16, xL x17, xZ, xI x19, xL x20, xZ, xZ, xZ, xZ] [] h Q X := by
  have hnx9 : (93 : Int) ≤ xnx h := F.2.2
  refine xr_okL (fun hl9 => ?_)
  have r_x2 : -2147483648 ≤ x2 ∧ x2 ≤ 2147483647 := hl9 (xI x2) (.tail _ (.tail _ (.head _))) (Nat.le_of_ble_eq_true rfl)
  have r_x3 : -2147483648 ≤ x3 ∧ x3 ≤ 2147483647 := hl9 (xI x3) (.tail _ (.tail _ (.tail _ (.head _)))) (Nat.le_of_ble_eq_true rfl)
  have r_x4 : -2147483648 ≤ x4 ∧ x4 ≤ 2147483647 := hl9 (xI x4) (.tail _ (.tail _ (.tail _ (.tail _ (.head _))))) (Nat.le_of_ble_eq_true rfl)
  have r_x6 : -2147483648 ≤ x6 ∧ x6 ≤ 2147483647 := hl9 (xI x6) (.tail _ (.tail _ (.tail _ (.tail _ (.tail _ (.tail _ (.head _))))))) (Nat.le_of_ble_eq_true rfl)
  have r_x15 : -2147483648 ≤ x15 ∧ x15 ≤ 2147483647 := hl9 (xI x15) (.tail _ (.tail _ (.tail _ (.tail _ (.tail _ (.tail _ (.tail _ (.tail _ (.tail _ (.tail _ (.tail _ (.tail _ (.tail _ (.tail _ (.tail _ (.head _)))))))))))))))) (Nat.le_of_ble_eq_true rfl)
  have r_x16 : -2147483648 ≤ x16 ∧ x16 ≤ 2147483647 := hl9 (xI x16) (.tail _ (.tail _ (.tail _ (.tail _ (.tail _ (.tail _ (.tail _ (.tail _ (.tail _ (.tail _ (.tail _ (.tail _ (.tail _ (.tail _ (.tail _ (.tail _ (.head _))))))))))))))))) (Nat.le_of_ble_eq_true rfl)
  have r_x17 : -9223372036854775808 ≤ x17 ∧ x17 ≤ 9223372036854775807 := hl9 (xL x17) (.tail _ (.tail _ (.tail _ (.tail _ (.tail _ (.tail _ (.tail _ (.tail _ (.tail _ (.tail _ (.tail _ (.tail _ (.tail _ (.tail _ (.tail _ (.tail _ (.tail _ (.head _)))))))))))))))))) (Nat.le_of_ble_eq_true rfl)
  have r_x19 : -2147483648 ≤ x19 ∧ x19 ≤ 2147483647 := hl9 (xI x19) (.tail _ (.tail _ (.tail _ (.tail _ (.tail _ (.tail _ (.tail _ (.tail _ (.tail _ (.tail _ (.tail _ (.tail _ (.tail _ (.tail _ (.tail _ (.tail _ (.tail _ (.tail _ (.tail _ (.head _)))))))))))))))))))) (Nat.le_of_ble_eq_true rfl)
  have r_x20 : -9223372036854775808 ≤ x20 ∧ x20 ≤ 9223372036854775807 := hl9 (xL x20) (.tail _ (.tail _ (.tail _ (.tail _ (.tail _ (.tail _ (.tail _ (.tail _ (.tail _ (.tail _ (.tail _ (.tail _ (.tail _ (.tail _ (.tail _ (.tail _ (.tail _ (.tail _ (.tail _ (.tail _ (.head _))))))))))))))))))))) (Nat.le_of_ble_eq_true rfl)
  refine xr_aload_n (pc := 854) (i := 1) (hI := d_DualPivotQuicksort_sort_SorteraJIII_854) (hi := rfl) (hl := rfl) ?_
  obtain ⟨c9, hyp⟩ := hyp
  refine xr_iinc (pc := 855) (i := 15) (L9 := [xR (-1), xR 64, xI x2, xI x3, xI x4, xZ, xI x6, xZ, xZ, xZ, xZ, xZ, xZ, xZ, xZ, xI (x15 + 1), xI x16, xL x17, xZ, xI x19, xL x20, xZ, xZ, xZ, xZ]) (hI := d_DualPivotQuicksort_sort_SorteraJIII_855) (hl := rfl) (hn := Nat.le_of_ble_eq_true rfl) (hr := c9) (hL9 := rfl) ?_
  refine xr_iload (pc := 858) (i := 15) (hI := d_DualPivotQuicksort_sort_SorteraJIII_858) (hl := rfl) ?_
  obtain ⟨c1_, hyp⟩ := hyp
  obtain ⟨c2_, hyp⟩ := hyp
  refine xg_laload (pc := 860) (v := (xpl h 64 (x15 + 1))) (hI := d_DualPivotQuicksort_sort_SorteraJIII_860) (ft_64 F) c1_ (xlt_of (fl_64 F) c2_) rfl (fun f3_ => ?_)
  replace f3_ : -9223372036854775808 ≤ (xpl h 64 (x15 + 1)) ∧ (xpl h 64 (x15 + 1)) ≤ 9223372036854775807 := f3_
  refine xr_lload (pc := 861) (i := 17) (hI := d_DualPivotQuicksort_sort_SorteraJIII_861) (hl := rfl) ?_
  refine xr_lcmp (pc := 863) (hI := d_DualPivotQuicksort_sort_SorteraJIII_863) ?_
  refine xg_lif_ge (pc := 864) (tgt := 870) (hI := d_DualPivotQuicksort_sort_SorteraJIII_864) (ht := by decide) (fun q9 => ?_) (fun q9 => ?_)
  · replace hyp := hyp.1 q9
    have q4_ := q9
    clear q9
    refine xr_aload_n (pc := 870) (i := 1) (hI := d_DualPivotQuicksort_sort_SorteraJIII_870) (hi := rfl) (hl := rfl) ?_
    refine xr_iload (pc := 871) (i := 15) (hI := d_DualPivotQuicksort_sort_SorteraJIII_871) (hl := rfl) ?_
    refine xg_laload (pc := 873) (v := (xpl h 64 (x15 + 1))) (hI := d_DualPivotQuicksort_sort_SorteraJIII_873) (ft_64 F) (by clear hyp; omega) (xlt_of (fl_64 F) (by clear hyp; omega)) rfl (fun f5_ => ?_)
    replace f5_ : -9223372036854775808 ≤ (xpl h 64 (x15 + 1)) ∧ (xpl h 64 (x15 + 1)) ≤ 9223372036854775807 := f5_
    refine xr_lload (pc := 874) (i := 17) (hI := d_DualPivotQuicksort_sort_SorteraJIII_874) (hl := rfl) ?_
    refine xr_lcmp (pc := 876) (hI := d_DualPivotQuicksort_sort_SorteraJIII_876) ?_
    refine xg_lif_le (pc := 877) (tgt := 891) (hI := d_DualPivotQuicksort_sort_SorteraJIII_877) (ht := by decide) (fun q9 => ?_) (fun q9 => ?_)
    · replace hyp := hyp.1 q9
      have q6_ := q9
      clear q9
      refine xr_aload_n (pc := 891) (i := 1) (hI := d_DualPivotQuicksort_sort_SorteraJIII_891) (hi := rfl) (hl := rfl) ?_
      refine xr_iload (pc := 892) (i := 15) (hI := d_DualPivotQuicksort_sort_SorteraJIII_892) (hl := rfl) ?_
      refine xr_lload (pc := 894) (i := 20) (hI := d_DualPivotQuicksort_sort_SorteraJIII_894) (hl := rfl) ?_
      refine xr_lastore (pc := 896) (hI := d_DualPivotQuicksort_sort_SorteraJIII_896) (ft_64 F) (by decide) (by clear hyp; omega) (xlt_of (fl_64 F) (by clear hyp; omega)) ?_
      have F7_ : xFix (xst h 64 (x15 + 1) x20) := F.stA xfa_64
      refine xr_goto (pc := 897) (tgt := 909) (hI := d_DualPivotQuicksort_sort_SorteraJIII_897) (ht := by decide) ?_
      refine xr_goto (pc := 909) (tgt := 816) (hI := d_DualPivotQuicksort_sort_SorteraJIII_909) (ht := by decide) ?_
      exact xr_drop (L9 := [xR (-1), xR 64, xI x2, xI x3, xI x4, xZ, xI x6, xZ, xZ, xZ, xZ, xZ, xZ, xZ, xZ, xI (x15 + 1), xI x16, xL x17, xZ, xI x19, xZ, xZ, xZ, xZ, xZ]) (xdrs (xdrs (xdrs (xdrs (xdrs (xdrs (xdrs (xdrs (xdrs (xdrs (xdrs (xdrs (xdrs (xdrs (xdrs (xdrs (xdrs (xdrs (xdrs (xdrs (xdrz (xdrs (xdrs (xdrs (xdrs xdr0))))))))))))))))))))))))) (hyp F7_)
    · replace hyp := hyp.2 q9
      have q6_ := q9
      clear q9
      refine xr_aload_n (pc := 880) (i := 1) (hI := d_DualPivotQuicksort_sort_SorteraJIII_880) (hi := rfl) (hl := rfl) ?_
      obtain ⟨c9, hyp⟩ := hyp
      refine xr_iinc (pc := 881) (i := 16) (L9 := [xR (-1), xR 64, xI x2, xI x3, xI x4, xZ, xI x6, xZ, xZ, xZ, xZ, xZ, xZ, xZ, xZ, xI (x15 + 1), xI (x16 + (-1)), xL x17, xZ, xI x19, xL x20, xZ, xZ, xZ, xZ]) (hI := d_DualPivotQuicksort_sort_SorteraJIII_881) (hl := rfl) (hn := Nat.le_of_ble_eq_true rfl) (hr := c9) (hL9 := rfl) ?_
      refine xr_iload (pc := 884) (i := 16) (hI := d_DualPivotQuicksort_sort_SorteraJIII_884) (hl := rfl) ?_
      refine xr_aload_n (pc := 886) (i := 1) (hI := d_DualPivotQuicksort_sort_SorteraJIII_886) (hi := rfl) (hl := rfl) ?_
      refine xr_iload (pc := 887) (i := 15) (hI := d_DualPivotQuicksort_sort_SorteraJIII_887) (hl := rfl) ?_
      refine xg_laload (pc := 889) (v := (xpl h 64 (x15 + 1))) (hI := d_DualPivotQuicksort_sort_SorteraJIII_889) (ft_64 F) (by clear hyp; omega) (xlt_of (fl_64 F) (by clear hyp; omega)) rfl (fun f8_ => ?_)
      replace f8_ : -9223372036854775808 ≤ (xpl h 64 (x15 + 1)) ∧ (xpl h 64 (x15 + 1)) ≤ 9223372036854775807 := f8_
      obtain ⟨c9_, hyp⟩ := hyp
      obtain ⟨c10_, hyp⟩ := hyp
      refine xr_lastore (pc := 890) (hI := d_DualPivotQuicksort_sort_SorteraJIII_890) (ft_64 F) (by decide) c9_ (xlt_of (fl_64 F) c10_) ?_
      have F11_ : xFix (xst h 64 (x16 + (-1)) (xpl h 64 (x15 + 1))) := F.stA xfa_64
      refine xr_aload_n (pc := 891) (i := 1) (hI := d_DualPivotQuicksort_sort_SorteraJIII_891) (hi := rfl) (hl := rfl) ?_
      refine xr_iload (pc := 892) (i := 15) (hI := d_DualPivotQuicksort_sort_SorteraJIII_892) (hl := rfl) ?_
      refine xr_lload (pc := 894) (i := 20) (hI := d_DualPivotQuicksort_sort_SorteraJIII_894) (hl := rfl) ?_
      refine xr_lastore (pc := 896) (hI := d_DualPivotQuicksort_sort_SorteraJIII_896) (ft_64 F11_) (by decide) (by clear hyp; omega) (xlt_of (fl_64 F11_) (by clear hyp; omega)) ?_
      have F12_ : xFix (xst (xst h 64 (x16 + (-1)) (xpl h 64 (x15 + 1))) 64 (x15 + 1) x20) := F11_.stA xfa_64
      refine xr_goto (pc := 897) (tgt := 909) (hI := d_DualPivotQuicksort_sort_SorteraJIII_897) (ht := by decide) ?_
      refine xr_goto (pc := 909) (tgt := 816) (hI := d_DualPivotQuicksort_sort_SorteraJIII_909) (ht := by decide) ?_
      exact xr_drop (L9 := [xR (-1), xR 64, xI x2, xI x3, xI x4, xZ, xI x6, xZ, xZ, xZ, xZ, xZ, xZ, xZ, xZ, xI (x15 + 1), xI (x16 + (-1)), xL x17, xZ, xI x19, xZ, xZ, xZ, xZ, xZ]) (xdrs (xdrs (xdrs (xdrs (xdrs (xdrs (xdrs (xdrs (xdrs (xdrs (xdrs (xdrs (xdrs (xdrs (xdrs (xdrs (xdrs (xdrs (xdrs (xdrs (xdrz (xdrs (xdrs (xdrs (xdrs xdr0))))))))))))))))))))))))) (hyp F12_)
  · replace hyp := hyp.2 q9
    have q4_ := q9
    clear q9
    refine xr_goto (pc := 867) (tgt := 854) (hI := d_DualPivotQuicksort_sort_SorteraJIII_867) (ht := by decide) ?_
    exact hyp
theorem d_DualPivotQuicksort_sort_SorteraJIII_951 : decode prog_46_method_13_code 951 = .ok (.aload_n 0, 1) := by decide +kernel
theorem d_DualPivotQuicksort_sort_SorteraJIII_952 : decode prog_46_method_13_code 952 = .ok (.aload_n 1, 1) := by decide +kernel
theorem d_DualPivotQuicksort_sort_SorteraJIII_953 : decode prog_46_method_13_code 953 = .ok (.iload_n 2, 1) := by decide +kernel
theorem d_DualPivotQuicksort_sort_SorteraJIII_954 : decode prog_46_method_13_code 954 = .ok (.iconst 1, 1) := by decide +kernel
theorem d_DualPivotQuicksort_sort_SorteraJIII_955 : decode prog_46_method_13_code 955 = .ok (.ior, 1) := by decide +kernel
theorem d_DualPivotQuicksort_sort_SorteraJIII_956 : decode prog_46_method_13_code 956 = .ok (.iload 16, 2) := by decide +kernel
theorem d_DualPivotQuicksort_sort_SorteraJIII_958 : decode prog_46_method_13_code 958 = .ok (.iload 4, 2) := by decide +kernel
theorem d_DualPivotQuicksort_sort_SorteraJIII_960 : decode prog_46_method_13_code 960 = .ok (.invokestatic 99, 3) := by decide +kernel
theorem v_DualPivotQuicksort_sort_SorteraJIII_951 {G : XG} {d : Nat} {h : XH} {Q : XV → XH → Prop} {X : Nat → XH → Prop} {x2 x3 x4 x15 x16 : Int} (F : xFix h) (hyp : (xwp G m_DualPivotQuicksort_sort_SorteraJIII (d + 140) 0 [xR (-1), xR 64, xI (xior x2 1), xI x16, xI x4, xZ, xZ, xZ, xZ, xZ, xZ, xZ, xZ, xZ, xZ, xZ, xZ, xZ, xZ, xZ, xZ, xZ, xZ, xZ, xZ] [] h (fun v9 h9 => xwp G m_DualPivotQuicksort_sort_SorteraJIII (d + 141) 963 [xR (-1), xR 64, xI x2, xI x3, xZ, xZ, xZ, xZ, xZ, xZ, xZ, xZ, xZ, xZ, xZ, xI x15, xZ, xZ, xZ, xZ, xZ, xZ, xZ, xZ, xZ] (xpush v9 []) h9 Q X) X)) : xwp G m_DualPivotQuicksort_sort_SorteraJIII (d + 141) 951 [xR (-1), xR 64, xI x2, xI x3, xI x4, xZ, xZ, xZ, xZ, xZ, xZ, xZ, xZ, xZ, xZ, xI x15, xI x16, xZ, xZ, xZ, xZ, xZ, xZ, xZ, xZ] [] h Q X := by
  have hnx9 : (93 : Int) ≤ xnx h := F.2.2
  refine xr_okL (fun hl9 => ?_)
  have r_x2 : -2147483648 ≤ x2 ∧ x2 ≤ 2147483647 := hl9 (xI x2) (.tail _ (.tail _ (.head _))) (Nat.le_of_ble_eq_true rfl)
  have r_x3 : -2147483648 ≤ x3 ∧ x3 ≤ 2147483647 := hl9 (xI x3) (.tail _ (.tail _ (.tail _ (.head _)))) (Nat.le_of_ble_eq_true rfl)
  have r_x4 : -2147483648 ≤ x4 ∧ x4 ≤ 2147483647 := hl9 (xI x4) (.tail _ (.tail _ (.tail _ (.tail _ (.head _))))) (Nat.le_of_ble_eq_true rfl)
  have r_x15 : -2147483648 ≤ x15 ∧ x15 ≤ 2147483647 := hl9 (xI x15) (.tail _ (.tail _ (.tail _ (.tail _ (.tail _ (.tail _ (.tail _ (.tail _ (.tail _ (.tail _ (.tail _ (.tail _ (.tail _ (.tail _ (.tail _ (.head _)))))))))))))))) (Nat.le_of_ble_eq_true rfl)
  have r_x16 : -2147483648 ≤ x16 ∧ x16 ≤ 2147483647 := hl9 (xI x16) (.tail _ (.tail _ (.tail _ (.tail _ (.tail _ (.tail _ (.tail _ (.tail _ (.tail _ (.tail _ (.tail _ (.tail _ (.tail _ (.tail _ (.tail _ (.tail _ (.head _))))))))))))))))) (Nat.le_of_ble_eq_true rfl)
  refine xr_aload_n (pc := 951) (i := 0) (hI := d_DualPivotQuicksort_sort_SorteraJIII_951) (hi := rfl) (hl := rfl) ?_
  refine xr_aload_n (pc := 952) (i := 1) (hI := d_DualPivotQuicksort_sort_SorteraJIII_952) (hi := rfl) (hl := rfl) ?_
  refine xr_iload_n (pc := 953) (i := 2) (hI := d_DualPivotQuicksort_sort_SorteraJIII_953) (hi := rfl) (hl := rfl) ?_
  refine xr_iconst (pc := 954) (hI := d_DualPivotQuicksort_sort_SorteraJIII_954) (hr := by decide) ?_
  refine xr_ior (pc := 955) (hI := d_DualPivotQuicksort_sort_SorteraJIII_955) ?_
  have f1_ : -2147483648 ≤ (xior x2 1) ∧ (xior x2 1) ≤ 2147483647 := xi_toR _
  refine xr_iload (pc := 956) (i := 16) (hI := d_DualPivotQuicksort_sort_SorteraJIII_956) (hl := rfl) ?_
  refine xr_iload (pc := 958) (i := 4) (hI := d_DualPivotQuicksort_sort_SorteraJIII_958) (hl := rfl) ?_
  exact xq_callS (pc := 960) (index := 99) (K := m_DualPivotQuicksort_sort_SorteraJIII) (As := [xR (-1), xR 64, xI (xior x2 1), xI x16, xI x4]) (S := []) (L0 := [xR (-1), xR 64, xI (xior x2 1), xI x16, xI x4, xZ, xZ, xZ, xZ, xZ, xZ, xZ, xZ, xZ, xZ, xZ, xZ, xZ, xZ, xZ, xZ, xZ, xZ, xZ, xZ]) (hI := d_DualPivotQuicksort_sort_SorteraJIII_960) (hK := k_DualPivotQuicksort_sort_SorteraJIII) (hlk := w_2145) (hnoM := rfl) (hS8 := Nat.le_of_ble_eq_true rfl) (hstat := w_2146) (hlen := Nat.le_of_ble_eq_true rfl) (hst := rfl) (hL0 := rfl)  (xwp_mono hyp (fun v9 h9 q9 => xr_drop (L9 := [xR (-1), xR 64, xI x2, xI x3, xZ, xZ, xZ, xZ, xZ, xZ, xZ, xZ, xZ, xZ, xZ, xI x15, xZ, xZ, xZ, xZ, xZ, xZ, xZ, xZ, xZ]) (xdrs (xdrs (xdrs (xdrs (xdrz (xdrs (xdrs (xdrs (xdrs (xdrs (xdrs (xdrs (xdrs (xdrs (xdrs (xdrs (xdrz (xdrs (xdrs (xdrs (xdrs (xdrs (xdrs (xdrs (xdrs xdr0))))))))))))))))))))))))) q9) (fun _ _ z9 => z9))
theorem d_DualPivotQuicksort_sort_SorteraJIII_963 : decode prog_46_method_13_code 963 = .ok (.iload 15, 2) := by decide +kernel
theorem d_DualPivotQuicksort_sort_SorteraJIII_965 : decode prog_46_method_13_code 965 = .ok (.istore 4, 2) := by decide +kernel
theorem d_DualPivotQuicksort_sort_SorteraJIII_967 : decode prog_46_method_13_code 967 = .ok (.goto (-967), 3) := by decide +kernel
theorem v_DualPivotQuicksort_sort_SorteraJIII_963 {G : XG} {d : Nat} {h : XH} {Q : XV → XH → Prop} {X : Nat → XH → Prop} {x2 x3 x15 : Int} (F : xFix h) (hyp : (xwp G m_DualPivotQuicksort_sort_SorteraJIII (d + 141) 0 [xR (-1), xR 64, xI x2, xI x3, xI x15, xZ, xZ, xZ, xZ, xZ, xZ, xZ, xZ, xZ, xZ, xZ, xZ, xZ, xZ, xZ, xZ, xZ, xZ, xZ, xZ] [] h Q X)) : xwp G m_DualPivotQuicksort_sort_SorteraJIII (d + 141) 963 [xR (-1), xR 64, xI x2, xI x3, xZ, xZ, xZ, xZ, xZ, xZ, xZ, xZ, xZ, xZ, xZ, xI x15, xZ, xZ, xZ, xZ, xZ, xZ, xZ, xZ, xZ] [] h Q X := by
  have hnx9 : (93 : Int) ≤ xnx h := F.2.2
  refine xr_okL (fun hl9 => ?_)
  have r_x2 : -2147483648 ≤ x2 ∧ x2 ≤ 2147483647 := hl9 (xI x2) (.tail _ (.tail _ (.head _))) (Nat.le_of_ble_eq_true rfl)
  have r_x3 : -2147483648 ≤ x3 ∧ x3 ≤ 2147483647 := hl9 (xI x3) (.tail _ (.tail _ (.tail _ (.head _)))) (Nat.le_of_ble_eq_true rfl)
  have r_x15 : -2147483648 ≤ x15 ∧ x15 ≤ 2147483647 := hl9 (xI x15) (.tail _ (.tail _ (.tail _ (.tail _ (.tail _ (.tail _ (.tail _ (.tail _ (.tail _ (.tail _ (.tail _ (.tail _ (.tail _ (.tail _ (.tail _ (.head _)))))))))))))))) (Nat.le_of_ble_eq_true rfl)
  refine xr_iload (pc := 963) (i := 15) (hI := d_DualPivotQuicksort_sort_SorteraJIII_963) (hl := rfl) ?_
  refine xr_istore (pc := 965) (i := 4) (L9 := [xR (-1), xR 64, xI x2, xI x3, xI x15, xZ, xZ, xZ, xZ, xZ, xZ, xZ, xZ, xZ, xZ, xI x15, xZ, xZ, xZ, xZ, xZ, xZ, xZ, xZ, xZ]) (hI := d_DualPivotQuicksort_sort_SorteraJIII_965) (hn := Nat.le_of_ble_eq_true rfl) (hL9 := rfl) ?_
  refine xr_goto (pc := 967) (tgt := 0) (hI := d_DualPivotQuicksort_sort_SorteraJIII_967) (ht := by decide) ?_
  exact xr_drop (L9 := [xR (-1), xR 64, xI x2, xI x3, xI x15, xZ, xZ, xZ, xZ, xZ, xZ, xZ, xZ, xZ, xZ, xZ, xZ, xZ, xZ, xZ, xZ, xZ, xZ, xZ, xZ]) (xdrs (xdrs (xdrs (xdrs (xdrs (xdrs (xdrs (xdrs (xdrs (xdrs (xdrs (xdrs (xdrs (xdrs (xdrs (xdrz (xdrs (xdrs (xdrs (xdrs (xdrs (xdrs (xdrs (xdrs (xdrs xdr0))))))))))))))))))))))))) hyp
abbrev m_DualPivotQuicksort_sort_aJIII : XM := (⟨"java/util/DualPivotQuicksort", "sort", "([JIII)V"⟩, prog_46_method_12_code, 7, none, [])
theorem d_DualPivotQuicksort_sort_aJIII_0 : decode prog_46_method_12_code 0 = .ok (.iload_n 3, 1) := by decide +kernel
theorem d_DualPivotQuicksort_sort_aJIII_1 : decode prog_46_method_12_code 1 = .ok (.iload_n 2, 1) := by decide +kernel
theorem d_DualPivotQuicksort_sort_aJIII_2 : decode prog_46_method_12_code 2 = .ok (.isub, 1) := by decide +kernel
theorem d_DualPivotQuicksort_sort_aJIII_3 : decode prog_46_method_12_code 3 = .ok (.istore 4, 2) := by decide +kernel
theorem d_DualPivotQuicksort_sort_aJIII_5 : decode prog_46_method_12_code 5 = .ok (.iload_n 1, 1) := by decide +kernel
theorem d_DualPivotQuicksort_sort_aJIII_6 : decode prog_46_method_12_code 6 = .ok (.iconst 1, 1) := by decide +kernel
theorem d_DualPivotQuicksort_sort_aJIII_7 : decode prog_46_method_12_code 7 = .ok (.if_icmp .le 61, 3) := by decide +kernel
theorem d_DualPivotQuicksort_sort_aJIII_68 : decode prog_46_method_12_code 68 = .ok (.aconst_null, 1) := by decide +kernel
theorem d_DualPivotQuicksort_sort_aJIII_69 : decode prog_46_method_12_code 69 = .ok (.aload_n 0, 1) := by decide +kernel
theorem d_DualPivotQuicksort_sort_aJIII_70 : decode prog_46_method_12_code 70 = .ok (.iconst 0, 1) := by decide +kernel
theorem d_DualPivotQuicksort_sort_aJIII_71 : decode prog_46_method_12_code 71 = .ok (.iload_n 2, 1) := by decide +kernel
theorem d_DualPivotQuicksort_sort_aJIII_72 : decode prog_46_method_12_code 72 = .ok (.iload_n 3, 1) := by decide +kernel
theorem d_DualPivotQuicksort_sort_aJIII_73 : decode prog_46_method_12_code 73 = .ok (.invokestatic 99, 3) := by decide +kernel
theorem d_DualPivotQuicksort_sort_aJIII_10 : decode prog_46_method_12_code 10 = .ok (.iload 4, 2) := by decide +kernel
theorem d_DualPivotQuicksort_sort_aJIII_12 : decode prog_46_method_12_code 12 = .ok (.sipush 4096, 3) := by decide +kernel
theorem d_DualPivotQuicksort_sort_aJIII_15 : decode prog_46_method_12_code 15 = .ok (.if_icmp .le 53, 3) := by decide +kernel
theorem d_DualPivotQuicksort_sort_aJIII_18 : decode prog_46_method_12_code 18 = .ok (.iload_n 1, 1) := by decide +kernel
theorem d_DualPivotQuicksort_sort_aJIII_19 : decode prog_46_method_12_code 19 = .ok (.iload 4, 2) := by decide +kernel
theorem d_DualPivotQuicksort_sort_aJIII_21 : decode prog_46_method_12_code 21 = .ok (.bipush 12, 2) := by decide +kernel
theorem d_DualPivotQuicksort_sort_aJIII_23 : decode prog_46_method_12_code 23 = .ok (.ishr, 1) := by decide +kernel
theorem d_DualPivotQuicksort_sort_aJIII_24 : decode prog_46_method_12_code 24 = .ok (.invokestatic 13, 3) := by decide +kernel
theorem v_DualPivotQuicksort_sort_aJIII_0 {G : XG} {d : Nat} {h : XH} {Q : XV → XH → Prop} {X : Nat → XH → Prop} {x1 x2 x3 : Int} (F : xFix h) (hyp : xiR (x3 - x2) ∧ ((x1 ≤ 1 → (xwp G m_DualPivotQuicksort_sort_SorteraJIII (d + 213) 0 [xR (-1), xR 64, xI 0, xI x2, xI x3, xZ, xZ, xZ, xZ, xZ, xZ, xZ, xZ, xZ, xZ, xZ, xZ, xZ, xZ, xZ, xZ, xZ, xZ, xZ, xZ] [] h (fun v9 h9 => xwp G m_DualPivotQuicksort_sort_aJIII (d + 214) 76 [xZ, xZ, xZ, xZ, xZ, xZ, xZ] (xpush v9 []) h9 Q X) X)) ∧ (¬ x1 ≤ 1 → (((x3 - x2) ≤ 4096 → (xwp G m_DualPivotQuicksort_sort_SorteraJIII (d + 213) 0 [xR (-1), xR 64, xI 0, xI x2, xI x3, xZ, xZ, xZ, xZ, xZ, xZ, xZ, xZ, xZ, xZ, xZ, xZ, xZ, xZ, xZ, xZ, xZ, xZ, xZ, xZ] [] h (fun v9 h9 => xwp G m_DualPivotQuicksort_sort_aJIII (d + 214) 76 [xZ, xZ, xZ, xZ, xZ, xZ, xZ] (xpush v9 []) h9 Q X) X)) ∧ (¬ (x3 - x2) ≤ 4096 → False))))) : xwp G m_DualPivotQuicksort_sort_aJIII (d + 214) 0 [xR 64, xI x1, xI x2, xI x3, xZ, xZ, xZ] [] h Q X := by
  have hnx9 : (93 : Int) ≤ xnx h := F.2.2
  refine xr_okL (fun hl9 => ?_)
  have r_x1 : -2147483648 ≤ x1 ∧ x1 ≤ 2147483647 := hl9 (xI x1) (.tail _ (.head _)) (Nat.le_of_ble_eq_true rfl)
  have r_x2 : -2147483648 ≤ x2 ∧ x2 ≤ 2147483647 := hl9 (xI x2) (.tail _ (.tail _ (.head _))) (Nat.le_of_ble_eq_true rfl)
  have r_x3 : -2147483648 ≤ x3 ∧ x3 ≤ 2147483647 := hl9 (xI x3) (.tail _ (.tail _ (.tail _ (.head _)))) (Nat.le_of_ble_eq_true rfl)
  refine xr_iload_n (pc := 0) (i := 3) (hI := d_DualPivotQuicksort_sort_aJIII_0) (hi := rfl) (hl := rfl) ?_
  refine xr_iload_n (pc := 1) (i := 2) (hI := d_DualPivotQuicksort_sort_aJIII_1) (hi := rfl) (hl := rfl) ?_
  obtain ⟨c9, hyp⟩ := hyp
  refine xr_isub (pc := 2) (hI := d_DualPivotQuicksort_sort_aJIII_2) (hr := c9) ?_
  refine xr_istore (pc := 3) (i := 4) (L9 := [xR 64, xI x1, xI x2, xI x3, xI (x3 - x2), xZ, xZ]) (hI := d_DualPivotQuicksort_sort_aJIII_3) (hn := Nat.le_of_ble_eq_true rfl) (hL9 := rfl) ?_
  refine xr_iload_n (pc := 5) (i := 1) (hI := d_DualPivotQuicksort_sort_aJIII_5) (hi := rfl) (hl := rfl) ?_
  refine xr_iconst (pc := 6) (hI := d_DualPivotQuicksort_sort_aJIII_6) (hr := by decide) ?_
  refine xr_icmp_le (pc := 7) (tgt := 68) (hI := d_DualPivotQuicksort_sort_aJIII_7) (ht := by decide) (fun q9 => ?_) (fun q9 => ?_)
  · replace hyp := hyp.1 q9
    have q1_ := q9
    clear q9
    refine xr_aconst_null (pc := 68) (hI := d_DualPivotQuicksort_sort_aJIII_68) ?_
    refine xr_aload_n (pc := 69) (i := 0) (hI := d_DualPivotQuicksort_sort_aJIII_69) (hi := rfl) (hl := rfl) ?_
    refine xr_iconst (pc := 70) (hI := d_DualPivotQuicksort_sort_aJIII_70) (hr := by decide) ?_
    refine xr_iload_n (pc := 71) (i := 2) (hI := d_DualPivotQuicksort_sort_aJIII_71) (hi := rfl) (hl := rfl) ?_
    refine xr_iload_n (pc := 72) (i := 3) (hI := d_DualPivotQuicksort_sort_aJIII_72) (hi := rfl) (hl := rfl) ?_
    exact xq_callS (pc := 73) (index := 99) (K := m_DualPivotQuicksort_sort_SorteraJIII) (As := [xR (-1), xR 64, xI 0, xI x2, xI x3]) (S := []) (L0 := [xR (-1), xR 64, xI 0, xI x2, xI x3, xZ, xZ, xZ, xZ, xZ, xZ, xZ, xZ, xZ, xZ, xZ, xZ, xZ, xZ, xZ, xZ, xZ, xZ, xZ, xZ]) (hI := d_DualPivotQuicksort_sort_aJIII_73) (hK := k_DualPivotQuicksort_sort_SorteraJIII) (hlk := w_2145) (hnoM := rfl) (hS8 := Nat.le_of_ble_eq_true rfl) (hstat := w_2146) (hlen := Nat.le_of_ble_eq_true rfl) (hst := rfl) (hL0 := rfl)  (xwp_mono hyp (fun v9 h9 q9 => xr_drop (L9 := [xZ, xZ, xZ, xZ, xZ, xZ, xZ]) (xdrz (xdrz (xdrz (xdrz (xdrz (xdrs (xdrs xdr0))))))) q9) (fun _ _ z9 => z9))
  · replace hyp := hyp.2 q9
    have q1_ := q9
    clear q9
    refine xr_iload (pc := 10) (i := 4) (hI := d_DualPivotQuicksort_sort_aJIII_10) (hl := rfl) ?_
    refine xr_sipush (pc := 12) (hI := d_DualPivotQuicksort_sort_aJIII_12) (hr := by decide) (hv := by decide) ?_
    refine xr_icmp_le (pc := 15) (tgt := 68) (hI := d_DualPivotQuicksort_sort_aJIII_15) (ht := by decide) (fun q9 => ?_) (fun q9 => ?_)
    · replace hyp := hyp.1 q9
      have q2_ := q9
      clear q9
      refine xr_aconst_null (pc := 68) (hI := d_DualPivotQuicksort_sort_aJIII_68) ?_
      refine xr_aload_n (pc := 69) (i := 0) (hI := d_DualPivotQuicksort_sort_aJIII_69) (hi := rfl) (hl := rfl) ?_
      refine xr_iconst (pc := 70) (hI := d_DualPivotQuicksort_sort_aJIII_70) (hr := by decide) ?_
      refine xr_iload_n (pc := 71) (i := 2) (hI := d_DualPivotQuicksort_sort_aJIII_71) (hi := rfl) (hl := rfl) ?_
      refine xr_iload_n (pc := 72) (i := 3) (hI := d_DualPivotQuicksort_sort_aJIII_72) (hi := rfl) (hl := rfl) ?_
      exact xq_callS (pc := 73) (index := 99) (K := m_DualPivotQuicksort_sort_SorteraJIII) (As := [xR (-1), xR 64, xI 0, xI x2, xI x3]) (S := []) (L0 := [xR (-1), xR 64, xI 0, xI x2, xI x3, xZ, xZ, xZ, xZ, xZ, xZ, xZ, xZ, xZ, xZ, xZ, xZ, xZ, xZ, xZ, xZ, xZ, xZ, xZ, xZ]) (hI := d_DualPivotQuicksort_sort_aJIII_73) (hK := k_DualPivotQuicksort_sort_SorteraJIII) (hlk := w_2145) (hnoM := rfl) (hS8 := Nat.le_of_ble_eq_true rfl) (hstat := w_2146) (hlen := Nat.le_of_ble_eq_true rfl) (hst := rfl) (hL0 := rfl)  (xwp_mono hyp (fun v9 h9 q9 => xr_drop (L9 := [xZ, xZ, xZ, xZ, xZ, xZ, xZ]) (xdrz (xdrz (xdrz (xdrz (xdrz (xdrs (xdrs xdr0))))))) q9) (fun _ _ z9 => z9))
    · replace hyp := hyp.2 q9
      have q2_ := q9
      clear q9
      refine xr_iload_n (pc := 18) (i := 1) (hI := d_DualPivotQuicksort_sort_aJIII_18) (hi := rfl) (hl := rfl) ?_
      refine xr_iload (pc := 19) (i := 4) (hI := d_DualPivotQuicksort_sort_aJIII_19) (hl := rfl) ?_
      refine xr_bipush (pc := 21) (hI := d_DualPivotQuicksort_sort_aJIII_21) (hr := by decide) (hv := by decide) ?_
      refine xr_ishr (pc := 23) (hI := d_DualPivotQuicksort_sort_aJIII_23) ?_
      have f3_ : -2147483648 ≤ (xshr (x3 - x2) 12) ∧ (xshr (x3 - x2) 12) ≤ 2147483647 := xi_toR _
      exact hyp.elim
theorem d_DualPivotQuicksort_sort_aJIII_42 : decode prog_46_method_12_code 42 = .ok (.astore 6, 2) := by decide +kernel
theorem d_DualPivotQuicksort_sort_aJIII_44 : decode prog_46_method_12_code 44 = .ok (.new 17, 3) := by decide +kernel
theorem v_DualPivotQuicksort_sort_aJIII_42 {G : XG} {d : Nat} {h : XH} {Q : XV → XH → Prop} {X : Nat → XH → Prop} {x2 x4 x5 s0 : Int} (F : xFix h) (hyp : False) : xwp G m_DualPivotQuicksort_sort_aJIII (d + 214) 42 [xR 64, xZ, xI x2, xZ, xI x4, xI x5, xZ] [xR s0] h Q X := by
  have hnx9 : (93 : Int) ≤ xnx h := F.2.2
  refine xr_okL (fun hl9 => ?_)
  have r_x2 : -2147483648 ≤ x2 ∧ x2 ≤ 2147483647 := hl9 (xI x2) (.tail _ (.tail _ (.head _))) (Nat.le_of_ble_eq_true rfl)
  have r_x4 : -2147483648 ≤ x4 ∧ x4 ≤ 2147483647 := hl9 (xI x4) (.tail _ (.tail _ (.tail _ (.tail _ (.head _))))) (Nat.le_of_ble_eq_true rfl)
  have r_x5 : -2147483648 ≤ x5 ∧ x5 ≤ 2147483647 := hl9 (xI x5) (.tail _ (.tail _ (.tail _ (.tail _ (.tail _ (.head _)))))) (Nat.le_of_ble_eq_true rfl)
  refine xr_astore (pc := 42) (i := 6) (L9 := [xR 64, xZ, xI x2, xZ, xI x4, xI x5, xR s0]) (hI := d_DualPivotQuicksort_sort_aJIII_42) (hn := Nat.le_of_ble_eq_true rfl) (hL9 := rfl) ?_
  exact hyp.elim
theorem d_DualPivotQuicksort_sort_aJIII_76 : decode prog_46_method_12_code 76 = .ok (.return_, 1) := by decide +kernel
theorem v_DualPivotQuicksort_sort_aJIII_76 {G : XG} {d : Nat} {h : XH} {Q : XV → XH → Prop} {X : Nat → XH → Prop} (F : xFix h) (hyp : (Q xN h)) : xwp G m_DualPivotQuicksort_sort_aJIII (d + 214) 76 [xZ, xZ, xZ, xZ, xZ, xZ, xZ] [] h Q X := by
  have hnx9 : (93 : Int) ≤ xnx h := F.2.2
  refine xr_return (S := []) (pc := 76) (hI := d_DualPivotQuicksort_sort_aJIII_76) (hr := rfl) ?_
  exact hyp
abbrev m_Arrays_rangeCheck : XM := (⟨"java/util/Arrays", "rangeCheck", "(III)V"⟩, prog_44_method_30_code, 3, none, [])
theorem d_Arrays_rangeCheck_0 : decode prog_44_method_30_code 0 = .ok (.iload_n 1, 1) := by decide +kernel
theorem d_Arrays_rangeCheck_1 : decode prog_44_method_30_code 1 = .ok (.iload_n 2, 1) := by decide +kernel
theorem d_Arrays_rangeCheck_2 : decode prog_44_method_30_code 2 = .ok (.if_icmp .le 44, 3) := by decide +kernel
theorem d_Arrays_rangeCheck_46 : decode prog_44_method_30_code 46 = .ok (.iload_n 1, 1) := by decide +kernel
theorem d_Arrays_rangeCheck_47 : decode prog_44_method_30_code 47 = .ok (.ifCond .ge 12, 3) := by decide +kernel
theorem d_Arrays_rangeCheck_59 : decode prog_44_method_30_code 59 = .ok (.iload_n 2, 1) := by decide +kernel
theorem d_Arrays_rangeCheck_60 : decode prog_44_method_30_code 60 = .ok (.iload_n 0, 1) := by decide +kernel
theorem d_Arrays_rangeCheck_61 : decode prog_44_method_30_code 61 = .ok (.if_icmp .le 12, 3) := by decide +kernel
theorem d_Arrays_rangeCheck_73 : decode prog_44_method_30_code 73 = .ok (.return_, 1) := by decide +kernel
theorem d_Arrays_rangeCheck_64 : decode prog_44_method_30_code 64 = .ok (.new 68, 3) := by decide +kernel
theorem d_Arrays_rangeCheck_50 : decode prog_44_method_30_code 50 = .ok (.new 68, 3) := by decide +kernel
theorem d_Arrays_rangeCheck_5 : decode prog_44_method_30_code 5 = .ok (.new 43, 3) := by decide +kernel
theorem v_Arrays_rangeCheck_0 {G : XG} {d : Nat} {h : XH} {Q : XV → XH → Prop} {X : Nat → XH → Prop} {x0 x1 x2 : Int} (F : xFix h) (hyp : ((x1 ≤ x2 → (((0 : Int) ≤ x1 → ((x2 ≤ x0 → (Q xN h)) ∧ (¬ x2 ≤ x0 → False))) ∧ (¬ (0 : Int) ≤ x1 → False))) ∧ (¬ x1 ≤ x2 → False))) : xwp G m_Arrays_rangeCheck (d + 2) 0 [xI x0, xI x1, xI x2] [] h Q X := by
  have hnx9 : (93 : Int) ≤ xnx h := F.2.2
  refine xr_okL (fun hl9 => ?_)
  have r_x0 : -2147483648 ≤ x0 ∧ x0 ≤ 2147483647 := hl9 (xI x0) (.head _) (Nat.le_of_ble_eq_true rfl)
  have r_x1 : -2147483648 ≤ x1 ∧ x1 ≤ 2147483647 := hl9 (xI x1) (.tail _ (.head _)) (Nat.le_of_ble_eq_true rfl)
  have r_x2 : -2147483648 ≤ x2 ∧ x2 ≤ 2147483647 := hl9 (xI x2) (.tail _ (.tail _ (.head _))) (Nat.le_of_ble_eq_true rfl)
  refine xr_iload_n (pc := 0) (i := 1) (hI := d_Arrays_rangeCheck_0) (hi := rfl) (hl := rfl) ?_
  refine xr_iload_n (pc := 1) (i := 2) (hI := d_Arrays_rangeCheck_1) (hi := rfl) (hl := rfl) ?_
  refine xr_icmp_le (pc := 2) (tgt := 46) (hI := d_Arrays_rangeCheck_2) (ht := by decide) (fun q9 => ?_) (fun q9 => ?_)
  · replace hyp := hyp.1 q9
    have q1_ := q9
    clear q9
    refine xr_iload_n (pc := 46) (i := 1) (hI := d_Arrays_rangeCheck_46) (hi := rfl) (hl := rfl) ?_
    refine xr_if_ge (pc := 47) (tgt := 59) (hI := d_Arrays_rangeCheck_47) (ht := by decide) (fun q9 => ?_) (fun q9 => ?_)
    · replace hyp := hyp.1 q9
      have q2_ := q9
      clear q9
      refine xr_iload_n (pc := 59) (i := 2) (hI := d_Arrays_rangeCheck_59) (hi := rfl) (hl := rfl) ?_
      refine xr_iload_n (pc := 60) (i := 0) (hI := d_Arrays_rangeCheck_60) (hi := rfl) (hl := rfl) ?_
      refine xr_icmp_le (pc := 61) (tgt := 73) (hI := d_Arrays_rangeCheck_61) (ht := by decide) (fun q9 => ?_) (fun q9 => ?_)
      · replace hyp := hyp.1 q9
        have q3_ := q9
        clear q9
        refine xr_return (S := []) (pc := 73) (hI := d_Arrays_rangeCheck_73) (hr := rfl) ?_
        exact hyp
      · replace hyp := hyp.2 q9
        have q3_ := q9
        clear q9
        exact hyp.elim
    · replace hyp := hyp.2 q9
      have q2_ := q9
      clear q9
      exact hyp.elim
  · replace hyp := hyp.2 q9
    have q1_ := q9
    clear q9
    exact hyp.elim
theorem d_Arrays_sort_0 : decode prog_44_method_5_code 0 = .ok (.aload_n 0, 1) := by decide +kernel
theorem d_Arrays_sort_1 : decode prog_44_method_5_code 1 = .ok (.arraylength, 1) := by decide +kernel
theorem d_Arrays_sort_2 : decode prog_44_method_5_code 2 = .ok (.iload_n 1, 1) := by decide +kernel
theorem d_Arrays_sort_3 : decode prog_44_method_5_code 3 = .ok (.iload_n 2, 1) := by decide +kernel
theorem d_Arrays_sort_4 : decode prog_44_method_5_code 4 = .ok (.invokestatic 13, 3) := by decide +kernel
theorem k_Arrays_rangeCheck : xCal m_Arrays_rangeCheck 3 := ⟨List.mem_append_right _ (List.mem_of_getElem? (i := 1902) (by decide +kernel)), w_29, Nat.le_of_ble_eq_true rfl, ⟨by decide +kernel, by decide +kernel⟩, by decide +kernel, by decide +kernel, rfl⟩
theorem w_1900 : Cond.methodLink "java/util/Arrays" 13 ⟨"java/util/Arrays", "rangeCheck", "(III)V"⟩ ∈ lw_tbl := List.mem_append_right _ (List.mem_of_getElem? (i := 1900) (by decide +kernel))
theorem w_1901 : Cond.static ⟨"java/util/Arrays", "rangeCheck", "(III)V"⟩ ∈ lw_tbl := List.mem_append_right _ (List.mem_of_getElem? (i := 1901) (by decide +kernel))
theorem v_Arrays_sort_0 {G : XG} {d : Nat} {h : XH} {Q : XV → XH → Prop} {X : Nat → XH → Prop} {x1 x2 : Int} (F : xFix h) (hyp : (xwp G m_Arrays_rangeCheck (d + 214) 0 [xI 12000, xI x1, xI x2] [] h (fun v9 h9 => xwp G m_Arrays_sort (d + 215) 7 [xR 64, xI x1, xI x2] (xpush v9 []) h9 Q X) X)) : xwp G m_Arrays_sort (d + 215) 0 [xR 64, xI x1, xI x2] [] h Q X := by
  have hnx9 : (93 : Int) ≤ xnx h := F.2.2
  refine xr_okL (fun hl9 => ?_)
  have r_x1 : -2147483648 ≤ x1 ∧ x1 ≤ 2147483647 := hl9 (xI x1) (.tail _ (.head _)) (Nat.le_of_ble_eq_true rfl)
  have r_x2 : -2147483648 ≤ x2 ∧ x2 ≤ 2147483647 := hl9 (xI x2) (.tail _ (.tail _ (.head _))) (Nat.le_of_ble_eq_true rfl)
  refine xr_aload_n (pc := 0) (i := 0) (hI := d_Arrays_sort_0) (hi := rfl) (hl := rfl) ?_
  refine xg_alen (pc := 1) (t := 101) (v := 12000) (hI := d_Arrays_sort_1) (ft_64 F) (Nat.le_of_ble_eq_true rfl) (Nat.le_of_ble_eq_true rfl) rfl (fl_64 F) (fun f1_ f2_ => ?_)
  clear f1_ f2_
  refine xr_iload_n (pc := 2) (i := 1) (hI := d_Arrays_sort_2) (hi := rfl) (hl := rfl) ?_
  refine xr_iload_n (pc := 3) (i := 2) (hI := d_Arrays_sort_3) (hi := rfl) (hl := rfl) ?_
  exact xq_callS (pc := 4) (index := 13) (K := m_Arrays_rangeCheck) (As := [xI 12000, xI x1, xI x2]) (S := []) (L0 := [xI 12000, xI x1, xI x2]) (hI := d_Arrays_sort_4) (hK := k_Arrays_rangeCheck) (hlk := w_1900) (hnoM := rfl) (hS8 := Nat.le_of_ble_eq_true rfl) (hstat := w_1901) (hlen := Nat.le_of_ble_eq_true rfl) (hst := rfl) (hL0 := rfl)  hyp
theorem d_Arrays_sort_7 : decode prog_44_method_5_code 7 = .ok (.aload_n 0, 1) := by decide +kernel
theorem d_Arrays_sort_8 : decode prog_44_method_5_code 8 = .ok (.iconst 0, 1) := by decide +kernel
theorem d_Arrays_sort_9 : decode prog_44_method_5_code 9 = .ok (.iload_n 1, 1) := by decide +kernel
theorem d_Arrays_sort_10 : decode prog_44_method_5_code 10 = .ok (.iload_n 2, 1) := by decide +kernel
theorem d_Arrays_sort_11 : decode prog_44_method_5_code 11 = .ok (.invokestatic 19, 3) := by decide +kernel
theorem k_DualPivotQuicksort_sort_aJIII : xCal m_DualPivotQuicksort_sort_aJIII 4 := ⟨List.mem_append_right _ (List.mem_of_getElem? (i := 2144) (by decide +kernel)), w_38, Nat.le_of_ble_eq_true rfl, ⟨by decide +kernel, by decide +kernel⟩, by decide +kernel, by decide +kernel, rfl⟩
theorem w_2142 : Cond.methodLink "java/util/Arrays" 19 ⟨"java/util/DualPivotQuicksort", "sort", "([JIII)V"⟩ ∈ lw_tbl := List.mem_append_right _ (List.mem_of_getElem? (i := 2142) (by decide +kernel))
theorem w_2143 : Cond.static ⟨"java/util/DualPivotQuicksort", "sort", "([JIII)V"⟩ ∈ lw_tbl := List.mem_append_right _ (List.mem_of_getElem? (i := 2143) (by decide +kernel))
theorem v_Arrays_sort_7 {G : XG} {d : Nat} {h : XH} {Q : XV → XH → Prop} {X : Nat → XH → Prop} {x1 x2 : Int} (F : xFix h) (hyp : (xwp G m_DualPivotQuicksort_sort_aJIII (d + 214) 0 [xR 64, xI 0, xI x1, xI x2, xZ, xZ, xZ] [] h (fun v9 h9 => xwp G m_Arrays_sort (d + 215) 14 [xZ, xZ, xZ] (xpush v9 []) h9 Q X) X)) : xwp G m_Arrays_sort (d + 215) 7 [xR 64, xI x1, xI x2] [] h Q X := by
  have hnx9 : (93 : Int) ≤ xnx h := F.2.2
  refine xr_okL (fun hl9 => ?_)
  have r_x1 : -2147483648 ≤ x1 ∧ x1 ≤ 2147483647 := hl9 (xI x1) (.tail _ (.head _)) (Nat.le_of_ble_eq_true rfl)
  have r_x2 : -2147483648 ≤ x2 ∧ x2 ≤ 2147483647 := hl9 (xI x2) (.tail _ (.tail _ (.head _))) (Nat.le_of_ble_eq_true rfl)
  refine xr_aload_n (pc := 7) (i := 0) (hI := d_Arrays_sort_7) (hi := rfl) (hl := rfl) ?_
  refine xr_iconst (pc := 8) (hI := d_Arrays_sort_8) (hr := by decide) ?_
  refine xr_iload_n (pc := 9) (i := 1) (hI := d_Arrays_sort_9) (hi := rfl) (hl := rfl) ?_
  refine xr_iload_n (pc := 10) (i := 2) (hI := d_Arrays_sort_10) (hi := rfl) (hl := rfl) ?_
  exact xq_callS (pc := 11) (index := 19) (K := m_DualPivotQuicksort_sort_aJIII) (As := [xR 64, xI 0, xI x1, xI x2]) (S := []) (L0 := [xR 64, xI 0, xI x1, xI x2, xZ, xZ, xZ]) (hI := d_Arrays_sort_11) (hK := k_DualPivotQuicksort_sort_aJIII) (hlk := w_2142) (hnoM := rfl) (hS8 := Nat.le_of_ble_eq_true rfl) (hstat := w_2143) (hlen := Nat.le_of_ble_eq_true rfl) (hst := rfl) (hL0 := rfl)  (xwp_mono hyp (fun v9 h9 q9 => xr_drop (L9 := [xZ, xZ, xZ]) (xdrz (xdrz (xdrz xdr0))) q9) (fun _ _ z9 => z9))
theorem d_Arrays_sort_14 : decode prog_44_method_5_code 14 = .ok (.return_, 1) := by decide +kernel
theorem v_Arrays_sort_14 {G : XG} {d : Nat} {h : XH} {Q : XV → XH → Prop} {X : Nat → XH → Prop} (F : xFix h) (hyp : (Q xN h)) : xwp G m_Arrays_sort (d + 215) 14 [xZ, xZ, xZ] [] h Q X := by
  have hnx9 : (93 : Int) ≤ xnx h := F.2.2
  refine xr_return (S := []) (pc := 14) (hI := d_Arrays_sort_14) (hr := rfl) ?_
  exact hyp

end
