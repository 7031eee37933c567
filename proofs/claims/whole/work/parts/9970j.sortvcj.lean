/-! ===== sortvcj ===== -/
section
abbrev m_DualPivotQuicksort_sort_aJIII : XM := (⟨"java/util/DualPivotQuicksort", "sort", "([JIII)V"⟩, prog_46_method_12_code, 7, none, [])
theorem d_DualPivotQuicksort_sort_aJIII_0 : decode prog_46_method_12_code 0 = .ok (.iload_n 3, 1) := by decide +kernel
theorem d_DualPivotQuicksort_sort_aJIII_1 : decode prog_46_method_12_code 1 = .ok (.iload_n 2, 1) := by decide +kernel
theorem d_DualPivotQuicksort_sort_aJIII_2 : decode prog_46_method_12_code 2 = .ok (.isub, 1) := by decide +kernel
theorem d_DualPivotQuicksort_sort_aJIII_3 : decode prog_46_method_12_code 3 = .ok (.istore 4, 2) := by decide +kernel
theorem d_DualPivotQuicksort_sort_aJIII_5 : decode prog_46_method_12_code 5 = .ok (.iload_n 1, 1) := by decide +kernel
theorem d_DualPivotQuicksort_sort_aJIII_6 : decode prog_46_method_12_code 6 = .ok (.iconst 1, 1) := by decide +kernel
theorem d_DualPivotQuicksort_sort_aJIII_7 : decode prog_46_method_12_code 7 = .ok (.if_icmp .le 61, 3) := by decide +kernel
theorem d_DualPivotQuicksort_sort_aJIII_68 : decode prog_46_method_12_code 68 = .ok (.aconst_null, 1) := by decide +kernel
theorem d_DualPivotQuicksort_sort_aJIII_69 : decode prog_46_method_12_code 69 = .ok (.aload_n 0, 1) := by decide +kernel
theorem d_DualPivotQuicksort_sort_aJIII_70 : decode prog_46_method_12_code 70 = .ok (.iconst 0, 1) := by decide +kernel
theorem d_DualPivotQuicksort_sort_aJIII_71 : decode prog_46_method_12_code 71 = .ok (.iload_n 2, 1) := by decide +kernel
theorem d_DualPivotQuicksort_sort_aJIII_72 : decode prog_46_method_12_code 72 = .ok (.iload_n 3, 1) := by decide +kernel
theorem d_DualPivotQuicksort_sort_aJIII_73 : decode prog_46_method_12_code 73 = .ok (.invokestatic 99, 3) := by decide +kernel
theorem d_DualPivotQuicksort_sort_aJIII_10 : decode prog_46_method_12_code 10 = .ok (.iload 4, 2) := by decide +kernel
theorem d_DualPivotQuicksort_sort_aJIII_12 : decode prog_46_method_12_code 12 = .ok (.sipush 4096, 3) := by decide +kernel
theorem d_DualPivotQuicksort_sort_aJIII_15 : decode prog_46_method_12_code 15 = .ok (.if_icmp .le 53, 3) := by decide +kernel
theorem d_DualPivotQuicksort_sort_aJIII_18 : decode prog_46_method_12_code 18 = .ok (.iload_n 1, 1) := by decide +kernel
theorem d_DualPivotQuicksort_sort_aJIII_19 : decode prog_46_method_12_code 19 = .ok (.iload 4, 2) := by decide +kernel
theorem d_DualPivotQuicksort_sort_aJIII_21 : decode prog_46_method_12_code 21 = .ok (.bipush 12, 2) := by decide +kernel
theorem d_DualPivotQuicksort_sort_aJIII_23 : decode prog_46_method_12_code 23 = .ok (.ishr, 1) := by decide +kernel
theorem d_DualPivotQuicksort_sort_aJIII_24 : decode prog_46_method_12_code 24 = .ok (.invokestatic 13, 3) := by decide +kernel
theorem v_DualPivotQuicksort_sort_aJIII_0 {G : XG} {d : Nat} {h : XH} {Q : XV → XH → Prop} {X : Nat → XH → Prop} {x1 x2 x3 : Int} (F : xFix h) (hyp : xiR (x3 - x2) ∧ ((x1 ≤ 1 → (xwp G m_DualPivotQuicksort_sort_SorteraJIII (d + 213) 0 [xR (-1), xR 64, xI 0, xI x2, xI x3, xZ, xZ, xZ, xZ, xZ, xZ, xZ, xZ, xZ, xZ, xZ, xZ, xZ, xZ, xZ, xZ, xZ, xZ, xZ, xZ] [] h (fun v9 h9 => xwp G m_DualPivotQuicksort_sort_aJIII (d + 214) 76 [xZ, xZ, xZ, xZ, xZ, xZ, xZ] (xpush v9 []) h9 Q X) X)) ∧ (¬ x1 ≤ 1 → (((x3 - x2) ≤ 4096 → (xwp G m_DualPivotQuicksort_sort_SorteraJIII (d + 213) 0 [xR (-1), xR 64, xI 0, xI x2, xI x3, xZ, xZ, xZ, xZ, xZ, xZ, xZ, xZ, xZ, xZ, xZ, xZ, xZ, xZ, xZ, xZ, xZ, xZ, xZ, xZ] [] h (fun v9 h9 => xwp G m_DualPivotQuicksort_sort_aJIII (d + 214) 76 [xZ, xZ, xZ, xZ, xZ, xZ, xZ] (xpush v9 []) h9 Q X) X)) ∧ (¬ (x3 - x2) ≤ 4096 → False))))) : xwp G m_DualPivotQuicksort_sort_aJIII (d + 214) 0 [xR 64, xI x1, xI x2, xI x3, xZ, xZ, xZ] [] h Q X := by
  have hnx9 : (93 : Int) ≤ xnx h := F.2.2
  refine xr_okL (fun hl9 => ?_)
  have r_x1 : -2147483648 ≤ x1 ∧ x1 ≤ 2147483647 := hl9 (xI x1) (.tail _ (.head _)) (Nat.le_of_ble_eq_true rfl)
  have r_x2 : -2147483648 ≤ x2 ∧ x2 ≤ 2147483647 := hl9 (xI x2) (.tail _ (.tail _ (.head _))) (Nat.le_of_ble_eq_true rfl)
  have r_x3 : -2147483648 ≤ x3 ∧ x3 ≤ 2147483647 := hl9 (xI x3) (.tail _ (.tail _ (.tail _ (.head _)))) (Nat.le_of_ble_eq_true rfl)
  refine xr_iload_n (pc := 0) (i := 3) (hI := d_DualPivotQuicksort_sort_aJIII_0) (hi := rfl) (hl := rfl) ?_
  refine xr_iload_n (pc := 1) (i := 2) (hI := d_DualPivotQuicksort_sort_aJIII_1) (hi := rfl) (hl := rfl) ?_
  obtain ⟨c9, hyp⟩ := hyp
  refine xr_isub (pc := 2) (hI := d_DualPivotQuicksort_sort_aJIII_2) (hr := c9) ?_
  refine xr_istore (pc := 3) (i := 4) (L9 := [xR 64, xI x1, xI x2, xI x3, xI (x3 - x2), xZ, xZ]) (hI := d_DualPivotQuicksort_sort_aJIII_3) (hn := Nat.le_of_ble_eq_true rfl) (hL9 := rfl) ?_
  refine xr_iload_n (pc := 5) (i := 1) (hI := d_DualPivotQuicksort_sort_aJIII_5) (hi := rfl) (hl := rfl) ?_
  refine xr_iconst (pc := 6) (hI := d_DualPivotQuicksort_sort_aJIII_6) (hr := by decide) ?_
  refine xr_icmp_le (pc := 7) (tgt := 68) (hI := d_DualPivotQuicksort_sort_aJIII_7) (ht := by decide) (fun q9 => ?_) (fun q9 => ?_)
  · replace hyp := hyp.1 q9
    have q1_ := q9
    clear q9
    refine xr_aconst_null (pc := 68) (hI := d_DualPivotQuicksort_sort_aJIII_68) ?_
    refine xr_aload_n (pc := 69) (i := 0) (hI := d_DualPivotQuicksort_sort_aJIII_69) (hi := rfl) (hl := rfl) ?_
    refine xr_iconst (pc := 70) (hI := d_DualPivotQuicksort_sort_aJIII_70) (hr := by decide) ?_
    refine xr_iload_n (pc := 71) (i := 2) (hI := d_DualPivotQuicksort_sort_aJIII_71) (hi := rfl) (hl := rfl) ?_
    refine xr_iload_n (pc := 72) (i := 3) (hI := d_DualPivotQuicksort_sort_aJIII_72) (hi := rfl) (hl := rfl) ?_
    exact xq_callS (pc := 73) (index := 99) (K := m_DualPivotQuicksort_sort_SorteraJIII) (As := [xR (-1), xR 64, xI 0, xI x2, xI x3]) (S := []) (L0 := [xR (-1), xR 64, xI 0, xI x2, xI x3, xZ, xZ, xZ, xZ, xZ, xZ, xZ, xZ, xZ, xZ, xZ, xZ, xZ, xZ, xZ, xZ, xZ, xZ, xZ, xZ]) (hI := d_DualPivotQuicksort_sort_aJIII_73) (hK := k_DualPivotQuicksort_sort_SorteraJIII) (hlk := w_2145) (hnoM := rfl) (hS8 := Nat.le_of_ble_eq_true rfl) (hstat := w_2146) (hlen := Nat.le_of_ble_eq_true rfl) (hst := rfl) (hL0 := rfl)  (xwp_mono hyp (fun v9 h9 q9 => xr_drop (L9 := [xZ, xZ, xZ, xZ, xZ, xZ, xZ]) (xdrz (xdrz (xdrz (xdrz (xdrz (xdrs (xdrs xdr0))))))) q9) (fun _ _ z9 => z9))
  · replace hyp := hyp.2 q9
    have q1_ := q9
    clear q9
    refine xr_iload (pc := 10) (i := 4) (hI := d_DualPivotQuicksort_sort_aJIII_10) (hl := rfl) ?_
    refine xr_sipush (pc := 12) (hI := d_DualPivotQuicksort_sort_aJIII_12) (hr := by decide) (hv := by decide) ?_
    refine xr_icmp_le (pc := 15) (tgt := 68) (hI := d_DualPivotQuicksort_sort_aJIII_15) (ht := by decide) (fun q9 => ?_) (fun q9 => ?_)
    · replace hyp := hyp.1 q9
      have q2_ := q9
      clear q9
      refine xr_aconst_null (pc := 68) (hI := d_DualPivotQuicksort_sort_aJIII_68) ?_
      refine xr_aload_n (pc := 69) (i := 0) (hI := d_DualPivotQuicksort_sort_aJIII_69) (hi := rfl) (hl := rfl) ?_
      refine xr_iconst (pc := 70) (hI := d_DualPivotQuicksort_sort_aJIII_70) (hr := by decide) ?_
      refine xr_iload_n (pc := 71) (i := 2) (hI := d_DualPivotQuicksort_sort_aJIII_71) (hi := rfl) (hl := rfl) ?_
      refine xr_iload_n (pc := 72) (i := 3) (hI := d_DualPivotQuicksort_sort_aJIII_72) (hi := rfl) (hl := rfl) ?_
      exact xq_callS (pc := 73) (index := 99) (K := m_DualPivotQuicksort_sort_SorteraJIII) (As := [xR (-1), xR 64, xI 0, xI x2, xI x3]) (S := []) (L0 := [xR (-1), xR 64, xI 0, xI x2, xI x3, xZ, xZ, xZ, xZ, xZ, xZ, xZ, xZ, xZ, xZ, xZ, xZ, xZ, xZ, xZ, xZ, xZ, xZ, xZ, xZ]) (hI := d_DualPivotQuicksort_sort_aJIII_73) (hK := k_DualPivotQuicksort_sort_SorteraJIII) (hlk := w_2145) (hnoM := rfl) (hS8 := Nat.le_of_ble_eq_true rfl) (hstat := w_2146) (hlen := Nat.le_of_ble_eq_true rfl) (hst := rfl) (hL0 := rfl)  (xwp_mono hyp (fun v9 h9 q9 => xr_drop (L9 := [xZ, xZ, xZ, xZ, xZ, xZ, xZ]) (xdrz (xdrz (xdrz (xdrz (xdrz (xdrs (xdrs xdr0))))))) q9) (fun _ _ z9 => z9))
    · replace hyp := hyp.2 q9
      have q2_ := q9
      clear q9
      refine xr_iload_n (pc := 18) (i := 1) (hI := d_DualPivotQuicksort_sort_aJIII_18) (hi := rfl) (hl := rfl) ?_
      refine xr_iload (pc := 19) (i := 4) (hI := d_DualPivotQuicksort_sort_aJIII_19) (hl := rfl) ?_
      refine xr_bipush (pc := 21) (hI := d_DualPivotQuicksort_sort_aJIII_21) (hr := by decide) (hv := by decide) ?_
      refine xr_ishr (pc := 23) (hI := d_DualPivotQuicksort_sort_aJIII_23) ?_
      have f3_ : -2147483648 ≤ (xshr (x3 - x2) 12) ∧ (xshr (x3 - x2) 12) ≤ 2147483647 := xi_toR _
      exact hyp.elim
theorem d_DualPivotQuicksort_sort_aJIII_42 : decode prog_46_method_12_code 42 = .ok (.astore 6, 2) := by decide +kernel
theorem d_DualPivotQuicksort_sort_aJIII_44 : decode prog_46_method_12_code 44 = .ok (.new 17, 3) := by decide +kernel
theorem v_DualPivotQuicksort_sort_aJIII_42 {G : XG} {d : Nat} {h : XH} {Q : XV → XH → Prop} {X : Nat → XH → Prop} {x2 x4 x5 s0 : Int} (F : xFix h) (hyp : False) : xwp G m_DualPivotQuicksort_sort_aJIII (d + 214) 42 [xR 64, xZ, xI x2, xZ, xI x4, xI x5, xZ] [xR s0] h Q X := by
  have hnx9 : (93 : Int) ≤ xnx h := F.2.2
  refine xr_okL (fun hl9 => ?_)
  have r_x2 : -2147483648 ≤ x2 ∧ x2 ≤ 2147483647 := hl9 (xI x2) (.tail _ (.tail _ (.head _))) (Nat.le_of_ble_eq_true rfl)
  have r_x4 : -2147483648 ≤ x4 ∧ x4 ≤ 2147483647 := hl9 (xI x4) (.tail _ (.tail _ (.tail _ (.tail _ (.head _))))) (Nat.le_of_ble_eq_true rfl)
  have r_x5 : -2147483648 ≤ x5 ∧ x5 ≤ 2147483647 := hl9 (xI x5) (.tail _ (.tail _ (.tail _ (.tail _ (.tail _ (.head _)))))) (Nat.le_of_ble_eq_true rfl)
  refine xr_astore (pc := 42) (i := 6) (L9 := [xR 64, xZ, xI x2, xZ, xI x4, xI x5, xR s0]) (hI := d_DualPivotQuicksort_sort_aJIII_42) (hn := Nat.le_of_ble_eq_true rfl) (hL9 := rfl) ?_
  exact hyp.elim
theorem d_DualPivotQuicksort_sort_aJIII_76 : decode prog_46_method_12_code 76 = .ok (.return_, 1) := by decide +kernel
theorem v_DualPivotQuicksort_sort_aJIII_76 {G : XG} {d : Nat} {h : XH} {Q : XV → XH → Prop} {X : Nat → XH → Prop} (F : xFix h) (hyp : (Q xN h)) : xwp G m_DualPivotQuicksort_sort_aJIII (d + 214) 76 [xZ, xZ, xZ, xZ, xZ, xZ, xZ] [] h Q X := by
  have hnx9 : (93 : Int) ≤ xnx h := F.2.2
  refine xr_return (S := []) (pc := 76) (hI := d_DualPivotQuicksort_sort_aJIII_76) (hr := rfl) ?_
  exact hyp
abbrev m_Arrays_rangeCheck : XM := (⟨"java/util/Arrays", "rangeCheck", "(III)V"⟩, prog_44_method_30_code, 3, none, [])
theorem d_Arrays_rangeCheck_0 : decode prog_44_method_30_code 0 = .ok (.iload_n 1, 1) := by decide +kernel
theorem d_Arrays_rangeCheck_1 : decode prog_44_method_30_code 1 = .ok (.iload_n 2, 1) := by decide +kernel
theorem d_Arrays_rangeCheck_2 : decode prog_44_method_30_code 2 = .ok (.if_icmp .le 44, 3) := by decide +kernel
theorem d_Arrays_rangeCheck_46 : decode prog_44_method_30_code 46 = .ok (.iload_n 1, 1) := by decide +kernel
theorem d_Arrays_rangeCheck_47 : decode prog_44_method_30_code 47 = .ok (.ifCond .ge 12, 3) := by decide +kernel
theorem d_Arrays_rangeCheck_59 : decode prog_44_method_30_code 59 = .ok (.iload_n 2, 1) := by decide +kernel
theorem d_Arrays_rangeCheck_60 : decode prog_44_method_30_code 60 = .ok (.iload_n 0, 1) := by decide +kernel
theorem d_Arrays_rangeCheck_61 : decode prog_44_method_30_code 61 = .ok (.if_icmp .le 12, 3) := by decide +kernel
theorem d_Arrays_rangeCheck_73 : decode prog_44_method_30_code 73 = .ok (.return_, 1) := by decide +kernel
theorem d_Arrays_rangeCheck_64 : decode prog_44_method_30_code 64 = .ok (.new 68, 3) := by decide +kernel
theorem d_Arrays_rangeCheck_50 : decode prog_44_method_30_code 50 = .ok (.new 68, 3) := by decide +kernel
theorem d_Arrays_rangeCheck_5 : decode prog_44_method_30_code 5 = .ok (.new 43, 3) := by decide +kernel
theorem v_Arrays_rangeCheck_0 {G : XG} {d : Nat} {h : XH} {Q : XV → XH → Prop} {X : Nat → XH → Prop} {x0 x1 x2 : Int} (F : xFix h) (hyp : ((x1 ≤ x2 → (((0 : Int) ≤ x1 → ((x2 ≤ x0 → (Q xN h)) ∧ (¬ x2 ≤ x0 → False))) ∧ (¬ (0 : Int) ≤ x1 → False))) ∧ (¬ x1 ≤ x2 → False))) : xwp G m_Arrays_rangeCheck (d + 2) 0 [xI x0, xI x1, xI x2] [] h Q X := by
  have hnx9 : (93 : Int) ≤ xnx h := F.2.2
  refine xr_okL (fun hl9 => ?_)
  have r_x0 : -2147483648 ≤ x0 ∧ x0 ≤ 2147483647 := hl9 (xI x0) (.head _) (Nat.le_of_ble_eq_true rfl)
  have r_x1 : -2147483648 ≤ x1 ∧ x1 ≤ 2147483647 := hl9 (xI x1) (.tail _ (.head _)) (Nat.le_of_ble_eq_true rfl)
  have r_x2 : -2147483648 ≤ x2 ∧ x2 ≤ 2147483647 := hl9 (xI x2) (.tail _ (.tail _ (.head _))) (Nat.le_of_ble_eq_true rfl)
  refine xr_iload_n (pc := 0) (i := 1) (hI := d_Arrays_rangeCheck_0) (hi := rfl) (hl := rfl) ?_
  refine xr_iload_n (pc := 1) (i := 2) (hI := d_Arrays_rangeCheck_1) (hi := rfl) (hl := rfl) ?_
  refine xr_icmp_le (pc := 2) (tgt := 46) (hI := d_Arrays_rangeCheck_2) (ht := by decide) (fun q9 => ?_) (fun q9 => ?_)
  · replace hyp := hyp.1 q9
    have q1_ := q9
    clear q9
    refine xr_iload_n (pc := 46) (i := 1) (hI := d_Arrays_rangeCheck_46) (hi := rfl) (hl := rfl) ?_
    refine xr_if_ge (pc := 47) (tgt := 59) (hI := d_Arrays_rangeCheck_47) (ht := by decide) (fun q9 => ?_) (fun q9 => ?_)
    · replace hyp := hyp.1 q9
      have q2_ := q9
      clear q9
      refine xr_iload_n (pc := 59) (i := 2) (hI := d_Arrays_rangeCheck_59) (hi := rfl) (hl := rfl) ?_
      refine xr_iload_n (pc := 60) (i := 0) (hI := d_Arrays_rangeCheck_60) (hi := rfl) (hl := rfl) ?_
      refine xr_icmp_le (pc := 61) (tgt := 73) (hI := d_Arrays_rangeCheck_61) (ht := by decide) (fun q9 => ?_) (fun q9 => ?_)
      · replace hyp := hyp.1 q9
        have q3_ := q9
        clear q9
        refine xr_return (S := []) (pc := 73) (hI := d_Arrays_rangeCheck_73) (hr := rfl) ?_
        exact hyp
      · replace hyp := hyp.2 q9
        have q3_ := q9
        clear q9
        exact hyp.elim
    · replace hyp := hyp.2 q9
      have q2_ := q9
      clear q9
      exact hyp.elim
  · replace hyp := hyp.2 q9
    have q1_ := q9
    clear q9
    exact hyp.elim
theorem d_Arrays_sort_0 : decode prog_44_method_5_code 0 = .ok (.aload_n 0, 1) := by decide +kernel
theorem d_Arrays_sort_1 : decode prog_44_method_5_code 1 = .ok (.arraylength, 1) := by decide +kernel
theorem d_Arrays_sort_2 : decode prog_44_method_5_code 2 = .ok (.iload_n 1, 1) := by decide +kernel
theorem d_Arrays_sort_3 : decode prog_44_method_5_code 3 = .ok (.iload_n 2, 1) := by decide +kernel
theorem d_Arrays_sort_4 : decode prog_44_method_5_code 4 = .ok (.invokestatic 13, 3) := by decide +kernel
theorem k_Arrays_rangeCheck : xCal m_Arrays_rangeCheck 3 := ⟨List.mem_append_right _ (List.mem_of_getElem? (i := 1902) (by decide +kernel)), w_29, Nat.le_of_ble_eq_true rfl, ⟨by decide +kernel, by decide +kernel⟩, by decide +kernel, by decide +kernel, rfl⟩
theorem w_1900 : Cond.methodLink "java/util/Arrays" 13 ⟨"java/util/Arrays", "rangeCheck", "(III)V"⟩ ∈ lw_tbl := List.mem_append_right _ (List.mem_of_getElem? (i := 1900) (by decide +kernel))
theorem w_1901 : Cond.static ⟨"java/util/Arrays", "rangeCheck", "(III)V"⟩ ∈ lw_tbl := List.mem_append_right _ (List.mem_of_getElem? (i := 1901) (by decide +kernel))
theorem v_Arrays_sort_0 {G : XG} {d : Nat} {h : XH} {Q : XV → XH → Prop} {X : Nat → XH → Prop} {x1 x2 : Int} (F : xFix h) (hyp : (xwp G m_Arrays_rangeCheck (d + 214) 0 [xI 12000, xI x1, xI x2] [] h (fun v9 h9 => xwp G m_Arrays_sort (d + 215) 7 [xR 64, xI x1, xI x2] (xpush v9 []) h9 Q X) X)) : xwp G m_Arrays_sort (d + 215) 0 [xR 64, xI x1, xI x2] [] h Q X := by
  have hnx9 : (93 : Int) ≤ xnx h := F.2.2
  refine xr_okL (fun hl9 => ?_)
  have r_x1 : -2147483648 ≤ x1 ∧ x1 ≤ 2147483647 := hl9 (xI x1) (.tail _ (.head _)) (Nat.le_of_ble_eq_true rfl)
  have r_x2 : -2147483648 ≤ x2 ∧ x2 ≤ 2147483647 := hl9 (xI x2) (.tail _ (.tail _ (.head _))) (Nat.le_of_ble_eq_true rfl)
  refine xr_aload_n (pc := 0) (i := 0) (hI := d_Arrays_sort_0) (hi := rfl) (hl := rfl) ?_
  refine xg_alen (pc := 1) (t := 101) (v := 12000) (hI := d_Arrays_sort_1) (ft_64 F) (Nat.le_of_ble_eq_true rfl) (Nat.le_of_ble_eq_true rfl) rfl (fl_64 F) (fun f1_ f2_ => ?_)
  clear f1_ f2_
  refine xr_iload_n (pc := 2) (i := 1) (hI := d_Arrays_sort_2) (hi := rfl) (hl := rfl) ?_
  refine xr_iload_n (pc := 3) (i := 2) (hI := d_Arrays_sort_3) (hi := rfl) (hl := rfl) ?_
  exact xq_callS (pc := 4) (index := 13) (K := m_Arrays_rangeCheck) (As := [xI 12000, xI x1, xI x2]) (S := []) (L0 := [xI 12000, xI x1, xI x2]) (hI := d_Arrays_sort_4) (hK := k_Arrays_rangeCheck) (hlk := w_1900) (hnoM := rfl) (hS8 := Nat.le_of_ble_eq_true rfl) (hstat := w_1901) (hlen := Nat.le_of_ble_eq_true rfl) (hst := rfl) (hL0 := rfl)  hyp
theorem d_Arrays_sort_7 : decode prog_44_method_5_code 7 = .ok (.aload_n 0, 1) := by decide +kernel
theorem d_Arrays_sort_8 : decode prog_44_method_5_code 8 = .ok (.iconst 0, 1) := by decide +kernel
theorem d_Arrays_sort_9 : decode prog_44_method_5_code 9 = .ok (.iload_n 1, 1) := by decide +kernel
theorem d_Arrays_sort_10 : decode prog_44_method_5_code 10 = .ok (.iload_n 2, 1) := by decide +kernel
theorem d_Arrays_sort_11 : decode prog_44_method_5_code 11 = .ok (.invokestatic 19, 3) := by decide +kernel
theorem k_DualPivotQuicksort_sort_aJIII : xCal m_DualPivotQuicksort_sort_aJIII 4 := ⟨List.mem_append_right _ (List.mem_of_getElem? (i := 2144) (by decide +kernel)), w_38, Nat.le_of_ble_eq_true rfl, ⟨by decide +kernel, by decide +kernel⟩, by decide +kernel, by decide +kernel, rfl⟩
theorem w_2142 : Cond.methodLink "java/util/Arrays" 19 ⟨"java/util/DualPivotQuicksort", "sort", "([JIII)V"⟩ ∈ lw_tbl := List.mem_append_right _ (List.mem_of_getElem? (i := 2142) (by decide +kernel))
theorem w_2143 : Cond.static ⟨"java/util/DualPivotQuicksort", "sort", "([JIII)V"⟩ ∈ lw_tbl := List.mem_append_right _ (List.mem_of_getElem? (i := 2143) (by decide +kernel))
theorem v_Arrays_sort_7 {G : XG} {d : Nat} {h : XH} {Q : XV → XH → Prop} {X : Nat → XH → Prop} {x1 x2 : Int} (F : xFix h) (hyp : (xwp G m_DualPivotQuicksort_sort_aJIII (d + 214) 0 [xR 64, xI 0, xI x1, xI x2, xZ, xZ, xZ] [] h (fun v9 h9 => xwp G m_Arrays_sort (d + 215) 14 [xZ, xZ, xZ] (xpush v9 []) h9 Q X) X)) : xwp G m_Arrays_sort (d + 215) 7 [xR 64, xI x1, xI x2] [] h Q X := by
  have hnx9 : (93 : Int) ≤ xnx h := F.2.2
  refine xr_okL (fun hl9 => ?_)
  have r_x1 : -2147483648 ≤ x1 ∧ x1 ≤ 2147483647 := hl9 (xI x1) (.tail _ (.head _)) (Nat.le_of_ble_eq_true rfl)
  have r_x2 : -2147483648 ≤ x2 ∧ x2 ≤ 2147483647 := hl9 (xI x2) (.tail _ (.tail _ (.head _))) (Nat.le_of_ble_eq_true rfl)
  refine xr_aload_n (pc := 7) (i := 0) (hI := d_Arrays_sort_7) (hi := rfl) (hl := rfl) ?_
  refine xr_iconst (pc := 8) (hI := d_Arrays_sort_8) (hr := by decide) ?_
  refine xr_iload_n (pc := 9) (i := 1) (hI := d_Arrays_sort_9) (hi := rfl) (hl := rfl) ?_
  refine xr_iload_n (pc := 10) (i := 2) (hI := d_Arrays_sort_10) (hi := rfl) (hl := rfl) ?_
  exact xq_callS (pc := 11) (index := 19) (K := m_DualPivotQuicksort_sort_aJIII) (As := [xR 64, xI 0, xI x1, xI x2]) (S := []) (L0 := [xR 64, xI 0, xI x1, xI x2, xZ, xZ, xZ]) (hI := d_Arrays_sort_11) (hK := k_DualPivotQuicksort_sort_aJIII) (hlk := w_2142) (hnoM := rfl) (hS8 := Nat.le_of_ble_eq_true rfl) (hstat := w_2143) (hlen := Nat.le_of_ble_eq_true rfl) (hst := rfl) (hL0 := rfl)  (xwp_mono hyp (fun v9 h9 q9 => xr_drop (L9 := [xZ, xZ, xZ]) (xdrz (xdrz (xdrz xdr0))) q9) (fun _ _ z9 => z9))
theorem d_Arrays_sort_14 : decode prog_44_method_5_code 14 = .ok (.return_, 1) := by decide +kernel
theorem v_Arrays_sort_14 {G : XG} {d : Nat} {h : XH} {Q : XV → XH → Prop} {X : Nat → XH → Prop} (F : xFix h) (hyp : (Q xN h)) : xwp G m_Arrays_sort (d + 215) 14 [xZ, xZ, xZ] [] h Q X := by
  have hnx9 : (93 : Int) ≤ xnx h := F.2.2
  refine xr_return (S := []) (pc := 14) (hI := d_Arrays_sort_14) (hr := rfl) ?_
  exact hyp

end
