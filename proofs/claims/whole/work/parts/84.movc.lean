/-! ===== movc ===== -/
section
abbrev m_M_folded : XM := (⟨"BeaconIndexModel", "folded", "(I)I"⟩, prog_14_method_9_code, 2, (some .int), [])
theorem d_M_folded_0 : decode prog_14_method_9_code 0 = .ok (.aload_n 0, 1) := by decide +kernel
theorem d_M_folded_1 : decode prog_14_method_9_code 1 = .ok (.getfield 9, 3) := by decide +kernel
theorem w_1588 : Cond.fieldLink "BeaconIndexModel" 9 "BeaconIndexModel" "tape" "[I" ∈ lw_tbl := List.mem_append_right _ (List.mem_of_getElem? (i := 1588) (by decide +kernel))
theorem d_M_folded_4 : decode prog_14_method_9_code 4 = .ok (.iload_n 1, 1) := by decide +kernel
theorem d_M_folded_5 : decode prog_14_method_9_code 5 = .ok (.iaload, 1) := by decide +kernel
theorem d_M_folded_6 : decode prog_14_method_9_code 6 = .ok (.bipush 65, 2) := by decide +kernel
theorem d_M_folded_8 : decode prog_14_method_9_code 8 = .ok (.bipush 90, 2) := by decide +kernel
theorem d_M_folded_10 : decode prog_14_method_9_code 10 = .ok (.invokestatic 101, 3) := by decide +kernel
abbrev m_M_isBetween : XM := (⟨"BeaconIndexModel", "isBetween", "(III)Z"⟩, prog_14_method_6_code, 3, (some .boolean), [])
theorem w_15 : Cond.initialized "BeaconIndexModel" ∈ lw_tbl := List.mem_append_right _ (List.mem_of_getElem? (i := 15) (by decide +kernel))
theorem k_M_isBetween : xCal m_M_isBetween 3 := ⟨List.mem_append_right _ (List.mem_of_getElem? (i := 1720) (by decide +kernel)), w_15, Nat.le_of_ble_eq_true rfl, ⟨by decide +kernel, by decide +kernel⟩, by decide +kernel, by decide +kernel, rfl⟩
theorem w_1718 : Cond.methodLink "BeaconIndexModel" 101 ⟨"BeaconIndexModel", "isBetween", "(III)Z"⟩ ∈ lw_tbl := List.mem_append_right _ (List.mem_of_getElem? (i := 1718) (by decide +kernel))
theorem w_1719 : Cond.static ⟨"BeaconIndexModel", "isBetween", "(III)Z"⟩ ∈ lw_tbl := List.mem_append_right _ (List.mem_of_getElem? (i := 1719) (by decide +kernel))
theorem d_M_isBetween_0 : decode prog_14_method_6_code 0 = .ok (.iload_n 0, 1) := by decide +kernel
theorem d_M_isBetween_1 : decode prog_14_method_6_code 1 = .ok (.iload_n 1, 1) := by decide +kernel
theorem d_M_isBetween_2 : decode prog_14_method_6_code 2 = .ok (.if_icmp .lt 12, 3) := by decide +kernel
theorem d_M_isBetween_14 : decode prog_14_method_6_code 14 = .ok (.iconst 0, 1) := by decide +kernel
theorem d_M_isBetween_15 : decode prog_14_method_6_code 15 = .ok (.ireturn, 1) := by decide +kernel
theorem d_M_folded_13 : decode prog_14_method_9_code 13 = .ok (.ifCond .eq 15, 3) := by decide +kernel
theorem d_M_folded_28 : decode prog_14_method_9_code 28 = .ok (.aload_n 0, 1) := by decide +kernel
theorem d_M_folded_29 : decode prog_14_method_9_code 29 = .ok (.getfield 9, 3) := by decide +kernel
theorem d_M_folded_32 : decode prog_14_method_9_code 32 = .ok (.iload_n 1, 1) := by decide +kernel
theorem d_M_folded_33 : decode prog_14_method_9_code 33 = .ok (.iaload, 1) := by decide +kernel
theorem d_M_folded_34 : decode prog_14_method_9_code 34 = .ok (.ireturn, 1) := by decide +kernel
theorem d_M_isBetween_5 : decode prog_14_method_6_code 5 = .ok (.iload_n 0, 1) := by decide +kernel
theorem d_M_isBetween_6 : decode prog_14_method_6_code 6 = .ok (.iload_n 2, 1) := by decide +kernel
theorem d_M_isBetween_7 : decode prog_14_method_6_code 7 = .ok (.if_icmp .gt 7, 3) := by decide +kernel
theorem d_M_isBetween_10 : decode prog_14_method_6_code 10 = .ok (.iconst 1, 1) := by decide +kernel
theorem d_M_isBetween_11 : decode prog_14_method_6_code 11 = .ok (.goto 4, 3) := by decide +kernel
theorem d_M_folded_16 : decode prog_14_method_9_code 16 = .ok (.aload_n 0, 1) := by decide +kernel
theorem d_M_folded_17 : decode prog_14_method_9_code 17 = .ok (.getfield 9, 3) := by decide +kernel
theorem d_M_folded_20 : decode prog_14_method_9_code 20 = .ok (.iload_n 1, 1) := by decide +kernel
theorem d_M_folded_21 : decode prog_14_method_9_code 21 = .ok (.iaload, 1) := by decide +kernel
theorem d_M_folded_22 : decode prog_14_method_9_code 22 = .ok (.bipush 32, 2) := by decide +kernel
theorem d_M_folded_24 : decode prog_14_method_9_code 24 = .ok (.iadd, 1) := by decide +kernel
theorem d_M_folded_25 : decode prog_14_method_9_code 25 = .ok (.goto 9, 3) := by decide +kernel
theorem v_M_folded_0 {G : XG} {d : Nat} {h : XH} {Q : XV → XH → Prop} {X : Nat → XH → Prop} {x1 : Int} (F : xFix h) (hyp : 0 ≤ x1 ∧ x1 < 400 ∧ (((xpl h 54 x1) < 65 → (Q (xI (xpl h 54 x1)) h)) ∧ (¬ (xpl h 54 x1) < 65 → (((90 : Int) < (xpl h 54 x1) → (Q (xI (xpl h 54 x1)) h)) ∧ (¬ (90 : Int) < (xpl h 54 x1) → (Q (xI ((xpl h 54 x1) + 32)) h)))))) : xwp G m_M_folded (d + 2) 0 [xR 53, xI x1] [] h Q X := by
  have hnx9 : (93 : Int) ≤ xnx h := F.2.2
  refine xr_okL (fun hl9 => ?_)
  have r_x1 : -2147483648 ≤ x1 ∧ x1 ≤ 2147483647 := hl9 (xI x1) (.tail _ (.head _)) (Nat.le_of_ble_eq_true rfl)
  refine xr_aload_n (pc := 0) (i := 0) (hI := d_M_folded_0) (hi := rfl) (hl := rfl) ?_
  refine xg_getf (pc := 1) (ci := 11) (k := 1) (N := 38) (v9 := 2) (v := 54) (T := xF11) (hI := d_M_folded_1) (hw := w_1588) rfl xi11 (Or.inl rfl) (Nat.le_of_ble_eq_true rfl) (Nat.le_of_ble_eq_true rfl) rfl (ft_53 F) (fp_53_1 F) (fun f1_ => ?_)
  clear f1_
  refine xr_iload_n (pc := 4) (i := 1) (hI := d_M_folded_4) (hi := rfl) (hl := rfl) ?_
  obtain ⟨c2_, hyp⟩ := hyp
  obtain ⟨c3_, hyp⟩ := hyp
  refine xg_iaload (pc := 5) (v := (xpl h 54 x1)) (hI := d_M_folded_5) (ft_54 F) c2_ (xlt_of (fl_54 F) c3_) rfl (fun f4_ => ?_)
  replace f4_ : -2147483648 ≤ (xpl h 54 x1) ∧ (xpl h 54 x1) ≤ 2147483647 := f4_
  refine xr_bipush (pc := 6) (hI := d_M_folded_6) (hr := by decide) (hv := by decide) ?_
  refine xr_bipush (pc := 8) (hI := d_M_folded_8) (hr := by decide) (hv := by decide) ?_
  refine xq_callS (pc := 10) (index := 101) (K := m_M_isBetween) (As := [xI (xpl h 54 x1), xI 65, xI 90]) (S := []) (L0 := [xI (xpl h 54 x1), xI 65, xI 90]) (hI := d_M_folded_10) (hK := k_M_isBetween) (hlk := w_1718) (hnoM := rfl) (hS8 := Nat.le_of_ble_eq_true rfl) (hstat := w_1719) (hlen := Nat.le_of_ble_eq_true rfl) (hst := rfl) (hL0 := rfl)  ?_
  refine xr_iload_n (pc := 0) (i := 0) (hI := d_M_isBetween_0) (hi := rfl) (hl := rfl) ?_
  refine xr_iload_n (pc := 1) (i := 1) (hI := d_M_isBetween_1) (hi := rfl) (hl := rfl) ?_
  refine xr_icmp_lt (pc := 2) (tgt := 14) (hI := d_M_isBetween_2) (ht := by decide) (fun q9 => ?_) (fun q9 => ?_)
  · replace hyp := hyp.1 q9
    have q5_ := q9
    clear q9
    refine xr_iconst (pc := 14) (hI := d_M_isBetween_14) (hr := by decide) ?_
    refine xr_ireturnT (S := []) (pc := 15) (hI := d_M_isBetween_15) (hr := rfl) (xnar_z (by decide)) ?_
    show xwp G m_M_folded (d + 2) 13 [xR 53, xI x1] [xI 0] _ _ _
    refine xr_if_eq (pc := 13) (tgt := 28) (hI := d_M_folded_13) (ht := by decide) (fun q9 => ?_) (fun q9 => ?_)
    · clear q9
      refine xr_aload_n (pc := 28) (i := 0) (hI := d_M_folded_28) (hi := rfl) (hl := rfl) ?_
      refine xg_getf (pc := 29) (ci := 11) (k := 1) (N := 38) (v9 := 2) (v := 54) (T := xF11) (hI := d_M_folded_29) (hw := w_1588) rfl xi11 (Or.inl rfl) (Nat.le_of_ble_eq_true rfl) (Nat.le_of_ble_eq_true rfl) rfl (ft_53 F) (fp_53_1 F) (fun f6_ => ?_)
      clear f6_
      refine xr_iload_n (pc := 32) (i := 1) (hI := d_M_folded_32) (hi := rfl) (hl := rfl) ?_
      refine xg_iaload (pc := 33) (v := (xpl h 54 x1)) (hI := d_M_folded_33) (ft_54 F) (by clear hyp; omega) (xlt_of (fl_54 F) (by clear hyp; omega)) rfl (fun f7_ => ?_)
      replace f7_ : -2147483648 ≤ (xpl h 54 x1) ∧ (xpl h 54 x1) ≤ 2147483647 := f7_
      refine xr_ireturn (S := []) (pc := 34) (hI := d_M_folded_34) (hr := rfl) ?_
      exact hyp
    · exact absurd q9 (by decide)
  · replace hyp := hyp.2 q9
    have q5_ := q9
    clear q9
    refine xr_iload_n (pc := 5) (i := 0) (hI := d_M_isBetween_5) (hi := rfl) (hl := rfl) ?_
    refine xr_iload_n (pc := 6) (i := 2) (hI := d_M_isBetween_6) (hi := rfl) (hl := rfl) ?_
    refine xr_icmp_gt (pc := 7) (tgt := 14) (hI := d_M_isBetween_7) (ht := by decide) (fun q9 => ?_) (fun q9 => ?_)
    · replace hyp := hyp.1 q9
      have q8_ := q9
      clear q9
      refine xr_iconst (pc := 14) (hI := d_M_isBetween_14) (hr := by decide) ?_
      refine xr_ireturnT (S := []) (pc := 15) (hI := d_M_isBetween_15) (hr := rfl) (xnar_z (by decide)) ?_
      show xwp G m_M_folded (d + 2) 13 [xR 53, xI x1] [xI 0] _ _ _
      refine xr_if_eq (pc := 13) (tgt := 28) (hI := d_M_folded_13) (ht := by decide) (fun q9 => ?_) (fun q9 => ?_)
      · clear q9
        refine xr_aload_n (pc := 28) (i := 0) (hI := d_M_folded_28) (hi := rfl) (hl := rfl) ?_
        refine xg_getf (pc := 29) (ci := 11) (k := 1) (N := 38) (v9 := 2) (v := 54) (T := xF11) (hI := d_M_folded_29) (hw := w_1588) rfl xi11 (Or.inl rfl) (Nat.le_of_ble_eq_true rfl) (Nat.le_of_ble_eq_true rfl) rfl (ft_53 F) (fp_53_1 F) (fun f9_ => ?_)
        clear f9_
        refine xr_iload_n (pc := 32) (i := 1) (hI := d_M_folded_32) (hi := rfl) (hl := rfl) ?_
        refine xg_iaload (pc := 33) (v := (xpl h 54 x1)) (hI := d_M_folded_33) (ft_54 F) (by clear hyp; omega) (xlt_of (fl_54 F) (by clear hyp; omega)) rfl (fun f10_ => ?_)
        replace f10_ : -2147483648 ≤ (xpl h 54 x1) ∧ (xpl h 54 x1) ≤ 2147483647 := f10_
        refine xr_ireturn (S := []) (pc := 34) (hI := d_M_folded_34) (hr := rfl) ?_
        exact hyp
      · exact absurd q9 (by decide)
    · replace hyp := hyp.2 q9
      have q8_ := q9
      clear q9
      refine xr_iconst (pc := 10) (hI := d_M_isBetween_10) (hr := by decide) ?_
      refine xr_goto (pc := 11) (tgt := 15) (hI := d_M_isBetween_11) (ht := by decide) ?_
      refine xr_ireturnT (S := []) (pc := 15) (hI := d_M_isBetween_15) (hr := rfl) (xnar_z (by decide)) ?_
      show xwp G m_M_folded (d + 2) 13 [xR 53, xI x1] [xI 1] _ _ _
      refine xr_if_eq (pc := 13) (tgt := 28) (hI := d_M_folded_13) (ht := by decide) (fun q9 => ?_) (fun q9 => ?_)
      · exact absurd q9 (by decide)
      · clear q9
        refine xr_aload_n (pc := 16) (i := 0) (hI := d_M_folded_16) (hi := rfl) (hl := rfl) ?_
        refine xg_getf (pc := 17) (ci := 11) (k := 1) (N := 38) (v9 := 2) (v := 54) (T := xF11) (hI := d_M_folded_17) (hw := w_1588) rfl xi11 (Or.inl rfl) (Nat.le_of_ble_eq_true rfl) (Nat.le_of_ble_eq_true rfl) rfl (ft_53 F) (fp_53_1 F) (fun f11_ => ?_)
        clear f11_
        refine xr_iload_n (pc := 20) (i := 1) (hI := d_M_folded_20) (hi := rfl) (hl := rfl) ?_
        refine xg_iaload (pc := 21) (v := (xpl h 54 x1)) (hI := d_M_folded_21) (ft_54 F) (by clear hyp; omega) (xlt_of (fl_54 F) (by clear hyp; omega)) rfl (fun f12_ => ?_)
        replace f12_ : -2147483648 ≤ (xpl h 54 x1) ∧ (xpl h 54 x1) ≤ 2147483647 := f12_
        refine xr_bipush (pc := 22) (hI := d_M_folded_22) (hr := by decide) (hv := by decide) ?_
        refine xr_iadd (pc := 24) (hI := d_M_folded_24) (hr := ⟨by clear hyp; omega, by clear hyp; omega⟩) ?_
        refine xr_goto (pc := 25) (tgt := 34) (hI := d_M_folded_25) (ht := by decide) ?_
        refine xr_ireturn (S := []) (pc := 34) (hI := d_M_folded_34) (hr := rfl) ?_
        exact hyp
abbrev m_M_isOfRun : XM := (⟨"BeaconIndexModel", "isOfRun", "(I)Z"⟩, prog_14_method_10_code, 2, (some .boolean), [])
theorem d_M_isOfRun_0 : decode prog_14_method_10_code 0 = .ok (.iload_n 1, 1) := by decide +kernel
theorem d_M_isOfRun_1 : decode prog_14_method_10_code 1 = .ok (.aload_n 0, 1) := by decide +kernel
theorem d_M_isOfRun_2 : decode prog_14_method_10_code 2 = .ok (.getfield 105, 3) := by decide +kernel
theorem w_1589 : Cond.fieldLink "BeaconIndexModel" 105 "BeaconIndexModel" "size" "I" ∈ lw_tbl := List.mem_append_right _ (List.mem_of_getElem? (i := 1589) (by decide +kernel))
theorem d_M_isOfRun_5 : decode prog_14_method_10_code 5 = .ok (.if_icmp .ge 38, 3) := by decide +kernel
theorem d_M_isOfRun_43 : decode prog_14_method_10_code 43 = .ok (.iconst 0, 1) := by decide +kernel
theorem d_M_isOfRun_44 : decode prog_14_method_10_code 44 = .ok (.ireturn, 1) := by decide +kernel
theorem d_M_isOfRun_8 : decode prog_14_method_10_code 8 = .ok (.aload_n 0, 1) := by decide +kernel
theorem d_M_isOfRun_9 : decode prog_14_method_10_code 9 = .ok (.iload_n 1, 1) := by decide +kernel
theorem d_M_isOfRun_10 : decode prog_14_method_10_code 10 = .ok (.invokevirtual 108, 3) := by decide +kernel
theorem k_M_folded : xCal m_M_folded 1 := ⟨List.mem_append_right _ (List.mem_of_getElem? (i := 1764) (by decide +kernel)), w_15, Nat.le_of_ble_eq_true rfl, ⟨by decide +kernel, by decide +kernel⟩, by decide +kernel, by decide +kernel, rfl⟩
theorem w_1761 : Cond.methodLink "BeaconIndexModel" 108 ⟨"BeaconIndexModel", "folded", "(I)I"⟩ ∈ lw_tbl := List.mem_append_right _ (List.mem_of_getElem? (i := 1761) (by decide +kernel))
theorem w_1763 : Cond.instanceMethod ⟨"BeaconIndexModel", "folded", "(I)I"⟩ ∈ lw_tbl := List.mem_append_right _ (List.mem_of_getElem? (i := 1763) (by decide +kernel))
theorem sel_M_folded : Cond.selects "BeaconIndexModel" ⟨"BeaconIndexModel", "folded", "(I)I"⟩ ⟨"BeaconIndexModel", "folded", "(I)I"⟩ ∈ lw_tbl := List.mem_append_left _ (by decide +kernel)
theorem v_M_isOfRun_0 {G : XG} {d : Nat} {h : XH} {Q : XV → XH → Prop} {X : Nat → XH → Prop} {x1 : Int} (F : xFix h) (hyp : (((xpl h 53 2) ≤ x1 → (Q (xI 0) h)) ∧ (¬ (xpl h 53 2) ≤ x1 → (xwp G m_M_folded (d + 2) 0 [xR 53, xI x1] [] h (fun v9 h9 => xwp G m_M_isOfRun (d + 3) 13 [xR 53, xI x1] (xpush v9 []) h9 Q X) X)))) : xwp G m_M_isOfRun (d + 3) 0 [xR 53, xI x1] [] h Q X := by
  have hnx9 : (93 : Int) ≤ xnx h := F.2.2
  refine xr_okL (fun hl9 => ?_)
  have r_x1 : -2147483648 ≤ x1 ∧ x1 ≤ 2147483647 := hl9 (xI x1) (.tail _ (.head _)) (Nat.le_of_ble_eq_true rfl)
  refine xr_iload_n (pc := 0) (i := 1) (hI := d_M_isOfRun_0) (hi := rfl) (hl := rfl) ?_
  refine xr_aload_n (pc := 1) (i := 0) (hI := d_M_isOfRun_1) (hi := rfl) (hl := rfl) ?_
  refine xg_getf (pc := 2) (ci := 11) (k := 2) (N := 38) (v9 := 0) (v := (xpl h 53 2)) (T := xF11) (hI := d_M_isOfRun_2) (hw := w_1589) rfl xi11 (Or.inl rfl) (Nat.le_of_ble_eq_true rfl) (Nat.le_of_ble_eq_true rfl) rfl (ft_53 F) rfl (fun f1_ => ?_)
  replace f1_ : -2147483648 ≤ (xpl h 53 2) ∧ (xpl h 53 2) ≤ 2147483647 := f1_
  refine xr_icmp_ge (pc := 5) (tgt := 43) (hI := d_M_isOfRun_5) (ht := by decide) (fun q9 => ?_) (fun q9 => ?_)
  · replace hyp := hyp.1 q9
    have q2_ := q9
    clear q9
    refine xr_iconst (pc := 43) (hI := d_M_isOfRun_43) (hr := by decide) ?_
    refine xr_ireturnT (S := []) (pc := 44) (hI := d_M_isOfRun_44) (hr := rfl) (xnar_z (by decide)) ?_
    exact hyp
  · replace hyp := hyp.2 q9
    have q2_ := q9
    clear q9
    refine xr_aload_n (pc := 8) (i := 0) (hI := d_M_isOfRun_8) (hi := rfl) (hl := rfl) ?_
    refine xr_iload_n (pc := 9) (i := 1) (hI := d_M_isOfRun_9) (hi := rfl) (hl := rfl) ?_
    exact xq_callV (pc := 10) (index := 108) (K := m_M_folded) (As := [xI x1]) (S := []) (L0 := [xR 53, xI x1]) (hI := d_M_isOfRun_10) (hK := k_M_folded) (hlk := w_1761) (hnoM := rfl) (hS8 := Nat.le_of_ble_eq_true rfl) (ci := 11) (N := 38) (C := "BeaconIndexModel") (T := xF11) (hc := rfl) (hci := Nat.le_of_ble_eq_true rfl) (htb := (ft_53 F)) (hinst := w_1763) (hsel := sel_M_folded) (hlen := Nat.le_of_ble_eq_true rfl) (hst := rfl) (hL0 := rfl)  hyp
theorem d_M_isOfRun_13 : decode prog_14_method_10_code 13 = .ok (.bipush 97, 2) := by decide +kernel
theorem d_M_isOfRun_15 : decode prog_14_method_10_code 15 = .ok (.bipush 122, 2) := by decide +kernel
theorem d_M_isOfRun_17 : decode prog_14_method_10_code 17 = .ok (.invokestatic 101, 3) := by decide +kernel
theorem d_M_isOfRun_20 : decode prog_14_method_10_code 20 = .ok (.ifCond .ne 19, 3) := by decide +kernel
theorem d_M_isOfRun_23 : decode prog_14_method_10_code 23 = .ok (.aload_n 0, 1) := by decide +kernel
theorem d_M_isOfRun_24 : decode prog_14_method_10_code 24 = .ok (.getfield 9, 3) := by decide +kernel
theorem d_M_isOfRun_27 : decode prog_14_method_10_code 27 = .ok (.iload_n 1, 1) := by decide +kernel
theorem d_M_isOfRun_28 : decode prog_14_method_10_code 28 = .ok (.iaload, 1) := by decide +kernel
theorem d_M_isOfRun_29 : decode prog_14_method_10_code 29 = .ok (.bipush 48, 2) := by decide +kernel
theorem d_M_isOfRun_31 : decode prog_14_method_10_code 31 = .ok (.bipush 57, 2) := by decide +kernel
theorem d_M_isOfRun_33 : decode prog_14_method_10_code 33 = .ok (.invokestatic 101, 3) := by decide +kernel
theorem d_M_isOfRun_36 : decode prog_14_method_10_code 36 = .ok (.ifCond .eq 7, 3) := by decide +kernel
theorem d_M_isOfRun_39 : decode prog_14_method_10_code 39 = .ok (.iconst 1, 1) := by decide +kernel
theorem d_M_isOfRun_40 : decode prog_14_method_10_code 40 = .ok (.goto 4, 3) := by decide +kernel
theorem v_M_isOfRun_13 {G : XG} {d : Nat} {h : XH} {Q : XV → XH → Prop} {X : Nat → XH → Prop} {x1 s0 : Int} (F : xFix h) (hyp : ((s0 < 97 → 0 ≤ x1 ∧ x1 < 400 ∧ (((xpl h 54 x1) < 48 → (Q (xI 0) h)) ∧ (¬ (xpl h 54 x1) < 48 → (((57 : Int) < (xpl h 54 x1) → (Q (xI 0) h)) ∧ (¬ (57 : Int) < (xpl h 54 x1) → (Q (xI 1) h)))))) ∧ (¬ s0 < 97 → (((122 : Int) < s0 → 0 ≤ x1 ∧ x1 < 400 ∧ (((xpl h 54 x1) < 48 → (Q (xI 0) h)) ∧ (¬ (xpl h 54 x1) < 48 → (((57 : Int) < (xpl h 54 x1) → (Q (xI 0) h)) ∧ (¬ (57 : Int) < (xpl h 54 x1) → (Q (xI 1) h)))))) ∧ (¬ (122 : Int) < s0 → (Q (xI 1) h)))))) : xwp G m_M_isOfRun (d + 3) 13 [xR 53, xI x1] [xI s0] h Q X := by
  have hnx9 : (93 : Int) ≤ xnx h := F.2.2
  refine xr_okL (fun hl9 => ?_)
  have r_x1 : -2147483648 ≤ x1 ∧ x1 ≤ 2147483647 := hl9 (xI x1) (.tail _ (.head _)) (Nat.le_of_ble_eq_true rfl)
  refine xr_okS (fun hs9 => ?_)
  have r_s0 : -2147483648 ≤ s0 ∧ s0 ≤ 2147483647 := hs9 (xI s0) (.head _)
  refine xr_bipush (pc := 13) (hI := d_M_isOfRun_13) (hr := by decide) (hv := by decide) ?_
  refine xr_bipush (pc := 15) (hI := d_M_isOfRun_15) (hr := by decide) (hv := by decide) ?_
  refine xq_callS (pc := 17) (index := 101) (K := m_M_isBetween) (As := [xI s0, xI 97, xI 122]) (S := []) (L0 := [xI s0, xI 97, xI 122]) (hI := d_M_isOfRun_17) (hK := k_M_isBetween) (hlk := w_1718) (hnoM := rfl) (hS8 := Nat.le_of_ble_eq_true rfl) (hstat := w_1719) (hlen := Nat.le_of_ble_eq_true rfl) (hst := rfl) (hL0 := rfl)  ?_
  refine xr_iload_n (pc := 0) (i := 0) (hI := d_M_isBetween_0) (hi := rfl) (hl := rfl) ?_
  refine xr_iload_n (pc := 1) (i := 1) (hI := d_M_isBetween_1) (hi := rfl) (hl := rfl) ?_
  refine xr_icmp_lt (pc := 2) (tgt := 14) (hI := d_M_isBetween_2) (ht := by decide) (fun q9 => ?_) (fun q9 => ?_)
  · replace hyp := hyp.1 q9
    have q1_ := q9
    clear q9
    refine xr_iconst (pc := 14) (hI := d_M_isBetween_14) (hr := by decide) ?_
    refine xr_ireturnT (S := []) (pc := 15) (hI := d_M_isBetween_15) (hr := rfl) (xnar_z (by decide)) ?_
    show xwp G m_M_isOfRun (d + 3) 20 [xR 53, xI x1] [xI 0] _ _ _
    refine xr_if_ne (pc := 20) (tgt := 39) (hI := d_M_isOfRun_20) (ht := by decide) (fun q9 => ?_) (fun q9 => ?_)
    · exact absurd q9 (by decide)
    · clear q9
      refine xr_aload_n (pc := 23) (i := 0) (hI := d_M_isOfRun_23) (hi := rfl) (hl := rfl) ?_
      refine xg_getf (pc := 24) (ci := 11) (k := 1) (N := 38) (v9 := 2) (v := 54) (T := xF11) (hI := d_M_isOfRun_24) (hw := w_1588) rfl xi11 (Or.inl rfl) (Nat.le_of_ble_eq_true rfl) (Nat.le_of_ble_eq_true rfl) rfl (ft_53 F) (fp_53_1 F) (fun f2_ => ?_)
      clear f2_
      refine xr_iload_n (pc := 27) (i := 1) (hI := d_M_isOfRun_27) (hi := rfl) (hl := rfl) ?_
      obtain ⟨c3_, hyp⟩ := hyp
      obtain ⟨c4_, hyp⟩ := hyp
      refine xg_iaload (pc := 28) (v := (xpl h 54 x1)) (hI := d_M_isOfRun_28) (ft_54 F) c3_ (xlt_of (fl_54 F) c4_) rfl (fun f5_ => ?_)
      replace f5_ : -2147483648 ≤ (xpl h 54 x1) ∧ (xpl h 54 x1) ≤ 2147483647 := f5_
      refine xr_bipush (pc := 29) (hI := d_M_isOfRun_29) (hr := by decide) (hv := by decide) ?_
      refine xr_bipush (pc := 31) (hI := d_M_isOfRun_31) (hr := by decide) (hv := by decide) ?_
      refine xq_callS (pc := 33) (index := 101) (K := m_M_isBetween) (As := [xI (xpl h 54 x1), xI 48, xI 57]) (S := []) (L0 := [xI (xpl h 54 x1), xI 48, xI 57]) (hI := d_M_isOfRun_33) (hK := k_M_isBetween) (hlk := w_1718) (hnoM := rfl) (hS8 := Nat.le_of_ble_eq_true rfl) (hstat := w_1719) (hlen := Nat.le_of_ble_eq_true rfl) (hst := rfl) (hL0 := rfl)  ?_
      refine xr_iload_n (pc := 0) (i := 0) (hI := d_M_isBetween_0) (hi := rfl) (hl := rfl) ?_
      refine xr_iload_n (pc := 1) (i := 1) (hI := d_M_isBetween_1) (hi := rfl) (hl := rfl) ?_
      refine xr_icmp_lt (pc := 2) (tgt := 14) (hI := d_M_isBetween_2) (ht := by decide) (fun q9 => ?_) (fun q9 => ?_)
      · replace hyp := hyp.1 q9
        have q6_ := q9
        clear q9
        refine xr_iconst (pc := 14) (hI := d_M_isBetween_14) (hr := by decide) ?_
        refine xr_ireturnT (S := []) (pc := 15) (hI := d_M_isBetween_15) (hr := rfl) (xnar_z (by decide)) ?_
        show xwp G m_M_isOfRun (d + 3) 36 [xR 53, xI x1] [xI 0] _ _ _
        refine xr_if_eq (pc := 36) (tgt := 43) (hI := d_M_isOfRun_36) (ht := by decide) (fun q9 => ?_) (fun q9 => ?_)
        · clear q9
          refine xr_iconst (pc := 43) (hI := d_M_isOfRun_43) (hr := by decide) ?_
          refine xr_ireturnT (S := []) (pc := 44) (hI := d_M_isOfRun_44) (hr := rfl) (xnar_z (by decide)) ?_
          exact hyp
        · exact absurd q9 (by decide)
      · replace hyp := hyp.2 q9
        have q6_ := q9
        clear q9
        refine xr_iload_n (pc := 5) (i := 0) (hI := d_M_isBetween_5) (hi := rfl) (hl := rfl) ?_
        refine xr_iload_n (pc := 6) (i := 2) (hI := d_M_isBetween_6) (hi := rfl) (hl := rfl) ?_
        refine xr_icmp_gt (pc := 7) (tgt := 14) (hI := d_M_isBetween_7) (ht := by decide) (fun q9 => ?_) (fun q9 => ?_)
        · replace hyp := hyp.1 q9
          have q7_ := q9
          clear q9
          refine xr_iconst (pc := 14) (hI := d_M_isBetween_14) (hr := by decide) ?_
          refine xr_ireturnT (S := []) (pc := 15) (hI := d_M_isBetween_15) (hr := rfl) (xnar_z (by decide)) ?_
          show xwp G m_M_isOfRun (d + 3) 36 [xR 53, xI x1] [xI 0] _ _ _
          refine xr_if_eq (pc := 36) (tgt := 43) (hI := d_M_isOfRun_36) (ht := by decide) (fun q9 => ?_) (fun q9 => ?_)
          · clear q9
            refine xr_iconst (pc := 43) (hI := d_M_isOfRun_43) (hr := by decide) ?_
            refine xr_ireturnT (S := []) (pc := 44) (hI := d_M_isOfRun_44) (hr := rfl) (xnar_z (by decide)) ?_
            exact hyp
          · exact absurd q9 (by decide)
        · replace hyp := hyp.2 q9
          have q7_ := q9
          clear q9
          refine xr_iconst (pc := 10) (hI := d_M_isBetween_10) (hr := by decide) ?_
          refine xr_goto (pc := 11) (tgt := 15) (hI := d_M_isBetween_11) (ht := by decide) ?_
          refine xr_ireturnT (S := []) (pc := 15) (hI := d_M_isBetween_15) (hr := rfl) (xnar_z (by decide)) ?_
          show xwp G m_M_isOfRun (d + 3) 36 [xR 53, xI x1] [xI 1] _ _ _
          refine xr_if_eq (pc := 36) (tgt := 43) (hI := d_M_isOfRun_36) (ht := by decide) (fun q9 => ?_) (fun q9 => ?_)
          · exact absurd q9 (by decide)
          · clear q9
            refine xr_iconst (pc := 39) (hI := d_M_isOfRun_39) (hr := by decide) ?_
            refine xr_goto (pc := 40) (tgt := 44) (hI := d_M_isOfRun_40) (ht := by decide) ?_
            refine xr_ireturnT (S := []) (pc := 44) (hI := d_M_isOfRun_44) (hr := rfl) (xnar_z (by decide)) ?_
            exact hyp
  · replace hyp := hyp.2 q9
    have q1_ := q9
    clear q9
    refine xr_iload_n (pc := 5) (i := 0) (hI := d_M_isBetween_5) (hi := rfl) (hl := rfl) ?_
    refine xr_iload_n (pc := 6) (i := 2) (hI := d_M_isBetween_6) (hi := rfl) (hl := rfl) ?_
    refine xr_icmp_gt (pc := 7) (tgt := 14) (hI := d_M_isBetween_7) (ht := by decide) (fun q9 => ?_) (fun q9 => ?_)
    · replace hyp := hyp.1 q9
      have q8_ := q9
      clear q9
      refine xr_iconst (pc := 14) (hI := d_M_isBetween_14) (hr := by decide) ?_
      refine xr_ireturnT (S := []) (pc := 15) (hI := d_M_isBetween_15) (hr := rfl) (xnar_z (by decide)) ?_
      show xwp G m_M_isOfRun (d + 3) 20 [xR 53, xI x1] [xI 0] _ _ _
      refine xr_if_ne (pc := 20) (tgt := 39) (hI := d_M_isOfRun_20) (ht := by decide) (fun q9 => ?_) (fun q9 => ?_)
      · exact absurd q9 (by decide)
      · clear q9
        refine xr_aload_n (pc := 23) (i := 0) (hI := d_M_isOfRun_23) (hi := rfl) (hl := rfl) ?_
        refine xg_getf (pc := 24) (ci := 11) (k := 1) (N := 38) (v9 := 2) (v := 54) (T := xF11) (hI := d_M_isOfRun_24) (hw := w_1588) rfl xi11 (Or.inl rfl) (Nat.le_of_ble_eq_true rfl) (Nat.le_of_ble_eq_true rfl) rfl (ft_53 F) (fp_53_1 F) (fun f9_ => ?_)
        clear f9_
        refine xr_iload_n (pc := 27) (i := 1) (hI := d_M_isOfRun_27) (hi := rfl) (hl := rfl) ?_
        obtain ⟨c10_, hyp⟩ := hyp
        obtain ⟨c11_, hyp⟩ := hyp
        refine xg_iaload (pc := 28) (v := (xpl h 54 x1)) (hI := d_M_isOfRun_28) (ft_54 F) c10_ (xlt_of (fl_54 F) c11_) rfl (fun f12_ => ?_)
        replace f12_ : -2147483648 ≤ (xpl h 54 x1) ∧ (xpl h 54 x1) ≤ 2147483647 := f12_
        refine xr_bipush (pc := 29) (hI := d_M_isOfRun_29) (hr := by decide) (hv := by decide) ?_
        refine xr_bipush (pc := 31) (hI := d_M_isOfRun_31) (hr := by decide) (hv := by decide) ?_
        refine xq_callS (pc := 33) (index := 101) (K := m_M_isBetween) (As := [xI (xpl h 54 x1), xI 48, xI 57]) (S := []) (L0 := [xI (xpl h 54 x1), xI 48, xI 57]) (hI := d_M_isOfRun_33) (hK := k_M_isBetween) (hlk := w_1718) (hnoM := rfl) (hS8 := Nat.le_of_ble_eq_true rfl) (hstat := w_1719) (hlen := Nat.le_of_ble_eq_true rfl) (hst := rfl) (hL0 := rfl)  ?_
        refine xr_iload_n (pc := 0) (i := 0) (hI := d_M_isBetween_0) (hi := rfl) (hl := rfl) ?_
        refine xr_iload_n (pc := 1) (i := 1) (hI := d_M_isBetween_1) (hi := rfl) (hl := rfl) ?_
        refine xr_icmp_lt (pc := 2) (tgt := 14) (hI := d_M_isBetween_2) (ht := by decide) (fun q9 => ?_) (fun q9 => ?_)
        · replace hyp := hyp.1 q9
          have q13_ := q9
          clear q9
          refine xr_iconst (pc := 14) (hI := d_M_isBetween_14) (hr := by decide) ?_
          refine xr_ireturnT (S := []) (pc := 15) (hI := d_M_isBetween_15) (hr := rfl) (xnar_z (by decide)) ?_
          show xwp G m_M_isOfRun (d + 3) 36 [xR 53, xI x1] [xI 0] _ _ _
          refine xr_if_eq (pc := 36) (tgt := 43) (hI := d_M_isOfRun_36) (ht := by decide) (fun q9 => ?_) (fun q9 => ?_)
          · clear q9
            refine xr_iconst (pc := 43) (hI := d_M_isOfRun_43) (hr := by decide) ?_
            refine xr_ireturnT (S := []) (pc := 44) (hI := d_M_isOfRun_44) (hr := rfl) (xnar_z (by decide)) ?_
            exact hyp
          · exact absurd q9 (by decide)
        · replace hyp := hyp.2 q9
          have q13_ := q9
          clear q9
          refine xr_iload_n (pc := 5) (i := 0) (hI := d_M_isBetween_5) (hi := rfl) (hl := rfl) ?_
          refine xr_iload_n (pc := 6) (i := 2) (hI := d_M_isBetween_6) (hi := rfl) (hl := rfl) ?_
          refine xr_icmp_gt (pc := 7) (tgt := 14) (hI := d_M_isBetween_7) (ht := by decide) (fun q9 => ?_) (fun q9 => ?_)
          · replace hyp := hyp.1 q9
            have q14_ := q9
            clear q9
            refine xr_iconst (pc := 14) (hI := d_M_isBetween_14) (hr := by decide) ?_
            refine xr_ireturnT (S := []) (pc := 15) (hI := d_M_isBetween_15) (hr := rfl) (xnar_z (by decide)) ?_
            show xwp G m_M_isOfRun (d + 3) 36 [xR 53, xI x1] [xI 0] _ _ _
            refine xr_if_eq (pc := 36) (tgt := 43) (hI := d_M_isOfRun_36) (ht := by decide) (fun q9 => ?_) (fun q9 => ?_)
            · clear q9
              refine xr_iconst (pc := 43) (hI := d_M_isOfRun_43) (hr := by decide) ?_
              refine xr_ireturnT (S := []) (pc := 44) (hI := d_M_isOfRun_44) (hr := rfl) (xnar_z (by decide)) ?_
              exact hyp
            · exact absurd q9 (by decide)
          · replace hyp := hyp.2 q9
            have q14_ := q9
            clear q9
            refine xr_iconst (pc := 10) (hI := d_M_isBetween_10) (hr := by decide) ?_
            refine xr_goto (pc := 11) (tgt := 15) (hI := d_M_isBetween_11) (ht := by decide) ?_
            refine xr_ireturnT (S := []) (pc := 15) (hI := d_M_isBetween_15) (hr := rfl) (xnar_z (by decide)) ?_
            show xwp G m_M_isOfRun (d + 3) 36 [xR 53, xI x1] [xI 1] _ _ _
            refine xr_if_eq (pc := 36) (tgt := 43) (hI := d_M_isOfRun_36) (ht := by decide) (fun q9 => ?_) (fun q9 => ?_)
            · exact absurd q9 (by decide)
            · clear q9
              refine xr_iconst (pc := 39) (hI := d_M_isOfRun_39) (hr := by decide) ?_
              refine xr_goto (pc := 40) (tgt := 44) (hI := d_M_isOfRun_40) (ht := by decide) ?_
              refine xr_ireturnT (S := []) (pc := 44) (hI := d_M_isOfRun_44) (hr := rfl) (xnar_z (by decide)) ?_
              exact hyp
    · replace hyp := hyp.2 q9
      have q8_ := q9
      clear q9
      refine xr_iconst (pc := 10) (hI := d_M_isBetween_10) (hr := by decide) ?_
      refine xr_goto (pc := 11) (tgt := 15) (hI := d_M_isBetween_11) (ht := by decide) ?_
      refine xr_ireturnT (S := []) (pc := 15) (hI := d_M_isBetween_15) (hr := rfl) (xnar_z (by decide)) ?_
      show xwp G m_M_isOfRun (d + 3) 20 [xR 53, xI x1] [xI 1] _ _ _
      refine xr_if_ne (pc := 20) (tgt := 39) (hI := d_M_isOfRun_20) (ht := by decide) (fun q9 => ?_) (fun q9 => ?_)
      · clear q9
        refine xr_iconst (pc := 39) (hI := d_M_isOfRun_39) (hr := by decide) ?_
        refine xr_goto (pc := 40) (tgt := 44) (hI := d_M_isOfRun_40) (ht := by decide) ?_
        refine xr_ireturnT (S := []) (pc := 44) (hI := d_M_isOfRun_44) (hr := rfl) (xnar_z (by decide)) ?_
        exact hyp
      · exact absurd q9 (by decide)
abbrev m_M_runLength : XM := (⟨"BeaconIndexModel", "runLength", "(I)I"⟩, prog_14_method_11_code, 3, (some .int), [])
theorem d_M_runLength_0 : decode prog_14_method_11_code 0 = .ok (.iconst 0, 1) := by decide +kernel
theorem d_M_runLength_1 : decode prog_14_method_11_code 1 = .ok (.istore_n 2, 1) := by decide +kernel
theorem v_M_runLength_0 {G : XG} {d : Nat} {h : XH} {Q : XV → XH → Prop} {X : Nat → XH → Prop} {x1 : Int} (F : xFix h) (hyp : (xwp G m_M_runLength (d + 4) 2 [xR 53, xI x1, xI 0] [] h Q X)) : xwp G m_M_runLength (d + 4) 0 [xR 53, xI x1, xZ] [] h Q X := by
  have hnx9 : (93 : Int) ≤ xnx h := F.2.2
  refine xr_okL (fun hl9 => ?_)
  have r_x1 : -2147483648 ≤ x1 ∧ x1 ≤ 2147483647 := hl9 (xI x1) (.tail _ (.head _)) (Nat.le_of_ble_eq_true rfl)
  refine xr_iconst (pc := 0) (hI := d_M_runLength_0) (hr := by decide) ?_
  refine xr_istore_n (pc := 1) (i := 2) (L9 := [xR 53, xI x1, xI 0]) (hI := d_M_runLength_1) (hi := rfl) (hn := Nat.le_of_ble_eq_true rfl) (hL9 := rfl) ?_
  exact hyp
theorem d_M_runLength_2 : decode prog_14_method_11_code 2 = .ok (.aload_n 0, 1) := by decide +kernel
theorem d_M_runLength_3 : decode prog_14_method_11_code 3 = .ok (.iload_n 1, 1) := by decide +kernel
theorem d_M_runLength_4 : decode prog_14_method_11_code 4 = .ok (.iload_n 2, 1) := by decide +kernel
theorem d_M_runLength_5 : decode prog_14_method_11_code 5 = .ok (.iadd, 1) := by decide +kernel
theorem d_M_runLength_6 : decode prog_14_method_11_code 6 = .ok (.invokevirtual 112, 3) := by decide +kernel
theorem k_M_isOfRun : xCal m_M_isOfRun 1 := ⟨List.mem_append_right _ (List.mem_of_getElem? (i := 1760) (by decide +kernel)), w_15, Nat.le_of_ble_eq_true rfl, ⟨by decide +kernel, by decide +kernel⟩, by decide +kernel, by decide +kernel, rfl⟩
theorem w_1757 : Cond.methodLink "BeaconIndexModel" 112 ⟨"BeaconIndexModel", "isOfRun", "(I)Z"⟩ ∈ lw_tbl := List.mem_append_right _ (List.mem_of_getElem? (i := 1757) (by decide +kernel))
theorem w_1759 : Cond.instanceMethod ⟨"BeaconIndexModel", "isOfRun", "(I)Z"⟩ ∈ lw_tbl := List.mem_append_right _ (List.mem_of_getElem? (i := 1759) (by decide +kernel))
theorem sel_M_isOfRun : Cond.selects "BeaconIndexModel" ⟨"BeaconIndexModel", "isOfRun", "(I)Z"⟩ ⟨"BeaconIndexModel", "isOfRun", "(I)Z"⟩ ∈ lw_tbl := List.mem_append_left _ (by decide +kernel)
theorem v_M_runLength_2 {G : XG} {d : Nat} {h : XH} {Q : XV → XH → Prop} {X : Nat → XH → Prop} {x1 x2 : Int} (F : xFix h) (hyp : xiR (x1 + x2) ∧ (xwp G m_M_isOfRun (d + 3) 0 [xR 53, xI (x1 + x2)] [] h (fun v9 h9 => xwp G m_M_runLength (d + 4) 9 [xR 53, xI x1, xI x2] (xpush v9 []) h9 Q X) X)) : xwp G m_M_runLength (d + 4) 2 [xR 53, xI x1, xI x2] [] h Q X := by
  have hnx9 : (93 : Int) ≤ xnx h := F.2.2
  refine xr_okL (fun hl9 => ?_)
  have r_x1 : -2147483648 ≤ x1 ∧ x1 ≤ 2147483647 := hl9 (xI x1) (.tail _ (.head _)) (Nat.le_of_ble_eq_true rfl)
  have r_x2 : -2147483648 ≤ x2 ∧ x2 ≤ 2147483647 := hl9 (xI x2) (.tail _ (.tail _ (.head _))) (Nat.le_of_ble_eq_true rfl)
  refine xr_aload_n (pc := 2) (i := 0) (hI := d_M_runLength_2) (hi := rfl) (hl := rfl) ?_
  refine xr_iload_n (pc := 3) (i := 1) (hI := d_M_runLength_3) (hi := rfl) (hl := rfl) ?_
  refine xr_iload_n (pc := 4) (i := 2) (hI := d_M_runLength_4) (hi := rfl) (hl := rfl) ?_
  obtain ⟨c9, hyp⟩ := hyp
  refine xr_iadd (pc := 5) (hI := d_M_runLength_5) (hr := c9) ?_
  exact xq_callV (pc := 6) (index := 112) (K := m_M_isOfRun) (As := [xI (x1 + x2)]) (S := []) (L0 := [xR 53, xI (x1 + x2)]) (hI := d_M_runLength_6) (hK := k_M_isOfRun) (hlk := w_1757) (hnoM := rfl) (hS8 := Nat.le_of_ble_eq_true rfl) (ci := 11) (N := 38) (C := "BeaconIndexModel") (T := xF11) (hc := rfl) (hci := Nat.le_of_ble_eq_true rfl) (htb := (ft_53 F)) (hinst := w_1759) (hsel := sel_M_isOfRun) (hlen := Nat.le_of_ble_eq_true rfl) (hst := rfl) (hL0 := rfl)  hyp
theorem d_M_runLength_9 : decode prog_14_method_11_code 9 = .ok (.ifCond .eq 9, 3) := by decide +kernel
theorem d_M_runLength_18 : decode prog_14_method_11_code 18 = .ok (.iload_n 2, 1) := by decide +kernel
theorem d_M_runLength_19 : decode prog_14_method_11_code 19 = .ok (.ireturn, 1) := by decide +kernel
theorem d_M_runLength_12 : decode prog_14_method_11_code 12 = .ok (.iinc 2 1, 3) := by decide +kernel
theorem d_M_runLength_15 : decode prog_14_method_11_code 15 = .ok (.goto (-13), 3) := by decide +kernel
theorem v_M_runLength_9 {G : XG} {d : Nat} {h : XH} {Q : XV → XH → Prop} {X : Nat → XH → Prop} {x1 x2 s0 : Int} (F : xFix h) (hyp : ((s0 = 0 → (Q (xI x2) h)) ∧ (¬ s0 = 0 → xiR (x2 + 1) ∧ (xwp G m_M_runLength (d + 4) 2 [xR 53, xI x1, xI (x2 + 1)] [] h Q X)))) : xwp G m_M_runLength (d + 4) 9 [xR 53, xI x1, xI x2] [xI s0] h Q X := by
  have hnx9 : (93 : Int) ≤ xnx h := F.2.2
  refine xr_okL (fun hl9 => ?_)
  have r_x1 : -2147483648 ≤ x1 ∧ x1 ≤ 2147483647 := hl9 (xI x1) (.tail _ (.head _)) (Nat.le_of_ble_eq_true rfl)
  have r_x2 : -2147483648 ≤ x2 ∧ x2 ≤ 2147483647 := hl9 (xI x2) (.tail _ (.tail _ (.head _))) (Nat.le_of_ble_eq_true rfl)
  refine xr_okS (fun hs9 => ?_)
  have r_s0 : -2147483648 ≤ s0 ∧ s0 ≤ 2147483647 := hs9 (xI s0) (.head _)
  refine xr_if_eq (pc := 9) (tgt := 18) (hI := d_M_runLength_9) (ht := by decide) (fun q9 => ?_) (fun q9 => ?_)
  · replace hyp := hyp.1 q9
    have q1_ := q9
    clear q9
    refine xr_iload_n (pc := 18) (i := 2) (hI := d_M_runLength_18) (hi := rfl) (hl := rfl) ?_
    refine xr_ireturn (S := []) (pc := 19) (hI := d_M_runLength_19) (hr := rfl) ?_
    exact hyp
  · replace hyp := hyp.2 q9
    have q1_ := q9
    clear q9
    obtain ⟨c9, hyp⟩ := hyp
    refine xr_iinc (pc := 12) (i := 2) (L9 := [xR 53, xI x1, xI (x2 + 1)]) (hI := d_M_runLength_12) (hl := rfl) (hn := Nat.le_of_ble_eq_true rfl) (hr := c9) (hL9 := rfl) ?_
    refine xr_goto (pc := 15) (tgt := 2) (hI := d_M_runLength_15) (ht := by decide) ?_
    exact hyp
abbrev m_M_isRun : XM := (⟨"BeaconIndexModel", "isRun", "(IILjava/lang/String;)Z"⟩, prog_14_method_12_code, 5, (some .boolean), [])
theorem d_M_isRun_0 : decode prog_14_method_12_code 0 = .ok (.iload_n 2, 1) := by decide +kernel
theorem d_M_isRun_1 : decode prog_14_method_12_code 1 = .ok (.aload_n 3, 1) := by decide +kernel
theorem d_M_isRun_2 : decode prog_14_method_12_code 2 = .ok (.invokevirtual 116, 3) := by decide +kernel
theorem w_1775 : Cond.methodLink "BeaconIndexModel" 116 ⟨"java/lang/String", "length", "()I"⟩ ∈ lw_tbl := List.mem_append_right _ (List.mem_of_getElem? (i := 1775) (by decide +kernel))
theorem d_M_isRun_5 : decode prog_14_method_12_code 5 = .ok (.if_icmp .eq 5, 3) := by decide +kernel
theorem d_M_isRun_10 : decode prog_14_method_12_code 10 = .ok (.iconst 0, 1) := by decide +kernel
theorem d_M_isRun_11 : decode prog_14_method_12_code 11 = .ok (.istore 4, 2) := by decide +kernel
theorem d_M_isRun_8 : decode prog_14_method_12_code 8 = .ok (.iconst 0, 1) := by decide +kernel
theorem d_M_isRun_9 : decode prog_14_method_12_code 9 = .ok (.ireturn, 1) := by decide +kernel
theorem v_M_isRun_0 {G : XG} {d : Nat} {h : XH} {Q : XV → XH → Prop} {X : Nat → XH → Prop} {x1 x2 x3 : Int} (F : xFix h) (hyp : xtg h x3 = 14 ∧ strOK h x3 ∧ ((x2 = (stl h x3) → (xwp G m_M_isRun (d + 6) 13 [xR 53, xI x1, xI x2, xR x3, xI 0] [] h Q X)) ∧ (¬ x2 = (stl h x3) → (Q (xI 0) h)))) : xwp G m_M_isRun (d + 6) 0 [xR 53, xI x1, xI x2, xR x3, xZ] [] h Q X := by
  have hnx9 : (93 : Int) ≤ xnx h := F.2.2
  refine xr_okL (fun hl9 => ?_)
  have r_x1 : -2147483648 ≤ x1 ∧ x1 ≤ 2147483647 := hl9 (xI x1) (.tail _ (.head _)) (Nat.le_of_ble_eq_true rfl)
  have r_x2 : -2147483648 ≤ x2 ∧ x2 ≤ 2147483647 := hl9 (xI x2) (.tail _ (.tail _ (.head _))) (Nat.le_of_ble_eq_true rfl)
  refine xr_iload_n (pc := 0) (i := 2) (hI := d_M_isRun_0) (hi := rfl) (hl := rfl) ?_
  refine xr_aload_n (pc := 1) (i := 3) (hI := d_M_isRun_1) (hi := rfl) (hl := rfl) ?_
  obtain ⟨c9, hyp⟩ := hyp
  have t1_ := c9
  clear c9
  obtain ⟨c2_, hyp⟩ := hyp
  refine xq_callV (pc := 2) (index := 116) (K := m_String_length) (As := []) (S := [xI x2]) (L0 := [xR x3]) (hI := d_M_isRun_2) (hK := k_String_length) (hlk := w_1775) (hnoM := rfl) (hS8 := Nat.le_of_ble_eq_true rfl) (ci := 14) (N := 2) (C := "java/lang/String") (T := xF14) (hc := rfl) (hci := Nat.le_of_ble_eq_true rfl) (htb := t1_) (hinst := w_812) (hsel := w_813) (hlen := Nat.le_of_ble_eq_true rfl) (hst := rfl) (hL0 := rfl)  (p_String_len F c2_ ?_)
  show xwp G m_M_isRun (d + 6) 5 [xR 53, xI x1, xI x2, xR x3, xZ] [xI (stl h x3), xI x2] _ _ _
  have f3_ : 0 ≤ (stl h x3) ∧ (stl h x3) ≤ 1000 := ⟨c2_.2.1, c2_.2.2.1⟩
  refine xr_icmp_eq (pc := 5) (tgt := 10) (hI := d_M_isRun_5) (ht := by decide) (fun q9 => ?_) (fun q9 => ?_)
  · replace hyp := hyp.1 q9
    have q4_ := q9
    clear q9
    refine xr_iconst (pc := 10) (hI := d_M_isRun_10) (hr := by decide) ?_
    refine xr_istore (pc := 11) (i := 4) (L9 := [xR 53, xI x1, xI x2, xR x3, xI 0]) (hI := d_M_isRun_11) (hn := Nat.le_of_ble_eq_true rfl) (hL9 := rfl) ?_
    exact hyp
  · replace hyp := hyp.2 q9
    have q4_ := q9
    clear q9
    refine xr_iconst (pc := 8) (hI := d_M_isRun_8) (hr := by decide) ?_
    refine xr_ireturnT (S := []) (pc := 9) (hI := d_M_isRun_9) (hr := rfl) (xnar_z (by decide)) ?_
    exact hyp
theorem d_M_isRun_13 : decode prog_14_method_12_code 13 = .ok (.iload 4, 2) := by decide +kernel
theorem d_M_isRun_15 : decode prog_14_method_12_code 15 = .ok (.iload_n 2, 1) := by decide +kernel
theorem d_M_isRun_16 : decode prog_14_method_12_code 16 = .ok (.if_icmp .ge 28, 3) := by decide +kernel
theorem d_M_isRun_44 : decode prog_14_method_12_code 44 = .ok (.iconst 1, 1) := by decide +kernel
theorem d_M_isRun_45 : decode prog_14_method_12_code 45 = .ok (.ireturn, 1) := by decide +kernel
theorem d_M_isRun_19 : decode prog_14_method_12_code 19 = .ok (.aload_n 0, 1) := by decide +kernel
theorem d_M_isRun_20 : decode prog_14_method_12_code 20 = .ok (.iload_n 1, 1) := by decide +kernel
theorem d_M_isRun_21 : decode prog_14_method_12_code 21 = .ok (.iload 4, 2) := by decide +kernel
theorem d_M_isRun_23 : decode prog_14_method_12_code 23 = .ok (.iadd, 1) := by decide +kernel
theorem d_M_isRun_24 : decode prog_14_method_12_code 24 = .ok (.invokevirtual 108, 3) := by decide +kernel
theorem v_M_isRun_13 {G : XG} {d : Nat} {h : XH} {Q : XV → XH → Prop} {X : Nat → XH → Prop} {x1 x2 x3 x4 : Int} (F : xFix h) (hyp : ((x2 ≤ x4 → (Q (xI 1) h)) ∧ (¬ x2 ≤ x4 → xiR (x1 + x4) ∧ (xwp G m_M_folded (d + 5) 0 [xR 53, xI (x1 + x4)] [] h (fun v9 h9 => xwp G m_M_isRun (d + 6) 27 [xR 53, xI x1, xI x2, xR x3, xI x4] (xpush v9 []) h9 Q X) X)))) : xwp G m_M_isRun (d + 6) 13 [xR 53, xI x1, xI x2, xR x3, xI x4] [] h Q X := by
  have hnx9 : (93 : Int) ≤ xnx h := F.2.2
  refine xr_okL (fun hl9 => ?_)
  have r_x1 : -2147483648 ≤ x1 ∧ x1 ≤ 2147483647 := hl9 (xI x1) (.tail _ (.head _)) (Nat.le_of_ble_eq_true rfl)
  have r_x2 : -2147483648 ≤ x2 ∧ x2 ≤ 2147483647 := hl9 (xI x2) (.tail _ (.tail _ (.head _))) (Nat.le_of_ble_eq_true rfl)
  have r_x4 : -2147483648 ≤ x4 ∧ x4 ≤ 2147483647 := hl9 (xI x4) (.tail _ (.tail _ (.tail _ (.tail _ (.head _))))) (Nat.le_of_ble_eq_true rfl)
  refine xr_iload (pc := 13) (i := 4) (hI := d_M_isRun_13) (hl := rfl) ?_
  refine xr_iload_n (pc := 15) (i := 2) (hI := d_M_isRun_15) (hi := rfl) (hl := rfl) ?_
  refine xr_icmp_ge (pc := 16) (tgt := 44) (hI := d_M_isRun_16) (ht := by decide) (fun q9 => ?_) (fun q9 => ?_)
  · replace hyp := hyp.1 q9
    have q1_ := q9
    clear q9
    refine xr_iconst (pc := 44) (hI := d_M_isRun_44) (hr := by decide) ?_
    refine xr_ireturnT (S := []) (pc := 45) (hI := d_M_isRun_45) (hr := rfl) (xnar_z (by decide)) ?_
    exact hyp
  · replace hyp := hyp.2 q9
    have q1_ := q9
    clear q9
    refine xr_aload_n (pc := 19) (i := 0) (hI := d_M_isRun_19) (hi := rfl) (hl := rfl) ?_
    refine xr_iload_n (pc := 20) (i := 1) (hI := d_M_isRun_20) (hi := rfl) (hl := rfl) ?_
    refine xr_iload (pc := 21) (i := 4) (hI := d_M_isRun_21) (hl := rfl) ?_
    obtain ⟨c9, hyp⟩ := hyp
    refine xr_iadd (pc := 23) (hI := d_M_isRun_23) (hr := c9) ?_
    exact xq_callV (pc := 24) (index := 108) (K := m_M_folded) (As := [xI (x1 + x4)]) (S := []) (L0 := [xR 53, xI (x1 + x4)]) (hI := d_M_isRun_24) (hK := k_M_folded) (hlk := w_1761) (hnoM := rfl) (hS8 := Nat.le_of_ble_eq_true rfl) (ci := 11) (N := 38) (C := "BeaconIndexModel") (T := xF11) (hc := rfl) (hci := Nat.le_of_ble_eq_true rfl) (htb := (ft_53 F)) (hinst := w_1763) (hsel := sel_M_folded) (hlen := Nat.le_of_ble_eq_true rfl) (hst := rfl) (hL0 := rfl)  hyp
theorem d_M_isRun_27 : decode prog_14_method_12_code 27 = .ok (.aload_n 3, 1) := by decide +kernel
theorem d_M_isRun_28 : decode prog_14_method_12_code 28 = .ok (.iload 4, 2) := by decide +kernel
theorem d_M_isRun_30 : decode prog_14_method_12_code 30 = .ok (.invokevirtual 121, 3) := by decide +kernel
theorem w_1776 : Cond.methodLink "BeaconIndexModel" 121 ⟨"java/lang/String", "charAt", "(I)C"⟩ ∈ lw_tbl := List.mem_append_right _ (List.mem_of_getElem? (i := 1776) (by decide +kernel))
theorem d_M_isRun_33 : decode prog_14_method_12_code 33 = .ok (.if_icmp .eq 5, 3) := by decide +kernel
theorem d_M_isRun_38 : decode prog_14_method_12_code 38 = .ok (.iinc 4 1, 3) := by decide +kernel
theorem d_M_isRun_41 : decode prog_14_method_12_code 41 = .ok (.goto (-28), 3) := by decide +kernel
theorem d_M_isRun_36 : decode prog_14_method_12_code 36 = .ok (.iconst 0, 1) := by decide +kernel
theorem d_M_isRun_37 : decode prog_14_method_12_code 37 = .ok (.ireturn, 1) := by decide +kernel
theorem v_M_isRun_27 {G : XG} {d : Nat} {h : XH} {Q : XV → XH → Prop} {X : Nat → XH → Prop} {x1 x2 x3 x4 s0 : Int} (F : xFix h) (hyp : xtg h x3 = 14 ∧ strOK h x3 ∧ 0 ≤ x4 ∧ x4 < (stl h x3) ∧ ((s0 = (stc h x3 x4) → xiR (x4 + 1) ∧ (xwp G m_M_isRun (d + 6) 13 [xR 53, xI x1, xI x2, xR x3, xI (x4 + 1)] [] h Q X)) ∧ (¬ s0 = (stc h x3 x4) → (Q (xI 0) h)))) : xwp G m_M_isRun (d + 6) 27 [xR 53, xI x1, xI x2, xR x3, xI x4] [xI s0] h Q X := by
  have hnx9 : (93 : Int) ≤ xnx h := F.2.2
  refine xr_okL (fun hl9 => ?_)
  have r_x1 : -2147483648 ≤ x1 ∧ x1 ≤ 2147483647 := hl9 (xI x1) (.tail _ (.head _)) (Nat.le_of_ble_eq_true rfl)
  have r_x2 : -2147483648 ≤ x2 ∧ x2 ≤ 2147483647 := hl9 (xI x2) (.tail _ (.tail _ (.head _))) (Nat.le_of_ble_eq_true rfl)
  have r_x4 : -2147483648 ≤ x4 ∧ x4 ≤ 2147483647 := hl9 (xI x4) (.tail _ (.tail _ (.tail _ (.tail _ (.head _))))) (Nat.le_of_ble_eq_true rfl)
  refine xr_okS (fun hs9 => ?_)
  have r_s0 : -2147483648 ≤ s0 ∧ s0 ≤ 2147483647 := hs9 (xI s0) (.head _)
  refine xr_aload_n (pc := 27) (i := 3) (hI := d_M_isRun_27) (hi := rfl) (hl := rfl) ?_
  refine xr_iload (pc := 28) (i := 4) (hI := d_M_isRun_28) (hl := rfl) ?_
  obtain ⟨c9, hyp⟩ := hyp
  have t1_ := c9
  clear c9
  obtain ⟨c2_, hyp⟩ := hyp
  obtain ⟨c3_, hyp⟩ := hyp
  obtain ⟨c4_, hyp⟩ := hyp
  refine xq_callV (pc := 30) (index := 121) (K := m_String_charAt) (As := [xI x4]) (S := [xI s0]) (L0 := [xR x3, xI x4]) (hI := d_M_isRun_30) (hK := k_String_charAt) (hlk := w_1776) (hnoM := rfl) (hS8 := Nat.le_of_ble_eq_true rfl) (ci := 14) (N := 2) (C := "java/lang/String") (T := xF14) (hc := rfl) (hci := Nat.le_of_ble_eq_true rfl) (htb := t1_) (hinst := w_822) (hsel := w_823) (hlen := Nat.le_of_ble_eq_true rfl) (hst := rfl) (hL0 := rfl)  (p_String_charAt F c2_ c3_ c4_ ?_)
  show xwp G m_M_isRun (d + 6) 33 [xR 53, xI x1, xI x2, xR x3, xI x4] [xI (stc h x3 x4), xI s0] _ _ _
  refine xr_icmp_eq (pc := 33) (tgt := 38) (hI := d_M_isRun_33) (ht := by decide) (fun q9 => ?_) (fun q9 => ?_)
  · replace hyp := hyp.1 q9
    have q5_ := q9
    clear q9
    obtain ⟨c9, hyp⟩ := hyp
    refine xr_iinc (pc := 38) (i := 4) (L9 := [xR 53, xI x1, xI x2, xR x3, xI (x4 + 1)]) (hI := d_M_isRun_38) (hl := rfl) (hn := Nat.le_of_ble_eq_true rfl) (hr := c9) (hL9 := rfl) ?_
    refine xr_goto (pc := 41) (tgt := 13) (hI := d_M_isRun_41) (ht := by decide) ?_
    exact hyp
  · replace hyp := hyp.2 q9
    have q5_ := q9
    clear q9
    refine xr_iconst (pc := 36) (hI := d_M_isRun_36) (hr := by decide) ?_
    refine xr_ireturnT (S := []) (pc := 37) (hI := d_M_isRun_37) (hr := rfl) (xnar_z (by decide)) ?_
    exact hyp
abbrev m_M_isSmall : XM := (⟨"BeaconIndexModel", "isSmall", "(II)Z"⟩, prog_14_method_13_code, 7, (some .boolean), [])
theorem d_M_isSmall_0 : decode prog_14_method_13_code 0 = .ok (.getstatic 125, 3) := by decide +kernel
theorem w_1769 : Cond.fieldLink "BeaconIndexModel" 125 "BeaconIndexModel" "SMALL_WORDS" "[Ljava/lang/String;" ∈ lw_tbl := List.mem_append_right _ (List.mem_of_getElem? (i := 1769) (by decide +kernel))
theorem d_M_isSmall_3 : decode prog_14_method_13_code 3 = .ok (.astore_n 3, 1) := by decide +kernel
theorem d_M_isSmall_4 : decode prog_14_method_13_code 4 = .ok (.aload_n 3, 1) := by decide +kernel
theorem d_M_isSmall_5 : decode prog_14_method_13_code 5 = .ok (.arraylength, 1) := by decide +kernel
theorem d_M_isSmall_6 : decode prog_14_method_13_code 6 = .ok (.istore 4, 2) := by decide +kernel
theorem d_M_isSmall_8 : decode prog_14_method_13_code 8 = .ok (.iconst 0, 1) := by decide +kernel
theorem d_M_isSmall_9 : decode prog_14_method_13_code 9 = .ok (.istore 5, 2) := by decide +kernel
theorem v_M_isSmall_0 {G : XG} {d : Nat} {h : XH} {Q : XV → XH → Prop} {X : Nat → XH → Prop} {x1 x2 : Int} (F : xFix h) (hyp : (xwp G m_M_isSmall (d + 7) 11 [xR 53, xI x1, xI x2, xR (-104), xI 8, xI 0, xZ] [] h Q X)) : xwp G m_M_isSmall (d + 7) 0 [xR 53, xI x1, xI x2, xZ, xZ, xZ, xZ] [] h Q X := by
  have hnx9 : (93 : Int) ≤ xnx h := F.2.2
  refine xr_okL (fun hl9 => ?_)
  have r_x1 : -2147483648 ≤ x1 ∧ x1 ≤ 2147483647 := hl9 (xI x1) (.tail _ (.head _)) (Nat.le_of_ble_eq_true rfl)
  have r_x2 : -2147483648 ≤ x2 ∧ x2 ≤ 2147483647 := hl9 (xI x2) (.tail _ (.tail _ (.head _))) (Nat.le_of_ble_eq_true rfl)
  refine xr_getstatic (pc := 0) (v := xR (-104)) (hI := d_M_isSmall_0) w_1769 (by decide +kernel) (by exact trivial) ?_
  refine xr_astore_n (pc := 3) (i := 3) (L9 := [xR 53, xI x1, xI x2, xR (-104), xZ, xZ, xZ]) (hI := d_M_isSmall_3) (hi := rfl) (hn := Nat.le_of_ble_eq_true rfl) (hL9 := rfl) ?_
  refine xr_aload_n (pc := 4) (i := 3) (hI := d_M_isSmall_4) (hi := rfl) (hl := rfl) ?_
  refine xg_alen (pc := 5) (t := 112) (v := 8) (hI := d_M_isSmall_5) (ft_m104 F) (Nat.le_of_ble_eq_true rfl) (Nat.le_of_ble_eq_true rfl) rfl (fl_m104 F) (fun f1_ f2_ => ?_)
  clear f1_ f2_
  refine xr_istore (pc := 6) (i := 4) (L9 := [xR 53, xI x1, xI x2, xR (-104), xI 8, xZ, xZ]) (hI := d_M_isSmall_6) (hn := Nat.le_of_ble_eq_true rfl) (hL9 := rfl) ?_
  refine xr_iconst (pc := 8) (hI := d_M_isSmall_8) (hr := by decide) ?_
  refine xr_istore (pc := 9) (i := 5) (L9 := [xR 53, xI x1, xI x2, xR (-104), xI 8, xI 0, xZ]) (hI := d_M_isSmall_9) (hn := Nat.le_of_ble_eq_true rfl) (hL9 := rfl) ?_
  exact hyp
theorem d_M_isSmall_11 : decode prog_14_method_13_code 11 = .ok (.iload 5, 2) := by decide +kernel
theorem d_M_isSmall_13 : decode prog_14_method_13_code 13 = .ok (.iload 4, 2) := by decide +kernel
theorem d_M_isSmall_15 : decode prog_14_method_13_code 15 = .ok (.if_icmp .ge 28, 3) := by decide +kernel
theorem d_M_isSmall_43 : decode prog_14_method_13_code 43 = .ok (.iconst 0, 1) := by decide +kernel
theorem d_M_isSmall_44 : decode prog_14_method_13_code 44 = .ok (.ireturn, 1) := by decide +kernel
theorem d_M_isSmall_18 : decode prog_14_method_13_code 18 = .ok (.aload_n 3, 1) := by decide +kernel
theorem d_M_isSmall_19 : decode prog_14_method_13_code 19 = .ok (.iload 5, 2) := by decide +kernel
theorem d_M_isSmall_21 : decode prog_14_method_13_code 21 = .ok (.aaload, 1) := by decide +kernel
theorem d_M_isSmall_22 : decode prog_14_method_13_code 22 = .ok (.astore 6, 2) := by decide +kernel
theorem d_M_isSmall_24 : decode prog_14_method_13_code 24 = .ok (.aload_n 0, 1) := by decide +kernel
theorem d_M_isSmall_25 : decode prog_14_method_13_code 25 = .ok (.iload_n 1, 1) := by decide +kernel
theorem d_M_isSmall_26 : decode prog_14_method_13_code 26 = .ok (.iload_n 2, 1) := by decide +kernel
theorem d_M_isSmall_27 : decode prog_14_method_13_code 27 = .ok (.aload 6, 2) := by decide +kernel
theorem d_M_isSmall_29 : decode prog_14_method_13_code 29 = .ok (.invokevirtual 129, 3) := by decide +kernel
theorem k_M_isRun : xCal m_M_isRun 3 := ⟨List.mem_append_right _ (List.mem_of_getElem? (i := 1774) (by decide +kernel)), w_15, Nat.le_of_ble_eq_true rfl, ⟨by decide +kernel, by decide +kernel⟩, by decide +kernel, by decide +kernel, rfl⟩
theorem w_1771 : Cond.methodLink "BeaconIndexModel" 129 ⟨"BeaconIndexModel", "isRun", "(IILjava/lang/String;)Z"⟩ ∈ lw_tbl := List.mem_append_right _ (List.mem_of_getElem? (i := 1771) (by decide +kernel))
theorem w_1773 : Cond.instanceMethod ⟨"BeaconIndexModel", "isRun", "(IILjava/lang/String;)Z"⟩ ∈ lw_tbl := List.mem_append_right _ (List.mem_of_getElem? (i := 1773) (by decide +kernel))
theorem sel_M_isRun : Cond.selects "BeaconIndexModel" ⟨"BeaconIndexModel", "isRun", "(IILjava/lang/String;)Z"⟩ ⟨"BeaconIndexModel", "isRun", "(IILjava/lang/String;)Z"⟩ ∈ lw_tbl := List.mem_append_left _ (by decide +kernel)
theorem v_M_isSmall_11 {G : XG} {d : Nat} {h : XH} {Q : XV → XH → Prop} {X : Nat → XH → Prop} {x1 x2 x3 x4 x5 : Int} (F : xFix h) (hyp : ((x4 ≤ x5 → (Q (xI 0) h)) ∧ (¬ x4 ≤ x5 → xtg h x3 = 112 ∧ 0 ≤ x5 ∧ x5 < (xln h x3) ∧ (xwp G m_M_isRun (d + 6) 0 [xR 53, xI x1, xI x2, xR (xpl h x3 x5), xZ] [] h (fun v9 h9 => xwp G m_M_isSmall (d + 7) 32 [xR 53, xI x1, xI x2, xR x3, xI x4, xI x5, xZ] (xpush v9 []) h9 Q X) X)))) : xwp G m_M_isSmall (d + 7) 11 [xR 53, xI x1, xI x2, xR x3, xI x4, xI x5, xZ] [] h Q X := by
  have hnx9 : (93 : Int) ≤ xnx h := F.2.2
  refine xr_okL (fun hl9 => ?_)
  have r_x1 : -2147483648 ≤ x1 ∧ x1 ≤ 2147483647 := hl9 (xI x1) (.tail _ (.head _)) (Nat.le_of_ble_eq_true rfl)
  have r_x2 : -2147483648 ≤ x2 ∧ x2 ≤ 2147483647 := hl9 (xI x2) (.tail _ (.tail _ (.head _))) (Nat.le_of_ble_eq_true rfl)
  have r_x4 : -2147483648 ≤ x4 ∧ x4 ≤ 2147483647 := hl9 (xI x4) (.tail _ (.tail _ (.tail _ (.tail _ (.head _))))) (Nat.le_of_ble_eq_true rfl)
  have r_x5 : -2147483648 ≤ x5 ∧ x5 ≤ 2147483647 := hl9 (xI x5) (.tail _ (.tail _ (.tail _ (.tail _ (.tail _ (.head _)))))) (Nat.le_of_ble_eq_true rfl)
  refine xr_iload (pc := 11) (i := 5) (hI := d_M_isSmall_11) (hl := rfl) ?_
  refine xr_iload (pc := 13) (i := 4) (hI := d_M_isSmall_13) (hl := rfl) ?_
  refine xr_icmp_ge (pc := 15) (tgt := 43) (hI := d_M_isSmall_15) (ht := by decide) (fun q9 => ?_) (fun q9 => ?_)
  · replace hyp := hyp.1 q9
    have q1_ := q9
    clear q9
    refine xr_iconst (pc := 43) (hI := d_M_isSmall_43) (hr := by decide) ?_
    refine xr_ireturnT (S := []) (pc := 44) (hI := d_M_isSmall_44) (hr := rfl) (xnar_z (by decide)) ?_
    exact hyp
  · replace hyp := hyp.2 q9
    have q1_ := q9
    clear q9
    refine xr_aload_n (pc := 18) (i := 3) (hI := d_M_isSmall_18) (hi := rfl) (hl := rfl) ?_
    refine xr_iload (pc := 19) (i := 5) (hI := d_M_isSmall_19) (hl := rfl) ?_
    obtain ⟨c9, hyp⟩ := hyp
    have t2_ := c9
    clear c9
    obtain ⟨c3_, hyp⟩ := hyp
    obtain ⟨c4_, hyp⟩ := hyp
    refine xg_aaload (pc := 21) (t := 112) (v := (xpl h x3 x5)) (hI := d_M_isSmall_21) t2_ (Nat.le_of_ble_eq_true rfl) rfl (Nat.le_of_ble_eq_true rfl) c3_ (xlt_of rfl c4_) rfl ?_
    refine xr_astore (pc := 22) (i := 6) (L9 := [xR 53, xI x1, xI x2, xR x3, xI x4, xI x5, xR (xpl h x3 x5)]) (hI := d_M_isSmall_22) (hn := Nat.le_of_ble_eq_true rfl) (hL9 := rfl) ?_
    refine xr_aload_n (pc := 24) (i := 0) (hI := d_M_isSmall_24) (hi := rfl) (hl := rfl) ?_
    refine xr_iload_n (pc := 25) (i := 1) (hI := d_M_isSmall_25) (hi := rfl) (hl := rfl) ?_
    refine xr_iload_n (pc := 26) (i := 2) (hI := d_M_isSmall_26) (hi := rfl) (hl := rfl) ?_
    refine xr_aload (pc := 27) (i := 6) (hI := d_M_isSmall_27) (hl := rfl) ?_
    exact xq_callV (pc := 29) (index := 129) (K := m_M_isRun) (As := [xI x1, xI x2, xR (xpl h x3 x5)]) (S := []) (L0 := [xR 53, xI x1, xI x2, xR (xpl h x3 x5), xZ]) (hI := d_M_isSmall_29) (hK := k_M_isRun) (hlk := w_1771) (hnoM := rfl) (hS8 := Nat.le_of_ble_eq_true rfl) (ci := 11) (N := 38) (C := "BeaconIndexModel") (T := xF11) (hc := rfl) (hci := Nat.le_of_ble_eq_true rfl) (htb := (ft_53 F)) (hinst := w_1773) (hsel := sel_M_isRun) (hlen := Nat.le_of_ble_eq_true rfl) (hst := rfl) (hL0 := rfl)  (xwp_mono hyp (fun v9 h9 q9 => xr_drop (L9 := [xR 53, xI x1, xI x2, xR x3, xI x4, xI x5, xZ]) (xdrs (xdrs (xdrs (xdrs (xdrs (xdrs (xdrz xdr0))))))) q9) (fun _ _ z9 => z9))
theorem d_M_isSmall_32 : decode prog_14_method_13_code 32 = .ok (.ifCond .eq 5, 3) := by decide +kernel
theorem d_M_isSmall_37 : decode prog_14_method_13_code 37 = .ok (.iinc 5 1, 3) := by decide +kernel
theorem d_M_isSmall_40 : decode prog_14_method_13_code 40 = .ok (.goto (-29), 3) := by decide +kernel
theorem d_M_isSmall_35 : decode prog_14_method_13_code 35 = .ok (.iconst 1, 1) := by decide +kernel
theorem d_M_isSmall_36 : decode prog_14_method_13_code 36 = .ok (.ireturn, 1) := by decide +kernel
theorem v_M_isSmall_32 {G : XG} {d : Nat} {h : XH} {Q : XV → XH → Prop} {X : Nat → XH → Prop} {x1 x2 x3 x4 x5 s0 : Int} (F : xFix h) (hyp : ((s0 = 0 → xiR (x5 + 1) ∧ (xwp G m_M_isSmall (d + 7) 11 [xR 53, xI x1, xI x2, xR x3, xI x4, xI (x5 + 1), xZ] [] h Q X)) ∧ (¬ s0 = 0 → (Q (xI 1) h)))) : xwp G m_M_isSmall (d + 7) 32 [xR 53, xI x1, xI x2, xR x3, xI x4, xI x5, xZ] [xI s0] h Q X := by
  have hnx9 : (93 : Int) ≤ xnx h := F.2.2
  refine xr_okL (fun hl9 => ?_)
  have r_x1 : -2147483648 ≤ x1 ∧ x1 ≤ 2147483647 := hl9 (xI x1) (.tail _ (.head _)) (Nat.le_of_ble_eq_true rfl)
  have r_x2 : -2147483648 ≤ x2 ∧ x2 ≤ 2147483647 := hl9 (xI x2) (.tail _ (.tail _ (.head _))) (Nat.le_of_ble_eq_true rfl)
  have r_x4 : -2147483648 ≤ x4 ∧ x4 ≤ 2147483647 := hl9 (xI x4) (.tail _ (.tail _ (.tail _ (.tail _ (.head _))))) (Nat.le_of_ble_eq_true rfl)
  have r_x5 : -2147483648 ≤ x5 ∧ x5 ≤ 2147483647 := hl9 (xI x5) (.tail _ (.tail _ (.tail _ (.tail _ (.tail _ (.head _)))))) (Nat.le_of_ble_eq_true rfl)
  refine xr_okS (fun hs9 => ?_)
  have r_s0 : -2147483648 ≤ s0 ∧ s0 ≤ 2147483647 := hs9 (xI s0) (.head _)
  refine xr_if_eq (pc := 32) (tgt := 37) (hI := d_M_isSmall_32) (ht := by decide) (fun q9 => ?_) (fun q9 => ?_)
  · replace hyp := hyp.1 q9
    have q1_ := q9
    clear q9
    obtain ⟨c9, hyp⟩ := hyp
    refine xr_iinc (pc := 37) (i := 5) (L9 := [xR 53, xI x1, xI x2, xR x3, xI x4, xI (x5 + 1), xZ]) (hI := d_M_isSmall_37) (hl := rfl) (hn := Nat.le_of_ble_eq_true rfl) (hr := c9) (hL9 := rfl) ?_
    refine xr_goto (pc := 40) (tgt := 11) (hI := d_M_isSmall_40) (ht := by decide) ?_
    exact hyp
  · replace hyp := hyp.2 q9
    have q1_ := q9
    clear q9
    refine xr_iconst (pc := 35) (hI := d_M_isSmall_35) (hr := by decide) ?_
    refine xr_ireturnT (S := []) (pc := 36) (hI := d_M_isSmall_36) (hr := rfl) (xnar_z (by decide)) ?_
    exact hyp
abbrev m_M_doesEnd : XM := (⟨"BeaconIndexModel", "doesEnd", "(ILjava/lang/String;)Z"⟩, prog_14_method_14_code, 5, (some .boolean), [])
theorem d_M_doesEnd_0 : decode prog_14_method_14_code 0 = .ok (.iload_n 1, 1) := by decide +kernel
theorem d_M_doesEnd_1 : decode prog_14_method_14_code 1 = .ok (.aload_n 2, 1) := by decide +kernel
theorem d_M_doesEnd_2 : decode prog_14_method_14_code 2 = .ok (.invokevirtual 116, 3) := by decide +kernel
theorem d_M_doesEnd_5 : decode prog_14_method_14_code 5 = .ok (.isub, 1) := by decide +kernel
theorem d_M_doesEnd_6 : decode prog_14_method_14_code 6 = .ok (.istore_n 3, 1) := by decide +kernel
theorem d_M_doesEnd_7 : decode prog_14_method_14_code 7 = .ok (.iload_n 3, 1) := by decide +kernel
theorem d_M_doesEnd_8 : decode prog_14_method_14_code 8 = .ok (.ifCond .ge 5, 3) := by decide +kernel
theorem d_M_doesEnd_13 : decode prog_14_method_14_code 13 = .ok (.iload_n 3, 1) := by decide +kernel
theorem d_M_doesEnd_14 : decode prog_14_method_14_code 14 = .ok (.istore 4, 2) := by decide +kernel
theorem d_M_doesEnd_11 : decode prog_14_method_14_code 11 = .ok (.iconst 0, 1) := by decide +kernel
theorem d_M_doesEnd_12 : decode prog_14_method_14_code 12 = .ok (.ireturn, 1) := by decide +kernel
theorem v_M_doesEnd_0 {G : XG} {d : Nat} {h : XH} {Q : XV → XH → Prop} {X : Nat → XH → Prop} {x1 x2 : Int} (F : xFix h) (hyp : xtg h x2 = 14 ∧ strOK h x2 ∧ xiR (x1 - (stl h x2)) ∧ (((0 : Int) ≤ (x1 - (stl h x2)) → (xwp G m_M_doesEnd (d + 6) 16 [xR 53, xI x1, xR x2, xI (x1 - (stl h x2)), xI (x1 - (stl h x2))] [] h Q X)) ∧ (¬ (0 : Int) ≤ (x1 - (stl h x2)) → (Q (xI 0) h)))) : xwp G m_M_doesEnd (d + 6) 0 [xR 53, xI x1, xR x2, xZ, xZ] [] h Q X := by
  have hnx9 : (93 : Int) ≤ xnx h := F.2.2
  refine xr_okL (fun hl9 => ?_)
  have r_x1 : -2147483648 ≤ x1 ∧ x1 ≤ 2147483647 := hl9 (xI x1) (.tail _ (.head _)) (Nat.le_of_ble_eq_true rfl)
  refine xr_iload_n (pc := 0) (i := 1) (hI := d_M_doesEnd_0) (hi := rfl) (hl := rfl) ?_
  refine xr_aload_n (pc := 1) (i := 2) (hI := d_M_doesEnd_1) (hi := rfl) (hl := rfl) ?_
  obtain ⟨c9, hyp⟩ := hyp
  have t1_ := c9
  clear c9
  obtain ⟨c2_, hyp⟩ := hyp
  refine xq_callV (pc := 2) (index := 116) (K := m_String_length) (As := []) (S := [xI x1]) (L0 := [xR x2]) (hI := d_M_doesEnd_2) (hK := k_String_length) (hlk := w_1775) (hnoM := rfl) (hS8 := Nat.le_of_ble_eq_true rfl) (ci := 14) (N := 2) (C := "java/lang/String") (T := xF14) (hc := rfl) (hci := Nat.le_of_ble_eq_true rfl) (htb := t1_) (hinst := w_812) (hsel := w_813) (hlen := Nat.le_of_ble_eq_true rfl) (hst := rfl) (hL0 := rfl)  (p_String_len F c2_ ?_)
  show xwp G m_M_doesEnd (d + 6) 5 [xR 53, xI x1, xR x2, xZ, xZ] [xI (stl h x2), xI x1] _ _ _
  have f3_ : 0 ≤ (stl h x2) ∧ (stl h x2) ≤ 1000 := ⟨c2_.2.1, c2_.2.2.1⟩
  obtain ⟨c9, hyp⟩ := hyp
  refine xr_isub (pc := 5) (hI := d_M_doesEnd_5) (hr := c9) ?_
  refine xr_istore_n (pc := 6) (i := 3) (L9 := [xR 53, xI x1, xR x2, xI (x1 - (stl h x2)), xZ]) (hI := d_M_doesEnd_6) (hi := rfl) (hn := Nat.le_of_ble_eq_true rfl) (hL9 := rfl) ?_
  refine xr_iload_n (pc := 7) (i := 3) (hI := d_M_doesEnd_7) (hi := rfl) (hl := rfl) ?_
  refine xr_if_ge (pc := 8) (tgt := 13) (hI := d_M_doesEnd_8) (ht := by decide) (fun q9 => ?_) (fun q9 => ?_)
  · replace hyp := hyp.1 q9
    have q4_ := q9
    clear q9
    refine xr_iload_n (pc := 13) (i := 3) (hI := d_M_doesEnd_13) (hi := rfl) (hl := rfl) ?_
    refine xr_istore (pc := 14) (i := 4) (L9 := [xR 53, xI x1, xR x2, xI (x1 - (stl h x2)), xI (x1 - (stl h x2))]) (hI := d_M_doesEnd_14) (hn := Nat.le_of_ble_eq_true rfl) (hL9 := rfl) ?_
    exact hyp
  · replace hyp := hyp.2 q9
    have q4_ := q9
    clear q9
    refine xr_iconst (pc := 11) (hI := d_M_doesEnd_11) (hr := by decide) ?_
    refine xr_ireturnT (S := []) (pc := 12) (hI := d_M_doesEnd_12) (hr := rfl) (xnar_z (by decide)) ?_
    exact hyp
theorem d_M_doesEnd_16 : decode prog_14_method_14_code 16 = .ok (.iload 4, 2) := by decide +kernel
theorem d_M_doesEnd_18 : decode prog_14_method_14_code 18 = .ok (.iload_n 1, 1) := by decide +kernel
theorem d_M_doesEnd_19 : decode prog_14_method_14_code 19 = .ok (.if_icmp .ge 29, 3) := by decide +kernel
theorem d_M_doesEnd_48 : decode prog_14_method_14_code 48 = .ok (.iconst 1, 1) := by decide +kernel
theorem d_M_doesEnd_49 : decode prog_14_method_14_code 49 = .ok (.ireturn, 1) := by decide +kernel
theorem d_M_doesEnd_22 : decode prog_14_method_14_code 22 = .ok (.aload_n 0, 1) := by decide +kernel
theorem d_M_doesEnd_23 : decode prog_14_method_14_code 23 = .ok (.getfield 39, 3) := by decide +kernel
theorem w_1602 : Cond.fieldLink "BeaconIndexModel" 39 "BeaconIndexModel" "letters" "[I" ∈ lw_tbl := List.mem_append_right _ (List.mem_of_getElem? (i := 1602) (by decide +kernel))
theorem d_M_doesEnd_26 : decode prog_14_method_14_code 26 = .ok (.iload 4, 2) := by decide +kernel
theorem d_M_doesEnd_28 : decode prog_14_method_14_code 28 = .ok (.iaload, 1) := by decide +kernel
theorem d_M_doesEnd_29 : decode prog_14_method_14_code 29 = .ok (.aload_n 2, 1) := by decide +kernel
theorem d_M_doesEnd_30 : decode prog_14_method_14_code 30 = .ok (.iload 4, 2) := by decide +kernel
theorem d_M_doesEnd_32 : decode prog_14_method_14_code 32 = .ok (.iload_n 3, 1) := by decide +kernel
theorem d_M_doesEnd_33 : decode prog_14_method_14_code 33 = .ok (.isub, 1) := by decide +kernel
theorem d_M_doesEnd_34 : decode prog_14_method_14_code 34 = .ok (.invokevirtual 121, 3) := by decide +kernel
theorem d_M_doesEnd_37 : decode prog_14_method_14_code 37 = .ok (.if_icmp .eq 5, 3) := by decide +kernel
theorem d_M_doesEnd_42 : decode prog_14_method_14_code 42 = .ok (.iinc 4 1, 3) := by decide +kernel
theorem d_M_doesEnd_45 : decode prog_14_method_14_code 45 = .ok (.goto (-29), 3) := by decide +kernel
theorem d_M_doesEnd_40 : decode prog_14_method_14_code 40 = .ok (.iconst 0, 1) := by decide +kernel
theorem d_M_doesEnd_41 : decode prog_14_method_14_code 41 = .ok (.ireturn, 1) := by decide +kernel
theorem v_M_doesEnd_16 {G : XG} {d : Nat} {h : XH} {Q : XV → XH → Prop} {X : Nat → XH → Prop} {x1 x2 x3 x4 : Int} (F : xFix h) (hyp : ((x1 ≤ x4 → (Q (xI 1) h)) ∧ (¬ x1 ≤ x4 → 0 ≤ x4 ∧ x4 < 12 ∧ xiR (x4 - x3) ∧ xtg h x2 = 14 ∧ strOK h x2 ∧ 0 ≤ (x4 - x3) ∧ (x4 - x3) < (stl h x2) ∧ (((xpl h 63 x4) = (stc h x2 (x4 - x3)) → (xwp G m_M_doesEnd (d + 6) 16 [xR 53, xI x1, xR x2, xI x3, xI (x4 + 1)] [] h Q X)) ∧ (¬ (xpl h 63 x4) = (stc h x2 (x4 - x3)) → (Q (xI 0) h)))))) : xwp G m_M_doesEnd (d + 6) 16 [xR 53, xI x1, xR x2, xI x3, xI x4] [] h Q X := by
  have hnx9 : (93 : Int) ≤ xnx h := F.2.2
  refine xr_okL (fun hl9 => ?_)
  have r_x1 : -2147483648 ≤ x1 ∧ x1 ≤ 2147483647 := hl9 (xI x1) (.tail _ (.head _)) (Nat.le_of_ble_eq_true rfl)
  have r_x3 : -2147483648 ≤ x3 ∧ x3 ≤ 2147483647 := hl9 (xI x3) (.tail _ (.tail _ (.tail _ (.head _)))) (Nat.le_of_ble_eq_true rfl)
  have r_x4 : -2147483648 ≤ x4 ∧ x4 ≤ 2147483647 := hl9 (xI x4) (.tail _ (.tail _ (.tail _ (.tail _ (.head _))))) (Nat.le_of_ble_eq_true rfl)
  refine xr_iload (pc := 16) (i := 4) (hI := d_M_doesEnd_16) (hl := rfl) ?_
  refine xr_iload_n (pc := 18) (i := 1) (hI := d_M_doesEnd_18) (hi := rfl) (hl := rfl) ?_
  refine xr_icmp_ge (pc := 19) (tgt := 48) (hI := d_M_doesEnd_19) (ht := by decide) (fun q9 => ?_) (fun q9 => ?_)
  · replace hyp := hyp.1 q9
    have q1_ := q9
    clear q9
    refine xr_iconst (pc := 48) (hI := d_M_doesEnd_48) (hr := by decide) ?_
    refine xr_ireturnT (S := []) (pc := 49) (hI := d_M_doesEnd_49) (hr := rfl) (xnar_z (by decide)) ?_
    exact hyp
  · replace hyp := hyp.2 q9
    have q1_ := q9
    clear q9
    refine xr_aload_n (pc := 22) (i := 0) (hI := d_M_doesEnd_22) (hi := rfl) (hl := rfl) ?_
    refine xg_getf (pc := 23) (ci := 11) (k := 15) (N := 38) (v9 := 2) (v := 63) (T := xF11) (hI := d_M_doesEnd_23) (hw := w_1602) rfl xi11 (Or.inl rfl) (Nat.le_of_ble_eq_true rfl) (Nat.le_of_ble_eq_true rfl) rfl (ft_53 F) (fp_53_15 F) (fun f2_ => ?_)
    clear f2_
    refine xr_iload (pc := 26) (i := 4) (hI := d_M_doesEnd_26) (hl := rfl) ?_
    obtain ⟨c3_, hyp⟩ := hyp
    obtain ⟨c4_, hyp⟩ := hyp
    refine xg_iaload (pc := 28) (v := (xpl h 63 x4)) (hI := d_M_doesEnd_28) (ft_63 F) c3_ (xlt_of (fl_63 F) c4_) rfl (fun f5_ => ?_)
    replace f5_ : -2147483648 ≤ (xpl h 63 x4) ∧ (xpl h 63 x4) ≤ 2147483647 := f5_
    refine xr_aload_n (pc := 29) (i := 2) (hI := d_M_doesEnd_29) (hi := rfl) (hl := rfl) ?_
    refine xr_iload (pc := 30) (i := 4) (hI := d_M_doesEnd_30) (hl := rfl) ?_
    refine xr_iload_n (pc := 32) (i := 3) (hI := d_M_doesEnd_32) (hi := rfl) (hl := rfl) ?_
    obtain ⟨c9, hyp⟩ := hyp
    refine xr_isub (pc := 33) (hI := d_M_doesEnd_33) (hr := c9) ?_
    obtain ⟨c9, hyp⟩ := hyp
    have t6_ := c9
    clear c9
    obtain ⟨c7_, hyp⟩ := hyp
    obtain ⟨c8_, hyp⟩ := hyp
    obtain ⟨c9_, hyp⟩ := hyp
    refine xq_callV (pc := 34) (index := 121) (K := m_String_charAt) (As := [xI (x4 - x3)]) (S := [xI (xpl h 63 x4)]) (L0 := [xR x2, xI (x4 - x3)]) (hI := d_M_doesEnd_34) (hK := k_String_charAt) (hlk := w_1776) (hnoM := rfl) (hS8 := Nat.le_of_ble_eq_true rfl) (ci := 14) (N := 2) (C := "java/lang/String") (T := xF14) (hc := rfl) (hci := Nat.le_of_ble_eq_true rfl) (htb := t6_) (hinst := w_822) (hsel := w_823) (hlen := Nat.le_of_ble_eq_true rfl) (hst := rfl) (hL0 := rfl)  (p_String_charAt F c7_ c8_ c9_ ?_)
    show xwp G m_M_doesEnd (d + 6) 37 [xR 53, xI x1, xR x2, xI x3, xI x4] [xI (stc h x2 (x4 - x3)), xI (xpl h 63 x4)] _ _ _
    refine xr_icmp_eq (pc := 37) (tgt := 42) (hI := d_M_doesEnd_37) (ht := by decide) (fun q9 => ?_) (fun q9 => ?_)
    · replace hyp := hyp.1 q9
      have q10_ := q9
      clear q9
      refine xr_iinc (pc := 42) (i := 4) (L9 := [xR 53, xI x1, xR x2, xI x3, xI (x4 + 1)]) (hI := d_M_doesEnd_42) (hl := rfl) (hn := Nat.le_of_ble_eq_true rfl) (hr := ⟨by clear hyp; omega, by clear hyp; omega⟩) (hL9 := rfl) ?_
      refine xr_goto (pc := 45) (tgt := 16) (hI := d_M_doesEnd_45) (ht := by decide) ?_
      exact hyp
    · replace hyp := hyp.2 q9
      have q10_ := q9
      clear q9
      refine xr_iconst (pc := 40) (hI := d_M_doesEnd_40) (hr := by decide) ?_
      refine xr_ireturnT (S := []) (pc := 41) (hI := d_M_doesEnd_41) (hr := rfl) (xnar_z (by decide)) ?_
      exact hyp
abbrev m_M_power : XM := (⟨"BeaconIndexModel", "power", "(I)J"⟩, prog_14_method_15_code, 4, (some .long), [])
theorem d_M_power_0 : decode prog_14_method_15_code 0 = .ok (.lconst 1, 1) := by decide +kernel
theorem d_M_power_1 : decode prog_14_method_15_code 1 = .ok (.lstore_n 1, 1) := by decide +kernel
theorem d_M_power_2 : decode prog_14_method_15_code 2 = .ok (.iconst 0, 1) := by decide +kernel
theorem d_M_power_3 : decode prog_14_method_15_code 3 = .ok (.istore_n 3, 1) := by decide +kernel
theorem v_M_power_0 {G : XG} {d : Nat} {h : XH} {Q : XV → XH → Prop} {X : Nat → XH → Prop} {x0 : Int} (F : xFix h) (hyp : (xwp G m_M_power (d + 1) 4 [xI x0, xL 1, xZ, xI 0] [] h Q X)) : xwp G m_M_power (d + 1) 0 [xI x0, xZ, xZ, xZ] [] h Q X := by
  have hnx9 : (93 : Int) ≤ xnx h := F.2.2
  refine xr_okL (fun hl9 => ?_)
  have r_x0 : -2147483648 ≤ x0 ∧ x0 ≤ 2147483647 := hl9 (xI x0) (.head _) (Nat.le_of_ble_eq_true rfl)
  refine xr_lconst (pc := 0) (z := 1) (hI := d_M_power_0) (hr := by decide) (hv := by decide) ?_
  refine xr_lstore_n (pc := 1) (i := 1) (L9 := [xI x0, xL 1, xZ, xZ]) (hI := d_M_power_1) (hi := rfl) (hn := Nat.le_of_ble_eq_true rfl) (hL9 := rfl) ?_
  refine xr_iconst (pc := 2) (hI := d_M_power_2) (hr := by decide) ?_
  refine xr_istore_n (pc := 3) (i := 3) (L9 := [xI x0, xL 1, xZ, xI 0]) (hI := d_M_power_3) (hi := rfl) (hn := Nat.le_of_ble_eq_true rfl) (hL9 := rfl) ?_
  exact hyp
theorem d_M_power_4 : decode prog_14_method_15_code 4 = .ok (.iload_n 3, 1) := by decide +kernel
theorem d_M_power_5 : decode prog_14_method_15_code 5 = .ok (.iload_n 0, 1) := by decide +kernel
theorem d_M_power_6 : decode prog_14_method_15_code 6 = .ok (.if_icmp .ge 15, 3) := by decide +kernel
theorem d_M_power_21 : decode prog_14_method_15_code 21 = .ok (.lload_n 1, 1) := by decide +kernel
theorem d_M_power_22 : decode prog_14_method_15_code 22 = .ok (.lreturn, 1) := by decide +kernel
theorem d_M_power_9 : decode prog_14_method_15_code 9 = .ok (.lload_n 1, 1) := by decide +kernel
theorem d_M_power_10 : decode prog_14_method_15_code 10 = .ok (.ldc2_w 133, 3) := by decide +kernel
theorem w_1796 : Cond.constantLong "BeaconIndexModel" 133 (37 : Int64) ∈ lw_tbl := List.mem_append_right _ (List.mem_of_getElem? (i := 1796) (by decide +kernel))
theorem d_M_power_13 : decode prog_14_method_15_code 13 = .ok (.lmul, 1) := by decide +kernel
theorem d_M_power_14 : decode prog_14_method_15_code 14 = .ok (.lstore_n 1, 1) := by decide +kernel
theorem d_M_power_15 : decode prog_14_method_15_code 15 = .ok (.iinc 3 1, 3) := by decide +kernel
theorem d_M_power_18 : decode prog_14_method_15_code 18 = .ok (.goto (-14), 3) := by decide +kernel
theorem v_M_power_4 {G : XG} {d : Nat} {h : XH} {Q : XV → XH → Prop} {X : Nat → XH → Prop} {x0 x1 x3 : Int} (F : xFix h) (hyp : ((x0 ≤ x3 → (Q (xL x1) h)) ∧ (¬ x0 ≤ x3 → (xwp G m_M_power (d + 1) 4 [xI x0, xL (xw64 (x1 * 37)), xZ, xI (x3 + 1)] [] h Q X)))) : xwp G m_M_power (d + 1) 4 [xI x0, xL x1, xZ, xI x3] [] h Q X := by
  have hnx9 : (93 : Int) ≤ xnx h := F.2.2
  refine xr_okL (fun hl9 => ?_)
  have r_x0 : -2147483648 ≤ x0 ∧ x0 ≤ 2147483647 := hl9 (xI x0) (.head _) (Nat.le_of_ble_eq_true rfl)
  have r_x1 : -9223372036854775808 ≤ x1 ∧ x1 ≤ 9223372036854775807 := hl9 (xL x1) (.tail _ (.head _)) (Nat.le_of_ble_eq_true rfl)
  have r_x3 : -2147483648 ≤ x3 ∧ x3 ≤ 2147483647 := hl9 (xI x3) (.tail _ (.tail _ (.tail _ (.head _)))) (Nat.le_of_ble_eq_true rfl)
  refine xr_iload_n (pc := 4) (i := 3) (hI := d_M_power_4) (hi := rfl) (hl := rfl) ?_
  refine xr_iload_n (pc := 5) (i := 0) (hI := d_M_power_5) (hi := rfl) (hl := rfl) ?_
  refine xr_icmp_ge (pc := 6) (tgt := 21) (hI := d_M_power_6) (ht := by decide) (fun q9 => ?_) (fun q9 => ?_)
  · replace hyp := hyp.1 q9
    have q1_ := q9
    clear q9
    refine xr_lload_n (pc := 21) (i := 1) (hI := d_M_power_21) (hi := rfl) (hl := rfl) ?_
    refine xr_lreturn (S := []) (pc := 22) (hI := d_M_power_22) (hr := rfl) ?_
    exact hyp
  · replace hyp := hyp.2 q9
    have q1_ := q9
    clear q9
    refine xr_lload_n (pc := 9) (i := 1) (hI := d_M_power_9) (hi := rfl) (hl := rfl) ?_
    refine xr_ldc2 (pc := 10) (z := 37) (hI := d_M_power_10) (hw := w_1796) (hr := by decide) (hv := by decide) ?_
    refine xr_lmul (pc := 13) (hI := d_M_power_13) ?_
    refine xr_lstore_n (pc := 14) (i := 1) (L9 := [xI x0, xL (xw64 (x1 * 37)), xZ, xI x3]) (hI := d_M_power_14) (hi := rfl) (hn := Nat.le_of_ble_eq_true rfl) (hL9 := rfl) ?_
    refine xr_iinc (pc := 15) (i := 3) (L9 := [xI x0, xL (xw64 (x1 * 37)), xZ, xI (x3 + 1)]) (hI := d_M_power_15) (hl := rfl) (hn := Nat.le_of_ble_eq_true rfl) (hr := ⟨by clear hyp; omega, by clear hyp; omega⟩) (hL9 := rfl) ?_
    refine xr_goto (pc := 18) (tgt := 4) (hI := d_M_power_18) (ht := by decide) ?_
    exact hyp
abbrev m_M_digitOf : XM := (⟨"BeaconIndexModel", "digitOf", "(I)I"⟩, prog_14_method_16_code, 1, (some .int), [])
theorem d_M_digitOf_0 : decode prog_14_method_16_code 0 = .ok (.iload_n 0, 1) := by decide +kernel
theorem d_M_digitOf_1 : decode prog_14_method_16_code 1 = .ok (.bipush 57, 2) := by decide +kernel
theorem d_M_digitOf_3 : decode prog_14_method_16_code 3 = .ok (.if_icmp .gt 12, 3) := by decide +kernel
theorem d_M_digitOf_15 : decode prog_14_method_16_code 15 = .ok (.iload_n 0, 1) := by decide +kernel
theorem d_M_digitOf_16 : decode prog_14_method_16_code 16 = .ok (.bipush 97, 2) := by decide +kernel
theorem d_M_digitOf_18 : decode prog_14_method_16_code 18 = .ok (.isub, 1) := by decide +kernel
theorem d_M_digitOf_19 : decode prog_14_method_16_code 19 = .ok (.bipush 11, 2) := by decide +kernel
theorem d_M_digitOf_21 : decode prog_14_method_16_code 21 = .ok (.iadd, 1) := by decide +kernel
theorem d_M_digitOf_22 : decode prog_14_method_16_code 22 = .ok (.ireturn, 1) := by decide +kernel
theorem d_M_digitOf_6 : decode prog_14_method_16_code 6 = .ok (.iload_n 0, 1) := by decide +kernel
theorem d_M_digitOf_7 : decode prog_14_method_16_code 7 = .ok (.bipush 48, 2) := by decide +kernel
theorem d_M_digitOf_9 : decode prog_14_method_16_code 9 = .ok (.isub, 1) := by decide +kernel
theorem d_M_digitOf_10 : decode prog_14_method_16_code 10 = .ok (.iconst 1, 1) := by decide +kernel
theorem d_M_digitOf_11 : decode prog_14_method_16_code 11 = .ok (.iadd, 1) := by decide +kernel
theorem d_M_digitOf_12 : decode prog_14_method_16_code 12 = .ok (.goto 10, 3) := by decide +kernel
theorem v_M_digitOf_0 {G : XG} {d : Nat} {h : XH} {Q : XV → XH → Prop} {X : Nat → XH → Prop} {x0 : Int} (F : xFix h) (hyp : (((57 : Int) < x0 → (Q (xI ((x0 - 97) + 11)) h)) ∧ (¬ (57 : Int) < x0 → xiR (x0 - 48) ∧ (Q (xI ((x0 - 48) + 1)) h)))) : xwp G m_M_digitOf (d + 1) 0 [xI x0] [] h Q X := by
  have hnx9 : (93 : Int) ≤ xnx h := F.2.2
  refine xr_okL (fun hl9 => ?_)
  have r_x0 : -2147483648 ≤ x0 ∧ x0 ≤ 2147483647 := hl9 (xI x0) (.head _) (Nat.le_of_ble_eq_true rfl)
  refine xr_iload_n (pc := 0) (i := 0) (hI := d_M_digitOf_0) (hi := rfl) (hl := rfl) ?_
  refine xr_bipush (pc := 1) (hI := d_M_digitOf_1) (hr := by decide) (hv := by decide) ?_
  refine xr_icmp_gt (pc := 3) (tgt := 15) (hI := d_M_digitOf_3) (ht := by decide) (fun q9 => ?_) (fun q9 => ?_)
  · replace hyp := hyp.1 q9
    have q1_ := q9
    clear q9
    refine xr_iload_n (pc := 15) (i := 0) (hI := d_M_digitOf_15) (hi := rfl) (hl := rfl) ?_
    refine xr_bipush (pc := 16) (hI := d_M_digitOf_16) (hr := by decide) (hv := by decide) ?_
    refine xr_isub (pc := 18) (hI := d_M_digitOf_18) (hr := ⟨by clear hyp; omega, by clear hyp; omega⟩) ?_
    refine xr_bipush (pc := 19) (hI := d_M_digitOf_19) (hr := by decide) (hv := by decide) ?_
    refine xr_iadd (pc := 21) (hI := d_M_digitOf_21) (hr := ⟨by clear hyp; omega, by clear hyp; omega⟩) ?_
    refine xr_ireturn (S := []) (pc := 22) (hI := d_M_digitOf_22) (hr := rfl) ?_
    exact hyp
  · replace hyp := hyp.2 q9
    have q1_ := q9
    clear q9
    refine xr_iload_n (pc := 6) (i := 0) (hI := d_M_digitOf_6) (hi := rfl) (hl := rfl) ?_
    refine xr_bipush (pc := 7) (hI := d_M_digitOf_7) (hr := by decide) (hv := by decide) ?_
    obtain ⟨c9, hyp⟩ := hyp
    refine xr_isub (pc := 9) (hI := d_M_digitOf_9) (hr := c9) ?_
    refine xr_iconst (pc := 10) (hI := d_M_digitOf_10) (hr := by decide) ?_
    refine xr_iadd (pc := 11) (hI := d_M_digitOf_11) (hr := ⟨by clear hyp; omega, by clear hyp; omega⟩) ?_
    refine xr_goto (pc := 12) (tgt := 22) (hI := d_M_digitOf_12) (ht := by decide) ?_
    refine xr_ireturn (S := []) (pc := 22) (hI := d_M_digitOf_22) (hr := rfl) ?_
    exact hyp
abbrev m_M_packed : XM := (⟨"BeaconIndexModel", "packed", "(I)J"⟩, prog_14_method_17_code, 5, (some .long), [])
theorem d_M_packed_0 : decode prog_14_method_17_code 0 = .ok (.lconst 0, 1) := by decide +kernel
theorem d_M_packed_1 : decode prog_14_method_17_code 1 = .ok (.lstore_n 2, 1) := by decide +kernel
theorem d_M_packed_2 : decode prog_14_method_17_code 2 = .ok (.iconst 0, 1) := by decide +kernel
theorem d_M_packed_3 : decode prog_14_method_17_code 3 = .ok (.istore 4, 2) := by decide +kernel
theorem v_M_packed_0 {G : XG} {d : Nat} {h : XH} {Q : XV → XH → Prop} {X : Nat → XH → Prop} {x1 : Int} (F : xFix h) (hyp : (xwp G m_M_packed (d + 2) 5 [xR 53, xI x1, xL 0, xZ, xI 0] [] h Q X)) : xwp G m_M_packed (d + 2) 0 [xR 53, xI x1, xZ, xZ, xZ] [] h Q X := by
  have hnx9 : (93 : Int) ≤ xnx h := F.2.2
  refine xr_okL (fun hl9 => ?_)
  have r_x1 : -2147483648 ≤ x1 ∧ x1 ≤ 2147483647 := hl9 (xI x1) (.tail _ (.head _)) (Nat.le_of_ble_eq_true rfl)
  refine xr_lconst (pc := 0) (z := 0) (hI := d_M_packed_0) (hr := by decide) (hv := by decide) ?_
  refine xr_lstore_n (pc := 1) (i := 2) (L9 := [xR 53, xI x1, xL 0, xZ, xZ]) (hI := d_M_packed_1) (hi := rfl) (hn := Nat.le_of_ble_eq_true rfl) (hL9 := rfl) ?_
  refine xr_iconst (pc := 2) (hI := d_M_packed_2) (hr := by decide) ?_
  refine xr_istore (pc := 3) (i := 4) (L9 := [xR 53, xI x1, xL 0, xZ, xI 0]) (hI := d_M_packed_3) (hn := Nat.le_of_ble_eq_true rfl) (hL9 := rfl) ?_
  exact hyp
theorem d_M_packed_5 : decode prog_14_method_17_code 5 = .ok (.iload 4, 2) := by decide +kernel
theorem d_M_packed_7 : decode prog_14_method_17_code 7 = .ok (.bipush 12, 2) := by decide +kernel
theorem d_M_packed_9 : decode prog_14_method_17_code 9 = .ok (.if_icmp .ge 37, 3) := by decide +kernel
theorem d_M_packed_46 : decode prog_14_method_17_code 46 = .ok (.lload_n 2, 1) := by decide +kernel
theorem d_M_packed_47 : decode prog_14_method_17_code 47 = .ok (.lreturn, 1) := by decide +kernel
theorem d_M_packed_12 : decode prog_14_method_17_code 12 = .ok (.lload_n 2, 1) := by decide +kernel
theorem d_M_packed_13 : decode prog_14_method_17_code 13 = .ok (.ldc2_w 133, 3) := by decide +kernel
theorem d_M_packed_16 : decode prog_14_method_17_code 16 = .ok (.lmul, 1) := by decide +kernel
theorem d_M_packed_17 : decode prog_14_method_17_code 17 = .ok (.iload 4, 2) := by decide +kernel
theorem d_M_packed_19 : decode prog_14_method_17_code 19 = .ok (.iload_n 1, 1) := by decide +kernel
theorem d_M_packed_20 : decode prog_14_method_17_code 20 = .ok (.if_icmp .ge 16, 3) := by decide +kernel
theorem d_M_packed_36 : decode prog_14_method_17_code 36 = .ok (.iconst 0, 1) := by decide +kernel
theorem d_M_packed_37 : decode prog_14_method_17_code 37 = .ok (.i2l, 1) := by decide +kernel
theorem d_M_packed_38 : decode prog_14_method_17_code 38 = .ok (.ladd, 1) := by decide +kernel
theorem d_M_packed_39 : decode prog_14_method_17_code 39 = .ok (.lstore_n 2, 1) := by decide +kernel
theorem d_M_packed_40 : decode prog_14_method_17_code 40 = .ok (.iinc 4 1, 3) := by decide +kernel
theorem d_M_packed_43 : decode prog_14_method_17_code 43 = .ok (.goto (-38), 3) := by decide +kernel
theorem d_M_packed_23 : decode prog_14_method_17_code 23 = .ok (.aload_n 0, 1) := by decide +kernel
theorem d_M_packed_24 : decode prog_14_method_17_code 24 = .ok (.getfield 39, 3) := by decide +kernel
theorem d_M_packed_27 : decode prog_14_method_17_code 27 = .ok (.iload 4, 2) := by decide +kernel
theorem d_M_packed_29 : decode prog_14_method_17_code 29 = .ok (.iaload, 1) := by decide +kernel
theorem d_M_packed_30 : decode prog_14_method_17_code 30 = .ok (.invokestatic 135, 3) := by decide +kernel
theorem k_M_digitOf : xCal m_M_digitOf 1 := ⟨List.mem_append_right _ (List.mem_of_getElem? (i := 1799) (by decide +kernel)), w_15, Nat.le_of_ble_eq_true rfl, ⟨by decide +kernel, by decide +kernel⟩, by decide +kernel, by decide +kernel, rfl⟩
theorem w_1797 : Cond.methodLink "BeaconIndexModel" 135 ⟨"BeaconIndexModel", "digitOf", "(I)I"⟩ ∈ lw_tbl := List.mem_append_right _ (List.mem_of_getElem? (i := 1797) (by decide +kernel))
theorem w_1798 : Cond.static ⟨"BeaconIndexModel", "digitOf", "(I)I"⟩ ∈ lw_tbl := List.mem_append_right _ (List.mem_of_getElem? (i := 1798) (by decide +kernel))
theorem v_M_packed_5 {G : XG} {d : Nat} {h : XH} {Q : XV → XH → Prop} {X : Nat → XH → Prop} {x1 x2 x4 : Int} (F : xFix h) (hyp : (((12 : Int) ≤ x4 → (Q (xL x2) h)) ∧ (¬ (12 : Int) ≤ x4 → ((x1 ≤ x4 → (xwp G m_M_packed (d + 2) 5 [xR 53, xI x1, xL (xw64 ((xw64 (x2 * 37)) + 0)), xZ, xI (x4 + 1)] [] h Q X)) ∧ (¬ x1 ≤ x4 → 0 ≤ x4 ∧ (xwp G m_M_digitOf (d + 1) 0 [xI (xpl h 63 x4)] [] h (fun v9 h9 => xwp G m_M_packed (d + 2) 33 [xR 53, xI x1, xZ, xZ, xI x4] (xpush v9 [xL (xw64 (x2 * 37))]) h9 Q X) X)))))) : xwp G m_M_packed (d + 2) 5 [xR 53, xI x1, xL x2, xZ, xI x4] [] h Q X := by
  have hnx9 : (93 : Int) ≤ xnx h := F.2.2
  refine xr_okL (fun hl9 => ?_)
  have r_x1 : -2147483648 ≤ x1 ∧ x1 ≤ 2147483647 := hl9 (xI x1) (.tail _ (.head _)) (Nat.le_of_ble_eq_true rfl)
  have r_x2 : -9223372036854775808 ≤ x2 ∧ x2 ≤ 9223372036854775807 := hl9 (xL x2) (.tail _ (.tail _ (.head _))) (Nat.le_of_ble_eq_true rfl)
  have r_x4 : -2147483648 ≤ x4 ∧ x4 ≤ 2147483647 := hl9 (xI x4) (.tail _ (.tail _ (.tail _ (.tail _ (.head _))))) (Nat.le_of_ble_eq_true rfl)
  refine xr_iload (pc := 5) (i := 4) (hI := d_M_packed_5) (hl := rfl) ?_
  refine xr_bipush (pc := 7) (hI := d_M_packed_7) (hr := by decide) (hv := by decide) ?_
  refine xr_icmp_ge (pc := 9) (tgt := 46) (hI := d_M_packed_9) (ht := by decide) (fun q9 => ?_) (fun q9 => ?_)
  · replace hyp := hyp.1 q9
    have q1_ := q9
    clear q9
    refine xr_lload_n (pc := 46) (i := 2) (hI := d_M_packed_46) (hi := rfl) (hl := rfl) ?_
    refine xr_lreturn (S := []) (pc := 47) (hI := d_M_packed_47) (hr := rfl) ?_
    exact hyp
  · replace hyp := hyp.2 q9
    have q1_ := q9
    clear q9
    refine xr_lload_n (pc := 12) (i := 2) (hI := d_M_packed_12) (hi := rfl) (hl := rfl) ?_
    refine xr_ldc2 (pc := 13) (z := 37) (hI := d_M_packed_13) (hw := w_1796) (hr := by decide) (hv := by decide) ?_
    refine xr_lmul (pc := 16) (hI := d_M_packed_16) ?_
    refine xr_iload (pc := 17) (i := 4) (hI := d_M_packed_17) (hl := rfl) ?_
    refine xr_iload_n (pc := 19) (i := 1) (hI := d_M_packed_19) (hi := rfl) (hl := rfl) ?_
    refine xr_icmp_ge (pc := 20) (tgt := 36) (hI := d_M_packed_20) (ht := by decide) (fun q9 => ?_) (fun q9 => ?_)
    · replace hyp := hyp.1 q9
      have q2_ := q9
      clear q9
      refine xr_iconst (pc := 36) (hI := d_M_packed_36) (hr := by decide) ?_
      refine xr_i2l (pc := 37) (hI := d_M_packed_37) ?_
      refine xr_ladd (pc := 38) (hI := d_M_packed_38) ?_
      refine xr_lstore_n (pc := 39) (i := 2) (L9 := [xR 53, xI x1, xL (xw64 ((xw64 (x2 * 37)) + 0)), xZ, xI x4]) (hI := d_M_packed_39) (hi := rfl) (hn := Nat.le_of_ble_eq_true rfl) (hL9 := rfl) ?_
      refine xr_iinc (pc := 40) (i := 4) (L9 := [xR 53, xI x1, xL (xw64 ((xw64 (x2 * 37)) + 0)), xZ, xI (x4 + 1)]) (hI := d_M_packed_40) (hl := rfl) (hn := Nat.le_of_ble_eq_true rfl) (hr := ⟨by clear hyp; omega, by clear hyp; omega⟩) (hL9 := rfl) ?_
      refine xr_goto (pc := 43) (tgt := 5) (hI := d_M_packed_43) (ht := by decide) ?_
      exact hyp
    · replace hyp := hyp.2 q9
      have q2_ := q9
      clear q9
      refine xr_aload_n (pc := 23) (i := 0) (hI := d_M_packed_23) (hi := rfl) (hl := rfl) ?_
      refine xg_getf (pc := 24) (ci := 11) (k := 15) (N := 38) (v9 := 2) (v := 63) (T := xF11) (hI := d_M_packed_24) (hw := w_1602) rfl xi11 (Or.inl rfl) (Nat.le_of_ble_eq_true rfl) (Nat.le_of_ble_eq_true rfl) rfl (ft_53 F) (fp_53_15 F) (fun f3_ => ?_)
      clear f3_
      refine xr_iload (pc := 27) (i := 4) (hI := d_M_packed_27) (hl := rfl) ?_
      obtain ⟨c4_, hyp⟩ := hyp
      refine xg_iaload (pc := 29) (v := (xpl h 63 x4)) (hI := d_M_packed_29) (ft_63 F) c4_ (xlt_of (fl_63 F) (by clear hyp; omega)) rfl (fun f5_ => ?_)
      replace f5_ : -2147483648 ≤ (xpl h 63 x4) ∧ (xpl h 63 x4) ≤ 2147483647 := f5_
      exact xq_callS (pc := 30) (index := 135) (K := m_M_digitOf) (As := [xI (xpl h 63 x4)]) (S := [xL (xw64 (x2 * 37))]) (L0 := [xI (xpl h 63 x4)]) (hI := d_M_packed_30) (hK := k_M_digitOf) (hlk := w_1797) (hnoM := rfl) (hS8 := Nat.le_of_ble_eq_true rfl) (hstat := w_1798) (hlen := Nat.le_of_ble_eq_true rfl) (hst := rfl) (hL0 := rfl)  (xwp_mono hyp (fun v9 h9 q9 => xr_drop (L9 := [xR 53, xI x1, xZ, xZ, xI x4]) (xdrs (xdrs (xdrz (xdrs (xdrs xdr0))))) q9) (fun _ _ z9 => z9))
theorem d_M_packed_33 : decode prog_14_method_17_code 33 = .ok (.goto 4, 3) := by decide +kernel
theorem v_M_packed_33 {G : XG} {d : Nat} {h : XH} {Q : XV → XH → Prop} {X : Nat → XH → Prop} {x1 x4 s0 s1 : Int} (F : xFix h) (hyp : xiR (x4 + 1) ∧ (xwp G m_M_packed (d + 2) 5 [xR 53, xI x1, xL (xw64 (s1 + s0)), xZ, xI (x4 + 1)] [] h Q X)) : xwp G m_M_packed (d + 2) 33 [xR 53, xI x1, xZ, xZ, xI x4] [xI s0, xL s1] h Q X := by
  have hnx9 : (93 : Int) ≤ xnx h := F.2.2
  refine xr_okL (fun hl9 => ?_)
  have r_x1 : -2147483648 ≤ x1 ∧ x1 ≤ 2147483647 := hl9 (xI x1) (.tail _ (.head _)) (Nat.le_of_ble_eq_true rfl)
  have r_x4 : -2147483648 ≤ x4 ∧ x4 ≤ 2147483647 := hl9 (xI x4) (.tail _ (.tail _ (.tail _ (.tail _ (.head _))))) (Nat.le_of_ble_eq_true rfl)
  refine xr_okS (fun hs9 => ?_)
  have r_s0 : -2147483648 ≤ s0 ∧ s0 ≤ 2147483647 := hs9 (xI s0) (.head _)
  have r_s1 : -9223372036854775808 ≤ s1 ∧ s1 ≤ 9223372036854775807 := hs9 (xL s1) (.tail _ (.head _))
  refine xr_goto (pc := 33) (tgt := 37) (hI := d_M_packed_33) (ht := by decide) ?_
  refine xr_i2l (pc := 37) (hI := d_M_packed_37) ?_
  refine xr_ladd (pc := 38) (hI := d_M_packed_38) ?_
  refine xr_lstore_n (pc := 39) (i := 2) (L9 := [xR 53, xI x1, xL (xw64 (s1 + s0)), xZ, xI x4]) (hI := d_M_packed_39) (hi := rfl) (hn := Nat.le_of_ble_eq_true rfl) (hL9 := rfl) ?_
  obtain ⟨c9, hyp⟩ := hyp
  refine xr_iinc (pc := 40) (i := 4) (L9 := [xR 53, xI x1, xL (xw64 (s1 + s0)), xZ, xI (x4 + 1)]) (hI := d_M_packed_40) (hl := rfl) (hn := Nat.le_of_ble_eq_true rfl) (hr := c9) (hL9 := rfl) ?_
  refine xr_goto (pc := 43) (tgt := 5) (hI := d_M_packed_43) (ht := by decide) ?_
  exact hyp
abbrev m_M_digit : XM := (⟨"BeaconIndexModel", "digit", "(JI)I"⟩, prog_14_method_18_code, 3, (some .int), [])
theorem d_M_digit_0 : decode prog_14_method_18_code 0 = .ok (.lload_n 0, 1) := by decide +kernel
theorem d_M_digit_1 : decode prog_14_method_18_code 1 = .ok (.bipush 11, 2) := by decide +kernel
theorem d_M_digit_3 : decode prog_14_method_18_code 3 = .ok (.iload_n 2, 1) := by decide +kernel
theorem d_M_digit_4 : decode prog_14_method_18_code 4 = .ok (.isub, 1) := by decide +kernel
theorem d_M_digit_5 : decode prog_14_method_18_code 5 = .ok (.invokestatic 138, 3) := by decide +kernel
theorem k_M_power : xCal m_M_power 1 := ⟨List.mem_append_right _ (List.mem_of_getElem? (i := 2211) (by decide +kernel)), w_15, Nat.le_of_ble_eq_true rfl, ⟨by decide +kernel, by decide +kernel⟩, by decide +kernel, by decide +kernel, rfl⟩
theorem w_2209 : Cond.methodLink "BeaconIndexModel" 138 ⟨"BeaconIndexModel", "power", "(I)J"⟩ ∈ lw_tbl := List.mem_append_right _ (List.mem_of_getElem? (i := 2209) (by decide +kernel))
theorem w_2210 : Cond.static ⟨"BeaconIndexModel", "power", "(I)J"⟩ ∈ lw_tbl := List.mem_append_right _ (List.mem_of_getElem? (i := 2210) (by decide +kernel))
theorem v_M_digit_0 {G : XG} {d : Nat} {h : XH} {Q : XV → XH → Prop} {X : Nat → XH → Prop} {x0 x2 : Int} (F : xFix h) (hyp : xiR (11 - x2) ∧ (xwp G m_M_power (d + 1) 0 [xI (11 - x2), xZ, xZ, xZ] [] h (fun v9 h9 => xwp G m_M_digit (d + 2) 8 [xZ, xZ, xZ] (xpush v9 [xL x0]) h9 Q X) X)) : xwp G m_M_digit (d + 2) 0 [xL x0, xZ, xI x2] [] h Q X := by
  have hnx9 : (93 : Int) ≤ xnx h := F.2.2
  refine xr_okL (fun hl9 => ?_)
  have r_x0 : -9223372036854775808 ≤ x0 ∧ x0 ≤ 9223372036854775807 := hl9 (xL x0) (.head _) (Nat.le_of_ble_eq_true rfl)
  have r_x2 : -2147483648 ≤ x2 ∧ x2 ≤ 2147483647 := hl9 (xI x2) (.tail _ (.tail _ (.head _))) (Nat.le_of_ble_eq_true rfl)
  refine xr_lload_n (pc := 0) (i := 0) (hI := d_M_digit_0) (hi := rfl) (hl := rfl) ?_
  refine xr_bipush (pc := 1) (hI := d_M_digit_1) (hr := by decide) (hv := by decide) ?_
  refine xr_iload_n (pc := 3) (i := 2) (hI := d_M_digit_3) (hi := rfl) (hl := rfl) ?_
  obtain ⟨c9, hyp⟩ := hyp
  refine xr_isub (pc := 4) (hI := d_M_digit_4) (hr := c9) ?_
  exact xq_callS (pc := 5) (index := 138) (K := m_M_power) (As := [xI (11 - x2)]) (S := [xL x0]) (L0 := [xI (11 - x2), xZ, xZ, xZ]) (hI := d_M_digit_5) (hK := k_M_power) (hlk := w_2209) (hnoM := rfl) (hS8 := Nat.le_of_ble_eq_true rfl) (hstat := w_2210) (hlen := Nat.le_of_ble_eq_true rfl) (hst := rfl) (hL0 := rfl)  (xwp_mono hyp (fun v9 h9 q9 => xr_drop (L9 := [xZ, xZ, xZ]) (xdrz (xdrs (xdrz xdr0))) q9) (fun _ _ z9 => z9))
theorem d_M_digit_8 : decode prog_14_method_18_code 8 = .ok (.ldiv, 1) := by decide +kernel
theorem d_M_digit_9 : decode prog_14_method_18_code 9 = .ok (.ldc2_w 133, 3) := by decide +kernel
theorem d_M_digit_12 : decode prog_14_method_18_code 12 = .ok (.lrem, 1) := by decide +kernel
theorem d_M_digit_13 : decode prog_14_method_18_code 13 = .ok (.l2i, 1) := by decide +kernel
theorem d_M_digit_14 : decode prog_14_method_18_code 14 = .ok (.ireturn, 1) := by decide +kernel
theorem v_M_digit_8 {G : XG} {d : Nat} {h : XH} {Q : XV → XH → Prop} {X : Nat → XH → Prop} {s0 s1 : Int} (F : xFix h) (hyp : (0 : Int) < s0 ∧ (Q (xI (xw32 (Int.tmod (Int.tdiv s1 s0) 37))) h)) : xwp G m_M_digit (d + 2) 8 [xZ, xZ, xZ] [xL s0, xL s1] h Q X := by
  have hnx9 : (93 : Int) ≤ xnx h := F.2.2
  refine xr_okS (fun hs9 => ?_)
  have r_s0 : -9223372036854775808 ≤ s0 ∧ s0 ≤ 9223372036854775807 := hs9 (xL s0) (.head _)
  have r_s1 : -9223372036854775808 ≤ s1 ∧ s1 ≤ 9223372036854775807 := hs9 (xL s1) (.tail _ (.head _))
  obtain ⟨c9, hyp⟩ := hyp
  refine xr_ldiv (pc := 8) (hI := d_M_digit_8) (h0 := c9) ?_
  refine xr_ldc2 (pc := 9) (z := 37) (hI := d_M_digit_9) (hw := w_1796) (hr := by decide) (hv := by decide) ?_
  refine xr_lrem (pc := 12) (hI := d_M_digit_12) (h0 := (by decide)) ?_
  refine xr_l2i (pc := 13) (hI := d_M_digit_13) ?_
  refine xr_ireturn (S := []) (pc := 14) (hI := d_M_digit_14) (hr := rfl) ?_
  exact hyp
abbrev m_M_lengthOf_J : XM := (⟨"BeaconIndexModel", "lengthOf", "(J)I"⟩, prog_14_method_19_code, 3, (some .int), [])
theorem d_M_lengthOf_J_0 : decode prog_14_method_19_code 0 = .ok (.iconst 0, 1) := by decide +kernel
theorem d_M_lengthOf_J_1 : decode prog_14_method_19_code 1 = .ok (.istore_n 2, 1) := by decide +kernel
theorem v_M_lengthOf_J_0 {G : XG} {d : Nat} {h : XH} {Q : XV → XH → Prop} {X : Nat → XH → Prop} {x0 : Int} (F : xFix h) (hyp : (xwp G m_M_lengthOf_J (d + 3) 2 [xL x0, xZ, xI 0] [] h Q X)) : xwp G m_M_lengthOf_J (d + 3) 0 [xL x0, xZ, xZ] [] h Q X := by
  have hnx9 : (93 : Int) ≤ xnx h := F.2.2
  refine xr_okL (fun hl9 => ?_)
  have r_x0 : -9223372036854775808 ≤ x0 ∧ x0 ≤ 9223372036854775807 := hl9 (xL x0) (.head _) (Nat.le_of_ble_eq_true rfl)
  refine xr_iconst (pc := 0) (hI := d_M_lengthOf_J_0) (hr := by decide) ?_
  refine xr_istore_n (pc := 1) (i := 2) (L9 := [xL x0, xZ, xI 0]) (hI := d_M_lengthOf_J_1) (hi := rfl) (hn := Nat.le_of_ble_eq_true rfl) (hL9 := rfl) ?_
  exact hyp
theorem d_M_lengthOf_J_2 : decode prog_14_method_19_code 2 = .ok (.iload_n 2, 1) := by decide +kernel
theorem d_M_lengthOf_J_3 : decode prog_14_method_19_code 3 = .ok (.bipush 12, 2) := by decide +kernel
theorem d_M_lengthOf_J_5 : decode prog_14_method_19_code 5 = .ok (.if_icmp .ge 17, 3) := by decide +kernel
theorem d_M_lengthOf_J_22 : decode prog_14_method_19_code 22 = .ok (.iload_n 2, 1) := by decide +kernel
theorem d_M_lengthOf_J_23 : decode prog_14_method_19_code 23 = .ok (.ireturn, 1) := by decide +kernel
theorem d_M_lengthOf_J_8 : decode prog_14_method_19_code 8 = .ok (.lload_n 0, 1) := by decide +kernel
theorem d_M_lengthOf_J_9 : decode prog_14_method_19_code 9 = .ok (.iload_n 2, 1) := by decide +kernel
theorem d_M_lengthOf_J_10 : decode prog_14_method_19_code 10 = .ok (.invokestatic 142, 3) := by decide +kernel
theorem k_M_digit : xCal m_M_digit 2 := ⟨List.mem_append_right _ (List.mem_of_getElem? (i := 2208) (by decide +kernel)), w_15, Nat.le_of_ble_eq_true rfl, ⟨by decide +kernel, by decide +kernel⟩, by decide +kernel, by decide +kernel, rfl⟩
theorem w_2206 : Cond.methodLink "BeaconIndexModel" 142 ⟨"BeaconIndexModel", "digit", "(JI)I"⟩ ∈ lw_tbl := List.mem_append_right _ (List.mem_of_getElem? (i := 2206) (by decide +kernel))
theorem w_2207 : Cond.static ⟨"BeaconIndexModel", "digit", "(JI)I"⟩ ∈ lw_tbl := List.mem_append_right _ (List.mem_of_getElem? (i := 2207) (by decide +kernel))
theorem v_M_lengthOf_J_2 {G : XG} {d : Nat} {h : XH} {Q : XV → XH → Prop} {X : Nat → XH → Prop} {x0 x2 : Int} (F : xFix h) (hyp : (((12 : Int) ≤ x2 → (Q (xI x2) h)) ∧ (¬ (12 : Int) ≤ x2 → (xwp G m_M_digit (d + 2) 0 [xL x0, xZ, xI x2] [] h (fun v9 h9 => xwp G m_M_lengthOf_J (d + 3) 13 [xL x0, xZ, xI x2] (xpush v9 []) h9 Q X) X)))) : xwp G m_M_lengthOf_J (d + 3) 2 [xL x0, xZ, xI x2] [] h Q X := by
  have hnx9 : (93 : Int) ≤ xnx h := F.2.2
  refine xr_okL (fun hl9 => ?_)
  have r_x0 : -9223372036854775808 ≤ x0 ∧ x0 ≤ 9223372036854775807 := hl9 (xL x0) (.head _) (Nat.le_of_ble_eq_true rfl)
  have r_x2 : -2147483648 ≤ x2 ∧ x2 ≤ 2147483647 := hl9 (xI x2) (.tail _ (.tail _ (.head _))) (Nat.le_of_ble_eq_true rfl)
  refine xr_iload_n (pc := 2) (i := 2) (hI := d_M_lengthOf_J_2) (hi := rfl) (hl := rfl) ?_
  refine xr_bipush (pc := 3) (hI := d_M_lengthOf_J_3) (hr := by decide) (hv := by decide) ?_
  refine xr_icmp_ge (pc := 5) (tgt := 22) (hI := d_M_lengthOf_J_5) (ht := by decide) (fun q9 => ?_) (fun q9 => ?_)
  · replace hyp := hyp.1 q9
    have q1_ := q9
    clear q9
    refine xr_iload_n (pc := 22) (i := 2) (hI := d_M_lengthOf_J_22) (hi := rfl) (hl := rfl) ?_
    refine xr_ireturn (S := []) (pc := 23) (hI := d_M_lengthOf_J_23) (hr := rfl) ?_
    exact hyp
  · replace hyp := hyp.2 q9
    have q1_ := q9
    clear q9
    refine xr_lload_n (pc := 8) (i := 0) (hI := d_M_lengthOf_J_8) (hi := rfl) (hl := rfl) ?_
    refine xr_iload_n (pc := 9) (i := 2) (hI := d_M_lengthOf_J_9) (hi := rfl) (hl := rfl) ?_
    exact xq_callS (pc := 10) (index := 142) (K := m_M_digit) (As := [xL x0, xI x2]) (S := []) (L0 := [xL x0, xZ, xI x2]) (hI := d_M_lengthOf_J_10) (hK := k_M_digit) (hlk := w_2206) (hnoM := rfl) (hS8 := Nat.le_of_ble_eq_true rfl) (hstat := w_2207) (hlen := Nat.le_of_ble_eq_true rfl) (hst := rfl) (hL0 := rfl)  hyp
theorem d_M_lengthOf_J_13 : decode prog_14_method_19_code 13 = .ok (.ifCond .le 9, 3) := by decide +kernel
theorem d_M_lengthOf_J_16 : decode prog_14_method_19_code 16 = .ok (.iinc 2 1, 3) := by decide +kernel
theorem d_M_lengthOf_J_19 : decode prog_14_method_19_code 19 = .ok (.goto (-17), 3) := by decide +kernel
theorem v_M_lengthOf_J_13 {G : XG} {d : Nat} {h : XH} {Q : XV → XH → Prop} {X : Nat → XH → Prop} {x0 x2 s0 : Int} (F : xFix h) (hyp : ((s0 ≤ 0 → (Q (xI x2) h)) ∧ (¬ s0 ≤ 0 → xiR (x2 + 1) ∧ (xwp G m_M_lengthOf_J (d + 3) 2 [xL x0, xZ, xI (x2 + 1)] [] h Q X)))) : xwp G m_M_lengthOf_J (d + 3) 13 [xL x0, xZ, xI x2] [xI s0] h Q X := by
  have hnx9 : (93 : Int) ≤ xnx h := F.2.2
  refine xr_okL (fun hl9 => ?_)
  have r_x0 : -9223372036854775808 ≤ x0 ∧ x0 ≤ 9223372036854775807 := hl9 (xL x0) (.head _) (Nat.le_of_ble_eq_true rfl)
  have r_x2 : -2147483648 ≤ x2 ∧ x2 ≤ 2147483647 := hl9 (xI x2) (.tail _ (.tail _ (.head _))) (Nat.le_of_ble_eq_true rfl)
  refine xr_okS (fun hs9 => ?_)
  have r_s0 : -2147483648 ≤ s0 ∧ s0 ≤ 2147483647 := hs9 (xI s0) (.head _)
  refine xr_if_le (pc := 13) (tgt := 22) (hI := d_M_lengthOf_J_13) (ht := by decide) (fun q9 => ?_) (fun q9 => ?_)
  · replace hyp := hyp.1 q9
    have q1_ := q9
    clear q9
    refine xr_iload_n (pc := 22) (i := 2) (hI := d_M_lengthOf_J_22) (hi := rfl) (hl := rfl) ?_
    refine xr_ireturn (S := []) (pc := 23) (hI := d_M_lengthOf_J_23) (hr := rfl) ?_
    exact hyp
  · replace hyp := hyp.2 q9
    have q1_ := q9
    clear q9
    obtain ⟨c9, hyp⟩ := hyp
    refine xr_iinc (pc := 16) (i := 2) (L9 := [xL x0, xZ, xI (x2 + 1)]) (hI := d_M_lengthOf_J_16) (hl := rfl) (hn := Nat.le_of_ble_eq_true rfl) (hr := c9) (hL9 := rfl) ?_
    refine xr_goto (pc := 19) (tgt := 2) (hI := d_M_lengthOf_J_19) (ht := by decide) ?_
    exact hyp
abbrev m_M_cutToLetters : XM := (⟨"BeaconIndexModel", "cutToLetters", "(II)I"⟩, prog_14_method_20_code, 5, (some .int), [])
theorem d_M_cutToLetters_0 : decode prog_14_method_20_code 0 = .ok (.iload_n 2, 1) := by decide +kernel
theorem d_M_cutToLetters_1 : decode prog_14_method_20_code 1 = .ok (.bipush 12, 2) := by decide +kernel
theorem d_M_cutToLetters_3 : decode prog_14_method_20_code 3 = .ok (.invokestatic 146, 3) := by decide +kernel
theorem w_1786 : Cond.methodLink "BeaconIndexModel" 146 ⟨"java/lang/Math", "min", "(II)I"⟩ ∈ lw_tbl := List.mem_append_right _ (List.mem_of_getElem? (i := 1786) (by decide +kernel))
theorem d_M_cutToLetters_6 : decode prog_14_method_20_code 6 = .ok (.istore_n 3, 1) := by decide +kernel
theorem d_M_cutToLetters_7 : decode prog_14_method_20_code 7 = .ok (.iconst 0, 1) := by decide +kernel
theorem d_M_cutToLetters_8 : decode prog_14_method_20_code 8 = .ok (.istore 4, 2) := by decide +kernel
theorem v_M_cutToLetters_0 {G : XG} {d : Nat} {h : XH} {Q : XV → XH → Prop} {X : Nat → XH → Prop} {x1 x2 : Int} (F : xFix h) (hyp : (xwp G m_M_cutToLetters (d + 3) 10 [xR 53, xI x1, xZ, xI (min x2 12), xI 0] [] h Q X)) : xwp G m_M_cutToLetters (d + 3) 0 [xR 53, xI x1, xI x2, xZ, xZ] [] h Q X := by
  have hnx9 : (93 : Int) ≤ xnx h := F.2.2
  refine xr_okL (fun hl9 => ?_)
  have r_x1 : -2147483648 ≤ x1 ∧ x1 ≤ 2147483647 := hl9 (xI x1) (.tail _ (.head _)) (Nat.le_of_ble_eq_true rfl)
  have r_x2 : -2147483648 ≤ x2 ∧ x2 ≤ 2147483647 := hl9 (xI x2) (.tail _ (.tail _ (.head _))) (Nat.le_of_ble_eq_true rfl)
  refine xr_iload_n (pc := 0) (i := 2) (hI := d_M_cutToLetters_0) (hi := rfl) (hl := rfl) ?_
  refine xr_bipush (pc := 1) (hI := d_M_cutToLetters_1) (hr := by decide) (hv := by decide) ?_
  refine xr_mmin (pc := 3) (index := 146) (hI := d_M_cutToLetters_3) w_1786 w_542 w_25 w_mmin (Nat.le_add_left_of_le (by decide)) (Nat.le_of_ble_eq_true rfl) ?_
  have f1_ : (min x2 12) ≤ x2 := (by clear hyp; omega)
  have f2_ : (min x2 12) ≤ 12 := (by clear hyp; omega)
  have f3_ : (-2147483648) ≤ (min x2 12) := (by clear hyp; omega)
  refine xr_istore_n (pc := 6) (i := 3) (L9 := [xR 53, xI x1, xI x2, xI (min x2 12), xZ]) (hI := d_M_cutToLetters_6) (hi := rfl) (hn := Nat.le_of_ble_eq_true rfl) (hL9 := rfl) ?_
  refine xr_iconst (pc := 7) (hI := d_M_cutToLetters_7) (hr := by decide) ?_
  refine xr_istore (pc := 8) (i := 4) (L9 := [xR 53, xI x1, xI x2, xI (min x2 12), xI 0]) (hI := d_M_cutToLetters_8) (hn := Nat.le_of_ble_eq_true rfl) (hL9 := rfl) ?_
  exact xr_drop (L9 := [xR 53, xI x1, xZ, xI (min x2 12), xI 0]) (xdrs (xdrs (xdrz (xdrs (xdrs xdr0))))) hyp
theorem d_M_cutToLetters_10 : decode prog_14_method_20_code 10 = .ok (.iload 4, 2) := by decide +kernel
theorem d_M_cutToLetters_12 : decode prog_14_method_20_code 12 = .ok (.iload_n 3, 1) := by decide +kernel
theorem d_M_cutToLetters_13 : decode prog_14_method_20_code 13 = .ok (.if_icmp .ge 24, 3) := by decide +kernel
theorem d_M_cutToLetters_37 : decode prog_14_method_20_code 37 = .ok (.iload_n 3, 1) := by decide +kernel
theorem d_M_cutToLetters_38 : decode prog_14_method_20_code 38 = .ok (.ireturn, 1) := by decide +kernel
theorem d_M_cutToLetters_16 : decode prog_14_method_20_code 16 = .ok (.aload_n 0, 1) := by decide +kernel
theorem d_M_cutToLetters_17 : decode prog_14_method_20_code 17 = .ok (.getfield 39, 3) := by decide +kernel
theorem d_M_cutToLetters_20 : decode prog_14_method_20_code 20 = .ok (.iload 4, 2) := by decide +kernel
theorem d_M_cutToLetters_22 : decode prog_14_method_20_code 22 = .ok (.aload_n 0, 1) := by decide +kernel
theorem d_M_cutToLetters_23 : decode prog_14_method_20_code 23 = .ok (.iload_n 1, 1) := by decide +kernel
theorem d_M_cutToLetters_24 : decode prog_14_method_20_code 24 = .ok (.iload 4, 2) := by decide +kernel
theorem d_M_cutToLetters_26 : decode prog_14_method_20_code 26 = .ok (.iadd, 1) := by decide +kernel
theorem d_M_cutToLetters_27 : decode prog_14_method_20_code 27 = .ok (.invokevirtual 108, 3) := by decide +kernel
theorem v_M_cutToLetters_10 {G : XG} {d : Nat} {h : XH} {Q : XV → XH → Prop} {X : Nat → XH → Prop} {x1 x3 x4 : Int} (F : xFix h) (hyp : ((x3 ≤ x4 → (Q (xI x3) h)) ∧ (¬ x3 ≤ x4 → xiR (x1 + x4) ∧ (xwp G m_M_folded (d + 2) 0 [xR 53, xI (x1 + x4)] [] h (fun v9 h9 => xwp G m_M_cutToLetters (d + 3) 30 [xR 53, xI x1, xZ, xI x3, xI x4] (xpush v9 [xI x4, xR 63]) h9 Q X) X)))) : xwp G m_M_cutToLetters (d + 3) 10 [xR 53, xI x1, xZ, xI x3, xI x4] [] h Q X := by
  have hnx9 : (93 : Int) ≤ xnx h := F.2.2
  refine xr_okL (fun hl9 => ?_)
  have r_x1 : -2147483648 ≤ x1 ∧ x1 ≤ 2147483647 := hl9 (xI x1) (.tail _ (.head _)) (Nat.le_of_ble_eq_true rfl)
  have r_x3 : -2147483648 ≤ x3 ∧ x3 ≤ 2147483647 := hl9 (xI x3) (.tail _ (.tail _ (.tail _ (.head _)))) (Nat.le_of_ble_eq_true rfl)
  have r_x4 : -2147483648 ≤ x4 ∧ x4 ≤ 2147483647 := hl9 (xI x4) (.tail _ (.tail _ (.tail _ (.tail _ (.head _))))) (Nat.le_of_ble_eq_true rfl)
  refine xr_iload (pc := 10) (i := 4) (hI := d_M_cutToLetters_10) (hl := rfl) ?_
  refine xr_iload_n (pc := 12) (i := 3) (hI := d_M_cutToLetters_12) (hi := rfl) (hl := rfl) ?_
  refine xr_icmp_ge (pc := 13) (tgt := 37) (hI := d_M_cutToLetters_13) (ht := by decide) (fun q9 => ?_) (fun q9 => ?_)
  · replace hyp := hyp.1 q9
    have q1_ := q9
    clear q9
    refine xr_iload_n (pc := 37) (i := 3) (hI := d_M_cutToLetters_37) (hi := rfl) (hl := rfl) ?_
    refine xr_ireturn (S := []) (pc := 38) (hI := d_M_cutToLetters_38) (hr := rfl) ?_
    exact hyp
  · replace hyp := hyp.2 q9
    have q1_ := q9
    clear q9
    refine xr_aload_n (pc := 16) (i := 0) (hI := d_M_cutToLetters_16) (hi := rfl) (hl := rfl) ?_
    refine xg_getf (pc := 17) (ci := 11) (k := 15) (N := 38) (v9 := 2) (v := 63) (T := xF11) (hI := d_M_cutToLetters_17) (hw := w_1602) rfl xi11 (Or.inl rfl) (Nat.le_of_ble_eq_true rfl) (Nat.le_of_ble_eq_true rfl) rfl (ft_53 F) (fp_53_15 F) (fun f2_ => ?_)
    clear f2_
    refine xr_iload (pc := 20) (i := 4) (hI := d_M_cutToLetters_20) (hl := rfl) ?_
    refine xr_aload_n (pc := 22) (i := 0) (hI := d_M_cutToLetters_22) (hi := rfl) (hl := rfl) ?_
    refine xr_iload_n (pc := 23) (i := 1) (hI := d_M_cutToLetters_23) (hi := rfl) (hl := rfl) ?_
    refine xr_iload (pc := 24) (i := 4) (hI := d_M_cutToLetters_24) (hl := rfl) ?_
    obtain ⟨c9, hyp⟩ := hyp
    refine xr_iadd (pc := 26) (hI := d_M_cutToLetters_26) (hr := c9) ?_
    exact xq_callV (pc := 27) (index := 108) (K := m_M_folded) (As := [xI (x1 + x4)]) (S := [xI x4, xR 63]) (L0 := [xR 53, xI (x1 + x4)]) (hI := d_M_cutToLetters_27) (hK := k_M_folded) (hlk := w_1761) (hnoM := rfl) (hS8 := Nat.le_of_ble_eq_true rfl) (ci := 11) (N := 38) (C := "BeaconIndexModel") (T := xF11) (hc := rfl) (hci := Nat.le_of_ble_eq_true rfl) (htb := (ft_53 F)) (hinst := w_1763) (hsel := sel_M_folded) (hlen := Nat.le_of_ble_eq_true rfl) (hst := rfl) (hL0 := rfl)  hyp
theorem d_M_cutToLetters_30 : decode prog_14_method_20_code 30 = .ok (.iastore, 1) := by decide +kernel
theorem xfa_63 : xfreeA 63 = true := by decide +kernel
theorem d_M_cutToLetters_31 : decode prog_14_method_20_code 31 = .ok (.iinc 4 1, 3) := by decide +kernel
theorem d_M_cutToLetters_34 : decode prog_14_method_20_code 34 = .ok (.goto (-24), 3) := by decide +kernel
theorem v_M_cutToLetters_30 {G : XG} {d : Nat} {h : XH} {Q : XV → XH → Prop} {X : Nat → XH → Prop} {x1 x3 x4 s0 s1 : Int} (F : xFix h) (hyp : 0 ≤ s1 ∧ s1 < 12 ∧ xiR (x4 + 1) ∧ (xFix (xst h 63 s1 s0) → xwp G m_M_cutToLetters (d + 3) 10 [xR 53, xI x1, xZ, xI x3, xI (x4 + 1)] [] (xst h 63 s1 s0) Q X)) : xwp G m_M_cutToLetters (d + 3) 30 [xR 53, xI x1, xZ, xI x3, xI x4] [xI s0, xI s1, xR 63] h Q X := by
  have hnx9 : (93 : Int) ≤ xnx h := F.2.2
  refine xr_okL (fun hl9 => ?_)
  have r_x1 : -2147483648 ≤ x1 ∧ x1 ≤ 2147483647 := hl9 (xI x1) (.tail _ (.head _)) (Nat.le_of_ble_eq_true rfl)
  have r_x3 : -2147483648 ≤ x3 ∧ x3 ≤ 2147483647 := hl9 (xI x3) (.tail _ (.tail _ (.tail _ (.head _)))) (Nat.le_of_ble_eq_true rfl)
  have r_x4 : -2147483648 ≤ x4 ∧ x4 ≤ 2147483647 := hl9 (xI x4) (.tail _ (.tail _ (.tail _ (.tail _ (.head _))))) (Nat.le_of_ble_eq_true rfl)
  refine xr_okS (fun hs9 => ?_)
  have r_s0 : -2147483648 ≤ s0 ∧ s0 ≤ 2147483647 := hs9 (xI s0) (.head _)
  have r_s1 : -2147483648 ≤ s1 ∧ s1 ≤ 2147483647 := hs9 (xI s1) (.tail _ (.head _))
  obtain ⟨c1_, hyp⟩ := hyp
  obtain ⟨c2_, hyp⟩ := hyp
  refine xr_iastore (pc := 30) (hI := d_M_cutToLetters_30) (ft_63 F) (by decide) c1_ (xlt_of (fl_63 F) c2_) ?_
  have F3_ : xFix (xst h 63 s1 s0) := F.stA xfa_63
  obtain ⟨c9, hyp⟩ := hyp
  refine xr_iinc (pc := 31) (i := 4) (L9 := [xR 53, xI x1, xZ, xI x3, xI (x4 + 1)]) (hI := d_M_cutToLetters_31) (hl := rfl) (hn := Nat.le_of_ble_eq_true rfl) (hr := c9) (hL9 := rfl) ?_
  refine xr_goto (pc := 34) (tgt := 10) (hI := d_M_cutToLetters_34) (ht := by decide) ?_
  exact (hyp F3_)
abbrev m_M_wordAt : XM := (⟨"BeaconIndexModel", "wordAt", "(II)J"⟩, prog_14_method_21_code, 4, (some .long), [])
theorem d_M_wordAt_0 : decode prog_14_method_21_code 0 = .ok (.aload_n 0, 1) := by decide +kernel
theorem d_M_wordAt_1 : decode prog_14_method_21_code 1 = .ok (.iload_n 1, 1) := by decide +kernel
theorem d_M_wordAt_2 : decode prog_14_method_21_code 2 = .ok (.iload_n 2, 1) := by decide +kernel
theorem d_M_wordAt_3 : decode prog_14_method_21_code 3 = .ok (.invokevirtual 152, 3) := by decide +kernel
theorem k_M_cutToLetters : xCal m_M_cutToLetters 2 := ⟨List.mem_append_right _ (List.mem_of_getElem? (i := 1785) (by decide +kernel)), w_15, Nat.le_of_ble_eq_true rfl, ⟨by decide +kernel, by decide +kernel⟩, by decide +kernel, by decide +kernel, rfl⟩
theorem w_1782 : Cond.methodLink "BeaconIndexModel" 152 ⟨"BeaconIndexModel", "cutToLetters", "(II)I"⟩ ∈ lw_tbl := List.mem_append_right _ (List.mem_of_getElem? (i := 1782) (by decide +kernel))
theorem w_1784 : Cond.instanceMethod ⟨"BeaconIndexModel", "cutToLetters", "(II)I"⟩ ∈ lw_tbl := List.mem_append_right _ (List.mem_of_getElem? (i := 1784) (by decide +kernel))
theorem sel_M_cutToLetters : Cond.selects "BeaconIndexModel" ⟨"BeaconIndexModel", "cutToLetters", "(II)I"⟩ ⟨"BeaconIndexModel", "cutToLetters", "(II)I"⟩ ∈ lw_tbl := List.mem_append_left _ (by decide +kernel)
theorem v_M_wordAt_0 {G : XG} {d : Nat} {h : XH} {Q : XV → XH → Prop} {X : Nat → XH → Prop} {x1 x2 : Int} (F : xFix h) (hyp : (xwp G m_M_cutToLetters (d + 6) 0 [xR 53, xI x1, xI x2, xZ, xZ] [] h (fun v9 h9 => xwp G m_M_wordAt (d + 7) 6 [xR 53, xZ, xZ, xZ] (xpush v9 []) h9 Q X) X)) : xwp G m_M_wordAt (d + 7) 0 [xR 53, xI x1, xI x2, xZ] [] h Q X := by
  have hnx9 : (93 : Int) ≤ xnx h := F.2.2
  refine xr_okL (fun hl9 => ?_)
  have r_x1 : -2147483648 ≤ x1 ∧ x1 ≤ 2147483647 := hl9 (xI x1) (.tail _ (.head _)) (Nat.le_of_ble_eq_true rfl)
  have r_x2 : -2147483648 ≤ x2 ∧ x2 ≤ 2147483647 := hl9 (xI x2) (.tail _ (.tail _ (.head _))) (Nat.le_of_ble_eq_true rfl)
  refine xr_aload_n (pc := 0) (i := 0) (hI := d_M_wordAt_0) (hi := rfl) (hl := rfl) ?_
  refine xr_iload_n (pc := 1) (i := 1) (hI := d_M_wordAt_1) (hi := rfl) (hl := rfl) ?_
  refine xr_iload_n (pc := 2) (i := 2) (hI := d_M_wordAt_2) (hi := rfl) (hl := rfl) ?_
  exact xq_callV (pc := 3) (index := 152) (K := m_M_cutToLetters) (As := [xI x1, xI x2]) (S := []) (L0 := [xR 53, xI x1, xI x2, xZ, xZ]) (hI := d_M_wordAt_3) (hK := k_M_cutToLetters) (hlk := w_1782) (hnoM := rfl) (hS8 := Nat.le_of_ble_eq_true rfl) (ci := 11) (N := 38) (C := "BeaconIndexModel") (T := xF11) (hc := rfl) (hci := Nat.le_of_ble_eq_true rfl) (htb := (ft_53 F)) (hinst := w_1784) (hsel := sel_M_cutToLetters) (hlen := Nat.le_of_ble_eq_true rfl) (hst := rfl) (hL0 := rfl)  (xwp_mono hyp (fun v9 h9 q9 => xr_drop (L9 := [xR 53, xZ, xZ, xZ]) (xdrs (xdrz (xdrz (xdrs xdr0)))) q9) (fun _ _ z9 => z9))
theorem d_M_wordAt_6 : decode prog_14_method_21_code 6 = .ok (.istore_n 3, 1) := by decide +kernel
theorem d_M_wordAt_7 : decode prog_14_method_21_code 7 = .ok (.iload_n 3, 1) := by decide +kernel
theorem d_M_wordAt_8 : decode prog_14_method_21_code 8 = .ok (.iconst 4, 1) := by decide +kernel
theorem d_M_wordAt_9 : decode prog_14_method_21_code 9 = .ok (.if_icmp .le 31, 3) := by decide +kernel
theorem d_M_wordAt_40 : decode prog_14_method_21_code 40 = .ok (.aload_n 0, 1) := by decide +kernel
theorem d_M_wordAt_41 : decode prog_14_method_21_code 41 = .ok (.iload_n 3, 1) := by decide +kernel
theorem d_M_wordAt_42 : decode prog_14_method_21_code 42 = .ok (.ldc 164, 2) := by decide +kernel
theorem d_M_wordAt_44 : decode prog_14_method_21_code 44 = .ok (.invokevirtual 157, 3) := by decide +kernel
theorem k_M_doesEnd : xCal m_M_doesEnd 2 := ⟨List.mem_append_right _ (List.mem_of_getElem? (i := 1791) (by decide +kernel)), w_15, Nat.le_of_ble_eq_true rfl, ⟨by decide +kernel, by decide +kernel⟩, by decide +kernel, by decide +kernel, rfl⟩
theorem w_1788 : Cond.methodLink "BeaconIndexModel" 157 ⟨"BeaconIndexModel", "doesEnd", "(ILjava/lang/String;)Z"⟩ ∈ lw_tbl := List.mem_append_right _ (List.mem_of_getElem? (i := 1788) (by decide +kernel))
theorem w_1790 : Cond.instanceMethod ⟨"BeaconIndexModel", "doesEnd", "(ILjava/lang/String;)Z"⟩ ∈ lw_tbl := List.mem_append_right _ (List.mem_of_getElem? (i := 1790) (by decide +kernel))
theorem sel_M_doesEnd : Cond.selects "BeaconIndexModel" ⟨"BeaconIndexModel", "doesEnd", "(ILjava/lang/String;)Z"⟩ ⟨"BeaconIndexModel", "doesEnd", "(ILjava/lang/String;)Z"⟩ ∈ lw_tbl := List.mem_append_left _ (by decide +kernel)
theorem d_M_wordAt_12 : decode prog_14_method_21_code 12 = .ok (.aload_n 0, 1) := by decide +kernel
theorem d_M_wordAt_13 : decode prog_14_method_21_code 13 = .ok (.iload_n 3, 1) := by decide +kernel
theorem d_M_wordAt_14 : decode prog_14_method_21_code 14 = .ok (.ldc 155, 2) := by decide +kernel
theorem d_M_wordAt_16 : decode prog_14_method_21_code 16 = .ok (.invokevirtual 157, 3) := by decide +kernel
theorem v_M_wordAt_6 {G : XG} {d : Nat} {h : XH} {Q : XV → XH → Prop} {X : Nat → XH → Prop} {s0 : Int} (F : xFix h) (hyp : ((s0 ≤ 4 → (xwp G m_M_doesEnd (d + 6) 0 [xR 53, xI s0, xR (-38), xZ, xZ] [] h (fun v9 h9 => xwp G m_M_wordAt (d + 7) 47 [xR 53, xZ, xZ, xI s0] (xpush v9 []) h9 Q X) X)) ∧ (¬ s0 ≤ 4 → (xwp G m_M_doesEnd (d + 6) 0 [xR 53, xI s0, xR (-36), xZ, xZ] [] h (fun v9 h9 => xwp G m_M_wordAt (d + 7) 19 [xR 53, xZ, xZ, xI s0] (xpush v9 []) h9 Q X) X)))) : xwp G m_M_wordAt (d + 7) 6 [xR 53, xZ, xZ, xZ] [xI s0] h Q X := by
  have hnx9 : (93 : Int) ≤ xnx h := F.2.2
  refine xr_okS (fun hs9 => ?_)
  have r_s0 : -2147483648 ≤ s0 ∧ s0 ≤ 2147483647 := hs9 (xI s0) (.head _)
  refine xr_istore_n (pc := 6) (i := 3) (L9 := [xR 53, xZ, xZ, xI s0]) (hI := d_M_wordAt_6) (hi := rfl) (hn := Nat.le_of_ble_eq_true rfl) (hL9 := rfl) ?_
  refine xr_iload_n (pc := 7) (i := 3) (hI := d_M_wordAt_7) (hi := rfl) (hl := rfl) ?_
  refine xr_iconst (pc := 8) (hI := d_M_wordAt_8) (hr := by decide) ?_
  refine xr_icmp_le (pc := 9) (tgt := 40) (hI := d_M_wordAt_9) (ht := by decide) (fun q9 => ?_) (fun q9 => ?_)
  · replace hyp := hyp.1 q9
    have q1_ := q9
    clear q9
    refine xr_aload_n (pc := 40) (i := 0) (hI := d_M_wordAt_40) (hi := rfl) (hl := rfl) ?_
    refine xr_iload_n (pc := 41) (i := 3) (hI := d_M_wordAt_41) (hi := rfl) (hl := rfl) ?_
    refine xr_ldcS (pc := 42) (z := (-38)) (tx := "sses") (k0 := 36) (hI := d_M_wordAt_42) (hm := by decide +kernel) (hz0 := by decide) ?_
    exact xq_callV (pc := 44) (index := 157) (K := m_M_doesEnd) (As := [xI s0, xR (-38)]) (S := []) (L0 := [xR 53, xI s0, xR (-38), xZ, xZ]) (hI := d_M_wordAt_44) (hK := k_M_doesEnd) (hlk := w_1788) (hnoM := rfl) (hS8 := Nat.le_of_ble_eq_true rfl) (ci := 11) (N := 38) (C := "BeaconIndexModel") (T := xF11) (hc := rfl) (hci := Nat.le_of_ble_eq_true rfl) (htb := (ft_53 F)) (hinst := w_1790) (hsel := sel_M_doesEnd) (hlen := Nat.le_of_ble_eq_true rfl) (hst := rfl) (hL0 := rfl)  hyp
  · replace hyp := hyp.2 q9
    have q1_ := q9
    clear q9
    refine xr_aload_n (pc := 12) (i := 0) (hI := d_M_wordAt_12) (hi := rfl) (hl := rfl) ?_
    refine xr_iload_n (pc := 13) (i := 3) (hI := d_M_wordAt_13) (hi := rfl) (hl := rfl) ?_
    refine xr_ldcS (pc := 14) (z := (-36)) (tx := "ies") (k0 := 34) (hI := d_M_wordAt_14) (hm := by decide +kernel) (hz0 := by decide) ?_
    exact xq_callV (pc := 16) (index := 157) (K := m_M_doesEnd) (As := [xI s0, xR (-36)]) (S := []) (L0 := [xR 53, xI s0, xR (-36), xZ, xZ]) (hI := d_M_wordAt_16) (hK := k_M_doesEnd) (hlk := w_1788) (hnoM := rfl) (hS8 := Nat.le_of_ble_eq_true rfl) (ci := 11) (N := 38) (C := "BeaconIndexModel") (T := xF11) (hc := rfl) (hci := Nat.le_of_ble_eq_true rfl) (htb := (ft_53 F)) (hinst := w_1790) (hsel := sel_M_doesEnd) (hlen := Nat.le_of_ble_eq_true rfl) (hst := rfl) (hL0 := rfl)  hyp
theorem d_M_wordAt_19 : decode prog_14_method_21_code 19 = .ok (.ifCond .eq 21, 3) := by decide +kernel
theorem d_M_wordAt_22 : decode prog_14_method_21_code 22 = .ok (.aload_n 0, 1) := by decide +kernel
theorem d_M_wordAt_23 : decode prog_14_method_21_code 23 = .ok (.getfield 39, 3) := by decide +kernel
theorem d_M_wordAt_26 : decode prog_14_method_21_code 26 = .ok (.iload_n 3, 1) := by decide +kernel
theorem d_M_wordAt_27 : decode prog_14_method_21_code 27 = .ok (.iconst 3, 1) := by decide +kernel
theorem d_M_wordAt_28 : decode prog_14_method_21_code 28 = .ok (.isub, 1) := by decide +kernel
theorem d_M_wordAt_29 : decode prog_14_method_21_code 29 = .ok (.bipush 121, 2) := by decide +kernel
theorem d_M_wordAt_31 : decode prog_14_method_21_code 31 = .ok (.iastore, 1) := by decide +kernel
theorem d_M_wordAt_32 : decode prog_14_method_21_code 32 = .ok (.aload_n 0, 1) := by decide +kernel
theorem d_M_wordAt_33 : decode prog_14_method_21_code 33 = .ok (.iload_n 3, 1) := by decide +kernel
theorem d_M_wordAt_34 : decode prog_14_method_21_code 34 = .ok (.iconst 2, 1) := by decide +kernel
theorem d_M_wordAt_35 : decode prog_14_method_21_code 35 = .ok (.isub, 1) := by decide +kernel
theorem d_M_wordAt_36 : decode prog_14_method_21_code 36 = .ok (.invokevirtual 161, 3) := by decide +kernel
theorem k_M_packed : xCal m_M_packed 1 := ⟨List.mem_append_right _ (List.mem_of_getElem? (i := 1795) (by decide +kernel)), w_15, Nat.le_of_ble_eq_true rfl, ⟨by decide +kernel, by decide +kernel⟩, by decide +kernel, by decide +kernel, rfl⟩
theorem w_1792 : Cond.methodLink "BeaconIndexModel" 161 ⟨"BeaconIndexModel", "packed", "(I)J"⟩ ∈ lw_tbl := List.mem_append_right _ (List.mem_of_getElem? (i := 1792) (by decide +kernel))
theorem w_1794 : Cond.instanceMethod ⟨"BeaconIndexModel", "packed", "(I)J"⟩ ∈ lw_tbl := List.mem_append_right _ (List.mem_of_getElem? (i := 1794) (by decide +kernel))
theorem sel_M_packed : Cond.selects "BeaconIndexModel" ⟨"BeaconIndexModel", "packed", "(I)J"⟩ ⟨"BeaconIndexModel", "packed", "(I)J"⟩ ∈ lw_tbl := List.mem_append_left _ (by decide +kernel)
theorem v_M_wordAt_19 {G : XG} {d : Nat} {h : XH} {Q : XV → XH → Prop} {X : Nat → XH → Prop} {x3 s0 : Int} (F : xFix h) (hyp : ((s0 = 0 → (xwp G m_M_doesEnd (d + 6) 0 [xR 53, xI x3, xR (-38), xZ, xZ] [] h (fun v9 h9 => xwp G m_M_wordAt (d + 7) 47 [xR 53, xZ, xZ, xI x3] (xpush v9 []) h9 Q X) X)) ∧ (¬ s0 = 0 → xiR (x3 - 3) ∧ 0 ≤ (x3 - 3) ∧ (x3 - 3) < 12 ∧ (xFix (xst h 63 (x3 - 3) 121) → xwp G m_M_packed (d + 6) 0 [xR 53, xI (x3 - 2), xZ, xZ, xZ] [] (xst h 63 (x3 - 3) 121) (fun v9 h9 => xwp G m_M_wordAt (d + 7) 39 [xZ, xZ, xZ, xZ] (xpush v9 []) h9 Q X) X)))) : xwp G m_M_wordAt (d + 7) 19 [xR 53, xZ, xZ, xI x3] [xI s0] h Q X := by
  have hnx9 : (93 : Int) ≤ xnx h := F.2.2
  refine xr_okL (fun hl9 => ?_)
  have r_x3 : -2147483648 ≤ x3 ∧ x3 ≤ 2147483647 := hl9 (xI x3) (.tail _ (.tail _ (.tail _ (.head _)))) (Nat.le_of_ble_eq_true rfl)
  refine xr_okS (fun hs9 => ?_)
  have r_s0 : -2147483648 ≤ s0 ∧ s0 ≤ 2147483647 := hs9 (xI s0) (.head _)
  refine xr_if_eq (pc := 19) (tgt := 40) (hI := d_M_wordAt_19) (ht := by decide) (fun q9 => ?_) (fun q9 => ?_)
  · replace hyp := hyp.1 q9
    have q1_ := q9
    clear q9
    refine xr_aload_n (pc := 40) (i := 0) (hI := d_M_wordAt_40) (hi := rfl) (hl := rfl) ?_
    refine xr_iload_n (pc := 41) (i := 3) (hI := d_M_wordAt_41) (hi := rfl) (hl := rfl) ?_
    refine xr_ldcS (pc := 42) (z := (-38)) (tx := "sses") (k0 := 36) (hI := d_M_wordAt_42) (hm := by decide +kernel) (hz0 := by decide) ?_
    exact xq_callV (pc := 44) (index := 157) (K := m_M_doesEnd) (As := [xI x3, xR (-38)]) (S := []) (L0 := [xR 53, xI x3, xR (-38), xZ, xZ]) (hI := d_M_wordAt_44) (hK := k_M_doesEnd) (hlk := w_1788) (hnoM := rfl) (hS8 := Nat.le_of_ble_eq_true rfl) (ci := 11) (N := 38) (C := "BeaconIndexModel") (T := xF11) (hc := rfl) (hci := Nat.le_of_ble_eq_true rfl) (htb := (ft_53 F)) (hinst := w_1790) (hsel := sel_M_doesEnd) (hlen := Nat.le_of_ble_eq_true rfl) (hst := rfl) (hL0 := rfl)  hyp
  · replace hyp := hyp.2 q9
    have q1_ := q9
    clear q9
    refine xr_aload_n (pc := 22) (i := 0) (hI := d_M_wordAt_22) (hi := rfl) (hl := rfl) ?_
    refine xg_getf (pc := 23) (ci := 11) (k := 15) (N := 38) (v9 := 2) (v := 63) (T := xF11) (hI := d_M_wordAt_23) (hw := w_1602) rfl xi11 (Or.inl rfl) (Nat.le_of_ble_eq_true rfl) (Nat.le_of_ble_eq_true rfl) rfl (ft_53 F) (fp_53_15 F) (fun f2_ => ?_)
    clear f2_
    refine xr_iload_n (pc := 26) (i := 3) (hI := d_M_wordAt_26) (hi := rfl) (hl := rfl) ?_
    refine xr_iconst (pc := 27) (hI := d_M_wordAt_27) (hr := by decide) ?_
    obtain ⟨c9, hyp⟩ := hyp
    refine xr_isub (pc := 28) (hI := d_M_wordAt_28) (hr := c9) ?_
    refine xr_bipush (pc := 29) (hI := d_M_wordAt_29) (hr := by decide) (hv := by decide) ?_
    obtain ⟨c3_, hyp⟩ := hyp
    obtain ⟨c4_, hyp⟩ := hyp
    refine xr_iastore (pc := 31) (hI := d_M_wordAt_31) (ft_63 F) (by decide) c3_ (xlt_of (fl_63 F) c4_) ?_
    have F5_ : xFix (xst h 63 (x3 - 3) 121) := F.stA xfa_63
    refine xr_aload_n (pc := 32) (i := 0) (hI := d_M_wordAt_32) (hi := rfl) (hl := rfl) ?_
    refine xr_iload_n (pc := 33) (i := 3) (hI := d_M_wordAt_33) (hi := rfl) (hl := rfl) ?_
    refine xr_iconst (pc := 34) (hI := d_M_wordAt_34) (hr := by decide) ?_
    refine xr_isub (pc := 35) (hI := d_M_wordAt_35) (hr := ⟨by clear hyp; omega, by clear hyp; omega⟩) ?_
    exact xq_callV (pc := 36) (index := 161) (K := m_M_packed) (As := [xI (x3 - 2)]) (S := []) (L0 := [xR 53, xI (x3 - 2), xZ, xZ, xZ]) (hI := d_M_wordAt_36) (hK := k_M_packed) (hlk := w_1792) (hnoM := rfl) (hS8 := Nat.le_of_ble_eq_true rfl) (ci := 11) (N := 38) (C := "BeaconIndexModel") (T := xF11) (hc := rfl) (hci := Nat.le_of_ble_eq_true rfl) (htb := (ft_53 F5_)) (hinst := w_1794) (hsel := sel_M_packed) (hlen := Nat.le_of_ble_eq_true rfl) (hst := rfl) (hL0 := rfl)  (xwp_mono (hyp F5_) (fun v9 h9 q9 => xr_drop (L9 := [xZ, xZ, xZ, xZ]) (xdrz (xdrs (xdrs (xdrz xdr0)))) q9) (fun _ _ z9 => z9))
theorem d_M_wordAt_39 : decode prog_14_method_21_code 39 = .ok (.lreturn, 1) := by decide +kernel
theorem v_M_wordAt_39 {G : XG} {d : Nat} {h : XH} {Q : XV → XH → Prop} {X : Nat → XH → Prop} {s0 : Int} (F : xFix h) (hyp : (Q (xL s0) h)) : xwp G m_M_wordAt (d + 7) 39 [xZ, xZ, xZ, xZ] [xL s0] h Q X := by
  have hnx9 : (93 : Int) ≤ xnx h := F.2.2
  refine xr_okS (fun hs9 => ?_)
  have r_s0 : -9223372036854775808 ≤ s0 ∧ s0 ≤ 9223372036854775807 := hs9 (xL s0) (.head _)
  refine xr_lreturn (S := []) (pc := 39) (hI := d_M_wordAt_39) (hr := rfl) ?_
  exact hyp
theorem d_M_wordAt_47 : decode prog_14_method_21_code 47 = .ok (.ifCond .eq 11, 3) := by decide +kernel
theorem d_M_wordAt_58 : decode prog_14_method_21_code 58 = .ok (.iload_n 3, 1) := by decide +kernel
theorem d_M_wordAt_59 : decode prog_14_method_21_code 59 = .ok (.iconst 3, 1) := by decide +kernel
theorem d_M_wordAt_60 : decode prog_14_method_21_code 60 = .ok (.if_icmp .le 41, 3) := by decide +kernel
theorem d_M_wordAt_63 : decode prog_14_method_21_code 63 = .ok (.aload_n 0, 1) := by decide +kernel
theorem d_M_wordAt_64 : decode prog_14_method_21_code 64 = .ok (.iload_n 3, 1) := by decide +kernel
theorem d_M_wordAt_65 : decode prog_14_method_21_code 65 = .ok (.ldc 166, 2) := by decide +kernel
theorem d_M_wordAt_67 : decode prog_14_method_21_code 67 = .ok (.invokevirtual 157, 3) := by decide +kernel
theorem d_M_wordAt_50 : decode prog_14_method_21_code 50 = .ok (.aload_n 0, 1) := by decide +kernel
theorem d_M_wordAt_51 : decode prog_14_method_21_code 51 = .ok (.iload_n 3, 1) := by decide +kernel
theorem d_M_wordAt_52 : decode prog_14_method_21_code 52 = .ok (.iconst 2, 1) := by decide +kernel
theorem d_M_wordAt_53 : decode prog_14_method_21_code 53 = .ok (.isub, 1) := by decide +kernel
theorem d_M_wordAt_54 : decode prog_14_method_21_code 54 = .ok (.invokevirtual 161, 3) := by decide +kernel
theorem v_M_wordAt_47 {G : XG} {d : Nat} {h : XH} {Q : XV → XH → Prop} {X : Nat → XH → Prop} {x3 s0 : Int} (F : xFix h) (hyp : ((s0 = 0 → ((x3 ≤ 3 → (xwp G m_M_wordAt (d + 7) 101 [xR 53, xZ, xZ, xI x3] [] h Q X)) ∧ (¬ x3 ≤ 3 → (xwp G m_M_doesEnd (d + 6) 0 [xR 53, xI x3, xR (-40), xZ, xZ] [] h (fun v9 h9 => xwp G m_M_wordAt (d + 7) 70 [xR 53, xZ, xZ, xI x3] (xpush v9 []) h9 Q X) X)))) ∧ (¬ s0 = 0 → xiR (x3 - 2) ∧ (xwp G m_M_packed (d + 6) 0 [xR 53, xI (x3 - 2), xZ, xZ, xZ] [] h (fun v9 h9 => xwp G m_M_wordAt (d + 7) 57 [xZ, xZ, xZ, xZ] (xpush v9 []) h9 Q X) X)))) : xwp G m_M_wordAt (d + 7) 47 [xR 53, xZ, xZ, xI x3] [xI s0] h Q X := by
  have hnx9 : (93 : Int) ≤ xnx h := F.2.2
  refine xr_okL (fun hl9 => ?_)
  have r_x3 : -2147483648 ≤ x3 ∧ x3 ≤ 2147483647 := hl9 (xI x3) (.tail _ (.tail _ (.tail _ (.head _)))) (Nat.le_of_ble_eq_true rfl)
  refine xr_okS (fun hs9 => ?_)
  have r_s0 : -2147483648 ≤ s0 ∧ s0 ≤ 2147483647 := hs9 (xI s0) (.head _)
  refine xr_if_eq (pc := 47) (tgt := 58) (hI := d_M_wordAt_47) (ht := by decide) (fun q9 => ?_) (fun q9 => ?_)
  · replace hyp := hyp.1 q9
    have q1_ := q9
    clear q9
    refine xr_iload_n (pc := 58) (i := 3) (hI := d_M_wordAt_58) (hi := rfl) (hl := rfl) ?_
    refine xr_iconst (pc := 59) (hI := d_M_wordAt_59) (hr := by decide) ?_
    refine xr_icmp_le (pc := 60) (tgt := 101) (hI := d_M_wordAt_60) (ht := by decide) (fun q9 => ?_) (fun q9 => ?_)
    · replace hyp := hyp.1 q9
      have q2_ := q9
      clear q9
      exact hyp
    · replace hyp := hyp.2 q9
      have q2_ := q9
      clear q9
      refine xr_aload_n (pc := 63) (i := 0) (hI := d_M_wordAt_63) (hi := rfl) (hl := rfl) ?_
      refine xr_iload_n (pc := 64) (i := 3) (hI := d_M_wordAt_64) (hi := rfl) (hl := rfl) ?_
      refine xr_ldcS (pc := 65) (z := (-40)) (tx := "s") (k0 := 38) (hI := d_M_wordAt_65) (hm := by decide +kernel) (hz0 := by decide) ?_
      exact xq_callV (pc := 67) (index := 157) (K := m_M_doesEnd) (As := [xI x3, xR (-40)]) (S := []) (L0 := [xR 53, xI x3, xR (-40), xZ, xZ]) (hI := d_M_wordAt_67) (hK := k_M_doesEnd) (hlk := w_1788) (hnoM := rfl) (hS8 := Nat.le_of_ble_eq_true rfl) (ci := 11) (N := 38) (C := "BeaconIndexModel") (T := xF11) (hc := rfl) (hci := Nat.le_of_ble_eq_true rfl) (htb := (ft_53 F)) (hinst := w_1790) (hsel := sel_M_doesEnd) (hlen := Nat.le_of_ble_eq_true rfl) (hst := rfl) (hL0 := rfl)  hyp
  · replace hyp := hyp.2 q9
    have q1_ := q9
    clear q9
    refine xr_aload_n (pc := 50) (i := 0) (hI := d_M_wordAt_50) (hi := rfl) (hl := rfl) ?_
    refine xr_iload_n (pc := 51) (i := 3) (hI := d_M_wordAt_51) (hi := rfl) (hl := rfl) ?_
    refine xr_iconst (pc := 52) (hI := d_M_wordAt_52) (hr := by decide) ?_
    obtain ⟨c9, hyp⟩ := hyp
    refine xr_isub (pc := 53) (hI := d_M_wordAt_53) (hr := c9) ?_
    exact xq_callV (pc := 54) (index := 161) (K := m_M_packed) (As := [xI (x3 - 2)]) (S := []) (L0 := [xR 53, xI (x3 - 2), xZ, xZ, xZ]) (hI := d_M_wordAt_54) (hK := k_M_packed) (hlk := w_1792) (hnoM := rfl) (hS8 := Nat.le_of_ble_eq_true rfl) (ci := 11) (N := 38) (C := "BeaconIndexModel") (T := xF11) (hc := rfl) (hci := Nat.le_of_ble_eq_true rfl) (htb := (ft_53 F)) (hinst := w_1794) (hsel := sel_M_packed) (hlen := Nat.le_of_ble_eq_true rfl) (hst := rfl) (hL0 := rfl)  (xwp_mono hyp (fun v9 h9 q9 => xr_drop (L9 := [xZ, xZ, xZ, xZ]) (xdrz (xdrs (xdrs (xdrz xdr0)))) q9) (fun _ _ z9 => z9))
theorem d_M_wordAt_57 : decode prog_14_method_21_code 57 = .ok (.lreturn, 1) := by decide +kernel
theorem v_M_wordAt_57 {G : XG} {d : Nat} {h : XH} {Q : XV → XH → Prop} {X : Nat → XH → Prop} {s0 : Int} (F : xFix h) (hyp : (Q (xL s0) h)) : xwp G m_M_wordAt (d + 7) 57 [xZ, xZ, xZ, xZ] [xL s0] h Q X := by
  have hnx9 : (93 : Int) ≤ xnx h := F.2.2
  refine xr_okS (fun hs9 => ?_)
  have r_s0 : -9223372036854775808 ≤ s0 ∧ s0 ≤ 9223372036854775807 := hs9 (xL s0) (.head _)
  refine xr_lreturn (S := []) (pc := 57) (hI := d_M_wordAt_57) (hr := rfl) ?_
  exact hyp
theorem d_M_wordAt_70 : decode prog_14_method_21_code 70 = .ok (.ifCond .eq 31, 3) := by decide +kernel
theorem d_M_wordAt_73 : decode prog_14_method_21_code 73 = .ok (.aload_n 0, 1) := by decide +kernel
theorem d_M_wordAt_74 : decode prog_14_method_21_code 74 = .ok (.iload_n 3, 1) := by decide +kernel
theorem d_M_wordAt_75 : decode prog_14_method_21_code 75 = .ok (.ldc 168, 2) := by decide +kernel
theorem d_M_wordAt_77 : decode prog_14_method_21_code 77 = .ok (.invokevirtual 157, 3) := by decide +kernel
theorem v_M_wordAt_70 {G : XG} {d : Nat} {h : XH} {Q : XV → XH → Prop} {X : Nat → XH → Prop} {x3 s0 : Int} (F : xFix h) (hyp : ((s0 = 0 → (xwp G m_M_wordAt (d + 7) 101 [xR 53, xZ, xZ, xI x3] [] h Q X)) ∧ (¬ s0 = 0 → (xwp G m_M_doesEnd (d + 6) 0 [xR 53, xI x3, xR (-42), xZ, xZ] [] h (fun v9 h9 => xwp G m_M_wordAt (d + 7) 80 [xR 53, xZ, xZ, xI x3] (xpush v9 []) h9 Q X) X)))) : xwp G m_M_wordAt (d + 7) 70 [xR 53, xZ, xZ, xI x3] [xI s0] h Q X := by
  have hnx9 : (93 : Int) ≤ xnx h := F.2.2
  refine xr_okL (fun hl9 => ?_)
  have r_x3 : -2147483648 ≤ x3 ∧ x3 ≤ 2147483647 := hl9 (xI x3) (.tail _ (.tail _ (.tail _ (.head _)))) (Nat.le_of_ble_eq_true rfl)
  refine xr_okS (fun hs9 => ?_)
  have r_s0 : -2147483648 ≤ s0 ∧ s0 ≤ 2147483647 := hs9 (xI s0) (.head _)
  refine xr_if_eq (pc := 70) (tgt := 101) (hI := d_M_wordAt_70) (ht := by decide) (fun q9 => ?_) (fun q9 => ?_)
  · replace hyp := hyp.1 q9
    have q1_ := q9
    clear q9
    exact hyp
  · replace hyp := hyp.2 q9
    have q1_ := q9
    clear q9
    refine xr_aload_n (pc := 73) (i := 0) (hI := d_M_wordAt_73) (hi := rfl) (hl := rfl) ?_
    refine xr_iload_n (pc := 74) (i := 3) (hI := d_M_wordAt_74) (hi := rfl) (hl := rfl) ?_
    refine xr_ldcS (pc := 75) (z := (-42)) (tx := "ss") (k0 := 40) (hI := d_M_wordAt_75) (hm := by decide +kernel) (hz0 := by decide) ?_
    exact xq_callV (pc := 77) (index := 157) (K := m_M_doesEnd) (As := [xI x3, xR (-42)]) (S := []) (L0 := [xR 53, xI x3, xR (-42), xZ, xZ]) (hI := d_M_wordAt_77) (hK := k_M_doesEnd) (hlk := w_1788) (hnoM := rfl) (hS8 := Nat.le_of_ble_eq_true rfl) (ci := 11) (N := 38) (C := "BeaconIndexModel") (T := xF11) (hc := rfl) (hci := Nat.le_of_ble_eq_true rfl) (htb := (ft_53 F)) (hinst := w_1790) (hsel := sel_M_doesEnd) (hlen := Nat.le_of_ble_eq_true rfl) (hst := rfl) (hL0 := rfl)  hyp
theorem d_M_wordAt_80 : decode prog_14_method_21_code 80 = .ok (.ifCond .ne 21, 3) := by decide +kernel
theorem d_M_wordAt_83 : decode prog_14_method_21_code 83 = .ok (.aload_n 0, 1) := by decide +kernel
theorem d_M_wordAt_84 : decode prog_14_method_21_code 84 = .ok (.iload_n 3, 1) := by decide +kernel
theorem d_M_wordAt_85 : decode prog_14_method_21_code 85 = .ok (.ldc 170, 2) := by decide +kernel
theorem d_M_wordAt_87 : decode prog_14_method_21_code 87 = .ok (.invokevirtual 157, 3) := by decide +kernel
theorem v_M_wordAt_80 {G : XG} {d : Nat} {h : XH} {Q : XV → XH → Prop} {X : Nat → XH → Prop} {x3 s0 : Int} (F : xFix h) (hyp : ((s0 = 0 → (xwp G m_M_doesEnd (d + 6) 0 [xR 53, xI x3, xR (-44), xZ, xZ] [] h (fun v9 h9 => xwp G m_M_wordAt (d + 7) 90 [xR 53, xZ, xZ, xI x3] (xpush v9 []) h9 Q X) X)) ∧ (¬ s0 = 0 → (xwp G m_M_wordAt (d + 7) 101 [xR 53, xZ, xZ, xI x3] [] h Q X)))) : xwp G m_M_wordAt (d + 7) 80 [xR 53, xZ, xZ, xI x3] [xI s0] h Q X := by
  have hnx9 : (93 : Int) ≤ xnx h := F.2.2
  refine xr_okL (fun hl9 => ?_)
  have r_x3 : -2147483648 ≤ x3 ∧ x3 ≤ 2147483647 := hl9 (xI x3) (.tail _ (.tail _ (.tail _ (.head _)))) (Nat.le_of_ble_eq_true rfl)
  refine xr_okS (fun hs9 => ?_)
  have r_s0 : -2147483648 ≤ s0 ∧ s0 ≤ 2147483647 := hs9 (xI s0) (.head _)
  refine xr_if_ne (pc := 80) (tgt := 101) (hI := d_M_wordAt_80) (ht := by decide) (fun q9 => ?_) (fun q9 => ?_)
  · replace hyp := hyp.2 q9
    have q1_ := q9
    clear q9
    exact hyp
  · replace hyp := hyp.1 q9
    have q1_ := q9
    clear q9
    refine xr_aload_n (pc := 83) (i := 0) (hI := d_M_wordAt_83) (hi := rfl) (hl := rfl) ?_
    refine xr_iload_n (pc := 84) (i := 3) (hI := d_M_wordAt_84) (hi := rfl) (hl := rfl) ?_
    refine xr_ldcS (pc := 85) (z := (-44)) (tx := "us") (k0 := 42) (hI := d_M_wordAt_85) (hm := by decide +kernel) (hz0 := by decide) ?_
    exact xq_callV (pc := 87) (index := 157) (K := m_M_doesEnd) (As := [xI x3, xR (-44)]) (S := []) (L0 := [xR 53, xI x3, xR (-44), xZ, xZ]) (hI := d_M_wordAt_87) (hK := k_M_doesEnd) (hlk := w_1788) (hnoM := rfl) (hS8 := Nat.le_of_ble_eq_true rfl) (ci := 11) (N := 38) (C := "BeaconIndexModel") (T := xF11) (hc := rfl) (hci := Nat.le_of_ble_eq_true rfl) (htb := (ft_53 F)) (hinst := w_1790) (hsel := sel_M_doesEnd) (hlen := Nat.le_of_ble_eq_true rfl) (hst := rfl) (hL0 := rfl)  hyp
theorem d_M_wordAt_90 : decode prog_14_method_21_code 90 = .ok (.ifCond .ne 11, 3) := by decide +kernel
theorem d_M_wordAt_93 : decode prog_14_method_21_code 93 = .ok (.aload_n 0, 1) := by decide +kernel
theorem d_M_wordAt_94 : decode prog_14_method_21_code 94 = .ok (.iload_n 3, 1) := by decide +kernel
theorem d_M_wordAt_95 : decode prog_14_method_21_code 95 = .ok (.iconst 1, 1) := by decide +kernel
theorem d_M_wordAt_96 : decode prog_14_method_21_code 96 = .ok (.isub, 1) := by decide +kernel
theorem d_M_wordAt_97 : decode prog_14_method_21_code 97 = .ok (.invokevirtual 161, 3) := by decide +kernel
theorem v_M_wordAt_90 {G : XG} {d : Nat} {h : XH} {Q : XV → XH → Prop} {X : Nat → XH → Prop} {x3 s0 : Int} (F : xFix h) (hyp : ((s0 = 0 → xiR (x3 - 1) ∧ (xwp G m_M_packed (d + 6) 0 [xR 53, xI (x3 - 1), xZ, xZ, xZ] [] h (fun v9 h9 => xwp G m_M_wordAt (d + 7) 100 [xZ, xZ, xZ, xZ] (xpush v9 []) h9 Q X) X)) ∧ (¬ s0 = 0 → (xwp G m_M_wordAt (d + 7) 101 [xR 53, xZ, xZ, xI x3] [] h Q X)))) : xwp G m_M_wordAt (d + 7) 90 [xR 53, xZ, xZ, xI x3] [xI s0] h Q X := by
  have hnx9 : (93 : Int) ≤ xnx h := F.2.2
  refine xr_okL (fun hl9 => ?_)
  have r_x3 : -2147483648 ≤ x3 ∧ x3 ≤ 2147483647 := hl9 (xI x3) (.tail _ (.tail _ (.tail _ (.head _)))) (Nat.le_of_ble_eq_true rfl)
  refine xr_okS (fun hs9 => ?_)
  have r_s0 : -2147483648 ≤ s0 ∧ s0 ≤ 2147483647 := hs9 (xI s0) (.head _)
  refine xr_if_ne (pc := 90) (tgt := 101) (hI := d_M_wordAt_90) (ht := by decide) (fun q9 => ?_) (fun q9 => ?_)
  · replace hyp := hyp.2 q9
    have q1_ := q9
    clear q9
    exact hyp
  · replace hyp := hyp.1 q9
    have q1_ := q9
    clear q9
    refine xr_aload_n (pc := 93) (i := 0) (hI := d_M_wordAt_93) (hi := rfl) (hl := rfl) ?_
    refine xr_iload_n (pc := 94) (i := 3) (hI := d_M_wordAt_94) (hi := rfl) (hl := rfl) ?_
    refine xr_iconst (pc := 95) (hI := d_M_wordAt_95) (hr := by decide) ?_
    obtain ⟨c9, hyp⟩ := hyp
    refine xr_isub (pc := 96) (hI := d_M_wordAt_96) (hr := c9) ?_
    exact xq_callV (pc := 97) (index := 161) (K := m_M_packed) (As := [xI (x3 - 1)]) (S := []) (L0 := [xR 53, xI (x3 - 1), xZ, xZ, xZ]) (hI := d_M_wordAt_97) (hK := k_M_packed) (hlk := w_1792) (hnoM := rfl) (hS8 := Nat.le_of_ble_eq_true rfl) (ci := 11) (N := 38) (C := "BeaconIndexModel") (T := xF11) (hc := rfl) (hci := Nat.le_of_ble_eq_true rfl) (htb := (ft_53 F)) (hinst := w_1794) (hsel := sel_M_packed) (hlen := Nat.le_of_ble_eq_true rfl) (hst := rfl) (hL0 := rfl)  (xwp_mono hyp (fun v9 h9 q9 => xr_drop (L9 := [xZ, xZ, xZ, xZ]) (xdrz (xdrs (xdrs (xdrz xdr0)))) q9) (fun _ _ z9 => z9))
theorem d_M_wordAt_100 : decode prog_14_method_21_code 100 = .ok (.lreturn, 1) := by decide +kernel
theorem v_M_wordAt_100 {G : XG} {d : Nat} {h : XH} {Q : XV → XH → Prop} {X : Nat → XH → Prop} {s0 : Int} (F : xFix h) (hyp : (Q (xL s0) h)) : xwp G m_M_wordAt (d + 7) 100 [xZ, xZ, xZ, xZ] [xL s0] h Q X := by
  have hnx9 : (93 : Int) ≤ xnx h := F.2.2
  refine xr_okS (fun hs9 => ?_)
  have r_s0 : -9223372036854775808 ≤ s0 ∧ s0 ≤ 9223372036854775807 := hs9 (xL s0) (.head _)
  refine xr_lreturn (S := []) (pc := 100) (hI := d_M_wordAt_100) (hr := rfl) ?_
  exact hyp
theorem d_M_wordAt_101 : decode prog_14_method_21_code 101 = .ok (.iload_n 3, 1) := by decide +kernel
theorem d_M_wordAt_102 : decode prog_14_method_21_code 102 = .ok (.iconst 5, 1) := by decide +kernel
theorem d_M_wordAt_103 : decode prog_14_method_21_code 103 = .ok (.if_icmp .le 21, 3) := by decide +kernel
theorem d_M_wordAt_106 : decode prog_14_method_21_code 106 = .ok (.aload_n 0, 1) := by decide +kernel
theorem d_M_wordAt_107 : decode prog_14_method_21_code 107 = .ok (.iload_n 3, 1) := by decide +kernel
theorem d_M_wordAt_108 : decode prog_14_method_21_code 108 = .ok (.ldc 172, 2) := by decide +kernel
theorem d_M_wordAt_110 : decode prog_14_method_21_code 110 = .ok (.invokevirtual 157, 3) := by decide +kernel
theorem v_M_wordAt_101 {G : XG} {d : Nat} {h : XH} {Q : XV → XH → Prop} {X : Nat → XH → Prop} {x3 : Int} (F : xFix h) (hyp : ((x3 ≤ 5 → (xwp G m_M_wordAt (d + 7) 124 [xR 53, xZ, xZ, xI x3] [] h Q X)) ∧ (¬ x3 ≤ 5 → (xwp G m_M_doesEnd (d + 6) 0 [xR 53, xI x3, xR (-46), xZ, xZ] [] h (fun v9 h9 => xwp G m_M_wordAt (d + 7) 113 [xR 53, xZ, xZ, xI x3] (xpush v9 []) h9 Q X) X)))) : xwp G m_M_wordAt (d + 7) 101 [xR 53, xZ, xZ, xI x3] [] h Q X := by
  have hnx9 : (93 : Int) ≤ xnx h := F.2.2
  refine xr_okL (fun hl9 => ?_)
  have r_x3 : -2147483648 ≤ x3 ∧ x3 ≤ 2147483647 := hl9 (xI x3) (.tail _ (.tail _ (.tail _ (.head _)))) (Nat.le_of_ble_eq_true rfl)
  refine xr_iload_n (pc := 101) (i := 3) (hI := d_M_wordAt_101) (hi := rfl) (hl := rfl) ?_
  refine xr_iconst (pc := 102) (hI := d_M_wordAt_102) (hr := by decide) ?_
  refine xr_icmp_le (pc := 103) (tgt := 124) (hI := d_M_wordAt_103) (ht := by decide) (fun q9 => ?_) (fun q9 => ?_)
  · replace hyp := hyp.1 q9
    have q1_ := q9
    clear q9
    exact hyp
  · replace hyp := hyp.2 q9
    have q1_ := q9
    clear q9
    refine xr_aload_n (pc := 106) (i := 0) (hI := d_M_wordAt_106) (hi := rfl) (hl := rfl) ?_
    refine xr_iload_n (pc := 107) (i := 3) (hI := d_M_wordAt_107) (hi := rfl) (hl := rfl) ?_
    refine xr_ldcS (pc := 108) (z := (-46)) (tx := "ing") (k0 := 44) (hI := d_M_wordAt_108) (hm := by decide +kernel) (hz0 := by decide) ?_
    exact xq_callV (pc := 110) (index := 157) (K := m_M_doesEnd) (As := [xI x3, xR (-46)]) (S := []) (L0 := [xR 53, xI x3, xR (-46), xZ, xZ]) (hI := d_M_wordAt_110) (hK := k_M_doesEnd) (hlk := w_1788) (hnoM := rfl) (hS8 := Nat.le_of_ble_eq_true rfl) (ci := 11) (N := 38) (C := "BeaconIndexModel") (T := xF11) (hc := rfl) (hci := Nat.le_of_ble_eq_true rfl) (htb := (ft_53 F)) (hinst := w_1790) (hsel := sel_M_doesEnd) (hlen := Nat.le_of_ble_eq_true rfl) (hst := rfl) (hL0 := rfl)  hyp
theorem d_M_wordAt_113 : decode prog_14_method_21_code 113 = .ok (.ifCond .eq 11, 3) := by decide +kernel
theorem d_M_wordAt_116 : decode prog_14_method_21_code 116 = .ok (.aload_n 0, 1) := by decide +kernel
theorem d_M_wordAt_117 : decode prog_14_method_21_code 117 = .ok (.iload_n 3, 1) := by decide +kernel
theorem d_M_wordAt_118 : decode prog_14_method_21_code 118 = .ok (.iconst 3, 1) := by decide +kernel
theorem d_M_wordAt_119 : decode prog_14_method_21_code 119 = .ok (.isub, 1) := by decide +kernel
theorem d_M_wordAt_120 : decode prog_14_method_21_code 120 = .ok (.invokevirtual 161, 3) := by decide +kernel
theorem v_M_wordAt_113 {G : XG} {d : Nat} {h : XH} {Q : XV → XH → Prop} {X : Nat → XH → Prop} {x3 s0 : Int} (F : xFix h) (hyp : ((s0 = 0 → (xwp G m_M_wordAt (d + 7) 124 [xR 53, xZ, xZ, xI x3] [] h Q X)) ∧ (¬ s0 = 0 → xiR (x3 - 3) ∧ (xwp G m_M_packed (d + 6) 0 [xR 53, xI (x3 - 3), xZ, xZ, xZ] [] h (fun v9 h9 => xwp G m_M_wordAt (d + 7) 123 [xZ, xZ, xZ, xZ] (xpush v9 []) h9 Q X) X)))) : xwp G m_M_wordAt (d + 7) 113 [xR 53, xZ, xZ, xI x3] [xI s0] h Q X := by
  have hnx9 : (93 : Int) ≤ xnx h := F.2.2
  refine xr_okL (fun hl9 => ?_)
  have r_x3 : -2147483648 ≤ x3 ∧ x3 ≤ 2147483647 := hl9 (xI x3) (.tail _ (.tail _ (.tail _ (.head _)))) (Nat.le_of_ble_eq_true rfl)
  refine xr_okS (fun hs9 => ?_)
  have r_s0 : -2147483648 ≤ s0 ∧ s0 ≤ 2147483647 := hs9 (xI s0) (.head _)
  refine xr_if_eq (pc := 113) (tgt := 124) (hI := d_M_wordAt_113) (ht := by decide) (fun q9 => ?_) (fun q9 => ?_)
  · replace hyp := hyp.1 q9
    have q1_ := q9
    clear q9
    exact hyp
  · replace hyp := hyp.2 q9
    have q1_ := q9
    clear q9
    refine xr_aload_n (pc := 116) (i := 0) (hI := d_M_wordAt_116) (hi := rfl) (hl := rfl) ?_
    refine xr_iload_n (pc := 117) (i := 3) (hI := d_M_wordAt_117) (hi := rfl) (hl := rfl) ?_
    refine xr_iconst (pc := 118) (hI := d_M_wordAt_118) (hr := by decide) ?_
    obtain ⟨c9, hyp⟩ := hyp
    refine xr_isub (pc := 119) (hI := d_M_wordAt_119) (hr := c9) ?_
    exact xq_callV (pc := 120) (index := 161) (K := m_M_packed) (As := [xI (x3 - 3)]) (S := []) (L0 := [xR 53, xI (x3 - 3), xZ, xZ, xZ]) (hI := d_M_wordAt_120) (hK := k_M_packed) (hlk := w_1792) (hnoM := rfl) (hS8 := Nat.le_of_ble_eq_true rfl) (ci := 11) (N := 38) (C := "BeaconIndexModel") (T := xF11) (hc := rfl) (hci := Nat.le_of_ble_eq_true rfl) (htb := (ft_53 F)) (hinst := w_1794) (hsel := sel_M_packed) (hlen := Nat.le_of_ble_eq_true rfl) (hst := rfl) (hL0 := rfl)  (xwp_mono hyp (fun v9 h9 q9 => xr_drop (L9 := [xZ, xZ, xZ, xZ]) (xdrz (xdrs (xdrs (xdrz xdr0)))) q9) (fun _ _ z9 => z9))
theorem d_M_wordAt_123 : decode prog_14_method_21_code 123 = .ok (.lreturn, 1) := by decide +kernel
theorem v_M_wordAt_123 {G : XG} {d : Nat} {h : XH} {Q : XV → XH → Prop} {X : Nat → XH → Prop} {s0 : Int} (F : xFix h) (hyp : (Q (xL s0) h)) : xwp G m_M_wordAt (d + 7) 123 [xZ, xZ, xZ, xZ] [xL s0] h Q X := by
  have hnx9 : (93 : Int) ≤ xnx h := F.2.2
  refine xr_okS (fun hs9 => ?_)
  have r_s0 : -9223372036854775808 ≤ s0 ∧ s0 ≤ 9223372036854775807 := hs9 (xL s0) (.head _)
  refine xr_lreturn (S := []) (pc := 123) (hI := d_M_wordAt_123) (hr := rfl) ?_
  exact hyp
theorem d_M_wordAt_124 : decode prog_14_method_21_code 124 = .ok (.aload_n 0, 1) := by decide +kernel
theorem d_M_wordAt_125 : decode prog_14_method_21_code 125 = .ok (.iload_n 3, 1) := by decide +kernel
theorem d_M_wordAt_126 : decode prog_14_method_21_code 126 = .ok (.iconst 4, 1) := by decide +kernel
theorem d_M_wordAt_127 : decode prog_14_method_21_code 127 = .ok (.if_icmp .le 19, 3) := by decide +kernel
theorem d_M_wordAt_146 : decode prog_14_method_21_code 146 = .ok (.iload_n 3, 1) := by decide +kernel
theorem d_M_wordAt_147 : decode prog_14_method_21_code 147 = .ok (.invokevirtual 161, 3) := by decide +kernel
theorem d_M_wordAt_130 : decode prog_14_method_21_code 130 = .ok (.aload_n 0, 1) := by decide +kernel
theorem d_M_wordAt_131 : decode prog_14_method_21_code 131 = .ok (.iload_n 3, 1) := by decide +kernel
theorem d_M_wordAt_132 : decode prog_14_method_21_code 132 = .ok (.ldc 174, 2) := by decide +kernel
theorem d_M_wordAt_134 : decode prog_14_method_21_code 134 = .ok (.invokevirtual 157, 3) := by decide +kernel
theorem v_M_wordAt_124 {G : XG} {d : Nat} {h : XH} {Q : XV → XH → Prop} {X : Nat → XH → Prop} {x3 : Int} (F : xFix h) (hyp : ((x3 ≤ 4 → (xwp G m_M_packed (d + 6) 0 [xR 53, xI x3, xZ, xZ, xZ] [] h (fun v9 h9 => xwp G m_M_wordAt (d + 7) 150 [xZ, xZ, xZ, xZ] (xpush v9 []) h9 Q X) X)) ∧ (¬ x3 ≤ 4 → (xwp G m_M_doesEnd (d + 6) 0 [xR 53, xI x3, xR (-48), xZ, xZ] [] h (fun v9 h9 => xwp G m_M_wordAt (d + 7) 137 [xZ, xZ, xZ, xI x3] (xpush v9 [xR 53]) h9 Q X) X)))) : xwp G m_M_wordAt (d + 7) 124 [xR 53, xZ, xZ, xI x3] [] h Q X := by
  have hnx9 : (93 : Int) ≤ xnx h := F.2.2
  refine xr_okL (fun hl9 => ?_)
  have r_x3 : -2147483648 ≤ x3 ∧ x3 ≤ 2147483647 := hl9 (xI x3) (.tail _ (.tail _ (.tail _ (.head _)))) (Nat.le_of_ble_eq_true rfl)
  refine xr_aload_n (pc := 124) (i := 0) (hI := d_M_wordAt_124) (hi := rfl) (hl := rfl) ?_
  refine xr_iload_n (pc := 125) (i := 3) (hI := d_M_wordAt_125) (hi := rfl) (hl := rfl) ?_
  refine xr_iconst (pc := 126) (hI := d_M_wordAt_126) (hr := by decide) ?_
  refine xr_icmp_le (pc := 127) (tgt := 146) (hI := d_M_wordAt_127) (ht := by decide) (fun q9 => ?_) (fun q9 => ?_)
  · replace hyp := hyp.1 q9
    have q1_ := q9
    clear q9
    refine xr_iload_n (pc := 146) (i := 3) (hI := d_M_wordAt_146) (hi := rfl) (hl := rfl) ?_
    exact xq_callV (pc := 147) (index := 161) (K := m_M_packed) (As := [xI x3]) (S := []) (L0 := [xR 53, xI x3, xZ, xZ, xZ]) (hI := d_M_wordAt_147) (hK := k_M_packed) (hlk := w_1792) (hnoM := rfl) (hS8 := Nat.le_of_ble_eq_true rfl) (ci := 11) (N := 38) (C := "BeaconIndexModel") (T := xF11) (hc := rfl) (hci := Nat.le_of_ble_eq_true rfl) (htb := (ft_53 F)) (hinst := w_1794) (hsel := sel_M_packed) (hlen := Nat.le_of_ble_eq_true rfl) (hst := rfl) (hL0 := rfl)  (xwp_mono hyp (fun v9 h9 q9 => xr_drop (L9 := [xZ, xZ, xZ, xZ]) (xdrz (xdrs (xdrs (xdrz xdr0)))) q9) (fun _ _ z9 => z9))
  · replace hyp := hyp.2 q9
    have q1_ := q9
    clear q9
    refine xr_aload_n (pc := 130) (i := 0) (hI := d_M_wordAt_130) (hi := rfl) (hl := rfl) ?_
    refine xr_iload_n (pc := 131) (i := 3) (hI := d_M_wordAt_131) (hi := rfl) (hl := rfl) ?_
    refine xr_ldcS (pc := 132) (z := (-48)) (tx := "ed") (k0 := 46) (hI := d_M_wordAt_132) (hm := by decide +kernel) (hz0 := by decide) ?_
    exact xq_callV (pc := 134) (index := 157) (K := m_M_doesEnd) (As := [xI x3, xR (-48)]) (S := [xR 53]) (L0 := [xR 53, xI x3, xR (-48), xZ, xZ]) (hI := d_M_wordAt_134) (hK := k_M_doesEnd) (hlk := w_1788) (hnoM := rfl) (hS8 := Nat.le_of_ble_eq_true rfl) (ci := 11) (N := 38) (C := "BeaconIndexModel") (T := xF11) (hc := rfl) (hci := Nat.le_of_ble_eq_true rfl) (htb := (ft_53 F)) (hinst := w_1790) (hsel := sel_M_doesEnd) (hlen := Nat.le_of_ble_eq_true rfl) (hst := rfl) (hL0 := rfl)  (xwp_mono hyp (fun v9 h9 q9 => xr_drop (L9 := [xZ, xZ, xZ, xI x3]) (xdrz (xdrs (xdrs (xdrs xdr0)))) q9) (fun _ _ z9 => z9))
theorem d_M_wordAt_137 : decode prog_14_method_21_code 137 = .ok (.ifCond .eq 9, 3) := by decide +kernel
theorem d_M_wordAt_140 : decode prog_14_method_21_code 140 = .ok (.iload_n 3, 1) := by decide +kernel
theorem d_M_wordAt_141 : decode prog_14_method_21_code 141 = .ok (.iconst 2, 1) := by decide +kernel
theorem d_M_wordAt_142 : decode prog_14_method_21_code 142 = .ok (.isub, 1) := by decide +kernel
theorem d_M_wordAt_143 : decode prog_14_method_21_code 143 = .ok (.goto 4, 3) := by decide +kernel
theorem v_M_wordAt_137 {G : XG} {d : Nat} {h : XH} {Q : XV → XH → Prop} {X : Nat → XH → Prop} {x3 s0 : Int} (F : xFix h) (hyp : ((s0 = 0 → (xwp G m_M_packed (d + 6) 0 [xR 53, xI x3, xZ, xZ, xZ] [] h (fun v9 h9 => xwp G m_M_wordAt (d + 7) 150 [xZ, xZ, xZ, xZ] (xpush v9 []) h9 Q X) X)) ∧ (¬ s0 = 0 → xiR (x3 - 2) ∧ (xwp G m_M_packed (d + 6) 0 [xR 53, xI (x3 - 2), xZ, xZ, xZ] [] h (fun v9 h9 => xwp G m_M_wordAt (d + 7) 150 [xZ, xZ, xZ, xZ] (xpush v9 []) h9 Q X) X)))) : xwp G m_M_wordAt (d + 7) 137 [xZ, xZ, xZ, xI x3] [xI s0, xR 53] h Q X := by
  have hnx9 : (93 : Int) ≤ xnx h := F.2.2
  refine xr_okL (fun hl9 => ?_)
  have r_x3 : -2147483648 ≤ x3 ∧ x3 ≤ 2147483647 := hl9 (xI x3) (.tail _ (.tail _ (.tail _ (.head _)))) (Nat.le_of_ble_eq_true rfl)
  refine xr_okS (fun hs9 => ?_)
  have r_s0 : -2147483648 ≤ s0 ∧ s0 ≤ 2147483647 := hs9 (xI s0) (.head _)
  refine xr_if_eq (pc := 137) (tgt := 146) (hI := d_M_wordAt_137) (ht := by decide) (fun q9 => ?_) (fun q9 => ?_)
  · replace hyp := hyp.1 q9
    have q1_ := q9
    clear q9
    refine xr_iload_n (pc := 146) (i := 3) (hI := d_M_wordAt_146) (hi := rfl) (hl := rfl) ?_
    exact xq_callV (pc := 147) (index := 161) (K := m_M_packed) (As := [xI x3]) (S := []) (L0 := [xR 53, xI x3, xZ, xZ, xZ]) (hI := d_M_wordAt_147) (hK := k_M_packed) (hlk := w_1792) (hnoM := rfl) (hS8 := Nat.le_of_ble_eq_true rfl) (ci := 11) (N := 38) (C := "BeaconIndexModel") (T := xF11) (hc := rfl) (hci := Nat.le_of_ble_eq_true rfl) (htb := (ft_53 F)) (hinst := w_1794) (hsel := sel_M_packed) (hlen := Nat.le_of_ble_eq_true rfl) (hst := rfl) (hL0 := rfl)  (xwp_mono hyp (fun v9 h9 q9 => xr_drop (L9 := [xZ, xZ, xZ, xZ]) (xdrs (xdrs (xdrs (xdrz xdr0)))) q9) (fun _ _ z9 => z9))
  · replace hyp := hyp.2 q9
    have q1_ := q9
    clear q9
    refine xr_iload_n (pc := 140) (i := 3) (hI := d_M_wordAt_140) (hi := rfl) (hl := rfl) ?_
    refine xr_iconst (pc := 141) (hI := d_M_wordAt_141) (hr := by decide) ?_
    obtain ⟨c9, hyp⟩ := hyp
    refine xr_isub (pc := 142) (hI := d_M_wordAt_142) (hr := c9) ?_
    refine xr_goto (pc := 143) (tgt := 147) (hI := d_M_wordAt_143) (ht := by decide) ?_
    exact xq_callV (pc := 147) (index := 161) (K := m_M_packed) (As := [xI (x3 - 2)]) (S := []) (L0 := [xR 53, xI (x3 - 2), xZ, xZ, xZ]) (hI := d_M_wordAt_147) (hK := k_M_packed) (hlk := w_1792) (hnoM := rfl) (hS8 := Nat.le_of_ble_eq_true rfl) (ci := 11) (N := 38) (C := "BeaconIndexModel") (T := xF11) (hc := rfl) (hci := Nat.le_of_ble_eq_true rfl) (htb := (ft_53 F)) (hinst := w_1794) (hsel := sel_M_packed) (hlen := Nat.le_of_ble_eq_true rfl) (hst := rfl) (hL0 := rfl)  (xwp_mono hyp (fun v9 h9 q9 => xr_drop (L9 := [xZ, xZ, xZ, xZ]) (xdrs (xdrs (xdrs (xdrz xdr0)))) q9) (fun _ _ z9 => z9))
theorem d_M_wordAt_150 : decode prog_14_method_21_code 150 = .ok (.lreturn, 1) := by decide +kernel
theorem v_M_wordAt_150 {G : XG} {d : Nat} {h : XH} {Q : XV → XH → Prop} {X : Nat → XH → Prop} {s0 : Int} (F : xFix h) (hyp : (Q (xL s0) h)) : xwp G m_M_wordAt (d + 7) 150 [xZ, xZ, xZ, xZ] [xL s0] h Q X := by
  have hnx9 : (93 : Int) ≤ xnx h := F.2.2
  refine xr_okS (fun hs9 => ?_)
  have r_s0 : -9223372036854775808 ≤ s0 ∧ s0 ≤ 9223372036854775807 := hs9 (xL s0) (.head _)
  refine xr_lreturn (S := []) (pc := 150) (hI := d_M_wordAt_150) (hr := rfl) ?_
  exact hyp

end
