/-! ===== mostvc ===== -/
section
abbrev m_M_startOf : XM := (⟨"BeaconIndexModel", "startOf", "(I)I"⟩, prog_14_method_23_code, 2, (some .int), [])
theorem d_M_startOf_0 : decode prog_14_method_23_code 0 = .ok (.iload_n 1, 1) := by decide +kernel
theorem d_M_startOf_1 : decode prog_14_method_23_code 1 = .ok (.ifCond .ne 7, 3) := by decide +kernel
theorem d_M_startOf_8 : decode prog_14_method_23_code 8 = .ok (.aload_n 0, 1) := by decide +kernel
theorem d_M_startOf_9 : decode prog_14_method_23_code 9 = .ok (.getfield 16, 3) := by decide +kernel
theorem w_1594 : Cond.fieldLink "BeaconIndexModel" 16 "BeaconIndexModel" "ends" "[I" ∈ lw_tbl := List.mem_append_right _ (List.mem_of_getElem? (i := 1594) (by decide +kernel))
theorem d_M_startOf_12 : decode prog_14_method_23_code 12 = .ok (.iload_n 1, 1) := by decide +kernel
theorem d_M_startOf_13 : decode prog_14_method_23_code 13 = .ok (.iconst 1, 1) := by decide +kernel
theorem d_M_startOf_14 : decode prog_14_method_23_code 14 = .ok (.isub, 1) := by decide +kernel
theorem d_M_startOf_15 : decode prog_14_method_23_code 15 = .ok (.iaload, 1) := by decide +kernel
theorem d_M_startOf_16 : decode prog_14_method_23_code 16 = .ok (.ireturn, 1) := by decide +kernel
theorem d_M_startOf_4 : decode prog_14_method_23_code 4 = .ok (.iconst 0, 1) := by decide +kernel
theorem d_M_startOf_5 : decode prog_14_method_23_code 5 = .ok (.goto 11, 3) := by decide +kernel
theorem v_M_startOf_0 {G : XG} {d : Nat} {h : XH} {Q : XV → XH → Prop} {X : Nat → XH → Prop} {x1 : Int} (F : xFix h) (hyp : ((x1 = 0 → (Q (xI 0) h)) ∧ (¬ x1 = 0 → xiR (x1 - 1) ∧ 0 ≤ (x1 - 1) ∧ (x1 - 1) < 60 ∧ (Q (xI (xpl h 56 (x1 - 1))) h)))) : xwp G m_M_startOf (d + 1) 0 [xR 53, xI x1] [] h Q X := by
  have hnx9 : (93 : Int) ≤ xnx h := F.2.2
  refine xr_okL (fun hl9 => ?_)
  have r_x1 : -2147483648 ≤ x1 ∧ x1 ≤ 2147483647 := hl9 (xI x1) (.tail _ (.head _)) (Nat.le_of_ble_eq_true rfl)
  refine xr_iload_n (pc := 0) (i := 1) (hI := d_M_startOf_0) (hi := rfl) (hl := rfl) ?_
  refine xr_if_ne (pc := 1) (tgt := 8) (hI := d_M_startOf_1) (ht := by decide) (fun q9 => ?_) (fun q9 => ?_)
  · replace hyp := hyp.2 q9
    have q1_ := q9
    clear q9
    refine xr_aload_n (pc := 8) (i := 0) (hI := d_M_startOf_8) (hi := rfl) (hl := rfl) ?_
    refine xg_getf (pc := 9) (ci := 11) (k := 7) (N := 38) (v9 := 2) (v := 56) (T := xF11) (hI := d_M_startOf_9) (hw := w_1594) rfl xi11 (Or.inl rfl) (Nat.le_of_ble_eq_true rfl) (Nat.le_of_ble_eq_true rfl) rfl (ft_53 F) (fp_53_7 F) (fun f2_ => ?_)
    clear f2_
    refine xr_iload_n (pc := 12) (i := 1) (hI := d_M_startOf_12) (hi := rfl) (hl := rfl) ?_
    refine xr_iconst (pc := 13) (hI := d_M_startOf_13) (hr := by decide) ?_
    obtain ⟨c9, hyp⟩ := hyp
    refine xr_isub (pc := 14) (hI := d_M_startOf_14) (hr := c9) ?_
    obtain ⟨c3_, hyp⟩ := hyp
    obtain ⟨c4_, hyp⟩ := hyp
    refine xg_iaload (pc := 15) (v := (xpl h 56 (x1 - 1))) (hI := d_M_startOf_15) (ft_56 F) c3_ (xlt_of (fl_56 F) c4_) rfl (fun f5_ => ?_)
    replace f5_ : -2147483648 ≤ (xpl h 56 (x1 - 1)) ∧ (xpl h 56 (x1 - 1)) ≤ 2147483647 := f5_
    refine xr_ireturn (S := []) (pc := 16) (hI := d_M_startOf_16) (hr := rfl) ?_
    exact hyp
  · replace hyp := hyp.1 q9
    have q1_ := q9
    clear q9
    refine xr_iconst (pc := 4) (hI := d_M_startOf_4) (hr := by decide) ?_
    refine xr_goto (pc := 5) (tgt := 16) (hI := d_M_startOf_5) (ht := by decide) ?_
    refine xr_ireturn (S := []) (pc := 16) (hI := d_M_startOf_16) (hr := rfl) ?_
    exact hyp
abbrev m_M_inSegments : XM := (⟨"BeaconIndexModel", "inSegments", "()I"⟩, prog_14_method_22_code, 1, (some .int), [])
theorem d_M_inSegments_0 : decode prog_14_method_22_code 0 = .ok (.aload_n 0, 1) := by decide +kernel
theorem d_M_inSegments_1 : decode prog_14_method_22_code 1 = .ok (.aload_n 0, 1) := by decide +kernel
theorem d_M_inSegments_2 : decode prog_14_method_22_code 2 = .ok (.getfield 176, 3) := by decide +kernel
theorem w_1592 : Cond.fieldLink "BeaconIndexModel" 176 "BeaconIndexModel" "segments" "I" ∈ lw_tbl := List.mem_append_right _ (List.mem_of_getElem? (i := 1592) (by decide +kernel))
theorem d_M_inSegments_5 : decode prog_14_method_22_code 5 = .ok (.invokevirtual 179, 3) := by decide +kernel
theorem k_M_startOf : xCal m_M_startOf 1 := ⟨List.mem_append_right _ (List.mem_of_getElem? (i := 1739) (by decide +kernel)), w_15, Nat.le_of_ble_eq_true rfl, ⟨by decide +kernel, by decide +kernel⟩, by decide +kernel, by decide +kernel, rfl⟩
theorem w_1736 : Cond.methodLink "BeaconIndexModel" 179 ⟨"BeaconIndexModel", "startOf", "(I)I"⟩ ∈ lw_tbl := List.mem_append_right _ (List.mem_of_getElem? (i := 1736) (by decide +kernel))
theorem w_1738 : Cond.instanceMethod ⟨"BeaconIndexModel", "startOf", "(I)I"⟩ ∈ lw_tbl := List.mem_append_right _ (List.mem_of_getElem? (i := 1738) (by decide +kernel))
theorem sel_M_startOf : Cond.selects "BeaconIndexModel" ⟨"BeaconIndexModel", "startOf", "(I)I"⟩ ⟨"BeaconIndexModel", "startOf", "(I)I"⟩ ∈ lw_tbl := List.mem_append_left _ (by decide +kernel)
theorem v_M_inSegments_0 {G : XG} {d : Nat} {h : XH} {Q : XV → XH → Prop} {X : Nat → XH → Prop} (F : xFix h) (hyp : (xwp G m_M_startOf (d + 1) 0 [xR 53, xI (xpl h 53 5)] [] h (fun v9 h9 => xwp G m_M_inSegments (d + 2) 8 [xZ] (xpush v9 []) h9 Q X) X)) : xwp G m_M_inSegments (d + 2) 0 [xR 53] [] h Q X := by
  have hnx9 : (93 : Int) ≤ xnx h := F.2.2
  refine xr_aload_n (pc := 0) (i := 0) (hI := d_M_inSegments_0) (hi := rfl) (hl := rfl) ?_
  refine xr_aload_n (pc := 1) (i := 0) (hI := d_M_inSegments_1) (hi := rfl) (hl := rfl) ?_
  refine xg_getf (pc := 2) (ci := 11) (k := 5) (N := 38) (v9 := 0) (v := (xpl h 53 5)) (T := xF11) (hI := d_M_inSegments_2) (hw := w_1592) rfl xi11 (Or.inl rfl) (Nat.le_of_ble_eq_true rfl) (Nat.le_of_ble_eq_true rfl) rfl (ft_53 F) rfl (fun f1_ => ?_)
  replace f1_ : -2147483648 ≤ (xpl h 53 5) ∧ (xpl h 53 5) ≤ 2147483647 := f1_
  exact xq_callV (pc := 5) (index := 179) (K := m_M_startOf) (As := [xI (xpl h 53 5)]) (S := []) (L0 := [xR 53, xI (xpl h 53 5)]) (hI := d_M_inSegments_5) (hK := k_M_startOf) (hlk := w_1736) (hnoM := rfl) (hS8 := Nat.le_of_ble_eq_true rfl) (ci := 11) (N := 38) (C := "BeaconIndexModel") (T := xF11) (hc := rfl) (hci := Nat.le_of_ble_eq_true rfl) (htb := (ft_53 F)) (hinst := w_1738) (hsel := sel_M_startOf) (hlen := Nat.le_of_ble_eq_true rfl) (hst := rfl) (hL0 := rfl)  (xwp_mono hyp (fun v9 h9 q9 => xr_drop (L9 := [xZ]) (xdrz xdr0) q9) (fun _ _ z9 => z9))
theorem d_M_inSegments_8 : decode prog_14_method_22_code 8 = .ok (.ireturn, 1) := by decide +kernel
theorem v_M_inSegments_8 {G : XG} {d : Nat} {h : XH} {Q : XV → XH → Prop} {X : Nat → XH → Prop} {s0 : Int} (F : xFix h) (hyp : (Q (xI s0) h)) : xwp G m_M_inSegments (d + 2) 8 [xZ] [xI s0] h Q X := by
  have hnx9 : (93 : Int) ≤ xnx h := F.2.2
  refine xr_okS (fun hs9 => ?_)
  have r_s0 : -2147483648 ≤ s0 ∧ s0 ≤ 2147483647 := hs9 (xI s0) (.head _)
  refine xr_ireturn (S := []) (pc := 8) (hI := d_M_inSegments_8) (hr := rfl) ?_
  exact hyp
abbrev m_M_manyIn : XM := (⟨"BeaconIndexModel", "manyIn", "(I)I"⟩, prog_14_method_24_code, 2, (some .int), [])
theorem d_M_manyIn_0 : decode prog_14_method_24_code 0 = .ok (.aload_n 0, 1) := by decide +kernel
theorem d_M_manyIn_1 : decode prog_14_method_24_code 1 = .ok (.getfield 16, 3) := by decide +kernel
theorem d_M_manyIn_4 : decode prog_14_method_24_code 4 = .ok (.iload_n 1, 1) := by decide +kernel
theorem d_M_manyIn_5 : decode prog_14_method_24_code 5 = .ok (.iaload, 1) := by decide +kernel
theorem d_M_manyIn_6 : decode prog_14_method_24_code 6 = .ok (.aload_n 0, 1) := by decide +kernel
theorem d_M_manyIn_7 : decode prog_14_method_24_code 7 = .ok (.iload_n 1, 1) := by decide +kernel
theorem d_M_manyIn_8 : decode prog_14_method_24_code 8 = .ok (.invokevirtual 179, 3) := by decide +kernel
theorem v_M_manyIn_0 {G : XG} {d : Nat} {h : XH} {Q : XV → XH → Prop} {X : Nat → XH → Prop} {x1 : Int} (F : xFix h) (hyp : 0 ≤ x1 ∧ x1 < 60 ∧ (xwp G m_M_startOf (d + 1) 0 [xR 53, xI x1] [] h (fun v9 h9 => xwp G m_M_manyIn (d + 2) 11 [xZ, xZ] (xpush v9 [xI (xpl h 56 x1)]) h9 Q X) X)) : xwp G m_M_manyIn (d + 2) 0 [xR 53, xI x1] [] h Q X := by
  have hnx9 : (93 : Int) ≤ xnx h := F.2.2
  refine xr_okL (fun hl9 => ?_)
  have r_x1 : -2147483648 ≤ x1 ∧ x1 ≤ 2147483647 := hl9 (xI x1) (.tail _ (.head _)) (Nat.le_of_ble_eq_true rfl)
  refine xr_aload_n (pc := 0) (i := 0) (hI := d_M_manyIn_0) (hi := rfl) (hl := rfl) ?_
  refine xg_getf (pc := 1) (ci := 11) (k := 7) (N := 38) (v9 := 2) (v := 56) (T := xF11) (hI := d_M_manyIn_1) (hw := w_1594) rfl xi11 (Or.inl rfl) (Nat.le_of_ble_eq_true rfl) (Nat.le_of_ble_eq_true rfl) rfl (ft_53 F) (fp_53_7 F) (fun f1_ => ?_)
  clear f1_
  refine xr_iload_n (pc := 4) (i := 1) (hI := d_M_manyIn_4) (hi := rfl) (hl := rfl) ?_
  obtain ⟨c2_, hyp⟩ := hyp
  obtain ⟨c3_, hyp⟩ := hyp
  refine xg_iaload (pc := 5) (v := (xpl h 56 x1)) (hI := d_M_manyIn_5) (ft_56 F) c2_ (xlt_of (fl_56 F) c3_) rfl (fun f4_ => ?_)
  replace f4_ : -2147483648 ≤ (xpl h 56 x1) ∧ (xpl h 56 x1) ≤ 2147483647 := f4_
  refine xr_aload_n (pc := 6) (i := 0) (hI := d_M_manyIn_6) (hi := rfl) (hl := rfl) ?_
  refine xr_iload_n (pc := 7) (i := 1) (hI := d_M_manyIn_7) (hi := rfl) (hl := rfl) ?_
  exact xq_callV (pc := 8) (index := 179) (K := m_M_startOf) (As := [xI x1]) (S := [xI (xpl h 56 x1)]) (L0 := [xR 53, xI x1]) (hI := d_M_manyIn_8) (hK := k_M_startOf) (hlk := w_1736) (hnoM := rfl) (hS8 := Nat.le_of_ble_eq_true rfl) (ci := 11) (N := 38) (C := "BeaconIndexModel") (T := xF11) (hc := rfl) (hci := Nat.le_of_ble_eq_true rfl) (htb := (ft_53 F)) (hinst := w_1738) (hsel := sel_M_startOf) (hlen := Nat.le_of_ble_eq_true rfl) (hst := rfl) (hL0 := rfl)  (xwp_mono hyp (fun v9 h9 q9 => xr_drop (L9 := [xZ, xZ]) (xdrz (xdrz xdr0)) q9) (fun _ _ z9 => z9))
theorem d_M_manyIn_11 : decode prog_14_method_24_code 11 = .ok (.isub, 1) := by decide +kernel
theorem d_M_manyIn_12 : decode prog_14_method_24_code 12 = .ok (.ireturn, 1) := by decide +kernel
theorem v_M_manyIn_11 {G : XG} {d : Nat} {h : XH} {Q : XV → XH → Prop} {X : Nat → XH → Prop} {s0 s1 : Int} (F : xFix h) (hyp : xiR (s1 - s0) ∧ (Q (xI (s1 - s0)) h)) : xwp G m_M_manyIn (d + 2) 11 [xZ, xZ] [xI s0, xI s1] h Q X := by
  have hnx9 : (93 : Int) ≤ xnx h := F.2.2
  refine xr_okS (fun hs9 => ?_)
  have r_s0 : -2147483648 ≤ s0 ∧ s0 ≤ 2147483647 := hs9 (xI s0) (.head _)
  have r_s1 : -2147483648 ≤ s1 ∧ s1 ≤ 2147483647 := hs9 (xI s1) (.tail _ (.head _))
  obtain ⟨c9, hyp⟩ := hyp
  refine xr_isub (pc := 11) (hI := d_M_manyIn_11) (hr := c9) ?_
  refine xr_ireturn (S := []) (pc := 12) (hI := d_M_manyIn_12) (hr := rfl) ?_
  exact hyp
abbrev m_M_level : XM := (⟨"BeaconIndexModel", "level", "(I)I"⟩, prog_14_method_25_code, 3, (some .int), [])
theorem d_M_level_0 : decode prog_14_method_25_code 0 = .ok (.aload_n 0, 1) := by decide +kernel
theorem d_M_level_1 : decode prog_14_method_25_code 1 = .ok (.iload_n 1, 1) := by decide +kernel
theorem d_M_level_2 : decode prog_14_method_25_code 2 = .ok (.invokevirtual 182, 3) := by decide +kernel
theorem k_M_manyIn : xCal m_M_manyIn 1 := ⟨List.mem_append_right _ (List.mem_of_getElem? (i := 1825) (by decide +kernel)), w_15, Nat.le_of_ble_eq_true rfl, ⟨by decide +kernel, by decide +kernel⟩, by decide +kernel, by decide +kernel, rfl⟩
theorem w_1822 : Cond.methodLink "BeaconIndexModel" 182 ⟨"BeaconIndexModel", "manyIn", "(I)I"⟩ ∈ lw_tbl := List.mem_append_right _ (List.mem_of_getElem? (i := 1822) (by decide +kernel))
theorem w_1824 : Cond.instanceMethod ⟨"BeaconIndexModel", "manyIn", "(I)I"⟩ ∈ lw_tbl := List.mem_append_right _ (List.mem_of_getElem? (i := 1824) (by decide +kernel))
theorem sel_M_manyIn : Cond.selects "BeaconIndexModel" ⟨"BeaconIndexModel", "manyIn", "(I)I"⟩ ⟨"BeaconIndexModel", "manyIn", "(I)I"⟩ ∈ lw_tbl := List.mem_append_left _ (by decide +kernel)
theorem v_M_level_0 {G : XG} {d : Nat} {h : XH} {Q : XV → XH → Prop} {X : Nat → XH → Prop} {x1 : Int} (F : xFix h) (hyp : (xwp G m_M_manyIn (d + 2) 0 [xR 53, xI x1] [] h (fun v9 h9 => xwp G m_M_level (d + 3) 5 [xZ, xZ, xZ] (xpush v9 []) h9 Q X) X)) : xwp G m_M_level (d + 3) 0 [xR 53, xI x1, xZ] [] h Q X := by
  have hnx9 : (93 : Int) ≤ xnx h := F.2.2
  refine xr_okL (fun hl9 => ?_)
  have r_x1 : -2147483648 ≤ x1 ∧ x1 ≤ 2147483647 := hl9 (xI x1) (.tail _ (.head _)) (Nat.le_of_ble_eq_true rfl)
  refine xr_aload_n (pc := 0) (i := 0) (hI := d_M_level_0) (hi := rfl) (hl := rfl) ?_
  refine xr_iload_n (pc := 1) (i := 1) (hI := d_M_level_1) (hi := rfl) (hl := rfl) ?_
  exact xq_callV (pc := 2) (index := 182) (K := m_M_manyIn) (As := [xI x1]) (S := []) (L0 := [xR 53, xI x1]) (hI := d_M_level_2) (hK := k_M_manyIn) (hlk := w_1822) (hnoM := rfl) (hS8 := Nat.le_of_ble_eq_true rfl) (ci := 11) (N := 38) (C := "BeaconIndexModel") (T := xF11) (hc := rfl) (hci := Nat.le_of_ble_eq_true rfl) (htb := (ft_53 F)) (hinst := w_1824) (hsel := sel_M_manyIn) (hlen := Nat.le_of_ble_eq_true rfl) (hst := rfl) (hL0 := rfl)  (xwp_mono hyp (fun v9 h9 q9 => xr_drop (L9 := [xZ, xZ, xZ]) (xdrz (xdrz (xdrs xdr0))) q9) (fun _ _ z9 => z9))
theorem d_M_level_5 : decode prog_14_method_25_code 5 = .ok (.istore_n 2, 1) := by decide +kernel
theorem d_M_level_6 : decode prog_14_method_25_code 6 = .ok (.iload_n 2, 1) := by decide +kernel
theorem d_M_level_7 : decode prog_14_method_25_code 7 = .ok (.bipush 39, 2) := by decide +kernel
theorem d_M_level_9 : decode prog_14_method_25_code 9 = .ok (.if_icmp .le 7, 3) := by decide +kernel
theorem d_M_level_16 : decode prog_14_method_25_code 16 = .ok (.iload_n 2, 1) := by decide +kernel
theorem d_M_level_17 : decode prog_14_method_25_code 17 = .ok (.bipush 12, 2) := by decide +kernel
theorem d_M_level_19 : decode prog_14_method_25_code 19 = .ok (.if_icmp .le 7, 3) := by decide +kernel
theorem d_M_level_26 : decode prog_14_method_25_code 26 = .ok (.iload_n 2, 1) := by decide +kernel
theorem d_M_level_27 : decode prog_14_method_25_code 27 = .ok (.iconst 3, 1) := by decide +kernel
theorem d_M_level_28 : decode prog_14_method_25_code 28 = .ok (.if_icmp .le 7, 3) := by decide +kernel
theorem d_M_level_35 : decode prog_14_method_25_code 35 = .ok (.iconst 0, 1) := by decide +kernel
theorem d_M_level_36 : decode prog_14_method_25_code 36 = .ok (.ireturn, 1) := by decide +kernel
theorem d_M_level_31 : decode prog_14_method_25_code 31 = .ok (.iconst 1, 1) := by decide +kernel
theorem d_M_level_32 : decode prog_14_method_25_code 32 = .ok (.goto 4, 3) := by decide +kernel
theorem d_M_level_22 : decode prog_14_method_25_code 22 = .ok (.iconst 2, 1) := by decide +kernel
theorem d_M_level_23 : decode prog_14_method_25_code 23 = .ok (.goto 13, 3) := by decide +kernel
theorem d_M_level_12 : decode prog_14_method_25_code 12 = .ok (.iconst 3, 1) := by decide +kernel
theorem d_M_level_13 : decode prog_14_method_25_code 13 = .ok (.goto 23, 3) := by decide +kernel
theorem v_M_level_5 {G : XG} {d : Nat} {h : XH} {Q : XV → XH → Prop} {X : Nat → XH → Prop} {s0 : Int} (F : xFix h) (hyp : ((s0 ≤ 39 → ((s0 ≤ 12 → ((s0 ≤ 3 → (Q (xI 0) h)) ∧ (¬ s0 ≤ 3 → (Q (xI 1) h)))) ∧ (¬ s0 ≤ 12 → (Q (xI 2) h)))) ∧ (¬ s0 ≤ 39 → (Q (xI 3) h)))) : xwp G m_M_level (d + 3) 5 [xZ, xZ, xZ] [xI s0] h Q X := by
  have hnx9 : (93 : Int) ≤ xnx h := F.2.2
  refine xr_okS (fun hs9 => ?_)
  have r_s0 : -2147483648 ≤ s0 ∧ s0 ≤ 2147483647 := hs9 (xI s0) (.head _)
  refine xr_istore_n (pc := 5) (i := 2) (L9 := [xZ, xZ, xI s0]) (hI := d_M_level_5) (hi := rfl) (hn := Nat.le_of_ble_eq_true rfl) (hL9 := rfl) ?_
  refine xr_iload_n (pc := 6) (i := 2) (hI := d_M_level_6) (hi := rfl) (hl := rfl) ?_
  refine xr_bipush (pc := 7) (hI := d_M_level_7) (hr := by decide) (hv := by decide) ?_
  refine xr_icmp_le (pc := 9) (tgt := 16) (hI := d_M_level_9) (ht := by decide) (fun q9 => ?_) (fun q9 => ?_)
  · replace hyp := hyp.1 q9
    have q1_ := q9
    clear q9
    refine xr_iload_n (pc := 16) (i := 2) (hI := d_M_level_16) (hi := rfl) (hl := rfl) ?_
    refine xr_bipush (pc := 17) (hI := d_M_level_17) (hr := by decide) (hv := by decide) ?_
    refine xr_icmp_le (pc := 19) (tgt := 26) (hI := d_M_level_19) (ht := by decide) (fun q9 => ?_) (fun q9 => ?_)
    · replace hyp := hyp.1 q9
      have q2_ := q9
      clear q9
      refine xr_iload_n (pc := 26) (i := 2) (hI := d_M_level_26) (hi := rfl) (hl := rfl) ?_
      refine xr_iconst (pc := 27) (hI := d_M_level_27) (hr := by decide) ?_
      refine xr_icmp_le (pc := 28) (tgt := 35) (hI := d_M_level_28) (ht := by decide) (fun q9 => ?_) (fun q9 => ?_)
      · replace hyp := hyp.1 q9
        have q3_ := q9
        clear q9
        refine xr_iconst (pc := 35) (hI := d_M_level_35) (hr := by decide) ?_
        refine xr_ireturn (S := []) (pc := 36) (hI := d_M_level_36) (hr := rfl) ?_
        exact hyp
      · replace hyp := hyp.2 q9
        have q3_ := q9
        clear q9
        refine xr_iconst (pc := 31) (hI := d_M_level_31) (hr := by decide) ?_
        refine xr_goto (pc := 32) (tgt := 36) (hI := d_M_level_32) (ht := by decide) ?_
        refine xr_ireturn (S := []) (pc := 36) (hI := d_M_level_36) (hr := rfl) ?_
        exact hyp
    · replace hyp := hyp.2 q9
      have q2_ := q9
      clear q9
      refine xr_iconst (pc := 22) (hI := d_M_level_22) (hr := by decide) ?_
      refine xr_goto (pc := 23) (tgt := 36) (hI := d_M_level_23) (ht := by decide) ?_
      refine xr_ireturn (S := []) (pc := 36) (hI := d_M_level_36) (hr := rfl) ?_
      exact hyp
  · replace hyp := hyp.2 q9
    have q1_ := q9
    clear q9
    refine xr_iconst (pc := 12) (hI := d_M_level_12) (hr := by decide) ?_
    refine xr_goto (pc := 13) (tgt := 36) (hI := d_M_level_13) (ht := by decide) ?_
    refine xr_ireturn (S := []) (pc := 36) (hI := d_M_level_36) (hr := rfl) ?_
    exact hyp
abbrev m_M_marks : XM := (⟨"BeaconIndexModel", "marks", "(I)I"⟩, prog_14_method_26_code, 4, (some .int), [])
theorem d_M_marks_0 : decode prog_14_method_26_code 0 = .ok (.iconst 0, 1) := by decide +kernel
theorem d_M_marks_1 : decode prog_14_method_26_code 1 = .ok (.istore_n 2, 1) := by decide +kernel
theorem d_M_marks_2 : decode prog_14_method_26_code 2 = .ok (.aload_n 0, 1) := by decide +kernel
theorem d_M_marks_3 : decode prog_14_method_26_code 3 = .ok (.iload_n 1, 1) := by decide +kernel
theorem d_M_marks_4 : decode prog_14_method_26_code 4 = .ok (.invokevirtual 179, 3) := by decide +kernel
theorem v_M_marks_0 {G : XG} {d : Nat} {h : XH} {Q : XV → XH → Prop} {X : Nat → XH → Prop} {x1 : Int} (F : xFix h) (hyp : (xwp G m_M_startOf (d + 1) 0 [xR 53, xI x1] [] h (fun v9 h9 => xwp G m_M_marks (d + 2) 7 [xR 53, xI x1, xI 0, xZ] (xpush v9 []) h9 Q X) X)) : xwp G m_M_marks (d + 2) 0 [xR 53, xI x1, xZ, xZ] [] h Q X := by
  have hnx9 : (93 : Int) ≤ xnx h := F.2.2
  refine xr_okL (fun hl9 => ?_)
  have r_x1 : -2147483648 ≤ x1 ∧ x1 ≤ 2147483647 := hl9 (xI x1) (.tail _ (.head _)) (Nat.le_of_ble_eq_true rfl)
  refine xr_iconst (pc := 0) (hI := d_M_marks_0) (hr := by decide) ?_
  refine xr_istore_n (pc := 1) (i := 2) (L9 := [xR 53, xI x1, xI 0, xZ]) (hI := d_M_marks_1) (hi := rfl) (hn := Nat.le_of_ble_eq_true rfl) (hL9 := rfl) ?_
  refine xr_aload_n (pc := 2) (i := 0) (hI := d_M_marks_2) (hi := rfl) (hl := rfl) ?_
  refine xr_iload_n (pc := 3) (i := 1) (hI := d_M_marks_3) (hi := rfl) (hl := rfl) ?_
  exact xq_callV (pc := 4) (index := 179) (K := m_M_startOf) (As := [xI x1]) (S := []) (L0 := [xR 53, xI x1]) (hI := d_M_marks_4) (hK := k_M_startOf) (hlk := w_1736) (hnoM := rfl) (hS8 := Nat.le_of_ble_eq_true rfl) (ci := 11) (N := 38) (C := "BeaconIndexModel") (T := xF11) (hc := rfl) (hci := Nat.le_of_ble_eq_true rfl) (htb := (ft_53 F)) (hinst := w_1738) (hsel := sel_M_startOf) (hlen := Nat.le_of_ble_eq_true rfl) (hst := rfl) (hL0 := rfl)  hyp
theorem d_M_marks_7 : decode prog_14_method_26_code 7 = .ok (.istore_n 3, 1) := by decide +kernel
theorem v_M_marks_7 {G : XG} {d : Nat} {h : XH} {Q : XV → XH → Prop} {X : Nat → XH → Prop} {x1 x2 s0 : Int} (F : xFix h) (hyp : (xwp G m_M_marks (d + 2) 8 [xR 53, xI x1, xI x2, xI s0] [] h Q X)) : xwp G m_M_marks (d + 2) 7 [xR 53, xI x1, xI x2, xZ] [xI s0] h Q X := by
  have hnx9 : (93 : Int) ≤ xnx h := F.2.2
  refine xr_okL (fun hl9 => ?_)
  have r_x1 : -2147483648 ≤ x1 ∧ x1 ≤ 2147483647 := hl9 (xI x1) (.tail _ (.head _)) (Nat.le_of_ble_eq_true rfl)
  have r_x2 : -2147483648 ≤ x2 ∧ x2 ≤ 2147483647 := hl9 (xI x2) (.tail _ (.tail _ (.head _))) (Nat.le_of_ble_eq_true rfl)
  refine xr_okS (fun hs9 => ?_)
  have r_s0 : -2147483648 ≤ s0 ∧ s0 ≤ 2147483647 := hs9 (xI s0) (.head _)
  refine xr_istore_n (pc := 7) (i := 3) (L9 := [xR 53, xI x1, xI x2, xI s0]) (hI := d_M_marks_7) (hi := rfl) (hn := Nat.le_of_ble_eq_true rfl) (hL9 := rfl) ?_
  exact hyp
theorem d_M_marks_8 : decode prog_14_method_26_code 8 = .ok (.iload_n 3, 1) := by decide +kernel
theorem d_M_marks_9 : decode prog_14_method_26_code 9 = .ok (.aload_n 0, 1) := by decide +kernel
theorem d_M_marks_10 : decode prog_14_method_26_code 10 = .ok (.getfield 16, 3) := by decide +kernel
theorem d_M_marks_13 : decode prog_14_method_26_code 13 = .ok (.iload_n 1, 1) := by decide +kernel
theorem d_M_marks_14 : decode prog_14_method_26_code 14 = .ok (.iaload, 1) := by decide +kernel
theorem d_M_marks_15 : decode prog_14_method_26_code 15 = .ok (.if_icmp .ge 31, 3) := by decide +kernel
theorem d_M_marks_46 : decode prog_14_method_26_code 46 = .ok (.iload_n 2, 1) := by decide +kernel
theorem d_M_marks_47 : decode prog_14_method_26_code 47 = .ok (.ireturn, 1) := by decide +kernel
theorem d_M_marks_18 : decode prog_14_method_26_code 18 = .ok (.iload_n 2, 1) := by decide +kernel
theorem d_M_marks_19 : decode prog_14_method_26_code 19 = .ok (.aload_n 0, 1) := by decide +kernel
theorem d_M_marks_20 : decode prog_14_method_26_code 20 = .ok (.getfield 28, 3) := by decide +kernel
theorem w_1598 : Cond.fieldLink "BeaconIndexModel" 28 "BeaconIndexModel" "marked" "[Z" ∈ lw_tbl := List.mem_append_right _ (List.mem_of_getElem? (i := 1598) (by decide +kernel))
theorem d_M_marks_23 : decode prog_14_method_26_code 23 = .ok (.aload_n 0, 1) := by decide +kernel
theorem d_M_marks_24 : decode prog_14_method_26_code 24 = .ok (.getfield 13, 3) := by decide +kernel
theorem w_1590 : Cond.fieldLink "BeaconIndexModel" 13 "BeaconIndexModel" "row" "[I" ∈ lw_tbl := List.mem_append_right _ (List.mem_of_getElem? (i := 1590) (by decide +kernel))
theorem d_M_marks_27 : decode prog_14_method_26_code 27 = .ok (.iload_n 3, 1) := by decide +kernel
theorem d_M_marks_28 : decode prog_14_method_26_code 28 = .ok (.iaload, 1) := by decide +kernel
theorem d_M_marks_29 : decode prog_14_method_26_code 29 = .ok (.baload, 1) := by decide +kernel
theorem d_M_marks_30 : decode prog_14_method_26_code 30 = .ok (.ifCond .eq 7, 3) := by decide +kernel
theorem d_M_marks_37 : decode prog_14_method_26_code 37 = .ok (.iconst 0, 1) := by decide +kernel
theorem d_M_marks_38 : decode prog_14_method_26_code 38 = .ok (.iadd, 1) := by decide +kernel
theorem d_M_marks_39 : decode prog_14_method_26_code 39 = .ok (.istore_n 2, 1) := by decide +kernel
theorem d_M_marks_40 : decode prog_14_method_26_code 40 = .ok (.iinc 3 1, 3) := by decide +kernel
theorem d_M_marks_43 : decode prog_14_method_26_code 43 = .ok (.goto (-35), 3) := by decide +kernel
theorem d_M_marks_33 : decode prog_14_method_26_code 33 = .ok (.iconst 1, 1) := by decide +kernel
theorem d_M_marks_34 : decode prog_14_method_26_code 34 = .ok (.goto 4, 3) := by decide +kernel
theorem v_M_marks_8 {G : XG} {d : Nat} {h : XH} {Q : XV → XH → Prop} {X : Nat → XH → Prop} {x1 x2 x3 : Int} (F : xFix h) (hyp : 0 ≤ x1 ∧ x1 < 60 ∧ (((xpl h 56 x1) ≤ x3 → (Q (xI x2) h)) ∧ (¬ (xpl h 56 x1) ≤ x3 → 0 ≤ x3 ∧ x3 < 60 ∧ 0 ≤ (xpl h 55 x3) ∧ (xpl h 55 x3) < 60 ∧ (((xpl h 60 (xpl h 55 x3)) = 0 → (xwp G m_M_marks (d + 2) 8 [xR 53, xI x1, xI (x2 + 0), xI (x3 + 1)] [] h Q X)) ∧ (¬ (xpl h 60 (xpl h 55 x3)) = 0 → xiR (x2 + 1) ∧ (xwp G m_M_marks (d + 2) 8 [xR 53, xI x1, xI (x2 + 1), xI (x3 + 1)] [] h Q X)))))) : xwp G m_M_marks (d + 2) 8 [xR 53, xI x1, xI x2, xI x3] [] h Q X := by
  have hnx9 : (93 : Int) ≤ xnx h := F.2.2
  refine xr_okL (fun hl9 => ?_)
  have r_x1 : -2147483648 ≤ x1 ∧ x1 ≤ 2147483647 := hl9 (xI x1) (.tail _ (.head _)) (Nat.le_of_ble_eq_true rfl)
  have r_x2 : -2147483648 ≤ x2 ∧ x2 ≤ 2147483647 := hl9 (xI x2) (.tail _ (.tail _ (.head _))) (Nat.le_of_ble_eq_true rfl)
  have r_x3 : -2147483648 ≤ x3 ∧ x3 ≤ 2147483647 := hl9 (xI x3) (.tail _ (.tail _ (.tail _ (.head _)))) (Nat.le_of_ble_eq_true rfl)
  refine xr_iload_n (pc := 8) (i := 3) (hI := d_M_marks_8) (hi := rfl) (hl := rfl) ?_
  refine xr_aload_n (pc := 9) (i := 0) (hI := d_M_marks_9) (hi := rfl) (hl := rfl) ?_
  refine xg_getf (pc := 10) (ci := 11) (k := 7) (N := 38) (v9 := 2) (v := 56) (T := xF11) (hI := d_M_marks_10) (hw := w_1594) rfl xi11 (Or.inl rfl) (Nat.le_of_ble_eq_true rfl) (Nat.le_of_ble_eq_true rfl) rfl (ft_53 F) (fp_53_7 F) (fun f1_ => ?_)
  clear f1_
  refine xr_iload_n (pc := 13) (i := 1) (hI := d_M_marks_13) (hi := rfl) (hl := rfl) ?_
  obtain ⟨c2_, hyp⟩ := hyp
  obtain ⟨c3_, hyp⟩ := hyp
  refine xg_iaload (pc := 14) (v := (xpl h 56 x1)) (hI := d_M_marks_14) (ft_56 F) c2_ (xlt_of (fl_56 F) c3_) rfl (fun f4_ => ?_)
  replace f4_ : -2147483648 ≤ (xpl h 56 x1) ∧ (xpl h 56 x1) ≤ 2147483647 := f4_
  refine xr_icmp_ge (pc := 15) (tgt := 46) (hI := d_M_marks_15) (ht := by decide) (fun q9 => ?_) (fun q9 => ?_)
  · replace hyp := hyp.1 q9
    have q5_ := q9
    clear q9
    refine xr_iload_n (pc := 46) (i := 2) (hI := d_M_marks_46) (hi := rfl) (hl := rfl) ?_
    refine xr_ireturn (S := []) (pc := 47) (hI := d_M_marks_47) (hr := rfl) ?_
    exact hyp
  · replace hyp := hyp.2 q9
    have q5_ := q9
    clear q9
    refine xr_iload_n (pc := 18) (i := 2) (hI := d_M_marks_18) (hi := rfl) (hl := rfl) ?_
    refine xr_aload_n (pc := 19) (i := 0) (hI := d_M_marks_19) (hi := rfl) (hl := rfl) ?_
    refine xg_getf (pc := 20) (ci := 11) (k := 11) (N := 38) (v9 := 2) (v := 60) (T := xF11) (hI := d_M_marks_20) (hw := w_1598) rfl xi11 (Or.inl rfl) (Nat.le_of_ble_eq_true rfl) (Nat.le_of_ble_eq_true rfl) rfl (ft_53 F) (fp_53_11 F) (fun f6_ => ?_)
    clear f6_
    refine xr_aload_n (pc := 23) (i := 0) (hI := d_M_marks_23) (hi := rfl) (hl := rfl) ?_
    refine xg_getf (pc := 24) (ci := 11) (k := 3) (N := 38) (v9 := 2) (v := 55) (T := xF11) (hI := d_M_marks_24) (hw := w_1590) rfl xi11 (Or.inl rfl) (Nat.le_of_ble_eq_true rfl) (Nat.le_of_ble_eq_true rfl) rfl (ft_53 F) (fp_53_3 F) (fun f7_ => ?_)
    clear f7_
    refine xr_iload_n (pc := 27) (i := 3) (hI := d_M_marks_27) (hi := rfl) (hl := rfl) ?_
    obtain ⟨c8_, hyp⟩ := hyp
    obtain ⟨c9_, hyp⟩ := hyp
    refine xg_iaload (pc := 28) (v := (xpl h 55 x3)) (hI := d_M_marks_28) (ft_55 F) c8_ (xlt_of (fl_55 F) c9_) rfl (fun f10_ => ?_)
    replace f10_ : -2147483648 ≤ (xpl h 55 x3) ∧ (xpl h 55 x3) ≤ 2147483647 := f10_
    obtain ⟨c11_, hyp⟩ := hyp
    obtain ⟨c12_, hyp⟩ := hyp
    refine xg_baloadZ (pc := 29) (v := (xpl h 60 (xpl h 55 x3))) (hI := d_M_marks_29) (ft_60 F) c11_ (xlt_of (fl_60 F) c12_) rfl (fun f13_ => ?_)
    replace f13_ : 0 ≤ (xpl h 60 (xpl h 55 x3)) ∧ (xpl h 60 (xpl h 55 x3)) ≤ 1 := f13_
    refine xr_if_eq (pc := 30) (tgt := 37) (hI := d_M_marks_30) (ht := by decide) (fun q9 => ?_) (fun q9 => ?_)
    · replace hyp := hyp.1 q9
      have q14_ := q9
      clear q9
      refine xr_iconst (pc := 37) (hI := d_M_marks_37) (hr := by decide) ?_
      refine xr_iadd (pc := 38) (hI := d_M_marks_38) (hr := ⟨by clear hyp; omega, by clear hyp; omega⟩) ?_
      refine xr_istore_n (pc := 39) (i := 2) (L9 := [xR 53, xI x1, xI (x2 + 0), xI x3]) (hI := d_M_marks_39) (hi := rfl) (hn := Nat.le_of_ble_eq_true rfl) (hL9 := rfl) ?_
      refine xr_iinc (pc := 40) (i := 3) (L9 := [xR 53, xI x1, xI (x2 + 0), xI (x3 + 1)]) (hI := d_M_marks_40) (hl := rfl) (hn := Nat.le_of_ble_eq_true rfl) (hr := ⟨by clear hyp; omega, by clear hyp; omega⟩) (hL9 := rfl) ?_
      refine xr_goto (pc := 43) (tgt := 8) (hI := d_M_marks_43) (ht := by decide) ?_
      exact hyp
    · replace hyp := hyp.2 q9
      have q14_ := q9
      clear q9
      refine xr_iconst (pc := 33) (hI := d_M_marks_33) (hr := by decide) ?_
      refine xr_goto (pc := 34) (tgt := 38) (hI := d_M_marks_34) (ht := by decide) ?_
      obtain ⟨c9, hyp⟩ := hyp
      refine xr_iadd (pc := 38) (hI := d_M_marks_38) (hr := c9) ?_
      refine xr_istore_n (pc := 39) (i := 2) (L9 := [xR 53, xI x1, xI (x2 + 1), xI x3]) (hI := d_M_marks_39) (hi := rfl) (hn := Nat.le_of_ble_eq_true rfl) (hL9 := rfl) ?_
      refine xr_iinc (pc := 40) (i := 3) (L9 := [xR 53, xI x1, xI (x2 + 1), xI (x3 + 1)]) (hI := d_M_marks_40) (hl := rfl) (hn := Nat.le_of_ble_eq_true rfl) (hr := ⟨by clear hyp; omega, by clear hyp; omega⟩) (hL9 := rfl) ?_
      refine xr_goto (pc := 43) (tgt := 8) (hI := d_M_marks_43) (ht := by decide) ?_
      exact hyp
abbrev m_M_whereIs : XM := (⟨"BeaconIndexModel", "whereIs", "(I)I"⟩, prog_14_method_27_code, 3, (some .int), [])
theorem d_M_whereIs_0 : decode prog_14_method_27_code 0 = .ok (.iconst 0, 1) := by decide +kernel
theorem d_M_whereIs_1 : decode prog_14_method_27_code 1 = .ok (.istore_n 2, 1) := by decide +kernel
theorem v_M_whereIs_0 {G : XG} {d : Nat} {h : XH} {Q : XV → XH → Prop} {X : Nat → XH → Prop} {x1 : Int} (F : xFix h) (hyp : (xwp G m_M_whereIs (d + 1) 2 [xR 53, xI x1, xI 0] [] h Q X)) : xwp G m_M_whereIs (d + 1) 0 [xR 53, xI x1, xZ] [] h Q X := by
  have hnx9 : (93 : Int) ≤ xnx h := F.2.2
  refine xr_okL (fun hl9 => ?_)
  have r_x1 : -2147483648 ≤ x1 ∧ x1 ≤ 2147483647 := hl9 (xI x1) (.tail _ (.head _)) (Nat.le_of_ble_eq_true rfl)
  refine xr_iconst (pc := 0) (hI := d_M_whereIs_0) (hr := by decide) ?_
  refine xr_istore_n (pc := 1) (i := 2) (L9 := [xR 53, xI x1, xI 0]) (hI := d_M_whereIs_1) (hi := rfl) (hn := Nat.le_of_ble_eq_true rfl) (hL9 := rfl) ?_
  exact hyp
theorem d_M_whereIs_2 : decode prog_14_method_27_code 2 = .ok (.iload_n 2, 1) := by decide +kernel
theorem d_M_whereIs_3 : decode prog_14_method_27_code 3 = .ok (.aload_n 0, 1) := by decide +kernel
theorem d_M_whereIs_4 : decode prog_14_method_27_code 4 = .ok (.getfield 185, 3) := by decide +kernel
theorem w_1591 : Cond.fieldLink "BeaconIndexModel" 185 "BeaconIndexModel" "texts" "I" ∈ lw_tbl := List.mem_append_right _ (List.mem_of_getElem? (i := 1591) (by decide +kernel))
theorem d_M_whereIs_7 : decode prog_14_method_27_code 7 = .ok (.if_icmp .ge 40, 3) := by decide +kernel
theorem d_M_whereIs_47 : decode prog_14_method_27_code 47 = .ok (.iconst (-1), 1) := by decide +kernel
theorem d_M_whereIs_48 : decode prog_14_method_27_code 48 = .ok (.ireturn, 1) := by decide +kernel
theorem d_M_whereIs_10 : decode prog_14_method_27_code 10 = .ok (.aload_n 0, 1) := by decide +kernel
theorem d_M_whereIs_11 : decode prog_14_method_27_code 11 = .ok (.getfield 19, 3) := by decide +kernel
theorem w_1595 : Cond.fieldLink "BeaconIndexModel" 19 "BeaconIndexModel" "key" "[I" ∈ lw_tbl := List.mem_append_right _ (List.mem_of_getElem? (i := 1595) (by decide +kernel))
theorem d_M_whereIs_14 : decode prog_14_method_27_code 14 = .ok (.aload_n 0, 1) := by decide +kernel
theorem d_M_whereIs_15 : decode prog_14_method_27_code 15 = .ok (.getfield 13, 3) := by decide +kernel
theorem d_M_whereIs_18 : decode prog_14_method_27_code 18 = .ok (.iload_n 2, 1) := by decide +kernel
theorem d_M_whereIs_19 : decode prog_14_method_27_code 19 = .ok (.iaload, 1) := by decide +kernel
theorem d_M_whereIs_20 : decode prog_14_method_27_code 20 = .ok (.iaload, 1) := by decide +kernel
theorem d_M_whereIs_21 : decode prog_14_method_27_code 21 = .ok (.iload_n 1, 1) := by decide +kernel
theorem d_M_whereIs_22 : decode prog_14_method_27_code 22 = .ok (.if_icmp .ne 19, 3) := by decide +kernel
theorem d_M_whereIs_41 : decode prog_14_method_27_code 41 = .ok (.iinc 2 1, 3) := by decide +kernel
theorem d_M_whereIs_44 : decode prog_14_method_27_code 44 = .ok (.goto (-42), 3) := by decide +kernel
theorem d_M_whereIs_25 : decode prog_14_method_27_code 25 = .ok (.aload_n 0, 1) := by decide +kernel
theorem d_M_whereIs_26 : decode prog_14_method_27_code 26 = .ok (.getfield 28, 3) := by decide +kernel
theorem d_M_whereIs_29 : decode prog_14_method_27_code 29 = .ok (.aload_n 0, 1) := by decide +kernel
theorem d_M_whereIs_30 : decode prog_14_method_27_code 30 = .ok (.getfield 13, 3) := by decide +kernel
theorem d_M_whereIs_33 : decode prog_14_method_27_code 33 = .ok (.iload_n 2, 1) := by decide +kernel
theorem d_M_whereIs_34 : decode prog_14_method_27_code 34 = .ok (.iaload, 1) := by decide +kernel
theorem d_M_whereIs_35 : decode prog_14_method_27_code 35 = .ok (.baload, 1) := by decide +kernel
theorem d_M_whereIs_36 : decode prog_14_method_27_code 36 = .ok (.ifCond .ne 5, 3) := by decide +kernel
theorem d_M_whereIs_39 : decode prog_14_method_27_code 39 = .ok (.iload_n 2, 1) := by decide +kernel
theorem d_M_whereIs_40 : decode prog_14_method_27_code 40 = .ok (.ireturn, 1) := by decide +kernel
theorem v_M_whereIs_2 {G : XG} {d : Nat} {h : XH} {Q : XV → XH → Prop} {X : Nat → XH → Prop} {x1 x2 : Int} (F : xFix h) (hyp : (((xpl h 53 4) ≤ x2 → (Q (xI (-1)) h)) ∧ (¬ (xpl h 53 4) ≤ x2 → 0 ≤ x2 ∧ x2 < 60 ∧ 0 ≤ (xpl h 55 x2) ∧ (xpl h 55 x2) < 60 ∧ (((xpl h 57 (xpl h 55 x2)) = x1 → (((xpl h 60 (xpl h 55 x2)) = 0 → (Q (xI x2) h)) ∧ (¬ (xpl h 60 (xpl h 55 x2)) = 0 → (xwp G m_M_whereIs (d + 1) 2 [xR 53, xI x1, xI (x2 + 1)] [] h Q X)))) ∧ (¬ (xpl h 57 (xpl h 55 x2)) = x1 → (xwp G m_M_whereIs (d + 1) 2 [xR 53, xI x1, xI (x2 + 1)] [] h Q X)))))) : xwp G m_M_whereIs (d + 1) 2 [xR 53, xI x1, xI x2] [] h Q X := by
  have hnx9 : (93 : Int) ≤ xnx h := F.2.2
  refine xr_okL (fun hl9 => ?_)
  have r_x1 : -2147483648 ≤ x1 ∧ x1 ≤ 2147483647 := hl9 (xI x1) (.tail _ (.head _)) (Nat.le_of_ble_eq_true rfl)
  have r_x2 : -2147483648 ≤ x2 ∧ x2 ≤ 2147483647 := hl9 (xI x2) (.tail _ (.tail _ (.head _))) (Nat.le_of_ble_eq_true rfl)
  refine xr_iload_n (pc := 2) (i := 2) (hI := d_M_whereIs_2) (hi := rfl) (hl := rfl) ?_
  refine xr_aload_n (pc := 3) (i := 0) (hI := d_M_whereIs_3) (hi := rfl) (hl := rfl) ?_
  refine xg_getf (pc := 4) (ci := 11) (k := 4) (N := 38) (v9 := 0) (v := (xpl h 53 4)) (T := xF11) (hI := d_M_whereIs_4) (hw := w_1591) rfl xi11 (Or.inl rfl) (Nat.le_of_ble_eq_true rfl) (Nat.le_of_ble_eq_true rfl) rfl (ft_53 F) rfl (fun f1_ => ?_)
  replace f1_ : -2147483648 ≤ (xpl h 53 4) ∧ (xpl h 53 4) ≤ 2147483647 := f1_
  refine xr_icmp_ge (pc := 7) (tgt := 47) (hI := d_M_whereIs_7) (ht := by decide) (fun q9 => ?_) (fun q9 => ?_)
  · replace hyp := hyp.1 q9
    have q2_ := q9
    clear q9
    refine xr_iconst (pc := 47) (hI := d_M_whereIs_47) (hr := by decide) ?_
    refine xr_ireturn (S := []) (pc := 48) (hI := d_M_whereIs_48) (hr := rfl) ?_
    exact hyp
  · replace hyp := hyp.2 q9
    have q2_ := q9
    clear q9
    refine xr_aload_n (pc := 10) (i := 0) (hI := d_M_whereIs_10) (hi := rfl) (hl := rfl) ?_
    refine xg_getf (pc := 11) (ci := 11) (k := 8) (N := 38) (v9 := 2) (v := 57) (T := xF11) (hI := d_M_whereIs_11) (hw := w_1595) rfl xi11 (Or.inl rfl) (Nat.le_of_ble_eq_true rfl) (Nat.le_of_ble_eq_true rfl) rfl (ft_53 F) (fp_53_8 F) (fun f3_ => ?_)
    clear f3_
    refine xr_aload_n (pc := 14) (i := 0) (hI := d_M_whereIs_14) (hi := rfl) (hl := rfl) ?_
    refine xg_getf (pc := 15) (ci := 11) (k := 3) (N := 38) (v9 := 2) (v := 55) (T := xF11) (hI := d_M_whereIs_15) (hw := w_1590) rfl xi11 (Or.inl rfl) (Nat.le_of_ble_eq_true rfl) (Nat.le_of_ble_eq_true rfl) rfl (ft_53 F) (fp_53_3 F) (fun f4_ => ?_)
    clear f4_
    refine xr_iload_n (pc := 18) (i := 2) (hI := d_M_whereIs_18) (hi := rfl) (hl := rfl) ?_
    obtain ⟨c5_, hyp⟩ := hyp
    obtain ⟨c6_, hyp⟩ := hyp
    refine xg_iaload (pc := 19) (v := (xpl h 55 x2)) (hI := d_M_whereIs_19) (ft_55 F) c5_ (xlt_of (fl_55 F) c6_) rfl (fun f7_ => ?_)
    replace f7_ : -2147483648 ≤ (xpl h 55 x2) ∧ (xpl h 55 x2) ≤ 2147483647 := f7_
    obtain ⟨c8_, hyp⟩ := hyp
    obtain ⟨c9_, hyp⟩ := hyp
    refine xg_iaload (pc := 20) (v := (xpl h 57 (xpl h 55 x2))) (hI := d_M_whereIs_20) (ft_57 F) c8_ (xlt_of (fl_57 F) c9_) rfl (fun f10_ => ?_)
    replace f10_ : -2147483648 ≤ (xpl h 57 (xpl h 55 x2)) ∧ (xpl h 57 (xpl h 55 x2)) ≤ 2147483647 := f10_
    refine xr_iload_n (pc := 21) (i := 1) (hI := d_M_whereIs_21) (hi := rfl) (hl := rfl) ?_
    refine xr_icmp_ne (pc := 22) (tgt := 41) (hI := d_M_whereIs_22) (ht := by decide) (fun q9 => ?_) (fun q9 => ?_)
    · replace hyp := hyp.2 q9
      have q11_ := q9
      clear q9
      refine xr_iinc (pc := 41) (i := 2) (L9 := [xR 53, xI x1, xI (x2 + 1)]) (hI := d_M_whereIs_41) (hl := rfl) (hn := Nat.le_of_ble_eq_true rfl) (hr := ⟨by clear hyp; omega, by clear hyp; omega⟩) (hL9 := rfl) ?_
      refine xr_goto (pc := 44) (tgt := 2) (hI := d_M_whereIs_44) (ht := by decide) ?_
      exact hyp
    · replace hyp := hyp.1 q9
      have q11_ := q9
      clear q9
      refine xr_aload_n (pc := 25) (i := 0) (hI := d_M_whereIs_25) (hi := rfl) (hl := rfl) ?_
      refine xg_getf (pc := 26) (ci := 11) (k := 11) (N := 38) (v9 := 2) (v := 60) (T := xF11) (hI := d_M_whereIs_26) (hw := w_1598) rfl xi11 (Or.inl rfl) (Nat.le_of_ble_eq_true rfl) (Nat.le_of_ble_eq_true rfl) rfl (ft_53 F) (fp_53_11 F) (fun f12_ => ?_)
      clear f12_
      refine xr_aload_n (pc := 29) (i := 0) (hI := d_M_whereIs_29) (hi := rfl) (hl := rfl) ?_
      refine xg_getf (pc := 30) (ci := 11) (k := 3) (N := 38) (v9 := 2) (v := 55) (T := xF11) (hI := d_M_whereIs_30) (hw := w_1590) rfl xi11 (Or.inl rfl) (Nat.le_of_ble_eq_true rfl) (Nat.le_of_ble_eq_true rfl) rfl (ft_53 F) (fp_53_3 F) (fun f13_ => ?_)
      clear f13_
      refine xr_iload_n (pc := 33) (i := 2) (hI := d_M_whereIs_33) (hi := rfl) (hl := rfl) ?_
      refine xg_iaload (pc := 34) (v := (xpl h 55 x2)) (hI := d_M_whereIs_34) (ft_55 F) (by clear hyp; omega) (xlt_of (fl_55 F) (by clear hyp; omega)) rfl (fun f14_ => ?_)
      replace f14_ : -2147483648 ≤ (xpl h 55 x2) ∧ (xpl h 55 x2) ≤ 2147483647 := f14_
      refine xg_baloadZ (pc := 35) (v := (xpl h 60 (xpl h 55 x2))) (hI := d_M_whereIs_35) (ft_60 F) (by clear hyp; omega) (xlt_of (fl_60 F) (by clear hyp; omega)) rfl (fun f15_ => ?_)
      replace f15_ : 0 ≤ (xpl h 60 (xpl h 55 x2)) ∧ (xpl h 60 (xpl h 55 x2)) ≤ 1 := f15_
      refine xr_if_ne (pc := 36) (tgt := 41) (hI := d_M_whereIs_36) (ht := by decide) (fun q9 => ?_) (fun q9 => ?_)
      · replace hyp := hyp.2 q9
        have q16_ := q9
        clear q9
        refine xr_iinc (pc := 41) (i := 2) (L9 := [xR 53, xI x1, xI (x2 + 1)]) (hI := d_M_whereIs_41) (hl := rfl) (hn := Nat.le_of_ble_eq_true rfl) (hr := ⟨by clear hyp; omega, by clear hyp; omega⟩) (hL9 := rfl) ?_
        refine xr_goto (pc := 44) (tgt := 2) (hI := d_M_whereIs_44) (ht := by decide) ?_
        exact hyp
      · replace hyp := hyp.1 q9
        have q16_ := q9
        clear q9
        refine xr_iload_n (pc := 39) (i := 2) (hI := d_M_whereIs_39) (hi := rfl) (hl := rfl) ?_
        refine xr_ireturn (S := []) (pc := 40) (hI := d_M_whereIs_40) (hr := rfl) ?_
        exact hyp
abbrev m_M_whereInSegments : XM := (⟨"BeaconIndexModel", "whereInSegments", "(I)I"⟩, prog_14_method_28_code, 3, (some .int), [])
theorem d_M_whereInSegments_0 : decode prog_14_method_28_code 0 = .ok (.aload_n 0, 1) := by decide +kernel
theorem d_M_whereInSegments_1 : decode prog_14_method_28_code 1 = .ok (.iload_n 1, 1) := by decide +kernel
theorem d_M_whereInSegments_2 : decode prog_14_method_28_code 2 = .ok (.invokevirtual 188, 3) := by decide +kernel
theorem k_M_whereIs : xCal m_M_whereIs 1 := ⟨List.mem_append_right _ (List.mem_of_getElem? (i := 1731) (by decide +kernel)), w_15, Nat.le_of_ble_eq_true rfl, ⟨by decide +kernel, by decide +kernel⟩, by decide +kernel, by decide +kernel, rfl⟩
theorem w_1728 : Cond.methodLink "BeaconIndexModel" 188 ⟨"BeaconIndexModel", "whereIs", "(I)I"⟩ ∈ lw_tbl := List.mem_append_right _ (List.mem_of_getElem? (i := 1728) (by decide +kernel))
theorem w_1730 : Cond.instanceMethod ⟨"BeaconIndexModel", "whereIs", "(I)I"⟩ ∈ lw_tbl := List.mem_append_right _ (List.mem_of_getElem? (i := 1730) (by decide +kernel))
theorem sel_M_whereIs : Cond.selects "BeaconIndexModel" ⟨"BeaconIndexModel", "whereIs", "(I)I"⟩ ⟨"BeaconIndexModel", "whereIs", "(I)I"⟩ ∈ lw_tbl := List.mem_append_left _ (by decide +kernel)
theorem v_M_whereInSegments_0 {G : XG} {d : Nat} {h : XH} {Q : XV → XH → Prop} {X : Nat → XH → Prop} {x1 : Int} (F : xFix h) (hyp : (xwp G m_M_whereIs (d + 2) 0 [xR 53, xI x1, xZ] [] h (fun v9 h9 => xwp G m_M_whereInSegments (d + 3) 5 [xR 53, xZ, xZ] (xpush v9 []) h9 Q X) X)) : xwp G m_M_whereInSegments (d + 3) 0 [xR 53, xI x1, xZ] [] h Q X := by
  have hnx9 : (93 : Int) ≤ xnx h := F.2.2
  refine xr_okL (fun hl9 => ?_)
  have r_x1 : -2147483648 ≤ x1 ∧ x1 ≤ 2147483647 := hl9 (xI x1) (.tail _ (.head _)) (Nat.le_of_ble_eq_true rfl)
  refine xr_aload_n (pc := 0) (i := 0) (hI := d_M_whereInSegments_0) (hi := rfl) (hl := rfl) ?_
  refine xr_iload_n (pc := 1) (i := 1) (hI := d_M_whereInSegments_1) (hi := rfl) (hl := rfl) ?_
  exact xq_callV (pc := 2) (index := 188) (K := m_M_whereIs) (As := [xI x1]) (S := []) (L0 := [xR 53, xI x1, xZ]) (hI := d_M_whereInSegments_2) (hK := k_M_whereIs) (hlk := w_1728) (hnoM := rfl) (hS8 := Nat.le_of_ble_eq_true rfl) (ci := 11) (N := 38) (C := "BeaconIndexModel") (T := xF11) (hc := rfl) (hci := Nat.le_of_ble_eq_true rfl) (htb := (ft_53 F)) (hinst := w_1730) (hsel := sel_M_whereIs) (hlen := Nat.le_of_ble_eq_true rfl) (hst := rfl) (hL0 := rfl)  (xwp_mono hyp (fun v9 h9 q9 => xr_drop (L9 := [xR 53, xZ, xZ]) (xdrs (xdrz (xdrs xdr0))) q9) (fun _ _ z9 => z9))
theorem d_M_whereInSegments_5 : decode prog_14_method_28_code 5 = .ok (.istore_n 2, 1) := by decide +kernel
theorem d_M_whereInSegments_6 : decode prog_14_method_28_code 6 = .ok (.iload_n 2, 1) := by decide +kernel
theorem d_M_whereInSegments_7 : decode prog_14_method_28_code 7 = .ok (.aload_n 0, 1) := by decide +kernel
theorem d_M_whereInSegments_8 : decode prog_14_method_28_code 8 = .ok (.invokevirtual 191, 3) := by decide +kernel
theorem k_M_inSegments : xCal m_M_inSegments 0 := ⟨List.mem_append_right _ (List.mem_of_getElem? (i := 1735) (by decide +kernel)), w_15, Nat.le_of_ble_eq_true rfl, ⟨by decide +kernel, by decide +kernel⟩, by decide +kernel, by decide +kernel, rfl⟩
theorem w_1732 : Cond.methodLink "BeaconIndexModel" 191 ⟨"BeaconIndexModel", "inSegments", "()I"⟩ ∈ lw_tbl := List.mem_append_right _ (List.mem_of_getElem? (i := 1732) (by decide +kernel))
theorem w_1734 : Cond.instanceMethod ⟨"BeaconIndexModel", "inSegments", "()I"⟩ ∈ lw_tbl := List.mem_append_right _ (List.mem_of_getElem? (i := 1734) (by decide +kernel))
theorem sel_M_inSegments : Cond.selects "BeaconIndexModel" ⟨"BeaconIndexModel", "inSegments", "()I"⟩ ⟨"BeaconIndexModel", "inSegments", "()I"⟩ ∈ lw_tbl := List.mem_append_left _ (by decide +kernel)
theorem v_M_whereInSegments_5 {G : XG} {d : Nat} {h : XH} {Q : XV → XH → Prop} {X : Nat → XH → Prop} {s0 : Int} (F : xFix h) (hyp : (xwp G m_M_inSegments (d + 2) 0 [xR 53] [] h (fun v9 h9 => xwp G m_M_whereInSegments (d + 3) 11 [xZ, xZ, xI s0] (xpush v9 [xI s0]) h9 Q X) X)) : xwp G m_M_whereInSegments (d + 3) 5 [xR 53, xZ, xZ] [xI s0] h Q X := by
  have hnx9 : (93 : Int) ≤ xnx h := F.2.2
  refine xr_okS (fun hs9 => ?_)
  have r_s0 : -2147483648 ≤ s0 ∧ s0 ≤ 2147483647 := hs9 (xI s0) (.head _)
  refine xr_istore_n (pc := 5) (i := 2) (L9 := [xR 53, xZ, xI s0]) (hI := d_M_whereInSegments_5) (hi := rfl) (hn := Nat.le_of_ble_eq_true rfl) (hL9 := rfl) ?_
  refine xr_iload_n (pc := 6) (i := 2) (hI := d_M_whereInSegments_6) (hi := rfl) (hl := rfl) ?_
  refine xr_aload_n (pc := 7) (i := 0) (hI := d_M_whereInSegments_7) (hi := rfl) (hl := rfl) ?_
  exact xq_callV (pc := 8) (index := 191) (K := m_M_inSegments) (As := []) (S := [xI s0]) (L0 := [xR 53]) (hI := d_M_whereInSegments_8) (hK := k_M_inSegments) (hlk := w_1732) (hnoM := rfl) (hS8 := Nat.le_of_ble_eq_true rfl) (ci := 11) (N := 38) (C := "BeaconIndexModel") (T := xF11) (hc := rfl) (hci := Nat.le_of_ble_eq_true rfl) (htb := (ft_53 F)) (hinst := w_1734) (hsel := sel_M_inSegments) (hlen := Nat.le_of_ble_eq_true rfl) (hst := rfl) (hL0 := rfl)  (xwp_mono hyp (fun v9 h9 q9 => xr_drop (L9 := [xZ, xZ, xI s0]) (xdrz (xdrs (xdrs xdr0))) q9) (fun _ _ z9 => z9))
theorem d_M_whereInSegments_11 : decode prog_14_method_28_code 11 = .ok (.if_icmp .ge 7, 3) := by decide +kernel
theorem d_M_whereInSegments_18 : decode prog_14_method_28_code 18 = .ok (.iconst (-1), 1) := by decide +kernel
theorem d_M_whereInSegments_19 : decode prog_14_method_28_code 19 = .ok (.ireturn, 1) := by decide +kernel
theorem d_M_whereInSegments_14 : decode prog_14_method_28_code 14 = .ok (.iload_n 2, 1) := by decide +kernel
theorem d_M_whereInSegments_15 : decode prog_14_method_28_code 15 = .ok (.goto 4, 3) := by decide +kernel
theorem v_M_whereInSegments_11 {G : XG} {d : Nat} {h : XH} {Q : XV → XH → Prop} {X : Nat → XH → Prop} {x2 s0 s1 : Int} (F : xFix h) (hyp : ((s0 ≤ s1 → (Q (xI (-1)) h)) ∧ (¬ s0 ≤ s1 → (Q (xI x2) h)))) : xwp G m_M_whereInSegments (d + 3) 11 [xZ, xZ, xI x2] [xI s0, xI s1] h Q X := by
  have hnx9 : (93 : Int) ≤ xnx h := F.2.2
  refine xr_okL (fun hl9 => ?_)
  have r_x2 : -2147483648 ≤ x2 ∧ x2 ≤ 2147483647 := hl9 (xI x2) (.tail _ (.tail _ (.head _))) (Nat.le_of_ble_eq_true rfl)
  refine xr_okS (fun hs9 => ?_)
  have r_s0 : -2147483648 ≤ s0 ∧ s0 ≤ 2147483647 := hs9 (xI s0) (.head _)
  have r_s1 : -2147483648 ≤ s1 ∧ s1 ≤ 2147483647 := hs9 (xI s1) (.tail _ (.head _))
  refine xr_icmp_ge (pc := 11) (tgt := 18) (hI := d_M_whereInSegments_11) (ht := by decide) (fun q9 => ?_) (fun q9 => ?_)
  · replace hyp := hyp.1 q9
    have q1_ := q9
    clear q9
    refine xr_iconst (pc := 18) (hI := d_M_whereInSegments_18) (hr := by decide) ?_
    refine xr_ireturn (S := []) (pc := 19) (hI := d_M_whereInSegments_19) (hr := rfl) ?_
    exact hyp
  · replace hyp := hyp.2 q9
    have q1_ := q9
    clear q9
    refine xr_iload_n (pc := 14) (i := 2) (hI := d_M_whereInSegments_14) (hi := rfl) (hl := rfl) ?_
    refine xr_goto (pc := 15) (tgt := 19) (hI := d_M_whereInSegments_15) (ht := by decide) ?_
    refine xr_ireturn (S := []) (pc := 19) (hI := d_M_whereInSegments_19) (hr := rfl) ?_
    exact hyp
abbrev m_M_drop : XM := (⟨"BeaconIndexModel", "drop", "(I)V"⟩, prog_14_method_29_code, 3, none, [])
theorem d_M_drop_0 : decode prog_14_method_29_code 0 = .ok (.aload_n 0, 1) := by decide +kernel
theorem d_M_drop_1 : decode prog_14_method_29_code 1 = .ok (.getfield 13, 3) := by decide +kernel
theorem d_M_drop_4 : decode prog_14_method_29_code 4 = .ok (.iload_n 1, 1) := by decide +kernel
theorem d_M_drop_5 : decode prog_14_method_29_code 5 = .ok (.iaload, 1) := by decide +kernel
theorem d_M_drop_6 : decode prog_14_method_29_code 6 = .ok (.istore_n 2, 1) := by decide +kernel
theorem d_M_drop_7 : decode prog_14_method_29_code 7 = .ok (.aload_n 0, 1) := by decide +kernel
theorem d_M_drop_8 : decode prog_14_method_29_code 8 = .ok (.dup, 1) := by decide +kernel
theorem d_M_drop_9 : decode prog_14_method_29_code 9 = .ok (.getfield 185, 3) := by decide +kernel
theorem d_M_drop_12 : decode prog_14_method_29_code 12 = .ok (.iconst 1, 1) := by decide +kernel
theorem d_M_drop_13 : decode prog_14_method_29_code 13 = .ok (.isub, 1) := by decide +kernel
theorem d_M_drop_14 : decode prog_14_method_29_code 14 = .ok (.putfield 185, 3) := by decide +kernel
theorem xfk_53_4 : xfree 53 4 = true := by decide +kernel
theorem d_M_drop_17 : decode prog_14_method_29_code 17 = .ok (.aload_n 0, 1) := by decide +kernel
theorem d_M_drop_18 : decode prog_14_method_29_code 18 = .ok (.getfield 13, 3) := by decide +kernel
theorem d_M_drop_21 : decode prog_14_method_29_code 21 = .ok (.iload_n 1, 1) := by decide +kernel
theorem d_M_drop_22 : decode prog_14_method_29_code 22 = .ok (.iconst 1, 1) := by decide +kernel
theorem d_M_drop_23 : decode prog_14_method_29_code 23 = .ok (.iadd, 1) := by decide +kernel
theorem d_M_drop_24 : decode prog_14_method_29_code 24 = .ok (.aload_n 0, 1) := by decide +kernel
theorem d_M_drop_25 : decode prog_14_method_29_code 25 = .ok (.getfield 13, 3) := by decide +kernel
theorem d_M_drop_28 : decode prog_14_method_29_code 28 = .ok (.iload_n 1, 1) := by decide +kernel
theorem d_M_drop_29 : decode prog_14_method_29_code 29 = .ok (.aload_n 0, 1) := by decide +kernel
theorem d_M_drop_30 : decode prog_14_method_29_code 30 = .ok (.getfield 185, 3) := by decide +kernel
theorem d_M_drop_33 : decode prog_14_method_29_code 33 = .ok (.iload_n 1, 1) := by decide +kernel
theorem d_M_drop_34 : decode prog_14_method_29_code 34 = .ok (.isub, 1) := by decide +kernel
theorem d_M_drop_35 : decode prog_14_method_29_code 35 = .ok (.invokestatic 194, 3) := by decide +kernel
theorem w_1748 : Cond.methodLink "BeaconIndexModel" 194 ⟨"java/lang/System", "arraycopy", "(Ljava/lang/Object;ILjava/lang/Object;II)V"⟩ ∈ lw_tbl := List.mem_append_right _ (List.mem_of_getElem? (i := 1748) (by decide +kernel))
theorem xfa_55 : xfreeA 55 = true := by decide +kernel
theorem d_M_drop_38 : decode prog_14_method_29_code 38 = .ok (.aload_n 0, 1) := by decide +kernel
theorem d_M_drop_39 : decode prog_14_method_29_code 39 = .ok (.getfield 13, 3) := by decide +kernel
theorem d_M_drop_42 : decode prog_14_method_29_code 42 = .ok (.aload_n 0, 1) := by decide +kernel
theorem d_M_drop_43 : decode prog_14_method_29_code 43 = .ok (.getfield 185, 3) := by decide +kernel
theorem d_M_drop_46 : decode prog_14_method_29_code 46 = .ok (.iload_n 2, 1) := by decide +kernel
theorem d_M_drop_47 : decode prog_14_method_29_code 47 = .ok (.iastore, 1) := by decide +kernel
theorem d_M_drop_48 : decode prog_14_method_29_code 48 = .ok (.return_, 1) := by decide +kernel
theorem v_M_drop_0 {G : XG} {d : Nat} {h : XH} {Q : XV → XH → Prop} {X : Nat → XH → Prop} {x1 : Int} (F : xFix h) (hyp : 0 ≤ x1 ∧ x1 < 60 ∧ xiR ((xpl h 53 4) - 1) ∧ xiR (((xpl h 53 4) - 1) - x1) ∧ 0 ≤ (((xpl h 53 4) - 1) - x1) ∧ ((x1 + 1) + (((xpl h 53 4) - 1) - x1)) ≤ 60 ∧ (xFix (xst (xup (xst h 53 4 ((xpl h 53 4) - 1)) 55 (xcpf (xpl (xst h 53 4 ((xpl h 53 4) - 1)) 55) (xpl (xst h 53 4 ((xpl h 53 4) - 1)) 55) (x1 + 1) x1 (((xpl h 53 4) - 1) - x1))) 55 ((xpl h 53 4) - 1) (xpl h 55 x1)) → Q xN (xst (xup (xst h 53 4 ((xpl h 53 4) - 1)) 55 (xcpf (xpl (xst h 53 4 ((xpl h 53 4) - 1)) 55) (xpl (xst h 53 4 ((xpl h 53 4) - 1)) 55) (x1 + 1) x1 (((xpl h 53 4) - 1) - x1))) 55 ((xpl h 53 4) - 1) (xpl h 55 x1)))) : xwp G m_M_drop (d + 2) 0 [xR 53, xI x1, xZ] [] h Q X := by
  have hnx9 : (93 : Int) ≤ xnx h := F.2.2
  refine xr_okL (fun hl9 => ?_)
  have r_x1 : -2147483648 ≤ x1 ∧ x1 ≤ 2147483647 := hl9 (xI x1) (.tail _ (.head _)) (Nat.le_of_ble_eq_true rfl)
  refine xr_aload_n (pc := 0) (i := 0) (hI := d_M_drop_0) (hi := rfl) (hl := rfl) ?_
  refine xg_getf (pc := 1) (ci := 11) (k := 3) (N := 38) (v9 := 2) (v := 55) (T := xF11) (hI := d_M_drop_1) (hw := w_1590) rfl xi11 (Or.inl rfl) (Nat.le_of_ble_eq_true rfl) (Nat.le_of_ble_eq_true rfl) rfl (ft_53 F) (fp_53_3 F) (fun f1_ => ?_)
  clear f1_
  refine xr_iload_n (pc := 4) (i := 1) (hI := d_M_drop_4) (hi := rfl) (hl := rfl) ?_
  obtain ⟨c2_, hyp⟩ := hyp
  obtain ⟨c3_, hyp⟩ := hyp
  refine xg_iaload (pc := 5) (v := (xpl h 55 x1)) (hI := d_M_drop_5) (ft_55 F) c2_ (xlt_of (fl_55 F) c3_) rfl (fun f4_ => ?_)
  replace f4_ : -2147483648 ≤ (xpl h 55 x1) ∧ (xpl h 55 x1) ≤ 2147483647 := f4_
  refine xr_istore_n (pc := 6) (i := 2) (L9 := [xR 53, xI x1, xI (xpl h 55 x1)]) (hI := d_M_drop_6) (hi := rfl) (hn := Nat.le_of_ble_eq_true rfl) (hL9 := rfl) ?_
  refine xr_aload_n (pc := 7) (i := 0) (hI := d_M_drop_7) (hi := rfl) (hl := rfl) ?_
  refine xr_dup (pc := 8) (hI := d_M_drop_8) (hv := rfl) ?_
  refine xg_getf (pc := 9) (ci := 11) (k := 4) (N := 38) (v9 := 0) (v := (xpl h 53 4)) (T := xF11) (hI := d_M_drop_9) (hw := w_1591) rfl xi11 (Or.inl rfl) (Nat.le_of_ble_eq_true rfl) (Nat.le_of_ble_eq_true rfl) rfl (ft_53 F) rfl (fun f5_ => ?_)
  replace f5_ : -2147483648 ≤ (xpl h 53 4) ∧ (xpl h 53 4) ≤ 2147483647 := f5_
  refine xr_iconst (pc := 12) (hI := d_M_drop_12) (hr := by decide) ?_
  obtain ⟨c9, hyp⟩ := hyp
  refine xr_isub (pc := 13) (hI := d_M_drop_13) (hr := c9) ?_
  refine xr_putf (pc := 14) (ci := 11) (k := 4) (N := 38) (v9 := 0) (T := xF11) (tF := xT11) (hI := d_M_drop_14) (hw := w_1591) rfl xi11 xt11 xn11 (Or.inl rfl) (Nat.le_of_ble_eq_true rfl) (Nat.le_of_ble_eq_true rfl) rfl xfit_i rfl (ft_53 F) (by decide) (fun z => z) ?_
  have F6_ : xFix (xst h 53 4 ((xpl h 53 4) - 1)) := F.stL xfk_53_4
  refine xr_aload_n (pc := 17) (i := 0) (hI := d_M_drop_17) (hi := rfl) (hl := rfl) ?_
  refine xg_getf (pc := 18) (ci := 11) (k := 3) (N := 38) (v9 := 2) (v := 55) (T := xF11) (hI := d_M_drop_18) (hw := w_1590) rfl xi11 (Or.inl rfl) (Nat.le_of_ble_eq_true rfl) (Nat.le_of_ble_eq_true rfl) rfl (ft_53 F6_) (fp_53_3 F6_) (fun f7_ => ?_)
  clear f7_
  refine xr_iload_n (pc := 21) (i := 1) (hI := d_M_drop_21) (hi := rfl) (hl := rfl) ?_
  refine xr_iconst (pc := 22) (hI := d_M_drop_22) (hr := by decide) ?_
  refine xr_iadd (pc := 23) (hI := d_M_drop_23) (hr := ⟨by clear hyp; omega, by clear hyp; omega⟩) ?_
  refine xr_aload_n (pc := 24) (i := 0) (hI := d_M_drop_24) (hi := rfl) (hl := rfl) ?_
  refine xg_getf (pc := 25) (ci := 11) (k := 3) (N := 38) (v9 := 2) (v := 55) (T := xF11) (hI := d_M_drop_25) (hw := w_1590) rfl xi11 (Or.inl rfl) (Nat.le_of_ble_eq_true rfl) (Nat.le_of_ble_eq_true rfl) rfl (ft_53 F6_) (fp_53_3 F6_) (fun f8_ => ?_)
  clear f8_
  refine xr_iload_n (pc := 28) (i := 1) (hI := d_M_drop_28) (hi := rfl) (hl := rfl) ?_
  refine xr_aload_n (pc := 29) (i := 0) (hI := d_M_drop_29) (hi := rfl) (hl := rfl) ?_
  refine xg_getf (pc := 30) (ci := 11) (k := 4) (N := 38) (v9 := 0) (v := ((xpl h 53 4) - 1)) (T := xF11) (hI := d_M_drop_30) (hw := w_1591) rfl xi11 (Or.inl rfl) (Nat.le_of_ble_eq_true rfl) (Nat.le_of_ble_eq_true rfl) rfl (ft_53 F6_) (xpl_hit _ _ _ _) (fun f9_ => ?_)
  replace f9_ : -2147483648 ≤ ((xpl h 53 4) - 1) ∧ ((xpl h 53 4) - 1) ≤ 2147483647 := f9_
  refine xr_iload_n (pc := 33) (i := 1) (hI := d_M_drop_33) (hi := rfl) (hl := rfl) ?_
  obtain ⟨c9, hyp⟩ := hyp
  refine xr_isub (pc := 34) (hI := d_M_drop_34) (hr := c9) ?_
  obtain ⟨c10_, hyp⟩ := hyp
  obtain ⟨c11_, hyp⟩ := hyp
  refine xr_arraycopy (pc := 35) (t := 100) (index := 194) (hI := d_M_drop_35) w_1748 w_546 w_545 w_30 rfl (ft_55 F6_) (ft_55 F6_) (by decide) (by clear hyp; omega) (by clear hyp; omega) c10_ (xle_of (fl_55 F6_) c11_) (xle_of (fl_55 F6_) (by clear hyp; omega)) (fun z9 => by cases z9) (Nat.le_add_left_of_le (by decide)) (Nat.le_of_ble_eq_true rfl) ?_
  have F12_ : xFix (xup (xst h 53 4 ((xpl h 53 4) - 1)) 55 (xcpf (xpl (xst h 53 4 ((xpl h 53 4) - 1)) 55) (xpl (xst h 53 4 ((xpl h 53 4) - 1)) 55) (x1 + 1) x1 (((xpl h 53 4) - 1) - x1))) := F6_.upA xfa_55
  refine xr_aload_n (pc := 38) (i := 0) (hI := d_M_drop_38) (hi := rfl) (hl := rfl) ?_
  refine xg_getf (pc := 39) (ci := 11) (k := 3) (N := 38) (v9 := 2) (v := 55) (T := xF11) (hI := d_M_drop_39) (hw := w_1590) rfl xi11 (Or.inl rfl) (Nat.le_of_ble_eq_true rfl) (Nat.le_of_ble_eq_true rfl) rfl (ft_53 F12_) (fp_53_3 F12_) (fun f13_ => ?_)
  clear f13_
  refine xr_aload_n (pc := 42) (i := 0) (hI := d_M_drop_42) (hi := rfl) (hl := rfl) ?_
  refine xg_getf (pc := 43) (ci := 11) (k := 4) (N := 38) (v9 := 0) (v := ((xpl h 53 4) - 1)) (T := xF11) (hI := d_M_drop_43) (hw := w_1591) rfl xi11 (Or.inl rfl) (Nat.le_of_ble_eq_true rfl) (Nat.le_of_ble_eq_true rfl) rfl (ft_53 F12_) (Eq.trans (xpl_up2 (by decide)) (xpl_hit _ _ _ _)) (fun f14_ => ?_)
  replace f14_ : -2147483648 ≤ ((xpl h 53 4) - 1) ∧ ((xpl h 53 4) - 1) ≤ 2147483647 := f14_
  refine xr_iload_n (pc := 46) (i := 2) (hI := d_M_drop_46) (hi := rfl) (hl := rfl) ?_
  refine xr_iastore (pc := 47) (hI := d_M_drop_47) (ft_55 F12_) (by decide) (by clear hyp; omega) (xlt_of (fl_55 F12_) (by clear hyp; omega)) ?_
  have F15_ : xFix (xst (xup (xst h 53 4 ((xpl h 53 4) - 1)) 55 (xcpf (xpl (xst h 53 4 ((xpl h 53 4) - 1)) 55) (xpl (xst h 53 4 ((xpl h 53 4) - 1)) 55) (x1 + 1) x1 (((xpl h 53 4) - 1) - x1))) 55 ((xpl h 53 4) - 1) (xpl h 55 x1)) := F12_.stA xfa_55
  refine xr_return (S := []) (pc := 48) (hI := d_M_drop_48) (hr := rfl) ?_
  exact hyp F15_
abbrev m_M_out : XM := (⟨"BeaconIndexModel", "out", "(I)Z"⟩, prog_14_method_30_code, 3, (some .boolean), [])
theorem d_M_out_0 : decode prog_14_method_30_code 0 = .ok (.aload_n 0, 1) := by decide +kernel
theorem d_M_out_1 : decode prog_14_method_30_code 1 = .ok (.iconst 0, 1) := by decide +kernel
theorem d_M_out_2 : decode prog_14_method_30_code 2 = .ok (.putfield 200, 3) := by decide +kernel
theorem w_1613 : Cond.fieldLink "BeaconIndexModel" 200 "BeaconIndexModel" "isReckoned" "Z" ∈ lw_tbl := List.mem_append_right _ (List.mem_of_getElem? (i := 1613) (by decide +kernel))
theorem xfk_53_26 : xfree 53 26 = true := by decide +kernel
theorem d_M_out_5 : decode prog_14_method_30_code 5 = .ok (.iload_n 1, 1) := by decide +kernel
theorem d_M_out_6 : decode prog_14_method_30_code 6 = .ok (.aload_n 0, 1) := by decide +kernel
theorem d_M_out_7 : decode prog_14_method_30_code 7 = .ok (.invokevirtual 191, 3) := by decide +kernel
theorem v_M_out_0 {G : XG} {d : Nat} {h : XH} {Q : XV → XH → Prop} {X : Nat → XH → Prop} {x1 : Int} (F : xFix h) (hyp : (xFix (xst h 53 26 0) → xwp G m_M_inSegments (d + 2) 0 [xR 53] [] (xst h 53 26 0) (fun v9 h9 => xwp G m_M_out (d + 3) 10 [xR 53, xI x1, xZ] (xpush v9 [xI x1]) h9 Q X) X)) : xwp G m_M_out (d + 3) 0 [xR 53, xI x1, xZ] [] h Q X := by
  have hnx9 : (93 : Int) ≤ xnx h := F.2.2
  refine xr_okL (fun hl9 => ?_)
  have r_x1 : -2147483648 ≤ x1 ∧ x1 ≤ 2147483647 := hl9 (xI x1) (.tail _ (.head _)) (Nat.le_of_ble_eq_true rfl)
  refine xr_aload_n (pc := 0) (i := 0) (hI := d_M_out_0) (hi := rfl) (hl := rfl) ?_
  refine xr_iconst (pc := 1) (hI := d_M_out_1) (hr := by decide) ?_
  refine xr_putf (pc := 2) (ci := 11) (k := 26) (N := 38) (v9 := 0) (T := xF11) (tF := xT11) (hI := d_M_out_2) (hw := w_1613) rfl xi11 xt11 xn11 (Or.inl rfl) (Nat.le_of_ble_eq_true rfl) (Nat.le_of_ble_eq_true rfl) rfl xfit_z rfl (ft_53 F) (by decide) (fun _ => (by decide : (0 : Int) ≤ 0 ∧ (0 : Int) ≤ 1)) ?_
  have F1_ : xFix (xst h 53 26 0) := F.stL xfk_53_26
  refine xr_iload_n (pc := 5) (i := 1) (hI := d_M_out_5) (hi := rfl) (hl := rfl) ?_
  refine xr_aload_n (pc := 6) (i := 0) (hI := d_M_out_6) (hi := rfl) (hl := rfl) ?_
  exact xq_callV (pc := 7) (index := 191) (K := m_M_inSegments) (As := []) (S := [xI x1]) (L0 := [xR 53]) (hI := d_M_out_7) (hK := k_M_inSegments) (hlk := w_1732) (hnoM := rfl) (hS8 := Nat.le_of_ble_eq_true rfl) (ci := 11) (N := 38) (C := "BeaconIndexModel") (T := xF11) (hc := rfl) (hci := Nat.le_of_ble_eq_true rfl) (htb := (ft_53 F1_)) (hinst := w_1734) (hsel := sel_M_inSegments) (hlen := Nat.le_of_ble_eq_true rfl) (hst := rfl) (hL0 := rfl)  (hyp F1_)
theorem d_M_out_10 : decode prog_14_method_30_code 10 = .ok (.if_icmp .lt 7, 3) := by decide +kernel
theorem d_M_out_17 : decode prog_14_method_30_code 17 = .ok (.iconst 0, 1) := by decide +kernel
theorem d_M_out_13 : decode prog_14_method_30_code 13 = .ok (.iconst 1, 1) := by decide +kernel
theorem d_M_out_14 : decode prog_14_method_30_code 14 = .ok (.goto 4, 3) := by decide +kernel
theorem v_M_out_10 {G : XG} {d : Nat} {h : XH} {Q : XV → XH → Prop} {X : Nat → XH → Prop} {x1 s0 s1 : Int} (F : xFix h) (hyp : ((s1 < s0 → (xwp G m_M_out (d + 3) 18 [xR 53, xI x1, xZ] [xI 0] h Q X)) ∧ (¬ s1 < s0 → (xwp G m_M_out (d + 3) 18 [xR 53, xI x1, xZ] [xI 1] h Q X)))) : xwp G m_M_out (d + 3) 10 [xR 53, xI x1, xZ] [xI s0, xI s1] h Q X := by
  have hnx9 : (93 : Int) ≤ xnx h := F.2.2
  refine xr_okL (fun hl9 => ?_)
  have r_x1 : -2147483648 ≤ x1 ∧ x1 ≤ 2147483647 := hl9 (xI x1) (.tail _ (.head _)) (Nat.le_of_ble_eq_true rfl)
  refine xr_okS (fun hs9 => ?_)
  have r_s0 : -2147483648 ≤ s0 ∧ s0 ≤ 2147483647 := hs9 (xI s0) (.head _)
  have r_s1 : -2147483648 ≤ s1 ∧ s1 ≤ 2147483647 := hs9 (xI s1) (.tail _ (.head _))
  refine xr_icmp_lt (pc := 10) (tgt := 17) (hI := d_M_out_10) (ht := by decide) (fun q9 => ?_) (fun q9 => ?_)
  · replace hyp := hyp.1 q9
    have q1_ := q9
    clear q9
    refine xr_iconst (pc := 17) (hI := d_M_out_17) (hr := by decide) ?_
    exact hyp
  · replace hyp := hyp.2 q9
    have q1_ := q9
    clear q9
    refine xr_iconst (pc := 13) (hI := d_M_out_13) (hr := by decide) ?_
    refine xr_goto (pc := 14) (tgt := 18) (hI := d_M_out_14) (ht := by decide) ?_
    exact hyp
theorem d_M_out_18 : decode prog_14_method_30_code 18 = .ok (.istore_n 2, 1) := by decide +kernel
theorem d_M_out_19 : decode prog_14_method_30_code 19 = .ok (.iload_n 2, 1) := by decide +kernel
theorem d_M_out_20 : decode prog_14_method_30_code 20 = .ok (.ifCond .eq 11, 3) := by decide +kernel
theorem d_M_out_31 : decode prog_14_method_30_code 31 = .ok (.aload_n 0, 1) := by decide +kernel
theorem d_M_out_32 : decode prog_14_method_30_code 32 = .ok (.getfield 28, 3) := by decide +kernel
theorem d_M_out_35 : decode prog_14_method_30_code 35 = .ok (.aload_n 0, 1) := by decide +kernel
theorem d_M_out_36 : decode prog_14_method_30_code 36 = .ok (.getfield 13, 3) := by decide +kernel
theorem d_M_out_39 : decode prog_14_method_30_code 39 = .ok (.iload_n 1, 1) := by decide +kernel
theorem d_M_out_40 : decode prog_14_method_30_code 40 = .ok (.iaload, 1) := by decide +kernel
theorem d_M_out_41 : decode prog_14_method_30_code 41 = .ok (.iconst 1, 1) := by decide +kernel
theorem d_M_out_42 : decode prog_14_method_30_code 42 = .ok (.bastore, 1) := by decide +kernel
theorem xfa_60 : xfreeA 60 = true := by decide +kernel
theorem d_M_out_43 : decode prog_14_method_30_code 43 = .ok (.iload_n 2, 1) := by decide +kernel
theorem d_M_out_44 : decode prog_14_method_30_code 44 = .ok (.ireturn, 1) := by decide +kernel
theorem d_M_out_23 : decode prog_14_method_30_code 23 = .ok (.aload_n 0, 1) := by decide +kernel
theorem d_M_out_24 : decode prog_14_method_30_code 24 = .ok (.iload_n 1, 1) := by decide +kernel
theorem d_M_out_25 : decode prog_14_method_30_code 25 = .ok (.invokevirtual 204, 3) := by decide +kernel
theorem k_M_drop : xCal m_M_drop 1 := ⟨List.mem_append_right _ (List.mem_of_getElem? (i := 1747) (by decide +kernel)), w_15, Nat.le_of_ble_eq_true rfl, ⟨by decide +kernel, by decide +kernel⟩, by decide +kernel, by decide +kernel, rfl⟩
theorem w_1744 : Cond.methodLink "BeaconIndexModel" 204 ⟨"BeaconIndexModel", "drop", "(I)V"⟩ ∈ lw_tbl := List.mem_append_right _ (List.mem_of_getElem? (i := 1744) (by decide +kernel))
theorem w_1746 : Cond.instanceMethod ⟨"BeaconIndexModel", "drop", "(I)V"⟩ ∈ lw_tbl := List.mem_append_right _ (List.mem_of_getElem? (i := 1746) (by decide +kernel))
theorem sel_M_drop : Cond.selects "BeaconIndexModel" ⟨"BeaconIndexModel", "drop", "(I)V"⟩ ⟨"BeaconIndexModel", "drop", "(I)V"⟩ ∈ lw_tbl := List.mem_append_left _ (by decide +kernel)
theorem v_M_out_18 {G : XG} {d : Nat} {h : XH} {Q : XV → XH → Prop} {X : Nat → XH → Prop} {x1 s0 : Int} (F : xFix h) (hyp : ((s0 = 0 → 0 ≤ x1 ∧ x1 < 60 ∧ 0 ≤ (xpl h 55 x1) ∧ (xpl h 55 x1) < 60 ∧ (xFix (xst h 60 (xpl h 55 x1) 1) → Q (xI s0) (xst h 60 (xpl h 55 x1) 1))) ∧ (¬ s0 = 0 → (xwp G m_M_drop (d + 2) 0 [xR 53, xI x1, xZ] [] h (fun v9 h9 => xwp G m_M_out (d + 3) 28 [xZ, xZ, xI s0] (xpush v9 []) h9 Q X) X)))) : xwp G m_M_out (d + 3) 18 [xR 53, xI x1, xZ] [xI s0] h Q X := by
  have hnx9 : (93 : Int) ≤ xnx h := F.2.2
  refine xr_okL (fun hl9 => ?_)
  have r_x1 : -2147483648 ≤ x1 ∧ x1 ≤ 2147483647 := hl9 (xI x1) (.tail _ (.head _)) (Nat.le_of_ble_eq_true rfl)
  refine xr_okS (fun hs9 => ?_)
  have r_s0 : -2147483648 ≤ s0 ∧ s0 ≤ 2147483647 := hs9 (xI s0) (.head _)
  refine xr_istore_n (pc := 18) (i := 2) (L9 := [xR 53, xI x1, xI s0]) (hI := d_M_out_18) (hi := rfl) (hn := Nat.le_of_ble_eq_true rfl) (hL9 := rfl) ?_
  refine xr_iload_n (pc := 19) (i := 2) (hI := d_M_out_19) (hi := rfl) (hl := rfl) ?_
  refine xr_if_eq (pc := 20) (tgt := 31) (hI := d_M_out_20) (ht := by decide) (fun q9 => ?_) (fun q9 => ?_)
  · replace hyp := hyp.1 q9
    have q1_ := q9
    clear q9
    refine xr_aload_n (pc := 31) (i := 0) (hI := d_M_out_31) (hi := rfl) (hl := rfl) ?_
    refine xg_getf (pc := 32) (ci := 11) (k := 11) (N := 38) (v9 := 2) (v := 60) (T := xF11) (hI := d_M_out_32) (hw := w_1598) rfl xi11 (Or.inl rfl) (Nat.le_of_ble_eq_true rfl) (Nat.le_of_ble_eq_true rfl) rfl (ft_53 F) (fp_53_11 F) (fun f2_ => ?_)
    clear f2_
    refine xr_aload_n (pc := 35) (i := 0) (hI := d_M_out_35) (hi := rfl) (hl := rfl) ?_
    refine xg_getf (pc := 36) (ci := 11) (k := 3) (N := 38) (v9 := 2) (v := 55) (T := xF11) (hI := d_M_out_36) (hw := w_1590) rfl xi11 (Or.inl rfl) (Nat.le_of_ble_eq_true rfl) (Nat.le_of_ble_eq_true rfl) rfl (ft_53 F) (fp_53_3 F) (fun f3_ => ?_)
    clear f3_
    refine xr_iload_n (pc := 39) (i := 1) (hI := d_M_out_39) (hi := rfl) (hl := rfl) ?_
    obtain ⟨c4_, hyp⟩ := hyp
    obtain ⟨c5_, hyp⟩ := hyp
    refine xg_iaload (pc := 40) (v := (xpl h 55 x1)) (hI := d_M_out_40) (ft_55 F) c4_ (xlt_of (fl_55 F) c5_) rfl (fun f6_ => ?_)
    replace f6_ : -2147483648 ≤ (xpl h 55 x1) ∧ (xpl h 55 x1) ≤ 2147483647 := f6_
    refine xr_iconst (pc := 41) (hI := d_M_out_41) (hr := by decide) ?_
    obtain ⟨c7_, hyp⟩ := hyp
    obtain ⟨c8_, hyp⟩ := hyp
    refine xr_bastoreZ (pc := 42) (hI := d_M_out_42) (ft_60 F) (by decide) c7_ (xlt_of (fl_60 F) c8_) (by decide) ?_
    have F9_ : xFix (xst h 60 (xpl h 55 x1) 1) := F.stA xfa_60
    refine xr_iload_n (pc := 43) (i := 2) (hI := d_M_out_43) (hi := rfl) (hl := rfl) ?_
    refine xr_ireturnT (S := []) (pc := 44) (hI := d_M_out_44) (hr := rfl) (xnar_z ⟨(by clear hyp; omega), (by clear hyp; omega)⟩) ?_
    exact hyp F9_
  · replace hyp := hyp.2 q9
    have q1_ := q9
    clear q9
    refine xr_aload_n (pc := 23) (i := 0) (hI := d_M_out_23) (hi := rfl) (hl := rfl) ?_
    refine xr_iload_n (pc := 24) (i := 1) (hI := d_M_out_24) (hi := rfl) (hl := rfl) ?_
    exact xq_callV (pc := 25) (index := 204) (K := m_M_drop) (As := [xI x1]) (S := []) (L0 := [xR 53, xI x1, xZ]) (hI := d_M_out_25) (hK := k_M_drop) (hlk := w_1744) (hnoM := rfl) (hS8 := Nat.le_of_ble_eq_true rfl) (ci := 11) (N := 38) (C := "BeaconIndexModel") (T := xF11) (hc := rfl) (hci := Nat.le_of_ble_eq_true rfl) (htb := (ft_53 F)) (hinst := w_1746) (hsel := sel_M_drop) (hlen := Nat.le_of_ble_eq_true rfl) (hst := rfl) (hL0 := rfl)  (xwp_mono hyp (fun v9 h9 q9 => xr_drop (L9 := [xZ, xZ, xI s0]) (xdrz (xdrz (xdrs xdr0))) q9) (fun _ _ z9 => z9))
theorem d_M_out_28 : decode prog_14_method_30_code 28 = .ok (.goto 15, 3) := by decide +kernel
theorem v_M_out_28 {G : XG} {d : Nat} {h : XH} {Q : XV → XH → Prop} {X : Nat → XH → Prop} {x2 : Int} (F : xFix h) (hyp : (0 ≤ x2 ∧ x2 ≤ 1) ∧ (Q (xI x2) h)) : xwp G m_M_out (d + 3) 28 [xZ, xZ, xI x2] [] h Q X := by
  have hnx9 : (93 : Int) ≤ xnx h := F.2.2
  refine xr_okL (fun hl9 => ?_)
  have r_x2 : -2147483648 ≤ x2 ∧ x2 ≤ 2147483647 := hl9 (xI x2) (.tail _ (.tail _ (.head _))) (Nat.le_of_ble_eq_true rfl)
  refine xr_goto (pc := 28) (tgt := 43) (hI := d_M_out_28) (ht := by decide) ?_
  refine xr_iload_n (pc := 43) (i := 2) (hI := d_M_out_43) (hi := rfl) (hl := rfl) ?_
  obtain ⟨c9, hyp⟩ := hyp
  refine xr_ireturnT (S := []) (pc := 44) (hI := d_M_out_44) (hr := rfl) (xnar_z c9) ?_
  exact hyp
abbrev m_M_merge : XM := (⟨"BeaconIndexModel", "merge", "(II)I"⟩, prog_14_method_31_code, 7, (some .int), [])
theorem d_M_merge_0 : decode prog_14_method_31_code 0 = .ok (.iconst 0, 1) := by decide +kernel
theorem d_M_merge_1 : decode prog_14_method_31_code 1 = .ok (.istore_n 3, 1) := by decide +kernel
theorem d_M_merge_2 : decode prog_14_method_31_code 2 = .ok (.aload_n 0, 1) := by decide +kernel
theorem d_M_merge_3 : decode prog_14_method_31_code 3 = .ok (.getfield 16, 3) := by decide +kernel
theorem d_M_merge_6 : decode prog_14_method_31_code 6 = .ok (.iload_n 2, 1) := by decide +kernel
theorem d_M_merge_7 : decode prog_14_method_31_code 7 = .ok (.iaload, 1) := by decide +kernel
theorem d_M_merge_8 : decode prog_14_method_31_code 8 = .ok (.iconst 1, 1) := by decide +kernel
theorem d_M_merge_9 : decode prog_14_method_31_code 9 = .ok (.isub, 1) := by decide +kernel
theorem d_M_merge_10 : decode prog_14_method_31_code 10 = .ok (.istore 4, 2) := by decide +kernel
theorem v_M_merge_0 {G : XG} {d : Nat} {h : XH} {Q : XV → XH → Prop} {X : Nat → XH → Prop} {x1 x2 : Int} (F : xFix h) (hyp : 0 ≤ x2 ∧ x2 < 60 ∧ xiR ((xpl h 56 x2) - 1) ∧ (xwp G m_M_merge (d + 3) 12 [xR 53, xI x1, xI x2, xI 0, xI ((xpl h 56 x2) - 1), xZ, xZ] [] h Q X)) : xwp G m_M_merge (d + 3) 0 [xR 53, xI x1, xI x2, xZ, xZ, xZ, xZ] [] h Q X := by
  have hnx9 : (93 : Int) ≤ xnx h := F.2.2
  refine xr_okL (fun hl9 => ?_)
  have r_x1 : -2147483648 ≤ x1 ∧ x1 ≤ 2147483647 := hl9 (xI x1) (.tail _ (.head _)) (Nat.le_of_ble_eq_true rfl)
  have r_x2 : -2147483648 ≤ x2 ∧ x2 ≤ 2147483647 := hl9 (xI x2) (.tail _ (.tail _ (.head _))) (Nat.le_of_ble_eq_true rfl)
  refine xr_iconst (pc := 0) (hI := d_M_merge_0) (hr := by decide) ?_
  refine xr_istore_n (pc := 1) (i := 3) (L9 := [xR 53, xI x1, xI x2, xI 0, xZ, xZ, xZ]) (hI := d_M_merge_1) (hi := rfl) (hn := Nat.le_of_ble_eq_true rfl) (hL9 := rfl) ?_
  refine xr_aload_n (pc := 2) (i := 0) (hI := d_M_merge_2) (hi := rfl) (hl := rfl) ?_
  refine xg_getf (pc := 3) (ci := 11) (k := 7) (N := 38) (v9 := 2) (v := 56) (T := xF11) (hI := d_M_merge_3) (hw := w_1594) rfl xi11 (Or.inl rfl) (Nat.le_of_ble_eq_true rfl) (Nat.le_of_ble_eq_true rfl) rfl (ft_53 F) (fp_53_7 F) (fun f1_ => ?_)
  clear f1_
  refine xr_iload_n (pc := 6) (i := 2) (hI := d_M_merge_6) (hi := rfl) (hl := rfl) ?_
  obtain ⟨c2_, hyp⟩ := hyp
  obtain ⟨c3_, hyp⟩ := hyp
  refine xg_iaload (pc := 7) (v := (xpl h 56 x2)) (hI := d_M_merge_7) (ft_56 F) c2_ (xlt_of (fl_56 F) c3_) rfl (fun f4_ => ?_)
  replace f4_ : -2147483648 ≤ (xpl h 56 x2) ∧ (xpl h 56 x2) ≤ 2147483647 := f4_
  refine xr_iconst (pc := 8) (hI := d_M_merge_8) (hr := by decide) ?_
  obtain ⟨c9, hyp⟩ := hyp
  refine xr_isub (pc := 9) (hI := d_M_merge_9) (hr := c9) ?_
  refine xr_istore (pc := 10) (i := 4) (L9 := [xR 53, xI x1, xI x2, xI 0, xI ((xpl h 56 x2) - 1), xZ, xZ]) (hI := d_M_merge_10) (hn := Nat.le_of_ble_eq_true rfl) (hL9 := rfl) ?_
  exact hyp
theorem d_M_merge_12 : decode prog_14_method_31_code 12 = .ok (.iload 4, 2) := by decide +kernel
theorem d_M_merge_14 : decode prog_14_method_31_code 14 = .ok (.aload_n 0, 1) := by decide +kernel
theorem d_M_merge_15 : decode prog_14_method_31_code 15 = .ok (.iload_n 1, 1) := by decide +kernel
theorem d_M_merge_16 : decode prog_14_method_31_code 16 = .ok (.invokevirtual 179, 3) := by decide +kernel
theorem v_M_merge_12 {G : XG} {d : Nat} {h : XH} {Q : XV → XH → Prop} {X : Nat → XH → Prop} {x1 x2 x3 x4 : Int} (F : xFix h) (hyp : (xwp G m_M_startOf (d + 2) 0 [xR 53, xI x1] [] h (fun v9 h9 => xwp G m_M_merge (d + 3) 19 [xR 53, xI x1, xI x2, xI x3, xI x4, xZ, xZ] (xpush v9 [xI x4]) h9 Q X) X)) : xwp G m_M_merge (d + 3) 12 [xR 53, xI x1, xI x2, xI x3, xI x4, xZ, xZ] [] h Q X := by
  have hnx9 : (93 : Int) ≤ xnx h := F.2.2
  refine xr_okL (fun hl9 => ?_)
  have r_x1 : -2147483648 ≤ x1 ∧ x1 ≤ 2147483647 := hl9 (xI x1) (.tail _ (.head _)) (Nat.le_of_ble_eq_true rfl)
  have r_x2 : -2147483648 ≤ x2 ∧ x2 ≤ 2147483647 := hl9 (xI x2) (.tail _ (.tail _ (.head _))) (Nat.le_of_ble_eq_true rfl)
  have r_x3 : -2147483648 ≤ x3 ∧ x3 ≤ 2147483647 := hl9 (xI x3) (.tail _ (.tail _ (.tail _ (.head _)))) (Nat.le_of_ble_eq_true rfl)
  have r_x4 : -2147483648 ≤ x4 ∧ x4 ≤ 2147483647 := hl9 (xI x4) (.tail _ (.tail _ (.tail _ (.tail _ (.head _))))) (Nat.le_of_ble_eq_true rfl)
  refine xr_iload (pc := 12) (i := 4) (hI := d_M_merge_12) (hl := rfl) ?_
  refine xr_aload_n (pc := 14) (i := 0) (hI := d_M_merge_14) (hi := rfl) (hl := rfl) ?_
  refine xr_iload_n (pc := 15) (i := 1) (hI := d_M_merge_15) (hi := rfl) (hl := rfl) ?_
  exact xq_callV (pc := 16) (index := 179) (K := m_M_startOf) (As := [xI x1]) (S := [xI x4]) (L0 := [xR 53, xI x1]) (hI := d_M_merge_16) (hK := k_M_startOf) (hlk := w_1736) (hnoM := rfl) (hS8 := Nat.le_of_ble_eq_true rfl) (ci := 11) (N := 38) (C := "BeaconIndexModel") (T := xF11) (hc := rfl) (hci := Nat.le_of_ble_eq_true rfl) (htb := (ft_53 F)) (hinst := w_1738) (hsel := sel_M_startOf) (hlen := Nat.le_of_ble_eq_true rfl) (hst := rfl) (hL0 := rfl)  hyp
theorem d_M_merge_19 : decode prog_14_method_31_code 19 = .ok (.if_icmp .lt 36, 3) := by decide +kernel
theorem d_M_merge_55 : decode prog_14_method_31_code 55 = .ok (.aload_n 0, 1) := by decide +kernel
theorem d_M_merge_56 : decode prog_14_method_31_code 56 = .ok (.getfield 16, 3) := by decide +kernel
theorem d_M_merge_59 : decode prog_14_method_31_code 59 = .ok (.iload_n 2, 1) := by decide +kernel
theorem d_M_merge_60 : decode prog_14_method_31_code 60 = .ok (.iaload, 1) := by decide +kernel
theorem d_M_merge_61 : decode prog_14_method_31_code 61 = .ok (.iload_n 3, 1) := by decide +kernel
theorem d_M_merge_62 : decode prog_14_method_31_code 62 = .ok (.isub, 1) := by decide +kernel
theorem d_M_merge_63 : decode prog_14_method_31_code 63 = .ok (.istore 4, 2) := by decide +kernel
theorem d_M_merge_65 : decode prog_14_method_31_code 65 = .ok (.iload_n 1, 1) := by decide +kernel
theorem d_M_merge_66 : decode prog_14_method_31_code 66 = .ok (.istore 5, 2) := by decide +kernel
theorem d_M_merge_68 : decode prog_14_method_31_code 68 = .ok (.iload 4, 2) := by decide +kernel
theorem d_M_merge_70 : decode prog_14_method_31_code 70 = .ok (.aload_n 0, 1) := by decide +kernel
theorem d_M_merge_71 : decode prog_14_method_31_code 71 = .ok (.iload_n 1, 1) := by decide +kernel
theorem d_M_merge_72 : decode prog_14_method_31_code 72 = .ok (.invokevirtual 179, 3) := by decide +kernel
theorem d_M_merge_22 : decode prog_14_method_31_code 22 = .ok (.aload_n 0, 1) := by decide +kernel
theorem d_M_merge_23 : decode prog_14_method_31_code 23 = .ok (.getfield 28, 3) := by decide +kernel
theorem d_M_merge_26 : decode prog_14_method_31_code 26 = .ok (.aload_n 0, 1) := by decide +kernel
theorem d_M_merge_27 : decode prog_14_method_31_code 27 = .ok (.getfield 13, 3) := by decide +kernel
theorem d_M_merge_30 : decode prog_14_method_31_code 30 = .ok (.iload 4, 2) := by decide +kernel
theorem d_M_merge_32 : decode prog_14_method_31_code 32 = .ok (.iaload, 1) := by decide +kernel
theorem d_M_merge_33 : decode prog_14_method_31_code 33 = .ok (.baload, 1) := by decide +kernel
theorem d_M_merge_34 : decode prog_14_method_31_code 34 = .ok (.ifCond .ne 6, 3) := by decide +kernel
theorem d_M_merge_40 : decode prog_14_method_31_code 40 = .ok (.aload_n 0, 1) := by decide +kernel
theorem d_M_merge_41 : decode prog_14_method_31_code 41 = .ok (.iload 4, 2) := by decide +kernel
theorem d_M_merge_43 : decode prog_14_method_31_code 43 = .ok (.invokevirtual 204, 3) := by decide +kernel
theorem d_M_merge_37 : decode prog_14_method_31_code 37 = .ok (.goto 12, 3) := by decide +kernel
theorem d_M_merge_49 : decode prog_14_method_31_code 49 = .ok (.iinc 4 (-1), 3) := by decide +kernel
theorem d_M_merge_52 : decode prog_14_method_31_code 52 = .ok (.goto (-40), 3) := by decide +kernel
theorem v_M_merge_19 {G : XG} {d : Nat} {h : XH} {Q : XV → XH → Prop} {X : Nat → XH → Prop} {x1 x2 x3 x4 s0 s1 : Int} (F : xFix h) (hyp : ((s1 < s0 → 0 ≤ x2 ∧ x2 < 60 ∧ xiR ((xpl h 56 x2) - x3) ∧ (xwp G m_M_startOf (d + 2) 0 [xR 53, xI x1] [] h (fun v9 h9 => xwp G m_M_merge (d + 3) 75 [xR 53, xZ, xI x2, xI x3, xI ((xpl h 56 x2) - x3), xI x1, xZ] (xpush v9 [xI ((xpl h 56 x2) - x3)]) h9 Q X) X)) ∧ (¬ s1 < s0 → 0 ≤ x4 ∧ x4 < 60 ∧ 0 ≤ (xpl h 55 x4) ∧ (xpl h 55 x4) < 60 ∧ (((xpl h 60 (xpl h 55 x4)) = 0 → (xwp G m_M_merge (d + 3) 12 [xR 53, xI x1, xI x2, xI x3, xI (x4 + (-1)), xZ, xZ] [] h Q X)) ∧ (¬ (xpl h 60 (xpl h 55 x4)) = 0 → (xwp G m_M_drop (d + 2) 0 [xR 53, xI x4, xZ] [] h (fun v9 h9 => xwp G m_M_merge (d + 3) 46 [xR 53, xI x1, xI x2, xI x3, xI x4, xZ, xZ] (xpush v9 []) h9 Q X) X)))))) : xwp G m_M_merge (d + 3) 19 [xR 53, xI x1, xI x2, xI x3, xI x4, xZ, xZ] [xI s0, xI s1] h Q X := by
  have hnx9 : (93 : Int) ≤ xnx h := F.2.2
  refine xr_okL (fun hl9 => ?_)
  have r_x1 : -2147483648 ≤ x1 ∧ x1 ≤ 2147483647 := hl9 (xI x1) (.tail _ (.head _)) (Nat.le_of_ble_eq_true rfl)
  have r_x2 : -2147483648 ≤ x2 ∧ x2 ≤ 2147483647 := hl9 (xI x2) (.tail _ (.tail _ (.head _))) (Nat.le_of_ble_eq_true rfl)
  have r_x3 : -2147483648 ≤ x3 ∧ x3 ≤ 2147483647 := hl9 (xI x3) (.tail _ (.tail _ (.tail _ (.head _)))) (Nat.le_of_ble_eq_true rfl)
  have r_x4 : -2147483648 ≤ x4 ∧ x4 ≤ 2147483647 := hl9 (xI x4) (.tail _ (.tail _ (.tail _ (.tail _ (.head _))))) (Nat.le_of_ble_eq_true rfl)
  refine xr_okS (fun hs9 => ?_)
  have r_s0 : -2147483648 ≤ s0 ∧ s0 ≤ 2147483647 := hs9 (xI s0) (.head _)
  have r_s1 : -2147483648 ≤ s1 ∧ s1 ≤ 2147483647 := hs9 (xI s1) (.tail _ (.head _))
  refine xr_icmp_lt (pc := 19) (tgt := 55) (hI := d_M_merge_19) (ht := by decide) (fun q9 => ?_) (fun q9 => ?_)
  · replace hyp := hyp.1 q9
    have q1_ := q9
    clear q9
    refine xr_aload_n (pc := 55) (i := 0) (hI := d_M_merge_55) (hi := rfl) (hl := rfl) ?_
    refine xg_getf (pc := 56) (ci := 11) (k := 7) (N := 38) (v9 := 2) (v := 56) (T := xF11) (hI := d_M_merge_56) (hw := w_1594) rfl xi11 (Or.inl rfl) (Nat.le_of_ble_eq_true rfl) (Nat.le_of_ble_eq_true rfl) rfl (ft_53 F) (fp_53_7 F) (fun f2_ => ?_)
    clear f2_
    refine xr_iload_n (pc := 59) (i := 2) (hI := d_M_merge_59) (hi := rfl) (hl := rfl) ?_
    obtain ⟨c3_, hyp⟩ := hyp
    obtain ⟨c4_, hyp⟩ := hyp
    refine xg_iaload (pc := 60) (v := (xpl h 56 x2)) (hI := d_M_merge_60) (ft_56 F) c3_ (xlt_of (fl_56 F) c4_) rfl (fun f5_ => ?_)
    replace f5_ : -2147483648 ≤ (xpl h 56 x2) ∧ (xpl h 56 x2) ≤ 2147483647 := f5_
    refine xr_iload_n (pc := 61) (i := 3) (hI := d_M_merge_61) (hi := rfl) (hl := rfl) ?_
    obtain ⟨c9, hyp⟩ := hyp
    refine xr_isub (pc := 62) (hI := d_M_merge_62) (hr := c9) ?_
    refine xr_istore (pc := 63) (i := 4) (L9 := [xR 53, xI x1, xI x2, xI x3, xI ((xpl h 56 x2) - x3), xZ, xZ]) (hI := d_M_merge_63) (hn := Nat.le_of_ble_eq_true rfl) (hL9 := rfl) ?_
    refine xr_iload_n (pc := 65) (i := 1) (hI := d_M_merge_65) (hi := rfl) (hl := rfl) ?_
    refine xr_istore (pc := 66) (i := 5) (L9 := [xR 53, xI x1, xI x2, xI x3, xI ((xpl h 56 x2) - x3), xI x1, xZ]) (hI := d_M_merge_66) (hn := Nat.le_of_ble_eq_true rfl) (hL9 := rfl) ?_
    refine xr_iload (pc := 68) (i := 4) (hI := d_M_merge_68) (hl := rfl) ?_
    refine xr_aload_n (pc := 70) (i := 0) (hI := d_M_merge_70) (hi := rfl) (hl := rfl) ?_
    refine xr_iload_n (pc := 71) (i := 1) (hI := d_M_merge_71) (hi := rfl) (hl := rfl) ?_
    exact xq_callV (pc := 72) (index := 179) (K := m_M_startOf) (As := [xI x1]) (S := [xI ((xpl h 56 x2) - x3)]) (L0 := [xR 53, xI x1]) (hI := d_M_merge_72) (hK := k_M_startOf) (hlk := w_1736) (hnoM := rfl) (hS8 := Nat.le_of_ble_eq_true rfl) (ci := 11) (N := 38) (C := "BeaconIndexModel") (T := xF11) (hc := rfl) (hci := Nat.le_of_ble_eq_true rfl) (htb := (ft_53 F)) (hinst := w_1738) (hsel := sel_M_startOf) (hlen := Nat.le_of_ble_eq_true rfl) (hst := rfl) (hL0 := rfl)  (xwp_mono hyp (fun v9 h9 q9 => xr_drop (L9 := [xR 53, xZ, xI x2, xI x3, xI ((xpl h 56 x2) - x3), xI x1, xZ]) (xdrs (xdrz (xdrs (xdrs (xdrs (xdrs (xdrs xdr0))))))) q9) (fun _ _ z9 => z9))
  · replace hyp := hyp.2 q9
    have q1_ := q9
    clear q9
    refine xr_aload_n (pc := 22) (i := 0) (hI := d_M_merge_22) (hi := rfl) (hl := rfl) ?_
    refine xg_getf (pc := 23) (ci := 11) (k := 11) (N := 38) (v9 := 2) (v := 60) (T := xF11) (hI := d_M_merge_23) (hw := w_1598) rfl xi11 (Or.inl rfl) (Nat.le_of_ble_eq_true rfl) (Nat.le_of_ble_eq_true rfl) rfl (ft_53 F) (fp_53_11 F) (fun f6_ => ?_)
    clear f6_
    refine xr_aload_n (pc := 26) (i := 0) (hI := d_M_merge_26) (hi := rfl) (hl := rfl) ?_
    refine xg_getf (pc := 27) (ci := 11) (k := 3) (N := 38) (v9 := 2) (v := 55) (T := xF11) (hI := d_M_merge_27) (hw := w_1590) rfl xi11 (Or.inl rfl) (Nat.le_of_ble_eq_true rfl) (Nat.le_of_ble_eq_true rfl) rfl (ft_53 F) (fp_53_3 F) (fun f7_ => ?_)
    clear f7_
    refine xr_iload (pc := 30) (i := 4) (hI := d_M_merge_30) (hl := rfl) ?_
    obtain ⟨c8_, hyp⟩ := hyp
    obtain ⟨c9_, hyp⟩ := hyp
    refine xg_iaload (pc := 32) (v := (xpl h 55 x4)) (hI := d_M_merge_32) (ft_55 F) c8_ (xlt_of (fl_55 F) c9_) rfl (fun f10_ => ?_)
    replace f10_ : -2147483648 ≤ (xpl h 55 x4) ∧ (xpl h 55 x4) ≤ 2147483647 := f10_
    obtain ⟨c11_, hyp⟩ := hyp
    obtain ⟨c12_, hyp⟩ := hyp
    refine xg_baloadZ (pc := 33) (v := (xpl h 60 (xpl h 55 x4))) (hI := d_M_merge_33) (ft_60 F) c11_ (xlt_of (fl_60 F) c12_) rfl (fun f13_ => ?_)
    replace f13_ : 0 ≤ (xpl h 60 (xpl h 55 x4)) ∧ (xpl h 60 (xpl h 55 x4)) ≤ 1 := f13_
    refine xr_if_ne (pc := 34) (tgt := 40) (hI := d_M_merge_34) (ht := by decide) (fun q9 => ?_) (fun q9 => ?_)
    · replace hyp := hyp.2 q9
      have q14_ := q9
      clear q9
      refine xr_aload_n (pc := 40) (i := 0) (hI := d_M_merge_40) (hi := rfl) (hl := rfl) ?_
      refine xr_iload (pc := 41) (i := 4) (hI := d_M_merge_41) (hl := rfl) ?_
      exact xq_callV (pc := 43) (index := 204) (K := m_M_drop) (As := [xI x4]) (S := []) (L0 := [xR 53, xI x4, xZ]) (hI := d_M_merge_43) (hK := k_M_drop) (hlk := w_1744) (hnoM := rfl) (hS8 := Nat.le_of_ble_eq_true rfl) (ci := 11) (N := 38) (C := "BeaconIndexModel") (T := xF11) (hc := rfl) (hci := Nat.le_of_ble_eq_true rfl) (htb := (ft_53 F)) (hinst := w_1746) (hsel := sel_M_drop) (hlen := Nat.le_of_ble_eq_true rfl) (hst := rfl) (hL0 := rfl)  hyp
    · replace hyp := hyp.1 q9
      have q14_ := q9
      clear q9
      refine xr_goto (pc := 37) (tgt := 49) (hI := d_M_merge_37) (ht := by decide) ?_
      refine xr_iinc (pc := 49) (i := 4) (L9 := [xR 53, xI x1, xI x2, xI x3, xI (x4 + (-1)), xZ, xZ]) (hI := d_M_merge_49) (hl := rfl) (hn := Nat.le_of_ble_eq_true rfl) (hr := ⟨by clear hyp; omega, by clear hyp; omega⟩) (hL9 := rfl) ?_
      refine xr_goto (pc := 52) (tgt := 12) (hI := d_M_merge_52) (ht := by decide) ?_
      exact hyp
theorem d_M_merge_46 : decode prog_14_method_31_code 46 = .ok (.iinc 3 1, 3) := by decide +kernel
theorem v_M_merge_46 {G : XG} {d : Nat} {h : XH} {Q : XV → XH → Prop} {X : Nat → XH → Prop} {x1 x2 x3 x4 : Int} (F : xFix h) (hyp : xiR (x3 + 1) ∧ xiR (x4 + (-1)) ∧ (xwp G m_M_merge (d + 3) 12 [xR 53, xI x1, xI x2, xI (x3 + 1), xI (x4 + (-1)), xZ, xZ] [] h Q X)) : xwp G m_M_merge (d + 3) 46 [xR 53, xI x1, xI x2, xI x3, xI x4, xZ, xZ] [] h Q X := by
  have hnx9 : (93 : Int) ≤ xnx h := F.2.2
  refine xr_okL (fun hl9 => ?_)
  have r_x1 : -2147483648 ≤ x1 ∧ x1 ≤ 2147483647 := hl9 (xI x1) (.tail _ (.head _)) (Nat.le_of_ble_eq_true rfl)
  have r_x2 : -2147483648 ≤ x2 ∧ x2 ≤ 2147483647 := hl9 (xI x2) (.tail _ (.tail _ (.head _))) (Nat.le_of_ble_eq_true rfl)
  have r_x3 : -2147483648 ≤ x3 ∧ x3 ≤ 2147483647 := hl9 (xI x3) (.tail _ (.tail _ (.tail _ (.head _)))) (Nat.le_of_ble_eq_true rfl)
  have r_x4 : -2147483648 ≤ x4 ∧ x4 ≤ 2147483647 := hl9 (xI x4) (.tail _ (.tail _ (.tail _ (.tail _ (.head _))))) (Nat.le_of_ble_eq_true rfl)
  obtain ⟨c9, hyp⟩ := hyp
  refine xr_iinc (pc := 46) (i := 3) (L9 := [xR 53, xI x1, xI x2, xI (x3 + 1), xI x4, xZ, xZ]) (hI := d_M_merge_46) (hl := rfl) (hn := Nat.le_of_ble_eq_true rfl) (hr := c9) (hL9 := rfl) ?_
  obtain ⟨c9, hyp⟩ := hyp
  refine xr_iinc (pc := 49) (i := 4) (L9 := [xR 53, xI x1, xI x2, xI (x3 + 1), xI (x4 + (-1)), xZ, xZ]) (hI := d_M_merge_49) (hl := rfl) (hn := Nat.le_of_ble_eq_true rfl) (hr := c9) (hL9 := rfl) ?_
  refine xr_goto (pc := 52) (tgt := 12) (hI := d_M_merge_52) (ht := by decide) ?_
  exact hyp
theorem d_M_merge_75 : decode prog_14_method_31_code 75 = .ok (.if_icmp .le 15, 3) := by decide +kernel
theorem d_M_merge_90 : decode prog_14_method_31_code 90 = .ok (.iload_n 2, 1) := by decide +kernel
theorem d_M_merge_91 : decode prog_14_method_31_code 91 = .ok (.iconst 1, 1) := by decide +kernel
theorem d_M_merge_92 : decode prog_14_method_31_code 92 = .ok (.iadd, 1) := by decide +kernel
theorem d_M_merge_93 : decode prog_14_method_31_code 93 = .ok (.istore 6, 2) := by decide +kernel
theorem d_M_merge_78 : decode prog_14_method_31_code 78 = .ok (.aload_n 0, 1) := by decide +kernel
theorem d_M_merge_79 : decode prog_14_method_31_code 79 = .ok (.getfield 16, 3) := by decide +kernel
theorem d_M_merge_82 : decode prog_14_method_31_code 82 = .ok (.iload 5, 2) := by decide +kernel
theorem d_M_merge_84 : decode prog_14_method_31_code 84 = .ok (.iload 4, 2) := by decide +kernel
theorem d_M_merge_86 : decode prog_14_method_31_code 86 = .ok (.iastore, 1) := by decide +kernel
theorem xfa_56 : xfreeA 56 = true := by decide +kernel
theorem d_M_merge_87 : decode prog_14_method_31_code 87 = .ok (.iinc 5 1, 3) := by decide +kernel
theorem v_M_merge_75 {G : XG} {d : Nat} {h : XH} {Q : XV → XH → Prop} {X : Nat → XH → Prop} {x2 x3 x4 x5 s0 s1 : Int} (F : xFix h) (hyp : ((s1 ≤ s0 → xiR (x2 + 1) ∧ (xwp G m_M_merge (d + 3) 95 [xR 53, xZ, xZ, xI x3, xZ, xI x5, xI (x2 + 1)] [] h Q X)) ∧ (¬ s1 ≤ s0 → 0 ≤ x5 ∧ x5 < 60 ∧ xiR (x2 + 1) ∧ (xFix (xst h 56 x5 x4) → xwp G m_M_merge (d + 3) 95 [xR 53, xZ, xZ, xI x3, xZ, xI (x5 + 1), xI (x2 + 1)] [] (xst h 56 x5 x4) Q X)))) : xwp G m_M_merge (d + 3) 75 [xR 53, xZ, xI x2, xI x3, xI x4, xI x5, xZ] [xI s0, xI s1] h Q X := by
  have hnx9 : (93 : Int) ≤ xnx h := F.2.2
  refine xr_okL (fun hl9 => ?_)
  have r_x2 : -2147483648 ≤ x2 ∧ x2 ≤ 2147483647 := hl9 (xI x2) (.tail _ (.tail _ (.head _))) (Nat.le_of_ble_eq_true rfl)
  have r_x3 : -2147483648 ≤ x3 ∧ x3 ≤ 2147483647 := hl9 (xI x3) (.tail _ (.tail _ (.tail _ (.head _)))) (Nat.le_of_ble_eq_true rfl)
  have r_x4 : -2147483648 ≤ x4 ∧ x4 ≤ 2147483647 := hl9 (xI x4) (.tail _ (.tail _ (.tail _ (.tail _ (.head _))))) (Nat.le_of_ble_eq_true rfl)
  have r_x5 : -2147483648 ≤ x5 ∧ x5 ≤ 2147483647 := hl9 (xI x5) (.tail _ (.tail _ (.tail _ (.tail _ (.tail _ (.head _)))))) (Nat.le_of_ble_eq_true rfl)
  refine xr_okS (fun hs9 => ?_)
  have r_s0 : -2147483648 ≤ s0 ∧ s0 ≤ 2147483647 := hs9 (xI s0) (.head _)
  have r_s1 : -2147483648 ≤ s1 ∧ s1 ≤ 2147483647 := hs9 (xI s1) (.tail _ (.head _))
  refine xr_icmp_le (pc := 75) (tgt := 90) (hI := d_M_merge_75) (ht := by decide) (fun q9 => ?_) (fun q9 => ?_)
  · replace hyp := hyp.1 q9
    have q1_ := q9
    clear q9
    refine xr_iload_n (pc := 90) (i := 2) (hI := d_M_merge_90) (hi := rfl) (hl := rfl) ?_
    refine xr_iconst (pc := 91) (hI := d_M_merge_91) (hr := by decide) ?_
    obtain ⟨c9, hyp⟩ := hyp
    refine xr_iadd (pc := 92) (hI := d_M_merge_92) (hr := c9) ?_
    refine xr_istore (pc := 93) (i := 6) (L9 := [xR 53, xZ, xI x2, xI x3, xI x4, xI x5, xI (x2 + 1)]) (hI := d_M_merge_93) (hn := Nat.le_of_ble_eq_true rfl) (hL9 := rfl) ?_
    exact xr_drop (L9 := [xR 53, xZ, xZ, xI x3, xZ, xI x5, xI (x2 + 1)]) (xdrs (xdrs (xdrz (xdrs (xdrz (xdrs (xdrs xdr0))))))) hyp
  · replace hyp := hyp.2 q9
    have q1_ := q9
    clear q9
    refine xr_aload_n (pc := 78) (i := 0) (hI := d_M_merge_78) (hi := rfl) (hl := rfl) ?_
    refine xg_getf (pc := 79) (ci := 11) (k := 7) (N := 38) (v9 := 2) (v := 56) (T := xF11) (hI := d_M_merge_79) (hw := w_1594) rfl xi11 (Or.inl rfl) (Nat.le_of_ble_eq_true rfl) (Nat.le_of_ble_eq_true rfl) rfl (ft_53 F) (fp_53_7 F) (fun f2_ => ?_)
    clear f2_
    refine xr_iload (pc := 82) (i := 5) (hI := d_M_merge_82) (hl := rfl) ?_
    refine xr_iload (pc := 84) (i := 4) (hI := d_M_merge_84) (hl := rfl) ?_
    obtain ⟨c3_, hyp⟩ := hyp
    obtain ⟨c4_, hyp⟩ := hyp
    refine xr_iastore (pc := 86) (hI := d_M_merge_86) (ft_56 F) (by decide) c3_ (xlt_of (fl_56 F) c4_) ?_
    have F5_ : xFix (xst h 56 x5 x4) := F.stA xfa_56
    refine xr_iinc (pc := 87) (i := 5) (L9 := [xR 53, xZ, xI x2, xI x3, xI x4, xI (x5 + 1), xZ]) (hI := d_M_merge_87) (hl := rfl) (hn := Nat.le_of_ble_eq_true rfl) (hr := ⟨by clear hyp; omega, by clear hyp; omega⟩) (hL9 := rfl) ?_
    refine xr_iload_n (pc := 90) (i := 2) (hI := d_M_merge_90) (hi := rfl) (hl := rfl) ?_
    refine xr_iconst (pc := 91) (hI := d_M_merge_91) (hr := by decide) ?_
    obtain ⟨c9, hyp⟩ := hyp
    refine xr_iadd (pc := 92) (hI := d_M_merge_92) (hr := c9) ?_
    refine xr_istore (pc := 93) (i := 6) (L9 := [xR 53, xZ, xI x2, xI x3, xI x4, xI (x5 + 1), xI (x2 + 1)]) (hI := d_M_merge_93) (hn := Nat.le_of_ble_eq_true rfl) (hL9 := rfl) ?_
    exact xr_drop (L9 := [xR 53, xZ, xZ, xI x3, xZ, xI (x5 + 1), xI (x2 + 1)]) (xdrs (xdrs (xdrz (xdrs (xdrz (xdrs (xdrs xdr0))))))) (hyp F5_)
theorem d_M_merge_95 : decode prog_14_method_31_code 95 = .ok (.iload 6, 2) := by decide +kernel
theorem d_M_merge_97 : decode prog_14_method_31_code 97 = .ok (.aload_n 0, 1) := by decide +kernel
theorem d_M_merge_98 : decode prog_14_method_31_code 98 = .ok (.getfield 176, 3) := by decide +kernel
theorem d_M_merge_101 : decode prog_14_method_31_code 101 = .ok (.if_icmp .ge 28, 3) := by decide +kernel
theorem d_M_merge_129 : decode prog_14_method_31_code 129 = .ok (.aload_n 0, 1) := by decide +kernel
theorem d_M_merge_130 : decode prog_14_method_31_code 130 = .ok (.iload 5, 2) := by decide +kernel
theorem d_M_merge_132 : decode prog_14_method_31_code 132 = .ok (.putfield 176, 3) := by decide +kernel
theorem xfk_53_5 : xfree 53 5 = true := by decide +kernel
theorem d_M_merge_135 : decode prog_14_method_31_code 135 = .ok (.aload_n 0, 1) := by decide +kernel
theorem d_M_merge_136 : decode prog_14_method_31_code 136 = .ok (.dup, 1) := by decide +kernel
theorem d_M_merge_137 : decode prog_14_method_31_code 137 = .ok (.getfield 208, 3) := by decide +kernel
theorem w_1593 : Cond.fieldLink "BeaconIndexModel" 208 "BeaconIndexModel" "merges" "I" ∈ lw_tbl := List.mem_append_right _ (List.mem_of_getElem? (i := 1593) (by decide +kernel))
theorem d_M_merge_140 : decode prog_14_method_31_code 140 = .ok (.iconst 1, 1) := by decide +kernel
theorem d_M_merge_141 : decode prog_14_method_31_code 141 = .ok (.iadd, 1) := by decide +kernel
theorem d_M_merge_142 : decode prog_14_method_31_code 142 = .ok (.putfield 208, 3) := by decide +kernel
theorem xfk_53_6 : xfree 53 6 = true := by decide +kernel
theorem d_M_merge_145 : decode prog_14_method_31_code 145 = .ok (.iload_n 3, 1) := by decide +kernel
theorem d_M_merge_146 : decode prog_14_method_31_code 146 = .ok (.ireturn, 1) := by decide +kernel
theorem d_M_merge_104 : decode prog_14_method_31_code 104 = .ok (.aload_n 0, 1) := by decide +kernel
theorem d_M_merge_105 : decode prog_14_method_31_code 105 = .ok (.getfield 16, 3) := by decide +kernel
theorem d_M_merge_108 : decode prog_14_method_31_code 108 = .ok (.iload 5, 2) := by decide +kernel
theorem d_M_merge_110 : decode prog_14_method_31_code 110 = .ok (.aload_n 0, 1) := by decide +kernel
theorem d_M_merge_111 : decode prog_14_method_31_code 111 = .ok (.getfield 16, 3) := by decide +kernel
theorem d_M_merge_114 : decode prog_14_method_31_code 114 = .ok (.iload 6, 2) := by decide +kernel
theorem d_M_merge_116 : decode prog_14_method_31_code 116 = .ok (.iaload, 1) := by decide +kernel
theorem d_M_merge_117 : decode prog_14_method_31_code 117 = .ok (.iload_n 3, 1) := by decide +kernel
theorem d_M_merge_118 : decode prog_14_method_31_code 118 = .ok (.isub, 1) := by decide +kernel
theorem d_M_merge_119 : decode prog_14_method_31_code 119 = .ok (.iastore, 1) := by decide +kernel
theorem d_M_merge_120 : decode prog_14_method_31_code 120 = .ok (.iinc 5 1, 3) := by decide +kernel
theorem d_M_merge_123 : decode prog_14_method_31_code 123 = .ok (.iinc 6 1, 3) := by decide +kernel
theorem d_M_merge_126 : decode prog_14_method_31_code 126 = .ok (.goto (-31), 3) := by decide +kernel
theorem v_M_merge_95 {G : XG} {d : Nat} {h : XH} {Q : XV → XH → Prop} {X : Nat → XH → Prop} {x3 x5 x6 : Int} (F : xFix h) (hyp : (((xpl h 53 5) ≤ x6 → xiR ((xpl h 53 6) + 1) ∧ (xFix (xst (xst h 53 5 x5) 53 6 ((xpl h 53 6) + 1)) → Q (xI x3) (xst (xst h 53 5 x5) 53 6 ((xpl h 53 6) + 1)))) ∧ (¬ (xpl h 53 5) ≤ x6 → 0 ≤ x6 ∧ x6 < 60 ∧ xiR ((xpl h 56 x6) - x3) ∧ 0 ≤ x5 ∧ x5 < 60 ∧ (xFix (xst h 56 x5 ((xpl h 56 x6) - x3)) → xwp G m_M_merge (d + 3) 95 [xR 53, xZ, xZ, xI x3, xZ, xI (x5 + 1), xI (x6 + 1)] [] (xst h 56 x5 ((xpl h 56 x6) - x3)) Q X)))) : xwp G m_M_merge (d + 3) 95 [xR 53, xZ, xZ, xI x3, xZ, xI x5, xI x6] [] h Q X := by
  have hnx9 : (93 : Int) ≤ xnx h := F.2.2
  refine xr_okL (fun hl9 => ?_)
  have r_x3 : -2147483648 ≤ x3 ∧ x3 ≤ 2147483647 := hl9 (xI x3) (.tail _ (.tail _ (.tail _ (.head _)))) (Nat.le_of_ble_eq_true rfl)
  have r_x5 : -2147483648 ≤ x5 ∧ x5 ≤ 2147483647 := hl9 (xI x5) (.tail _ (.tail _ (.tail _ (.tail _ (.tail _ (.head _)))))) (Nat.le_of_ble_eq_true rfl)
  have r_x6 : -2147483648 ≤ x6 ∧ x6 ≤ 2147483647 := hl9 (xI x6) (.tail _ (.tail _ (.tail _ (.tail _ (.tail _ (.tail _ (.head _))))))) (Nat.le_of_ble_eq_true rfl)
  refine xr_iload (pc := 95) (i := 6) (hI := d_M_merge_95) (hl := rfl) ?_
  refine xr_aload_n (pc := 97) (i := 0) (hI := d_M_merge_97) (hi := rfl) (hl := rfl) ?_
  refine xg_getf (pc := 98) (ci := 11) (k := 5) (N := 38) (v9 := 0) (v := (xpl h 53 5)) (T := xF11) (hI := d_M_merge_98) (hw := w_1592) rfl xi11 (Or.inl rfl) (Nat.le_of_ble_eq_true rfl) (Nat.le_of_ble_eq_true rfl) rfl (ft_53 F) rfl (fun f1_ => ?_)
  replace f1_ : -2147483648 ≤ (xpl h 53 5) ∧ (xpl h 53 5) ≤ 2147483647 := f1_
  refine xr_icmp_ge (pc := 101) (tgt := 129) (hI := d_M_merge_101) (ht := by decide) (fun q9 => ?_) (fun q9 => ?_)
  · replace hyp := hyp.1 q9
    have q2_ := q9
    clear q9
    refine xr_aload_n (pc := 129) (i := 0) (hI := d_M_merge_129) (hi := rfl) (hl := rfl) ?_
    refine xr_iload (pc := 130) (i := 5) (hI := d_M_merge_130) (hl := rfl) ?_
    refine xr_putf (pc := 132) (ci := 11) (k := 5) (N := 38) (v9 := 0) (T := xF11) (tF := xT11) (hI := d_M_merge_132) (hw := w_1592) rfl xi11 xt11 xn11 (Or.inl rfl) (Nat.le_of_ble_eq_true rfl) (Nat.le_of_ble_eq_true rfl) rfl xfit_i rfl (ft_53 F) (by decide) (fun z => z) ?_
    have F3_ : xFix (xst h 53 5 x5) := F.stL xfk_53_5
    refine xr_aload_n (pc := 135) (i := 0) (hI := d_M_merge_135) (hi := rfl) (hl := rfl) ?_
    refine xr_dup (pc := 136) (hI := d_M_merge_136) (hv := rfl) ?_
    refine xg_getf (pc := 137) (ci := 11) (k := 6) (N := 38) (v9 := 0) (v := (xpl h 53 6)) (T := xF11) (hI := d_M_merge_137) (hw := w_1593) rfl xi11 (Or.inl rfl) (Nat.le_of_ble_eq_true rfl) (Nat.le_of_ble_eq_true rfl) rfl (ft_53 F3_) (xpl_ok (by decide)) (fun f4_ => ?_)
    replace f4_ : -2147483648 ≤ (xpl h 53 6) ∧ (xpl h 53 6) ≤ 2147483647 := f4_
    refine xr_iconst (pc := 140) (hI := d_M_merge_140) (hr := by decide) ?_
    obtain ⟨c9, hyp⟩ := hyp
    refine xr_iadd (pc := 141) (hI := d_M_merge_141) (hr := c9) ?_
    refine xr_putf (pc := 142) (ci := 11) (k := 6) (N := 38) (v9 := 0) (T := xF11) (tF := xT11) (hI := d_M_merge_142) (hw := w_1593) rfl xi11 xt11 xn11 (Or.inl rfl) (Nat.le_of_ble_eq_true rfl) (Nat.le_of_ble_eq_true rfl) rfl xfit_i rfl (ft_53 F3_) (by decide) (fun z => z) ?_
    have F5_ : xFix (xst (xst h 53 5 x5) 53 6 ((xpl h 53 6) + 1)) := F3_.stL xfk_53_6
    refine xr_iload_n (pc := 145) (i := 3) (hI := d_M_merge_145) (hi := rfl) (hl := rfl) ?_
    refine xr_ireturn (S := []) (pc := 146) (hI := d_M_merge_146) (hr := rfl) ?_
    exact hyp F5_
  · replace hyp := hyp.2 q9
    have q2_ := q9
    clear q9
    refine xr_aload_n (pc := 104) (i := 0) (hI := d_M_merge_104) (hi := rfl) (hl := rfl) ?_
    refine xg_getf (pc := 105) (ci := 11) (k := 7) (N := 38) (v9 := 2) (v := 56) (T := xF11) (hI := d_M_merge_105) (hw := w_1594) rfl xi11 (Or.inl rfl) (Nat.le_of_ble_eq_true rfl) (Nat.le_of_ble_eq_true rfl) rfl (ft_53 F) (fp_53_7 F) (fun f6_ => ?_)
    clear f6_
    refine xr_iload (pc := 108) (i := 5) (hI := d_M_merge_108) (hl := rfl) ?_
    refine xr_aload_n (pc := 110) (i := 0) (hI := d_M_merge_110) (hi := rfl) (hl := rfl) ?_
    refine xg_getf (pc := 111) (ci := 11) (k := 7) (N := 38) (v9 := 2) (v := 56) (T := xF11) (hI := d_M_merge_111) (hw := w_1594) rfl xi11 (Or.inl rfl) (Nat.le_of_ble_eq_true rfl) (Nat.le_of_ble_eq_true rfl) rfl (ft_53 F) (fp_53_7 F) (fun f7_ => ?_)
    clear f7_
    refine xr_iload (pc := 114) (i := 6) (hI := d_M_merge_114) (hl := rfl) ?_
    obtain ⟨c8_, hyp⟩ := hyp
    obtain ⟨c9_, hyp⟩ := hyp
    refine xg_iaload (pc := 116) (v := (xpl h 56 x6)) (hI := d_M_merge_116) (ft_56 F) c8_ (xlt_of (fl_56 F) c9_) rfl (fun f10_ => ?_)
    replace f10_ : -2147483648 ≤ (xpl h 56 x6) ∧ (xpl h 56 x6) ≤ 2147483647 := f10_
    refine xr_iload_n (pc := 117) (i := 3) (hI := d_M_merge_117) (hi := rfl) (hl := rfl) ?_
    obtain ⟨c9, hyp⟩ := hyp
    refine xr_isub (pc := 118) (hI := d_M_merge_118) (hr := c9) ?_
    obtain ⟨c11_, hyp⟩ := hyp
    obtain ⟨c12_, hyp⟩ := hyp
    refine xr_iastore (pc := 119) (hI := d_M_merge_119) (ft_56 F) (by decide) c11_ (xlt_of (fl_56 F) c12_) ?_
    have F13_ : xFix (xst h 56 x5 ((xpl h 56 x6) - x3)) := F.stA xfa_56
    refine xr_iinc (pc := 120) (i := 5) (L9 := [xR 53, xZ, xZ, xI x3, xZ, xI (x5 + 1), xI x6]) (hI := d_M_merge_120) (hl := rfl) (hn := Nat.le_of_ble_eq_true rfl) (hr := ⟨by clear hyp; omega, by clear hyp; omega⟩) (hL9 := rfl) ?_
    refine xr_iinc (pc := 123) (i := 6) (L9 := [xR 53, xZ, xZ, xI x3, xZ, xI (x5 + 1), xI (x6 + 1)]) (hI := d_M_merge_123) (hl := rfl) (hn := Nat.le_of_ble_eq_true rfl) (hr := ⟨by clear hyp; omega, by clear hyp; omega⟩) (hL9 := rfl) ?_
    refine xr_goto (pc := 126) (tgt := 95) (hI := d_M_merge_126) (ht := by decide) ?_
    exact (hyp F13_)
abbrev m_M_isText : XM := (⟨"BeaconIndexModel", "isText", "(II)Z"⟩, prog_14_method_33_code, 3, (some .boolean), [])
theorem d_M_isText_0 : decode prog_14_method_33_code 0 = .ok (.aload_n 0, 1) := by decide +kernel
theorem d_M_isText_1 : decode prog_14_method_33_code 1 = .ok (.iload_n 1, 1) := by decide +kernel
theorem d_M_isText_2 : decode prog_14_method_33_code 2 = .ok (.invokevirtual 211, 3) := by decide +kernel
abbrev m_M_isSegment : XM := (⟨"BeaconIndexModel", "isSegment", "(I)Z"⟩, prog_14_method_32_code, 2, (some .boolean), [])
theorem k_M_isSegment : xCal m_M_isSegment 1 := ⟨List.mem_append_right _ (List.mem_of_getElem? (i := 1865) (by decide +kernel)), w_15, Nat.le_of_ble_eq_true rfl, ⟨by decide +kernel, by decide +kernel⟩, by decide +kernel, by decide +kernel, rfl⟩
theorem w_1862 : Cond.methodLink "BeaconIndexModel" 211 ⟨"BeaconIndexModel", "isSegment", "(I)Z"⟩ ∈ lw_tbl := List.mem_append_right _ (List.mem_of_getElem? (i := 1862) (by decide +kernel))
theorem w_1864 : Cond.instanceMethod ⟨"BeaconIndexModel", "isSegment", "(I)Z"⟩ ∈ lw_tbl := List.mem_append_right _ (List.mem_of_getElem? (i := 1864) (by decide +kernel))
theorem sel_M_isSegment : Cond.selects "BeaconIndexModel" ⟨"BeaconIndexModel", "isSegment", "(I)Z"⟩ ⟨"BeaconIndexModel", "isSegment", "(I)Z"⟩ ∈ lw_tbl := List.mem_append_left _ (by decide +kernel)
theorem d_M_isSegment_0 : decode prog_14_method_32_code 0 = .ok (.iload_n 1, 1) := by decide +kernel
theorem d_M_isSegment_1 : decode prog_14_method_32_code 1 = .ok (.iconst 0, 1) := by decide +kernel
theorem d_M_isSegment_2 : decode prog_14_method_32_code 2 = .ok (.aload_n 0, 1) := by decide +kernel
theorem d_M_isSegment_3 : decode prog_14_method_32_code 3 = .ok (.getfield 176, 3) := by decide +kernel
theorem d_M_isSegment_6 : decode prog_14_method_32_code 6 = .ok (.iconst 1, 1) := by decide +kernel
theorem d_M_isSegment_7 : decode prog_14_method_32_code 7 = .ok (.isub, 1) := by decide +kernel
theorem d_M_isSegment_8 : decode prog_14_method_32_code 8 = .ok (.invokestatic 101, 3) := by decide +kernel
theorem d_M_isSegment_11 : decode prog_14_method_32_code 11 = .ok (.ireturn, 1) := by decide +kernel
theorem d_M_isText_5 : decode prog_14_method_33_code 5 = .ok (.ifCond .eq 22, 3) := by decide +kernel
theorem d_M_isText_27 : decode prog_14_method_33_code 27 = .ok (.iconst 0, 1) := by decide +kernel
theorem d_M_isText_28 : decode prog_14_method_33_code 28 = .ok (.ireturn, 1) := by decide +kernel
theorem d_M_isText_8 : decode prog_14_method_33_code 8 = .ok (.iload_n 2, 1) := by decide +kernel
theorem d_M_isText_9 : decode prog_14_method_33_code 9 = .ok (.iconst 0, 1) := by decide +kernel
theorem d_M_isText_10 : decode prog_14_method_33_code 10 = .ok (.aload_n 0, 1) := by decide +kernel
theorem d_M_isText_11 : decode prog_14_method_33_code 11 = .ok (.iload_n 1, 1) := by decide +kernel
theorem d_M_isText_12 : decode prog_14_method_33_code 12 = .ok (.invokevirtual 182, 3) := by decide +kernel
theorem v_M_isText_0 {G : XG} {d : Nat} {h : XH} {Q : XV → XH → Prop} {X : Nat → XH → Prop} {x1 x2 : Int} (F : xFix h) (hyp : xiR ((xpl h 53 5) - 1) ∧ ((x1 < 0 → (Q (xI 0) h)) ∧ (¬ x1 < 0 → ((((xpl h 53 5) - 1) < x1 → (Q (xI 0) h)) ∧ (¬ ((xpl h 53 5) - 1) < x1 → (xwp G m_M_manyIn (d + 2) 0 [xR 53, xI x1] [] h (fun v9 h9 => xwp G m_M_isText (d + 3) 15 [xZ, xZ, xZ] (xpush v9 [xI 0, xI x2]) h9 Q X) X)))))) : xwp G m_M_isText (d + 3) 0 [xR 53, xI x1, xI x2] [] h Q X := by
  have hnx9 : (93 : Int) ≤ xnx h := F.2.2
  refine xr_okL (fun hl9 => ?_)
  have r_x1 : -2147483648 ≤ x1 ∧ x1 ≤ 2147483647 := hl9 (xI x1) (.tail _ (.head _)) (Nat.le_of_ble_eq_true rfl)
  have r_x2 : -2147483648 ≤ x2 ∧ x2 ≤ 2147483647 := hl9 (xI x2) (.tail _ (.tail _ (.head _))) (Nat.le_of_ble_eq_true rfl)
  refine xr_aload_n (pc := 0) (i := 0) (hI := d_M_isText_0) (hi := rfl) (hl := rfl) ?_
  refine xr_iload_n (pc := 1) (i := 1) (hI := d_M_isText_1) (hi := rfl) (hl := rfl) ?_
  refine xq_callV (pc := 2) (index := 211) (K := m_M_isSegment) (As := [xI x1]) (S := []) (L0 := [xR 53, xI x1]) (hI := d_M_isText_2) (hK := k_M_isSegment) (hlk := w_1862) (hnoM := rfl) (hS8 := Nat.le_of_ble_eq_true rfl) (ci := 11) (N := 38) (C := "BeaconIndexModel") (T := xF11) (hc := rfl) (hci := Nat.le_of_ble_eq_true rfl) (htb := (ft_53 F)) (hinst := w_1864) (hsel := sel_M_isSegment) (hlen := Nat.le_of_ble_eq_true rfl) (hst := rfl) (hL0 := rfl)  ?_
  refine xr_iload_n (pc := 0) (i := 1) (hI := d_M_isSegment_0) (hi := rfl) (hl := rfl) ?_
  refine xr_iconst (pc := 1) (hI := d_M_isSegment_1) (hr := by decide) ?_
  refine xr_aload_n (pc := 2) (i := 0) (hI := d_M_isSegment_2) (hi := rfl) (hl := rfl) ?_
  refine xg_getf (pc := 3) (ci := 11) (k := 5) (N := 38) (v9 := 0) (v := (xpl h 53 5)) (T := xF11) (hI := d_M_isSegment_3) (hw := w_1592) rfl xi11 (Or.inl rfl) (Nat.le_of_ble_eq_true rfl) (Nat.le_of_ble_eq_true rfl) rfl (ft_53 F) rfl (fun f1_ => ?_)
  replace f1_ : -2147483648 ≤ (xpl h 53 5) ∧ (xpl h 53 5) ≤ 2147483647 := f1_
  refine xr_iconst (pc := 6) (hI := d_M_isSegment_6) (hr := by decide) ?_
  obtain ⟨c9, hyp⟩ := hyp
  refine xr_isub (pc := 7) (hI := d_M_isSegment_7) (hr := c9) ?_
  refine xq_callS (pc := 8) (index := 101) (K := m_M_isBetween) (As := [xI x1, xI 0, xI ((xpl h 53 5) - 1)]) (S := []) (L0 := [xI x1, xI 0, xI ((xpl h 53 5) - 1)]) (hI := d_M_isSegment_8) (hK := k_M_isBetween) (hlk := w_1718) (hnoM := rfl) (hS8 := Nat.le_of_ble_eq_true rfl) (hstat := w_1719) (hlen := Nat.le_of_ble_eq_true rfl) (hst := rfl) (hL0 := rfl)  ?_
  refine xr_iload_n (pc := 0) (i := 0) (hI := d_M_isBetween_0) (hi := rfl) (hl := rfl) ?_
  refine xr_iload_n (pc := 1) (i := 1) (hI := d_M_isBetween_1) (hi := rfl) (hl := rfl) ?_
  refine xr_icmp_lt (pc := 2) (tgt := 14) (hI := d_M_isBetween_2) (ht := by decide) (fun q9 => ?_) (fun q9 => ?_)
  · replace hyp := hyp.1 q9
    have q2_ := q9
    clear q9
    refine xr_iconst (pc := 14) (hI := d_M_isBetween_14) (hr := by decide) ?_
    refine xr_ireturnT (S := []) (pc := 15) (hI := d_M_isBetween_15) (hr := rfl) (xnar_z (by decide)) ?_
    show xwp G m_M_isSegment (d + 2) 11 [xR 53, xI x1] [xI 0] _ _ _
    refine xr_ireturnT (S := []) (pc := 11) (hI := d_M_isSegment_11) (hr := rfl) (xnar_z (by decide)) ?_
    show xwp G m_M_isText (d + 3) 5 [xR 53, xI x1, xI x2] [xI 0] _ _ _
    refine xr_if_eq (pc := 5) (tgt := 27) (hI := d_M_isText_5) (ht := by decide) (fun q9 => ?_) (fun q9 => ?_)
    · clear q9
      refine xr_iconst (pc := 27) (hI := d_M_isText_27) (hr := by decide) ?_
      refine xr_ireturnT (S := []) (pc := 28) (hI := d_M_isText_28) (hr := rfl) (xnar_z (by decide)) ?_
      exact hyp
    · exact absurd q9 (by decide)
  · replace hyp := hyp.2 q9
    have q2_ := q9
    clear q9
    refine xr_iload_n (pc := 5) (i := 0) (hI := d_M_isBetween_5) (hi := rfl) (hl := rfl) ?_
    refine xr_iload_n (pc := 6) (i := 2) (hI := d_M_isBetween_6) (hi := rfl) (hl := rfl) ?_
    refine xr_icmp_gt (pc := 7) (tgt := 14) (hI := d_M_isBetween_7) (ht := by decide) (fun q9 => ?_) (fun q9 => ?_)
    · replace hyp := hyp.1 q9
      have q3_ := q9
      clear q9
      refine xr_iconst (pc := 14) (hI := d_M_isBetween_14) (hr := by decide) ?_
      refine xr_ireturnT (S := []) (pc := 15) (hI := d_M_isBetween_15) (hr := rfl) (xnar_z (by decide)) ?_
      show xwp G m_M_isSegment (d + 2) 11 [xR 53, xI x1] [xI 0] _ _ _
      refine xr_ireturnT (S := []) (pc := 11) (hI := d_M_isSegment_11) (hr := rfl) (xnar_z (by decide)) ?_
      show xwp G m_M_isText (d + 3) 5 [xR 53, xI x1, xI x2] [xI 0] _ _ _
      refine xr_if_eq (pc := 5) (tgt := 27) (hI := d_M_isText_5) (ht := by decide) (fun q9 => ?_) (fun q9 => ?_)
      · clear q9
        refine xr_iconst (pc := 27) (hI := d_M_isText_27) (hr := by decide) ?_
        refine xr_ireturnT (S := []) (pc := 28) (hI := d_M_isText_28) (hr := rfl) (xnar_z (by decide)) ?_
        exact hyp
      · exact absurd q9 (by decide)
    · replace hyp := hyp.2 q9
      have q3_ := q9
      clear q9
      refine xr_iconst (pc := 10) (hI := d_M_isBetween_10) (hr := by decide) ?_
      refine xr_goto (pc := 11) (tgt := 15) (hI := d_M_isBetween_11) (ht := by decide) ?_
      refine xr_ireturnT (S := []) (pc := 15) (hI := d_M_isBetween_15) (hr := rfl) (xnar_z (by decide)) ?_
      show xwp G m_M_isSegment (d + 2) 11 [xR 53, xI x1] [xI 1] _ _ _
      refine xr_ireturnT (S := []) (pc := 11) (hI := d_M_isSegment_11) (hr := rfl) (xnar_z (by decide)) ?_
      show xwp G m_M_isText (d + 3) 5 [xR 53, xI x1, xI x2] [xI 1] _ _ _
      refine xr_if_eq (pc := 5) (tgt := 27) (hI := d_M_isText_5) (ht := by decide) (fun q9 => ?_) (fun q9 => ?_)
      · exact absurd q9 (by decide)
      · clear q9
        refine xr_iload_n (pc := 8) (i := 2) (hI := d_M_isText_8) (hi := rfl) (hl := rfl) ?_
        refine xr_iconst (pc := 9) (hI := d_M_isText_9) (hr := by decide) ?_
        refine xr_aload_n (pc := 10) (i := 0) (hI := d_M_isText_10) (hi := rfl) (hl := rfl) ?_
        refine xr_iload_n (pc := 11) (i := 1) (hI := d_M_isText_11) (hi := rfl) (hl := rfl) ?_
        exact xq_callV (pc := 12) (index := 182) (K := m_M_manyIn) (As := [xI x1]) (S := [xI 0, xI x2]) (L0 := [xR 53, xI x1]) (hI := d_M_isText_12) (hK := k_M_manyIn) (hlk := w_1822) (hnoM := rfl) (hS8 := Nat.le_of_ble_eq_true rfl) (ci := 11) (N := 38) (C := "BeaconIndexModel") (T := xF11) (hc := rfl) (hci := Nat.le_of_ble_eq_true rfl) (htb := (ft_53 F)) (hinst := w_1824) (hsel := sel_M_manyIn) (hlen := Nat.le_of_ble_eq_true rfl) (hst := rfl) (hL0 := rfl)  (xwp_mono hyp (fun v9 h9 q9 => xr_drop (L9 := [xZ, xZ, xZ]) (xdrz (xdrz (xdrz xdr0))) q9) (fun _ _ z9 => z9))
theorem d_M_isText_15 : decode prog_14_method_33_code 15 = .ok (.iconst 1, 1) := by decide +kernel
theorem d_M_isText_16 : decode prog_14_method_33_code 16 = .ok (.isub, 1) := by decide +kernel
theorem d_M_isText_17 : decode prog_14_method_33_code 17 = .ok (.invokestatic 101, 3) := by decide +kernel
theorem d_M_isText_20 : decode prog_14_method_33_code 20 = .ok (.ifCond .eq 7, 3) := by decide +kernel
theorem d_M_isText_23 : decode prog_14_method_33_code 23 = .ok (.iconst 1, 1) := by decide +kernel
theorem d_M_isText_24 : decode prog_14_method_33_code 24 = .ok (.goto 4, 3) := by decide +kernel
theorem v_M_isText_15 {G : XG} {d : Nat} {h : XH} {Q : XV → XH → Prop} {X : Nat → XH → Prop} {s0 s1 s2 : Int} (F : xFix h) (hyp : xiR (s0 - 1) ∧ ((s2 < s1 → (Q (xI 0) h)) ∧ (¬ s2 < s1 → (((s0 - 1) < s2 → (Q (xI 0) h)) ∧ (¬ (s0 - 1) < s2 → (Q (xI 1) h)))))) : xwp G m_M_isText (d + 3) 15 [xZ, xZ, xZ] [xI s0, xI s1, xI s2] h Q X := by
  have hnx9 : (93 : Int) ≤ xnx h := F.2.2
  refine xr_okS (fun hs9 => ?_)
  have r_s0 : -2147483648 ≤ s0 ∧ s0 ≤ 2147483647 := hs9 (xI s0) (.head _)
  have r_s1 : -2147483648 ≤ s1 ∧ s1 ≤ 2147483647 := hs9 (xI s1) (.tail _ (.head _))
  have r_s2 : -2147483648 ≤ s2 ∧ s2 ≤ 2147483647 := hs9 (xI s2) (.tail _ (.tail _ (.head _)))
  refine xr_iconst (pc := 15) (hI := d_M_isText_15) (hr := by decide) ?_
  obtain ⟨c9, hyp⟩ := hyp
  refine xr_isub (pc := 16) (hI := d_M_isText_16) (hr := c9) ?_
  refine xq_callS (pc := 17) (index := 101) (K := m_M_isBetween) (As := [xI s2, xI s1, xI (s0 - 1)]) (S := []) (L0 := [xI s2, xI s1, xI (s0 - 1)]) (hI := d_M_isText_17) (hK := k_M_isBetween) (hlk := w_1718) (hnoM := rfl) (hS8 := Nat.le_of_ble_eq_true rfl) (hstat := w_1719) (hlen := Nat.le_of_ble_eq_true rfl) (hst := rfl) (hL0 := rfl)  ?_
  refine xr_iload_n (pc := 0) (i := 0) (hI := d_M_isBetween_0) (hi := rfl) (hl := rfl) ?_
  refine xr_iload_n (pc := 1) (i := 1) (hI := d_M_isBetween_1) (hi := rfl) (hl := rfl) ?_
  refine xr_icmp_lt (pc := 2) (tgt := 14) (hI := d_M_isBetween_2) (ht := by decide) (fun q9 => ?_) (fun q9 => ?_)
  · replace hyp := hyp.1 q9
    have q1_ := q9
    clear q9
    refine xr_iconst (pc := 14) (hI := d_M_isBetween_14) (hr := by decide) ?_
    refine xr_ireturnT (S := []) (pc := 15) (hI := d_M_isBetween_15) (hr := rfl) (xnar_z (by decide)) ?_
    show xwp G m_M_isText (d + 3) 20 [xZ, xZ, xZ] [xI 0] _ _ _
    refine xr_if_eq (pc := 20) (tgt := 27) (hI := d_M_isText_20) (ht := by decide) (fun q9 => ?_) (fun q9 => ?_)
    · clear q9
      refine xr_iconst (pc := 27) (hI := d_M_isText_27) (hr := by decide) ?_
      refine xr_ireturnT (S := []) (pc := 28) (hI := d_M_isText_28) (hr := rfl) (xnar_z (by decide)) ?_
      exact hyp
    · exact absurd q9 (by decide)
  · replace hyp := hyp.2 q9
    have q1_ := q9
    clear q9
    refine xr_iload_n (pc := 5) (i := 0) (hI := d_M_isBetween_5) (hi := rfl) (hl := rfl) ?_
    refine xr_iload_n (pc := 6) (i := 2) (hI := d_M_isBetween_6) (hi := rfl) (hl := rfl) ?_
    refine xr_icmp_gt (pc := 7) (tgt := 14) (hI := d_M_isBetween_7) (ht := by decide) (fun q9 => ?_) (fun q9 => ?_)
    · replace hyp := hyp.1 q9
      have q2_ := q9
      clear q9
      refine xr_iconst (pc := 14) (hI := d_M_isBetween_14) (hr := by decide) ?_
      refine xr_ireturnT (S := []) (pc := 15) (hI := d_M_isBetween_15) (hr := rfl) (xnar_z (by decide)) ?_
      show xwp G m_M_isText (d + 3) 20 [xZ, xZ, xZ] [xI 0] _ _ _
      refine xr_if_eq (pc := 20) (tgt := 27) (hI := d_M_isText_20) (ht := by decide) (fun q9 => ?_) (fun q9 => ?_)
      · clear q9
        refine xr_iconst (pc := 27) (hI := d_M_isText_27) (hr := by decide) ?_
        refine xr_ireturnT (S := []) (pc := 28) (hI := d_M_isText_28) (hr := rfl) (xnar_z (by decide)) ?_
        exact hyp
      · exact absurd q9 (by decide)
    · replace hyp := hyp.2 q9
      have q2_ := q9
      clear q9
      refine xr_iconst (pc := 10) (hI := d_M_isBetween_10) (hr := by decide) ?_
      refine xr_goto (pc := 11) (tgt := 15) (hI := d_M_isBetween_11) (ht := by decide) ?_
      refine xr_ireturnT (S := []) (pc := 15) (hI := d_M_isBetween_15) (hr := rfl) (xnar_z (by decide)) ?_
      show xwp G m_M_isText (d + 3) 20 [xZ, xZ, xZ] [xI 1] _ _ _
      refine xr_if_eq (pc := 20) (tgt := 27) (hI := d_M_isText_20) (ht := by decide) (fun q9 => ?_) (fun q9 => ?_)
      · exact absurd q9 (by decide)
      · clear q9
        refine xr_iconst (pc := 23) (hI := d_M_isText_23) (hr := by decide) ?_
        refine xr_goto (pc := 24) (tgt := 28) (hI := d_M_isText_24) (ht := by decide) ?_
        refine xr_ireturnT (S := []) (pc := 28) (hI := d_M_isText_28) (hr := rfl) (xnar_z (by decide)) ?_
        exact hyp
abbrev m_M_at : XM := (⟨"BeaconIndexModel", "at", "(II)I"⟩, prog_14_method_34_code, 3, (some .int), [])
theorem d_M_at_0 : decode prog_14_method_34_code 0 = .ok (.aload_n 0, 1) := by decide +kernel
theorem d_M_at_1 : decode prog_14_method_34_code 1 = .ok (.getfield 13, 3) := by decide +kernel
theorem d_M_at_4 : decode prog_14_method_34_code 4 = .ok (.aload_n 0, 1) := by decide +kernel
theorem d_M_at_5 : decode prog_14_method_34_code 5 = .ok (.iload_n 1, 1) := by decide +kernel
theorem d_M_at_6 : decode prog_14_method_34_code 6 = .ok (.invokevirtual 179, 3) := by decide +kernel
theorem v_M_at_0 {G : XG} {d : Nat} {h : XH} {Q : XV → XH → Prop} {X : Nat → XH → Prop} {x1 x2 : Int} (F : xFix h) (hyp : (xwp G m_M_startOf (d + 1) 0 [xR 53, xI x1] [] h (fun v9 h9 => xwp G m_M_at (d + 2) 9 [xZ, xZ, xI x2] (xpush v9 [xR 55]) h9 Q X) X)) : xwp G m_M_at (d + 2) 0 [xR 53, xI x1, xI x2] [] h Q X := by
  have hnx9 : (93 : Int) ≤ xnx h := F.2.2
  refine xr_okL (fun hl9 => ?_)
  have r_x1 : -2147483648 ≤ x1 ∧ x1 ≤ 2147483647 := hl9 (xI x1) (.tail _ (.head _)) (Nat.le_of_ble_eq_true rfl)
  have r_x2 : -2147483648 ≤ x2 ∧ x2 ≤ 2147483647 := hl9 (xI x2) (.tail _ (.tail _ (.head _))) (Nat.le_of_ble_eq_true rfl)
  refine xr_aload_n (pc := 0) (i := 0) (hI := d_M_at_0) (hi := rfl) (hl := rfl) ?_
  refine xg_getf (pc := 1) (ci := 11) (k := 3) (N := 38) (v9 := 2) (v := 55) (T := xF11) (hI := d_M_at_1) (hw := w_1590) rfl xi11 (Or.inl rfl) (Nat.le_of_ble_eq_true rfl) (Nat.le_of_ble_eq_true rfl) rfl (ft_53 F) (fp_53_3 F) (fun f1_ => ?_)
  clear f1_
  refine xr_aload_n (pc := 4) (i := 0) (hI := d_M_at_4) (hi := rfl) (hl := rfl) ?_
  refine xr_iload_n (pc := 5) (i := 1) (hI := d_M_at_5) (hi := rfl) (hl := rfl) ?_
  exact xq_callV (pc := 6) (index := 179) (K := m_M_startOf) (As := [xI x1]) (S := [xR 55]) (L0 := [xR 53, xI x1]) (hI := d_M_at_6) (hK := k_M_startOf) (hlk := w_1736) (hnoM := rfl) (hS8 := Nat.le_of_ble_eq_true rfl) (ci := 11) (N := 38) (C := "BeaconIndexModel") (T := xF11) (hc := rfl) (hci := Nat.le_of_ble_eq_true rfl) (htb := (ft_53 F)) (hinst := w_1738) (hsel := sel_M_startOf) (hlen := Nat.le_of_ble_eq_true rfl) (hst := rfl) (hL0 := rfl)  (xwp_mono hyp (fun v9 h9 q9 => xr_drop (L9 := [xZ, xZ, xI x2]) (xdrz (xdrz (xdrs xdr0))) q9) (fun _ _ z9 => z9))
theorem d_M_at_9 : decode prog_14_method_34_code 9 = .ok (.iload_n 2, 1) := by decide +kernel
theorem d_M_at_10 : decode prog_14_method_34_code 10 = .ok (.iadd, 1) := by decide +kernel
theorem d_M_at_11 : decode prog_14_method_34_code 11 = .ok (.iaload, 1) := by decide +kernel
theorem d_M_at_12 : decode prog_14_method_34_code 12 = .ok (.ireturn, 1) := by decide +kernel
theorem v_M_at_9 {G : XG} {d : Nat} {h : XH} {Q : XV → XH → Prop} {X : Nat → XH → Prop} {x2 s0 : Int} (F : xFix h) (hyp : xiR (s0 + x2) ∧ 0 ≤ (s0 + x2) ∧ (s0 + x2) < 60 ∧ (Q (xI (xpl h 55 (s0 + x2))) h)) : xwp G m_M_at (d + 2) 9 [xZ, xZ, xI x2] [xI s0, xR 55] h Q X := by
  have hnx9 : (93 : Int) ≤ xnx h := F.2.2
  refine xr_okL (fun hl9 => ?_)
  have r_x2 : -2147483648 ≤ x2 ∧ x2 ≤ 2147483647 := hl9 (xI x2) (.tail _ (.tail _ (.head _))) (Nat.le_of_ble_eq_true rfl)
  refine xr_okS (fun hs9 => ?_)
  have r_s0 : -2147483648 ≤ s0 ∧ s0 ≤ 2147483647 := hs9 (xI s0) (.head _)
  refine xr_iload_n (pc := 9) (i := 2) (hI := d_M_at_9) (hi := rfl) (hl := rfl) ?_
  obtain ⟨c9, hyp⟩ := hyp
  refine xr_iadd (pc := 10) (hI := d_M_at_10) (hr := c9) ?_
  obtain ⟨c1_, hyp⟩ := hyp
  obtain ⟨c2_, hyp⟩ := hyp
  refine xg_iaload (pc := 11) (v := (xpl h 55 (s0 + x2))) (hI := d_M_at_11) (ft_55 F) c1_ (xlt_of (fl_55 F) c2_) rfl (fun f3_ => ?_)
  replace f3_ : -2147483648 ≤ (xpl h 55 (s0 + x2)) ∧ (xpl h 55 (s0 + x2)) ≤ 2147483647 := f3_
  refine xr_ireturn (S := []) (pc := 12) (hI := d_M_at_12) (hr := rfl) ?_
  exact hyp
abbrev m_M_base : XM := (⟨"BeaconIndexModel", "base", "(II)I"⟩, prog_14_method_35_code, 3, (some .int), [])
theorem d_M_base_0 : decode prog_14_method_35_code 0 = .ok (.sipush 200, 3) := by decide +kernel
theorem d_M_base_3 : decode prog_14_method_35_code 3 = .ok (.iload_n 1, 1) := by decide +kernel
theorem d_M_base_4 : decode prog_14_method_35_code 4 = .ok (.imul, 1) := by decide +kernel
theorem d_M_base_5 : decode prog_14_method_35_code 5 = .ok (.iload_n 2, 1) := by decide +kernel
theorem d_M_base_6 : decode prog_14_method_35_code 6 = .ok (.iconst 1, 1) := by decide +kernel
theorem d_M_base_7 : decode prog_14_method_35_code 7 = .ok (.if_icmp .ne 14, 3) := by decide +kernel
theorem d_M_base_21 : decode prog_14_method_35_code 21 = .ok (.iconst 0, 1) := by decide +kernel
theorem d_M_base_22 : decode prog_14_method_35_code 22 = .ok (.iadd, 1) := by decide +kernel
theorem d_M_base_23 : decode prog_14_method_35_code 23 = .ok (.ireturn, 1) := by decide +kernel
theorem d_M_base_10 : decode prog_14_method_35_code 10 = .ok (.aload_n 0, 1) := by decide +kernel
theorem d_M_base_11 : decode prog_14_method_35_code 11 = .ok (.getfield 32, 3) := by decide +kernel
theorem w_1599 : Cond.fieldLink "BeaconIndexModel" 32 "BeaconIndexModel" "length" "[I" ∈ lw_tbl := List.mem_append_right _ (List.mem_of_getElem? (i := 1599) (by decide +kernel))
theorem d_M_base_14 : decode prog_14_method_35_code 14 = .ok (.iconst 2, 1) := by decide +kernel
theorem d_M_base_15 : decode prog_14_method_35_code 15 = .ok (.iload_n 1, 1) := by decide +kernel
theorem d_M_base_16 : decode prog_14_method_35_code 16 = .ok (.imul, 1) := by decide +kernel
theorem d_M_base_17 : decode prog_14_method_35_code 17 = .ok (.iaload, 1) := by decide +kernel
theorem d_M_base_18 : decode prog_14_method_35_code 18 = .ok (.goto 4, 3) := by decide +kernel
theorem v_M_base_0 {G : XG} {d : Nat} {h : XH} {Q : XV → XH → Prop} {X : Nat → XH → Prop} {x1 x2 : Int} (F : xFix h) (hyp : xiR (200 * x1) ∧ ((x2 = 1 → 0 ≤ (2 * x1) ∧ (2 * x1) < 120 ∧ xiR ((200 * x1) + (xpl h 61 (2 * x1))) ∧ (Q (xI ((200 * x1) + (xpl h 61 (2 * x1)))) h)) ∧ (¬ x2 = 1 → (Q (xI ((200 * x1) + 0)) h)))) : xwp G m_M_base (d + 1) 0 [xR 53, xI x1, xI x2] [] h Q X := by
  have hnx9 : (93 : Int) ≤ xnx h := F.2.2
  refine xr_okL (fun hl9 => ?_)
  have r_x1 : -2147483648 ≤ x1 ∧ x1 ≤ 2147483647 := hl9 (xI x1) (.tail _ (.head _)) (Nat.le_of_ble_eq_true rfl)
  have r_x2 : -2147483648 ≤ x2 ∧ x2 ≤ 2147483647 := hl9 (xI x2) (.tail _ (.tail _ (.head _))) (Nat.le_of_ble_eq_true rfl)
  refine xr_sipush (pc := 0) (hI := d_M_base_0) (hr := by decide) (hv := by decide) ?_
  refine xr_iload_n (pc := 3) (i := 1) (hI := d_M_base_3) (hi := rfl) (hl := rfl) ?_
  obtain ⟨c9, hyp⟩ := hyp
  refine xr_imul (pc := 4) (hI := d_M_base_4) (hr := c9) ?_
  refine xr_iload_n (pc := 5) (i := 2) (hI := d_M_base_5) (hi := rfl) (hl := rfl) ?_
  refine xr_iconst (pc := 6) (hI := d_M_base_6) (hr := by decide) ?_
  refine xr_icmp_ne (pc := 7) (tgt := 21) (hI := d_M_base_7) (ht := by decide) (fun q9 => ?_) (fun q9 => ?_)
  · replace hyp := hyp.2 q9
    have q1_ := q9
    clear q9
    refine xr_iconst (pc := 21) (hI := d_M_base_21) (hr := by decide) ?_
    refine xr_iadd (pc := 22) (hI := d_M_base_22) (hr := ⟨by clear hyp; omega, by clear hyp; omega⟩) ?_
    refine xr_ireturn (S := []) (pc := 23) (hI := d_M_base_23) (hr := rfl) ?_
    exact hyp
  · replace hyp := hyp.1 q9
    have q1_ := q9
    clear q9
    refine xr_aload_n (pc := 10) (i := 0) (hI := d_M_base_10) (hi := rfl) (hl := rfl) ?_
    refine xg_getf (pc := 11) (ci := 11) (k := 12) (N := 38) (v9 := 2) (v := 61) (T := xF11) (hI := d_M_base_11) (hw := w_1599) rfl xi11 (Or.inl rfl) (Nat.le_of_ble_eq_true rfl) (Nat.le_of_ble_eq_true rfl) rfl (ft_53 F) (fp_53_12 F) (fun f2_ => ?_)
    clear f2_
    refine xr_iconst (pc := 14) (hI := d_M_base_14) (hr := by decide) ?_
    refine xr_iload_n (pc := 15) (i := 1) (hI := d_M_base_15) (hi := rfl) (hl := rfl) ?_
    refine xr_imul (pc := 16) (hI := d_M_base_16) (hr := ⟨by clear hyp; omega, by clear hyp; omega⟩) ?_
    obtain ⟨c3_, hyp⟩ := hyp
    obtain ⟨c4_, hyp⟩ := hyp
    refine xg_iaload (pc := 17) (v := (xpl h 61 (2 * x1))) (hI := d_M_base_17) (ft_61 F) c3_ (xlt_of (fl_61 F) c4_) rfl (fun f5_ => ?_)
    replace f5_ : -2147483648 ≤ (xpl h 61 (2 * x1)) ∧ (xpl h 61 (2 * x1)) ≤ 2147483647 := f5_
    refine xr_goto (pc := 18) (tgt := 22) (hI := d_M_base_18) (ht := by decide) ?_
    obtain ⟨c9, hyp⟩ := hyp
    refine xr_iadd (pc := 22) (hI := d_M_base_22) (hr := c9) ?_
    refine xr_ireturn (S := []) (pc := 23) (hI := d_M_base_23) (hr := rfl) ?_
    exact hyp
abbrev m_M_times : XM := (⟨"BeaconIndexModel", "times", "(IIJ)I"⟩, prog_14_method_36_code, 8, (some .int), [])
theorem d_M_times_0 : decode prog_14_method_36_code 0 = .ok (.iconst 0, 1) := by decide +kernel
theorem d_M_times_1 : decode prog_14_method_36_code 1 = .ok (.istore 5, 2) := by decide +kernel
theorem d_M_times_3 : decode prog_14_method_36_code 3 = .ok (.aload_n 0, 1) := by decide +kernel
theorem d_M_times_4 : decode prog_14_method_36_code 4 = .ok (.iload_n 1, 1) := by decide +kernel
theorem d_M_times_5 : decode prog_14_method_36_code 5 = .ok (.iload_n 2, 1) := by decide +kernel
theorem d_M_times_6 : decode prog_14_method_36_code 6 = .ok (.invokevirtual 214, 3) := by decide +kernel
theorem k_M_base : xCal m_M_base 2 := ⟨List.mem_append_right _ (List.mem_of_getElem? (i := 1888) (by decide +kernel)), w_15, Nat.le_of_ble_eq_true rfl, ⟨by decide +kernel, by decide +kernel⟩, by decide +kernel, by decide +kernel, rfl⟩
theorem w_1885 : Cond.methodLink "BeaconIndexModel" 214 ⟨"BeaconIndexModel", "base", "(II)I"⟩ ∈ lw_tbl := List.mem_append_right _ (List.mem_of_getElem? (i := 1885) (by decide +kernel))
theorem w_1887 : Cond.instanceMethod ⟨"BeaconIndexModel", "base", "(II)I"⟩ ∈ lw_tbl := List.mem_append_right _ (List.mem_of_getElem? (i := 1887) (by decide +kernel))
theorem sel_M_base : Cond.selects "BeaconIndexModel" ⟨"BeaconIndexModel", "base", "(II)I"⟩ ⟨"BeaconIndexModel", "base", "(II)I"⟩ ∈ lw_tbl := List.mem_append_left _ (by decide +kernel)
theorem v_M_times_0 {G : XG} {d : Nat} {h : XH} {Q : XV → XH → Prop} {X : Nat → XH → Prop} {x1 x2 x3 : Int} (F : xFix h) (hyp : (xwp G m_M_base (d + 1) 0 [xR 53, xI x1, xI x2] [] h (fun v9 h9 => xwp G m_M_times (d + 2) 9 [xR 53, xI x1, xI x2, xL x3, xZ, xI 0, xZ, xZ] (xpush v9 []) h9 Q X) X)) : xwp G m_M_times (d + 2) 0 [xR 53, xI x1, xI x2, xL x3, xZ, xZ, xZ, xZ] [] h Q X := by
  have hnx9 : (93 : Int) ≤ xnx h := F.2.2
  refine xr_okL (fun hl9 => ?_)
  have r_x1 : -2147483648 ≤ x1 ∧ x1 ≤ 2147483647 := hl9 (xI x1) (.tail _ (.head _)) (Nat.le_of_ble_eq_true rfl)
  have r_x2 : -2147483648 ≤ x2 ∧ x2 ≤ 2147483647 := hl9 (xI x2) (.tail _ (.tail _ (.head _))) (Nat.le_of_ble_eq_true rfl)
  have r_x3 : -9223372036854775808 ≤ x3 ∧ x3 ≤ 9223372036854775807 := hl9 (xL x3) (.tail _ (.tail _ (.tail _ (.head _)))) (Nat.le_of_ble_eq_true rfl)
  refine xr_iconst (pc := 0) (hI := d_M_times_0) (hr := by decide) ?_
  refine xr_istore (pc := 1) (i := 5) (L9 := [xR 53, xI x1, xI x2, xL x3, xZ, xI 0, xZ, xZ]) (hI := d_M_times_1) (hn := Nat.le_of_ble_eq_true rfl) (hL9 := rfl) ?_
  refine xr_aload_n (pc := 3) (i := 0) (hI := d_M_times_3) (hi := rfl) (hl := rfl) ?_
  refine xr_iload_n (pc := 4) (i := 1) (hI := d_M_times_4) (hi := rfl) (hl := rfl) ?_
  refine xr_iload_n (pc := 5) (i := 2) (hI := d_M_times_5) (hi := rfl) (hl := rfl) ?_
  exact xq_callV (pc := 6) (index := 214) (K := m_M_base) (As := [xI x1, xI x2]) (S := []) (L0 := [xR 53, xI x1, xI x2]) (hI := d_M_times_6) (hK := k_M_base) (hlk := w_1885) (hnoM := rfl) (hS8 := Nat.le_of_ble_eq_true rfl) (ci := 11) (N := 38) (C := "BeaconIndexModel") (T := xF11) (hc := rfl) (hci := Nat.le_of_ble_eq_true rfl) (htb := (ft_53 F)) (hinst := w_1887) (hsel := sel_M_base) (hlen := Nat.le_of_ble_eq_true rfl) (hst := rfl) (hL0 := rfl)  hyp
theorem d_M_times_9 : decode prog_14_method_36_code 9 = .ok (.istore 6, 2) := by decide +kernel
theorem d_M_times_11 : decode prog_14_method_36_code 11 = .ok (.iconst 0, 1) := by decide +kernel
theorem d_M_times_12 : decode prog_14_method_36_code 12 = .ok (.istore 7, 2) := by decide +kernel
theorem v_M_times_9 {G : XG} {d : Nat} {h : XH} {Q : XV → XH → Prop} {X : Nat → XH → Prop} {x1 x2 x3 x5 s0 : Int} (F : xFix h) (hyp : (xwp G m_M_times (d + 2) 14 [xR 53, xI x1, xI x2, xL x3, xZ, xI x5, xI s0, xI 0] [] h Q X)) : xwp G m_M_times (d + 2) 9 [xR 53, xI x1, xI x2, xL x3, xZ, xI x5, xZ, xZ] [xI s0] h Q X := by
  have hnx9 : (93 : Int) ≤ xnx h := F.2.2
  refine xr_okL (fun hl9 => ?_)
  have r_x1 : -2147483648 ≤ x1 ∧ x1 ≤ 2147483647 := hl9 (xI x1) (.tail _ (.head _)) (Nat.le_of_ble_eq_true rfl)
  have r_x2 : -2147483648 ≤ x2 ∧ x2 ≤ 2147483647 := hl9 (xI x2) (.tail _ (.tail _ (.head _))) (Nat.le_of_ble_eq_true rfl)
  have r_x3 : -9223372036854775808 ≤ x3 ∧ x3 ≤ 9223372036854775807 := hl9 (xL x3) (.tail _ (.tail _ (.tail _ (.head _)))) (Nat.le_of_ble_eq_true rfl)
  have r_x5 : -2147483648 ≤ x5 ∧ x5 ≤ 2147483647 := hl9 (xI x5) (.tail _ (.tail _ (.tail _ (.tail _ (.tail _ (.head _)))))) (Nat.le_of_ble_eq_true rfl)
  refine xr_okS (fun hs9 => ?_)
  have r_s0 : -2147483648 ≤ s0 ∧ s0 ≤ 2147483647 := hs9 (xI s0) (.head _)
  refine xr_istore (pc := 9) (i := 6) (L9 := [xR 53, xI x1, xI x2, xL x3, xZ, xI x5, xI s0, xZ]) (hI := d_M_times_9) (hn := Nat.le_of_ble_eq_true rfl) (hL9 := rfl) ?_
  refine xr_iconst (pc := 11) (hI := d_M_times_11) (hr := by decide) ?_
  refine xr_istore (pc := 12) (i := 7) (L9 := [xR 53, xI x1, xI x2, xL x3, xZ, xI x5, xI s0, xI 0]) (hI := d_M_times_12) (hn := Nat.le_of_ble_eq_true rfl) (hL9 := rfl) ?_
  exact hyp
theorem d_M_times_14 : decode prog_14_method_36_code 14 = .ok (.iload 7, 2) := by decide +kernel
theorem d_M_times_16 : decode prog_14_method_36_code 16 = .ok (.aload_n 0, 1) := by decide +kernel
theorem d_M_times_17 : decode prog_14_method_36_code 17 = .ok (.getfield 32, 3) := by decide +kernel
theorem d_M_times_20 : decode prog_14_method_36_code 20 = .ok (.iconst 2, 1) := by decide +kernel
theorem d_M_times_21 : decode prog_14_method_36_code 21 = .ok (.iload_n 1, 1) := by decide +kernel
theorem d_M_times_22 : decode prog_14_method_36_code 22 = .ok (.imul, 1) := by decide +kernel
theorem d_M_times_23 : decode prog_14_method_36_code 23 = .ok (.iload_n 2, 1) := by decide +kernel
theorem d_M_times_24 : decode prog_14_method_36_code 24 = .ok (.iadd, 1) := by decide +kernel
theorem d_M_times_25 : decode prog_14_method_36_code 25 = .ok (.iaload, 1) := by decide +kernel
theorem d_M_times_26 : decode prog_14_method_36_code 26 = .ok (.if_icmp .ge 34, 3) := by decide +kernel
theorem d_M_times_60 : decode prog_14_method_36_code 60 = .ok (.iload 5, 2) := by decide +kernel
theorem d_M_times_62 : decode prog_14_method_36_code 62 = .ok (.ireturn, 1) := by decide +kernel
theorem d_M_times_29 : decode prog_14_method_36_code 29 = .ok (.iload 5, 2) := by decide +kernel
theorem d_M_times_31 : decode prog_14_method_36_code 31 = .ok (.aload_n 0, 1) := by decide +kernel
theorem d_M_times_32 : decode prog_14_method_36_code 32 = .ok (.getfield 35, 3) := by decide +kernel
theorem w_1600 : Cond.fieldLink "BeaconIndexModel" 35 "BeaconIndexModel" "words" "[J" ∈ lw_tbl := List.mem_append_right _ (List.mem_of_getElem? (i := 1600) (by decide +kernel))
theorem d_M_times_35 : decode prog_14_method_36_code 35 = .ok (.iload 6, 2) := by decide +kernel
theorem d_M_times_37 : decode prog_14_method_36_code 37 = .ok (.iload 7, 2) := by decide +kernel
theorem d_M_times_39 : decode prog_14_method_36_code 39 = .ok (.iadd, 1) := by decide +kernel
theorem d_M_times_40 : decode prog_14_method_36_code 40 = .ok (.laload, 1) := by decide +kernel
theorem d_M_times_41 : decode prog_14_method_36_code 41 = .ok (.lload_n 3, 1) := by decide +kernel
theorem d_M_times_42 : decode prog_14_method_36_code 42 = .ok (.lcmp, 1) := by decide +kernel
theorem d_M_times_43 : decode prog_14_method_36_code 43 = .ok (.ifCond .ne 7, 3) := by decide +kernel
theorem d_M_times_50 : decode prog_14_method_36_code 50 = .ok (.iconst 0, 1) := by decide +kernel
theorem d_M_times_51 : decode prog_14_method_36_code 51 = .ok (.iadd, 1) := by decide +kernel
theorem d_M_times_52 : decode prog_14_method_36_code 52 = .ok (.istore 5, 2) := by decide +kernel
theorem d_M_times_54 : decode prog_14_method_36_code 54 = .ok (.iinc 7 1, 3) := by decide +kernel
theorem d_M_times_57 : decode prog_14_method_36_code 57 = .ok (.goto (-43), 3) := by decide +kernel
theorem d_M_times_46 : decode prog_14_method_36_code 46 = .ok (.iconst 1, 1) := by decide +kernel
theorem d_M_times_47 : decode prog_14_method_36_code 47 = .ok (.goto 4, 3) := by decide +kernel
theorem v_M_times_14 {G : XG} {d : Nat} {h : XH} {Q : XV → XH → Prop} {X : Nat → XH → Prop} {x1 x2 x3 x5 x6 x7 : Int} (F : xFix h) (hyp : xiR (2 * x1) ∧ xiR ((2 * x1) + x2) ∧ 0 ≤ ((2 * x1) + x2) ∧ ((2 * x1) + x2) < 120 ∧ (((xpl h 61 ((2 * x1) + x2)) ≤ x7 → (Q (xI x5) h)) ∧ (¬ (xpl h 61 ((2 * x1) + x2)) ≤ x7 → xiR (x6 + x7) ∧ 0 ≤ (x6 + x7) ∧ (x6 + x7) < 12000 ∧ (((xpl h 62 (x6 + x7)) = x3 → xiR (x5 + 1) ∧ (xwp G m_M_times (d + 2) 14 [xR 53, xI x1, xI x2, xL x3, xZ, xI (x5 + 1), xI x6, xI (x7 + 1)] [] h Q X)) ∧ (¬ (xpl h 62 (x6 + x7)) = x3 → (xwp G m_M_times (d + 2) 14 [xR 53, xI x1, xI x2, xL x3, xZ, xI (x5 + 0), xI x6, xI (x7 + 1)] [] h Q X)))))) : xwp G m_M_times (d + 2) 14 [xR 53, xI x1, xI x2, xL x3, xZ, xI x5, xI x6, xI x7] [] h Q X := by
  have hnx9 : (93 : Int) ≤ xnx h := F.2.2
  refine xr_okL (fun hl9 => ?_)
  have r_x1 : -2147483648 ≤ x1 ∧ x1 ≤ 2147483647 := hl9 (xI x1) (.tail _ (.head _)) (Nat.le_of_ble_eq_true rfl)
  have r_x2 : -2147483648 ≤ x2 ∧ x2 ≤ 2147483647 := hl9 (xI x2) (.tail _ (.tail _ (.head _))) (Nat.le_of_ble_eq_true rfl)
  have r_x3 : -9223372036854775808 ≤ x3 ∧ x3 ≤ 9223372036854775807 := hl9 (xL x3) (.tail _ (.tail _ (.tail _ (.head _)))) (Nat.le_of_ble_eq_true rfl)
  have r_x5 : -2147483648 ≤ x5 ∧ x5 ≤ 2147483647 := hl9 (xI x5) (.tail _ (.tail _ (.tail _ (.tail _ (.tail _ (.head _)))))) (Nat.le_of_ble_eq_true rfl)
  have r_x6 : -2147483648 ≤ x6 ∧ x6 ≤ 2147483647 := hl9 (xI x6) (.tail _ (.tail _ (.tail _ (.tail _ (.tail _ (.tail _ (.head _))))))) (Nat.le_of_ble_eq_true rfl)
  have r_x7 : -2147483648 ≤ x7 ∧ x7 ≤ 2147483647 := hl9 (xI x7) (.tail _ (.tail _ (.tail _ (.tail _ (.tail _ (.tail _ (.tail _ (.head _)))))))) (Nat.le_of_ble_eq_true rfl)
  refine xr_iload (pc := 14) (i := 7) (hI := d_M_times_14) (hl := rfl) ?_
  refine xr_aload_n (pc := 16) (i := 0) (hI := d_M_times_16) (hi := rfl) (hl := rfl) ?_
  refine xg_getf (pc := 17) (ci := 11) (k := 12) (N := 38) (v9 := 2) (v := 61) (T := xF11) (hI := d_M_times_17) (hw := w_1599) rfl xi11 (Or.inl rfl) (Nat.le_of_ble_eq_true rfl) (Nat.le_of_ble_eq_true rfl) rfl (ft_53 F) (fp_53_12 F) (fun f1_ => ?_)
  clear f1_
  refine xr_iconst (pc := 20) (hI := d_M_times_20) (hr := by decide) ?_
  refine xr_iload_n (pc := 21) (i := 1) (hI := d_M_times_21) (hi := rfl) (hl := rfl) ?_
  obtain ⟨c9, hyp⟩ := hyp
  refine xr_imul (pc := 22) (hI := d_M_times_22) (hr := c9) ?_
  refine xr_iload_n (pc := 23) (i := 2) (hI := d_M_times_23) (hi := rfl) (hl := rfl) ?_
  obtain ⟨c9, hyp⟩ := hyp
  refine xr_iadd (pc := 24) (hI := d_M_times_24) (hr := c9) ?_
  obtain ⟨c2_, hyp⟩ := hyp
  obtain ⟨c3_, hyp⟩ := hyp
  refine xg_iaload (pc := 25) (v := (xpl h 61 ((2 * x1) + x2))) (hI := d_M_times_25) (ft_61 F) c2_ (xlt_of (fl_61 F) c3_) rfl (fun f4_ => ?_)
  replace f4_ : -2147483648 ≤ (xpl h 61 ((2 * x1) + x2)) ∧ (xpl h 61 ((2 * x1) + x2)) ≤ 2147483647 := f4_
  refine xr_icmp_ge (pc := 26) (tgt := 60) (hI := d_M_times_26) (ht := by decide) (fun q9 => ?_) (fun q9 => ?_)
  · replace hyp := hyp.1 q9
    have q5_ := q9
    clear q9
    refine xr_iload (pc := 60) (i := 5) (hI := d_M_times_60) (hl := rfl) ?_
    refine xr_ireturn (S := []) (pc := 62) (hI := d_M_times_62) (hr := rfl) ?_
    exact hyp
  · replace hyp := hyp.2 q9
    have q5_ := q9
    clear q9
    refine xr_iload (pc := 29) (i := 5) (hI := d_M_times_29) (hl := rfl) ?_
    refine xr_aload_n (pc := 31) (i := 0) (hI := d_M_times_31) (hi := rfl) (hl := rfl) ?_
    refine xg_getf (pc := 32) (ci := 11) (k := 13) (N := 38) (v9 := 2) (v := 62) (T := xF11) (hI := d_M_times_32) (hw := w_1600) rfl xi11 (Or.inl rfl) (Nat.le_of_ble_eq_true rfl) (Nat.le_of_ble_eq_true rfl) rfl (ft_53 F) (fp_53_13 F) (fun f6_ => ?_)
    clear f6_
    refine xr_iload (pc := 35) (i := 6) (hI := d_M_times_35) (hl := rfl) ?_
    refine xr_iload (pc := 37) (i := 7) (hI := d_M_times_37) (hl := rfl) ?_
    obtain ⟨c9, hyp⟩ := hyp
    refine xr_iadd (pc := 39) (hI := d_M_times_39) (hr := c9) ?_
    obtain ⟨c7_, hyp⟩ := hyp
    obtain ⟨c8_, hyp⟩ := hyp
    refine xg_laload (pc := 40) (v := (xpl h 62 (x6 + x7))) (hI := d_M_times_40) (ft_62 F) c7_ (xlt_of (fl_62 F) c8_) rfl (fun f9_ => ?_)
    replace f9_ : -9223372036854775808 ≤ (xpl h 62 (x6 + x7)) ∧ (xpl h 62 (x6 + x7)) ≤ 9223372036854775807 := f9_
    refine xr_lload_n (pc := 41) (i := 3) (hI := d_M_times_41) (hi := rfl) (hl := rfl) ?_
    refine xr_lcmp (pc := 42) (hI := d_M_times_42) ?_
    refine xg_lif_ne (pc := 43) (tgt := 50) (hI := d_M_times_43) (ht := by decide) (fun q9 => ?_) (fun q9 => ?_)
    · replace hyp := hyp.2 q9
      have q10_ := q9
      clear q9
      refine xr_iconst (pc := 50) (hI := d_M_times_50) (hr := by decide) ?_
      refine xr_iadd (pc := 51) (hI := d_M_times_51) (hr := ⟨by clear hyp; omega, by clear hyp; omega⟩) ?_
      refine xr_istore (pc := 52) (i := 5) (L9 := [xR 53, xI x1, xI x2, xL x3, xZ, xI (x5 + 0), xI x6, xI x7]) (hI := d_M_times_52) (hn := Nat.le_of_ble_eq_true rfl) (hL9 := rfl) ?_
      refine xr_iinc (pc := 54) (i := 7) (L9 := [xR 53, xI x1, xI x2, xL x3, xZ, xI (x5 + 0), xI x6, xI (x7 + 1)]) (hI := d_M_times_54) (hl := rfl) (hn := Nat.le_of_ble_eq_true rfl) (hr := ⟨by clear hyp; omega, by clear hyp; omega⟩) (hL9 := rfl) ?_
      refine xr_goto (pc := 57) (tgt := 14) (hI := d_M_times_57) (ht := by decide) ?_
      exact hyp
    · replace hyp := hyp.1 q9
      have q10_ := q9
      clear q9
      refine xr_iconst (pc := 46) (hI := d_M_times_46) (hr := by decide) ?_
      refine xr_goto (pc := 47) (tgt := 51) (hI := d_M_times_47) (ht := by decide) ?_
      obtain ⟨c9, hyp⟩ := hyp
      refine xr_iadd (pc := 51) (hI := d_M_times_51) (hr := c9) ?_
      refine xr_istore (pc := 52) (i := 5) (L9 := [xR 53, xI x1, xI x2, xL x3, xZ, xI (x5 + 1), xI x6, xI x7]) (hI := d_M_times_52) (hn := Nat.le_of_ble_eq_true rfl) (hL9 := rfl) ?_
      refine xr_iinc (pc := 54) (i := 7) (L9 := [xR 53, xI x1, xI x2, xL x3, xZ, xI (x5 + 1), xI x6, xI (x7 + 1)]) (hI := d_M_times_54) (hl := rfl) (hn := Nat.le_of_ble_eq_true rfl) (hr := ⟨by clear hyp; omega, by clear hyp; omega⟩) (hL9 := rfl) ?_
      refine xr_goto (pc := 57) (tgt := 14) (hI := d_M_times_57) (ht := by decide) ?_
      exact hyp
abbrev m_M_manyWith : XM := (⟨"BeaconIndexModel", "manyWith", "(I)I"⟩, prog_14_method_37_code, 4, (some .int), [])
theorem d_M_manyWith_0 : decode prog_14_method_37_code 0 = .ok (.iconst 0, 1) := by decide +kernel
theorem d_M_manyWith_1 : decode prog_14_method_37_code 1 = .ok (.istore_n 2, 1) := by decide +kernel
theorem d_M_manyWith_2 : decode prog_14_method_37_code 2 = .ok (.iconst 0, 1) := by decide +kernel
theorem d_M_manyWith_3 : decode prog_14_method_37_code 3 = .ok (.istore_n 3, 1) := by decide +kernel
theorem v_M_manyWith_0 {G : XG} {d : Nat} {h : XH} {Q : XV → XH → Prop} {X : Nat → XH → Prop} {x1 : Int} (F : xFix h) (hyp : (xwp G m_M_manyWith (d + 3) 4 [xR 53, xI x1, xI 0, xI 0] [] h Q X)) : xwp G m_M_manyWith (d + 3) 0 [xR 53, xI x1, xZ, xZ] [] h Q X := by
  have hnx9 : (93 : Int) ≤ xnx h := F.2.2
  refine xr_okL (fun hl9 => ?_)
  have r_x1 : -2147483648 ≤ x1 ∧ x1 ≤ 2147483647 := hl9 (xI x1) (.tail _ (.head _)) (Nat.le_of_ble_eq_true rfl)
  refine xr_iconst (pc := 0) (hI := d_M_manyWith_0) (hr := by decide) ?_
  refine xr_istore_n (pc := 1) (i := 2) (L9 := [xR 53, xI x1, xI 0, xZ]) (hI := d_M_manyWith_1) (hi := rfl) (hn := Nat.le_of_ble_eq_true rfl) (hL9 := rfl) ?_
  refine xr_iconst (pc := 2) (hI := d_M_manyWith_2) (hr := by decide) ?_
  refine xr_istore_n (pc := 3) (i := 3) (L9 := [xR 53, xI x1, xI 0, xI 0]) (hI := d_M_manyWith_3) (hi := rfl) (hn := Nat.le_of_ble_eq_true rfl) (hL9 := rfl) ?_
  exact hyp
theorem d_M_manyWith_4 : decode prog_14_method_37_code 4 = .ok (.iload_n 3, 1) := by decide +kernel
theorem d_M_manyWith_5 : decode prog_14_method_37_code 5 = .ok (.aload_n 0, 1) := by decide +kernel
theorem d_M_manyWith_6 : decode prog_14_method_37_code 6 = .ok (.invokevirtual 191, 3) := by decide +kernel
theorem v_M_manyWith_4 {G : XG} {d : Nat} {h : XH} {Q : XV → XH → Prop} {X : Nat → XH → Prop} {x1 x2 x3 : Int} (F : xFix h) (hyp : (xwp G m_M_inSegments (d + 2) 0 [xR 53] [] h (fun v9 h9 => xwp G m_M_manyWith (d + 3) 9 [xR 53, xI x1, xI x2, xI x3] (xpush v9 [xI x3]) h9 Q X) X)) : xwp G m_M_manyWith (d + 3) 4 [xR 53, xI x1, xI x2, xI x3] [] h Q X := by
  have hnx9 : (93 : Int) ≤ xnx h := F.2.2
  refine xr_okL (fun hl9 => ?_)
  have r_x1 : -2147483648 ≤ x1 ∧ x1 ≤ 2147483647 := hl9 (xI x1) (.tail _ (.head _)) (Nat.le_of_ble_eq_true rfl)
  have r_x2 : -2147483648 ≤ x2 ∧ x2 ≤ 2147483647 := hl9 (xI x2) (.tail _ (.tail _ (.head _))) (Nat.le_of_ble_eq_true rfl)
  have r_x3 : -2147483648 ≤ x3 ∧ x3 ≤ 2147483647 := hl9 (xI x3) (.tail _ (.tail _ (.tail _ (.head _)))) (Nat.le_of_ble_eq_true rfl)
  refine xr_iload_n (pc := 4) (i := 3) (hI := d_M_manyWith_4) (hi := rfl) (hl := rfl) ?_
  refine xr_aload_n (pc := 5) (i := 0) (hI := d_M_manyWith_5) (hi := rfl) (hl := rfl) ?_
  exact xq_callV (pc := 6) (index := 191) (K := m_M_inSegments) (As := []) (S := [xI x3]) (L0 := [xR 53]) (hI := d_M_manyWith_6) (hK := k_M_inSegments) (hlk := w_1732) (hnoM := rfl) (hS8 := Nat.le_of_ble_eq_true rfl) (ci := 11) (N := 38) (C := "BeaconIndexModel") (T := xF11) (hc := rfl) (hci := Nat.le_of_ble_eq_true rfl) (htb := (ft_53 F)) (hinst := w_1734) (hsel := sel_M_inSegments) (hlen := Nat.le_of_ble_eq_true rfl) (hst := rfl) (hL0 := rfl)  hyp
theorem d_M_manyWith_9 : decode prog_14_method_37_code 9 = .ok (.if_icmp .ge 35, 3) := by decide +kernel
theorem d_M_manyWith_44 : decode prog_14_method_37_code 44 = .ok (.iload_n 2, 1) := by decide +kernel
theorem d_M_manyWith_45 : decode prog_14_method_37_code 45 = .ok (.ireturn, 1) := by decide +kernel
theorem d_M_manyWith_12 : decode prog_14_method_37_code 12 = .ok (.iload_n 2, 1) := by decide +kernel
theorem d_M_manyWith_13 : decode prog_14_method_37_code 13 = .ok (.aload_n 0, 1) := by decide +kernel
theorem d_M_manyWith_14 : decode prog_14_method_37_code 14 = .ok (.aload_n 0, 1) := by decide +kernel
theorem d_M_manyWith_15 : decode prog_14_method_37_code 15 = .ok (.getfield 13, 3) := by decide +kernel
theorem d_M_manyWith_18 : decode prog_14_method_37_code 18 = .ok (.iload_n 3, 1) := by decide +kernel
theorem d_M_manyWith_19 : decode prog_14_method_37_code 19 = .ok (.iaload, 1) := by decide +kernel
theorem d_M_manyWith_20 : decode prog_14_method_37_code 20 = .ok (.iload_n 1, 1) := by decide +kernel
theorem d_M_manyWith_21 : decode prog_14_method_37_code 21 = .ok (.aload_n 0, 1) := by decide +kernel
theorem d_M_manyWith_22 : decode prog_14_method_37_code 22 = .ok (.getfield 217, 3) := by decide +kernel
theorem w_1601 : Cond.fieldLink "BeaconIndexModel" 217 "BeaconIndexModel" "word" "J" ∈ lw_tbl := List.mem_append_right _ (List.mem_of_getElem? (i := 1601) (by decide +kernel))
theorem d_M_manyWith_25 : decode prog_14_method_37_code 25 = .ok (.invokevirtual 221, 3) := by decide +kernel
theorem k_M_times : xCal m_M_times 3 := ⟨List.mem_append_right _ (List.mem_of_getElem? (i := 2227) (by decide +kernel)), w_15, Nat.le_of_ble_eq_true rfl, ⟨by decide +kernel, by decide +kernel⟩, by decide +kernel, by decide +kernel, rfl⟩
theorem w_2224 : Cond.methodLink "BeaconIndexModel" 221 ⟨"BeaconIndexModel", "times", "(IIJ)I"⟩ ∈ lw_tbl := List.mem_append_right _ (List.mem_of_getElem? (i := 2224) (by decide +kernel))
theorem w_2226 : Cond.instanceMethod ⟨"BeaconIndexModel", "times", "(IIJ)I"⟩ ∈ lw_tbl := List.mem_append_right _ (List.mem_of_getElem? (i := 2226) (by decide +kernel))
theorem sel_M_times : Cond.selects "BeaconIndexModel" ⟨"BeaconIndexModel", "times", "(IIJ)I"⟩ ⟨"BeaconIndexModel", "times", "(IIJ)I"⟩ ∈ lw_tbl := List.mem_append_left _ (by decide +kernel)
theorem v_M_manyWith_9 {G : XG} {d : Nat} {h : XH} {Q : XV → XH → Prop} {X : Nat → XH → Prop} {x1 x2 x3 s0 s1 : Int} (F : xFix h) (hyp : ((s0 ≤ s1 → (Q (xI x2) h)) ∧ (¬ s0 ≤ s1 → 0 ≤ x3 ∧ x3 < 60 ∧ (xwp G m_M_times (d + 2) 0 [xR 53, xI (xpl h 55 x3), xI x1, xL (xpl h 53 14), xZ, xZ, xZ, xZ] [] h (fun v9 h9 => xwp G m_M_manyWith (d + 3) 28 [xR 53, xI x1, xZ, xI x3] (xpush v9 [xI x2]) h9 Q X) X)))) : xwp G m_M_manyWith (d + 3) 9 [xR 53, xI x1, xI x2, xI x3] [xI s0, xI s1] h Q X := by
  have hnx9 : (93 : Int) ≤ xnx h := F.2.2
  refine xr_okL (fun hl9 => ?_)
  have r_x1 : -2147483648 ≤ x1 ∧ x1 ≤ 2147483647 := hl9 (xI x1) (.tail _ (.head _)) (Nat.le_of_ble_eq_true rfl)
  have r_x2 : -2147483648 ≤ x2 ∧ x2 ≤ 2147483647 := hl9 (xI x2) (.tail _ (.tail _ (.head _))) (Nat.le_of_ble_eq_true rfl)
  have r_x3 : -2147483648 ≤ x3 ∧ x3 ≤ 2147483647 := hl9 (xI x3) (.tail _ (.tail _ (.tail _ (.head _)))) (Nat.le_of_ble_eq_true rfl)
  refine xr_okS (fun hs9 => ?_)
  have r_s0 : -2147483648 ≤ s0 ∧ s0 ≤ 2147483647 := hs9 (xI s0) (.head _)
  have r_s1 : -2147483648 ≤ s1 ∧ s1 ≤ 2147483647 := hs9 (xI s1) (.tail _ (.head _))
  refine xr_icmp_ge (pc := 9) (tgt := 44) (hI := d_M_manyWith_9) (ht := by decide) (fun q9 => ?_) (fun q9 => ?_)
  · replace hyp := hyp.1 q9
    have q1_ := q9
    clear q9
    refine xr_iload_n (pc := 44) (i := 2) (hI := d_M_manyWith_44) (hi := rfl) (hl := rfl) ?_
    refine xr_ireturn (S := []) (pc := 45) (hI := d_M_manyWith_45) (hr := rfl) ?_
    exact hyp
  · replace hyp := hyp.2 q9
    have q1_ := q9
    clear q9
    refine xr_iload_n (pc := 12) (i := 2) (hI := d_M_manyWith_12) (hi := rfl) (hl := rfl) ?_
    refine xr_aload_n (pc := 13) (i := 0) (hI := d_M_manyWith_13) (hi := rfl) (hl := rfl) ?_
    refine xr_aload_n (pc := 14) (i := 0) (hI := d_M_manyWith_14) (hi := rfl) (hl := rfl) ?_
    refine xg_getf (pc := 15) (ci := 11) (k := 3) (N := 38) (v9 := 2) (v := 55) (T := xF11) (hI := d_M_manyWith_15) (hw := w_1590) rfl xi11 (Or.inl rfl) (Nat.le_of_ble_eq_true rfl) (Nat.le_of_ble_eq_true rfl) rfl (ft_53 F) (fp_53_3 F) (fun f2_ => ?_)
    clear f2_
    refine xr_iload_n (pc := 18) (i := 3) (hI := d_M_manyWith_18) (hi := rfl) (hl := rfl) ?_
    obtain ⟨c3_, hyp⟩ := hyp
    obtain ⟨c4_, hyp⟩ := hyp
    refine xg_iaload (pc := 19) (v := (xpl h 55 x3)) (hI := d_M_manyWith_19) (ft_55 F) c3_ (xlt_of (fl_55 F) c4_) rfl (fun f5_ => ?_)
    replace f5_ : -2147483648 ≤ (xpl h 55 x3) ∧ (xpl h 55 x3) ≤ 2147483647 := f5_
    refine xr_iload_n (pc := 20) (i := 1) (hI := d_M_manyWith_20) (hi := rfl) (hl := rfl) ?_
    refine xr_aload_n (pc := 21) (i := 0) (hI := d_M_manyWith_21) (hi := rfl) (hl := rfl) ?_
    refine xg_getf (pc := 22) (ci := 11) (k := 14) (N := 38) (v9 := 1) (v := (xpl h 53 14)) (T := xF11) (hI := d_M_manyWith_22) (hw := w_1601) rfl xi11 (Or.inl rfl) (Nat.le_of_ble_eq_true rfl) (Nat.le_of_ble_eq_true rfl) rfl (ft_53 F) rfl (fun f6_ => ?_)
    replace f6_ : -9223372036854775808 ≤ (xpl h 53 14) ∧ (xpl h 53 14) ≤ 9223372036854775807 := f6_
    exact xq_callV (pc := 25) (index := 221) (K := m_M_times) (As := [xI (xpl h 55 x3), xI x1, xL (xpl h 53 14)]) (S := [xI x2]) (L0 := [xR 53, xI (xpl h 55 x3), xI x1, xL (xpl h 53 14), xZ, xZ, xZ, xZ]) (hI := d_M_manyWith_25) (hK := k_M_times) (hlk := w_2224) (hnoM := rfl) (hS8 := Nat.le_of_ble_eq_true rfl) (ci := 11) (N := 38) (C := "BeaconIndexModel") (T := xF11) (hc := rfl) (hci := Nat.le_of_ble_eq_true rfl) (htb := (ft_53 F)) (hinst := w_2226) (hsel := sel_M_times) (hlen := Nat.le_of_ble_eq_true rfl) (hst := rfl) (hL0 := rfl)  (xwp_mono hyp (fun v9 h9 q9 => xr_drop (L9 := [xR 53, xI x1, xZ, xI x3]) (xdrs (xdrs (xdrz (xdrs xdr0)))) q9) (fun _ _ z9 => z9))
theorem d_M_manyWith_28 : decode prog_14_method_37_code 28 = .ok (.ifCond .le 7, 3) := by decide +kernel
theorem d_M_manyWith_35 : decode prog_14_method_37_code 35 = .ok (.iconst 0, 1) := by decide +kernel
theorem d_M_manyWith_36 : decode prog_14_method_37_code 36 = .ok (.iadd, 1) := by decide +kernel
theorem d_M_manyWith_37 : decode prog_14_method_37_code 37 = .ok (.istore_n 2, 1) := by decide +kernel
theorem d_M_manyWith_38 : decode prog_14_method_37_code 38 = .ok (.iinc 3 1, 3) := by decide +kernel
theorem d_M_manyWith_41 : decode prog_14_method_37_code 41 = .ok (.goto (-37), 3) := by decide +kernel
theorem d_M_manyWith_31 : decode prog_14_method_37_code 31 = .ok (.iconst 1, 1) := by decide +kernel
theorem d_M_manyWith_32 : decode prog_14_method_37_code 32 = .ok (.goto 4, 3) := by decide +kernel
theorem v_M_manyWith_28 {G : XG} {d : Nat} {h : XH} {Q : XV → XH → Prop} {X : Nat → XH → Prop} {x1 x3 s0 s1 : Int} (F : xFix h) (hyp : ((s0 ≤ 0 → xiR (x3 + 1) ∧ (xwp G m_M_manyWith (d + 3) 4 [xR 53, xI x1, xI (s1 + 0), xI (x3 + 1)] [] h Q X)) ∧ (¬ s0 ≤ 0 → xiR (s1 + 1) ∧ xiR (x3 + 1) ∧ (xwp G m_M_manyWith (d + 3) 4 [xR 53, xI x1, xI (s1 + 1), xI (x3 + 1)] [] h Q X)))) : xwp G m_M_manyWith (d + 3) 28 [xR 53, xI x1, xZ, xI x3] [xI s0, xI s1] h Q X := by
  have hnx9 : (93 : Int) ≤ xnx h := F.2.2
  refine xr_okL (fun hl9 => ?_)
  have r_x1 : -2147483648 ≤ x1 ∧ x1 ≤ 2147483647 := hl9 (xI x1) (.tail _ (.head _)) (Nat.le_of_ble_eq_true rfl)
  have r_x3 : -2147483648 ≤ x3 ∧ x3 ≤ 2147483647 := hl9 (xI x3) (.tail _ (.tail _ (.tail _ (.head _)))) (Nat.le_of_ble_eq_true rfl)
  refine xr_okS (fun hs9 => ?_)
  have r_s0 : -2147483648 ≤ s0 ∧ s0 ≤ 2147483647 := hs9 (xI s0) (.head _)
  have r_s1 : -2147483648 ≤ s1 ∧ s1 ≤ 2147483647 := hs9 (xI s1) (.tail _ (.head _))
  refine xr_if_le (pc := 28) (tgt := 35) (hI := d_M_manyWith_28) (ht := by decide) (fun q9 => ?_) (fun q9 => ?_)
  · replace hyp := hyp.1 q9
    have q1_ := q9
    clear q9
    refine xr_iconst (pc := 35) (hI := d_M_manyWith_35) (hr := by decide) ?_
    refine xr_iadd (pc := 36) (hI := d_M_manyWith_36) (hr := ⟨by clear hyp; omega, by clear hyp; omega⟩) ?_
    refine xr_istore_n (pc := 37) (i := 2) (L9 := [xR 53, xI x1, xI (s1 + 0), xI x3]) (hI := d_M_manyWith_37) (hi := rfl) (hn := Nat.le_of_ble_eq_true rfl) (hL9 := rfl) ?_
    obtain ⟨c9, hyp⟩ := hyp
    refine xr_iinc (pc := 38) (i := 3) (L9 := [xR 53, xI x1, xI (s1 + 0), xI (x3 + 1)]) (hI := d_M_manyWith_38) (hl := rfl) (hn := Nat.le_of_ble_eq_true rfl) (hr := c9) (hL9 := rfl) ?_
    refine xr_goto (pc := 41) (tgt := 4) (hI := d_M_manyWith_41) (ht := by decide) ?_
    exact hyp
  · replace hyp := hyp.2 q9
    have q1_ := q9
    clear q9
    refine xr_iconst (pc := 31) (hI := d_M_manyWith_31) (hr := by decide) ?_
    refine xr_goto (pc := 32) (tgt := 36) (hI := d_M_manyWith_32) (ht := by decide) ?_
    obtain ⟨c9, hyp⟩ := hyp
    refine xr_iadd (pc := 36) (hI := d_M_manyWith_36) (hr := c9) ?_
    refine xr_istore_n (pc := 37) (i := 2) (L9 := [xR 53, xI x1, xI (s1 + 1), xI x3]) (hI := d_M_manyWith_37) (hi := rfl) (hn := Nat.le_of_ble_eq_true rfl) (hL9 := rfl) ?_
    obtain ⟨c9, hyp⟩ := hyp
    refine xr_iinc (pc := 38) (i := 3) (L9 := [xR 53, xI x1, xI (s1 + 1), xI (x3 + 1)]) (hI := d_M_manyWith_38) (hl := rfl) (hn := Nat.le_of_ble_eq_true rfl) (hr := c9) (hL9 := rfl) ?_
    refine xr_goto (pc := 41) (tgt := 4) (hI := d_M_manyWith_41) (ht := by decide) ?_
    exact hyp
abbrev m_M_logarithm : XM := (⟨"BeaconIndexModel", "logarithm", "(I)I"⟩, prog_14_method_42_code, 2, (some .int), [])
theorem d_M_logarithm_0 : decode prog_14_method_42_code 0 = .ok (.iconst 0, 1) := by decide +kernel
theorem d_M_logarithm_1 : decode prog_14_method_42_code 1 = .ok (.istore_n 1, 1) := by decide +kernel
theorem v_M_logarithm_0 {G : XG} {d : Nat} {h : XH} {Q : XV → XH → Prop} {X : Nat → XH → Prop} {x0 : Int} (F : xFix h) (hyp : (xwp G m_M_logarithm (d + 1) 2 [xI x0, xI 0] [] h Q X)) : xwp G m_M_logarithm (d + 1) 0 [xI x0, xZ] [] h Q X := by
  have hnx9 : (93 : Int) ≤ xnx h := F.2.2
  refine xr_okL (fun hl9 => ?_)
  have r_x0 : -2147483648 ≤ x0 ∧ x0 ≤ 2147483647 := hl9 (xI x0) (.head _) (Nat.le_of_ble_eq_true rfl)
  refine xr_iconst (pc := 0) (hI := d_M_logarithm_0) (hr := by decide) ?_
  refine xr_istore_n (pc := 1) (i := 1) (L9 := [xI x0, xI 0]) (hI := d_M_logarithm_1) (hi := rfl) (hn := Nat.le_of_ble_eq_true rfl) (hL9 := rfl) ?_
  exact hyp
theorem d_M_logarithm_2 : decode prog_14_method_42_code 2 = .ok (.iload_n 0, 1) := by decide +kernel
theorem d_M_logarithm_3 : decode prog_14_method_42_code 3 = .ok (.iload_n 1, 1) := by decide +kernel
theorem d_M_logarithm_4 : decode prog_14_method_42_code 4 = .ok (.ishr, 1) := by decide +kernel
theorem d_M_logarithm_5 : decode prog_14_method_42_code 5 = .ok (.iconst 1, 1) := by decide +kernel
theorem d_M_logarithm_6 : decode prog_14_method_42_code 6 = .ok (.if_icmp .le 9, 3) := by decide +kernel
theorem d_M_logarithm_15 : decode prog_14_method_42_code 15 = .ok (.bipush 16, 2) := by decide +kernel
theorem d_M_logarithm_17 : decode prog_14_method_42_code 17 = .ok (.iload_n 1, 1) := by decide +kernel
theorem d_M_logarithm_18 : decode prog_14_method_42_code 18 = .ok (.imul, 1) := by decide +kernel
theorem d_M_logarithm_19 : decode prog_14_method_42_code 19 = .ok (.bipush 16, 2) := by decide +kernel
theorem d_M_logarithm_21 : decode prog_14_method_42_code 21 = .ok (.iload_n 0, 1) := by decide +kernel
theorem d_M_logarithm_22 : decode prog_14_method_42_code 22 = .ok (.imul, 1) := by decide +kernel
theorem d_M_logarithm_23 : decode prog_14_method_42_code 23 = .ok (.iconst 1, 1) := by decide +kernel
theorem d_M_logarithm_24 : decode prog_14_method_42_code 24 = .ok (.iload_n 1, 1) := by decide +kernel
theorem d_M_logarithm_25 : decode prog_14_method_42_code 25 = .ok (.ishl, 1) := by decide +kernel
theorem d_M_logarithm_26 : decode prog_14_method_42_code 26 = .ok (.idiv, 1) := by decide +kernel
theorem d_M_logarithm_27 : decode prog_14_method_42_code 27 = .ok (.iadd, 1) := by decide +kernel
theorem d_M_logarithm_28 : decode prog_14_method_42_code 28 = .ok (.bipush 16, 2) := by decide +kernel
theorem d_M_logarithm_30 : decode prog_14_method_42_code 30 = .ok (.isub, 1) := by decide +kernel
theorem d_M_logarithm_31 : decode prog_14_method_42_code 31 = .ok (.ireturn, 1) := by decide +kernel
theorem d_M_logarithm_9 : decode prog_14_method_42_code 9 = .ok (.iinc 1 1, 3) := by decide +kernel
theorem d_M_logarithm_12 : decode prog_14_method_42_code 12 = .ok (.goto (-10), 3) := by decide +kernel
theorem v_M_logarithm_2 {G : XG} {d : Nat} {h : XH} {Q : XV → XH → Prop} {X : Nat → XH → Prop} {x0 x1 : Int} (F : xFix h) (hyp : (((xshr x0 x1) ≤ 1 → xiR (16 * x1) ∧ xiR (16 * x0) ∧ (0 : Int) < (xshl 1 x1) ∧ xiR ((16 * x1) + (Int.tdiv (16 * x0) (xshl 1 x1))) ∧ xiR (((16 * x1) + (Int.tdiv (16 * x0) (xshl 1 x1))) - 16) ∧ (Q (xI (((16 * x1) + (Int.tdiv (16 * x0) (xshl 1 x1))) - 16)) h)) ∧ (¬ (xshr x0 x1) ≤ 1 → xiR (x1 + 1) ∧ (xwp G m_M_logarithm (d + 1) 2 [xI x0, xI (x1 + 1)] [] h Q X)))) : xwp G m_M_logarithm (d + 1) 2 [xI x0, xI x1] [] h Q X := by
  have hnx9 : (93 : Int) ≤ xnx h := F.2.2
  refine xr_okL (fun hl9 => ?_)
  have r_x0 : -2147483648 ≤ x0 ∧ x0 ≤ 2147483647 := hl9 (xI x0) (.head _) (Nat.le_of_ble_eq_true rfl)
  have r_x1 : -2147483648 ≤ x1 ∧ x1 ≤ 2147483647 := hl9 (xI x1) (.tail _ (.head _)) (Nat.le_of_ble_eq_true rfl)
  refine xr_iload_n (pc := 2) (i := 0) (hI := d_M_logarithm_2) (hi := rfl) (hl := rfl) ?_
  refine xr_iload_n (pc := 3) (i := 1) (hI := d_M_logarithm_3) (hi := rfl) (hl := rfl) ?_
  refine xr_ishr (pc := 4) (hI := d_M_logarithm_4) ?_
  have f1_ : -2147483648 ≤ (xshr x0 x1) ∧ (xshr x0 x1) ≤ 2147483647 := xi_toR _
  refine xr_iconst (pc := 5) (hI := d_M_logarithm_5) (hr := by decide) ?_
  refine xr_icmp_le (pc := 6) (tgt := 15) (hI := d_M_logarithm_6) (ht := by decide) (fun q9 => ?_) (fun q9 => ?_)
  · replace hyp := hyp.1 q9
    have q2_ := q9
    clear q9
    refine xr_bipush (pc := 15) (hI := d_M_logarithm_15) (hr := by decide) (hv := by decide) ?_
    refine xr_iload_n (pc := 17) (i := 1) (hI := d_M_logarithm_17) (hi := rfl) (hl := rfl) ?_
    obtain ⟨c9, hyp⟩ := hyp
    refine xr_imul (pc := 18) (hI := d_M_logarithm_18) (hr := c9) ?_
    refine xr_bipush (pc := 19) (hI := d_M_logarithm_19) (hr := by decide) (hv := by decide) ?_
    refine xr_iload_n (pc := 21) (i := 0) (hI := d_M_logarithm_21) (hi := rfl) (hl := rfl) ?_
    obtain ⟨c9, hyp⟩ := hyp
    refine xr_imul (pc := 22) (hI := d_M_logarithm_22) (hr := c9) ?_
    refine xr_iconst (pc := 23) (hI := d_M_logarithm_23) (hr := by decide) ?_
    refine xr_iload_n (pc := 24) (i := 1) (hI := d_M_logarithm_24) (hi := rfl) (hl := rfl) ?_
    refine xr_ishl (pc := 25) (hI := d_M_logarithm_25) ?_
    have f3_ : -2147483648 ≤ (xshl 1 x1) ∧ (xshl 1 x1) ≤ 2147483647 := xi_toR _
    obtain ⟨c9, hyp⟩ := hyp
    refine xr_idiv (pc := 26) (hI := d_M_logarithm_26) (h0 := c9) ?_
    obtain ⟨c9, hyp⟩ := hyp
    refine xr_iadd (pc := 27) (hI := d_M_logarithm_27) (hr := c9) ?_
    refine xr_bipush (pc := 28) (hI := d_M_logarithm_28) (hr := by decide) (hv := by decide) ?_
    obtain ⟨c9, hyp⟩ := hyp
    refine xr_isub (pc := 30) (hI := d_M_logarithm_30) (hr := c9) ?_
    refine xr_ireturn (S := []) (pc := 31) (hI := d_M_logarithm_31) (hr := rfl) ?_
    exact hyp
  · replace hyp := hyp.2 q9
    have q2_ := q9
    clear q9
    obtain ⟨c9, hyp⟩ := hyp
    refine xr_iinc (pc := 9) (i := 1) (L9 := [xI x0, xI (x1 + 1)]) (hI := d_M_logarithm_9) (hl := rfl) (hn := Nat.le_of_ble_eq_true rfl) (hr := c9) (hL9 := rfl) ?_
    refine xr_goto (pc := 12) (tgt := 2) (hI := d_M_logarithm_12) (ht := by decide) ?_
    exact hyp
abbrev m_M_rarityOf : XM := (⟨"BeaconIndexModel", "rarityOf", "(I)I"⟩, prog_14_method_43_code, 2, (some .int), [])
theorem d_M_rarityOf_0 : decode prog_14_method_43_code 0 = .ok (.bipush 16, 2) := by decide +kernel
theorem d_M_rarityOf_2 : decode prog_14_method_43_code 2 = .ok (.aload_n 0, 1) := by decide +kernel
theorem d_M_rarityOf_3 : decode prog_14_method_43_code 3 = .ok (.invokevirtual 191, 3) := by decide +kernel
theorem v_M_rarityOf_0 {G : XG} {d : Nat} {h : XH} {Q : XV → XH → Prop} {X : Nat → XH → Prop} {x1 : Int} (F : xFix h) (hyp : (xwp G m_M_inSegments (d + 2) 0 [xR 53] [] h (fun v9 h9 => xwp G m_M_rarityOf (d + 3) 6 [xZ, xI x1] (xpush v9 [xI 16]) h9 Q X) X)) : xwp G m_M_rarityOf (d + 3) 0 [xR 53, xI x1] [] h Q X := by
  have hnx9 : (93 : Int) ≤ xnx h := F.2.2
  refine xr_okL (fun hl9 => ?_)
  have r_x1 : -2147483648 ≤ x1 ∧ x1 ≤ 2147483647 := hl9 (xI x1) (.tail _ (.head _)) (Nat.le_of_ble_eq_true rfl)
  refine xr_bipush (pc := 0) (hI := d_M_rarityOf_0) (hr := by decide) (hv := by decide) ?_
  refine xr_aload_n (pc := 2) (i := 0) (hI := d_M_rarityOf_2) (hi := rfl) (hl := rfl) ?_
  exact xq_callV (pc := 3) (index := 191) (K := m_M_inSegments) (As := []) (S := [xI 16]) (L0 := [xR 53]) (hI := d_M_rarityOf_3) (hK := k_M_inSegments) (hlk := w_1732) (hnoM := rfl) (hS8 := Nat.le_of_ble_eq_true rfl) (ci := 11) (N := 38) (C := "BeaconIndexModel") (T := xF11) (hc := rfl) (hci := Nat.le_of_ble_eq_true rfl) (htb := (ft_53 F)) (hinst := w_1734) (hsel := sel_M_inSegments) (hlen := Nat.le_of_ble_eq_true rfl) (hst := rfl) (hL0 := rfl)  (xwp_mono hyp (fun v9 h9 q9 => xr_drop (L9 := [xZ, xI x1]) (xdrz (xdrs xdr0)) q9) (fun _ _ z9 => z9))
theorem d_M_rarityOf_6 : decode prog_14_method_43_code 6 = .ok (.iconst 1, 1) := by decide +kernel
theorem d_M_rarityOf_7 : decode prog_14_method_43_code 7 = .ok (.iadd, 1) := by decide +kernel
theorem d_M_rarityOf_8 : decode prog_14_method_43_code 8 = .ok (.imul, 1) := by decide +kernel
theorem d_M_rarityOf_9 : decode prog_14_method_43_code 9 = .ok (.iload_n 1, 1) := by decide +kernel
theorem d_M_rarityOf_10 : decode prog_14_method_43_code 10 = .ok (.iconst 1, 1) := by decide +kernel
theorem d_M_rarityOf_11 : decode prog_14_method_43_code 11 = .ok (.iadd, 1) := by decide +kernel
theorem d_M_rarityOf_12 : decode prog_14_method_43_code 12 = .ok (.idiv, 1) := by decide +kernel
theorem d_M_rarityOf_13 : decode prog_14_method_43_code 13 = .ok (.invokestatic 244, 3) := by decide +kernel
theorem k_M_logarithm : xCal m_M_logarithm 1 := ⟨List.mem_append_right _ (List.mem_of_getElem? (i := 2246) (by decide +kernel)), w_15, Nat.le_of_ble_eq_true rfl, ⟨by decide +kernel, by decide +kernel⟩, by decide +kernel, by decide +kernel, rfl⟩
theorem w_2244 : Cond.methodLink "BeaconIndexModel" 244 ⟨"BeaconIndexModel", "logarithm", "(I)I"⟩ ∈ lw_tbl := List.mem_append_right _ (List.mem_of_getElem? (i := 2244) (by decide +kernel))
theorem w_2245 : Cond.static ⟨"BeaconIndexModel", "logarithm", "(I)I"⟩ ∈ lw_tbl := List.mem_append_right _ (List.mem_of_getElem? (i := 2245) (by decide +kernel))
theorem v_M_rarityOf_6 {G : XG} {d : Nat} {h : XH} {Q : XV → XH → Prop} {X : Nat → XH → Prop} {x1 s0 s1 : Int} (F : xFix h) (hyp : xiR (s0 + 1) ∧ xiR (s1 * (s0 + 1)) ∧ xiR (x1 + 1) ∧ (0 : Int) < (x1 + 1) ∧ (xwp G m_M_logarithm (d + 2) 0 [xI (Int.tdiv (s1 * (s0 + 1)) (x1 + 1)), xZ] [] h (fun v9 h9 => xwp G m_M_rarityOf (d + 3) 16 [xZ, xZ] (xpush v9 []) h9 Q X) X)) : xwp G m_M_rarityOf (d + 3) 6 [xZ, xI x1] [xI s0, xI s1] h Q X := by
  have hnx9 : (93 : Int) ≤ xnx h := F.2.2
  refine xr_okL (fun hl9 => ?_)
  have r_x1 : -2147483648 ≤ x1 ∧ x1 ≤ 2147483647 := hl9 (xI x1) (.tail _ (.head _)) (Nat.le_of_ble_eq_true rfl)
  refine xr_okS (fun hs9 => ?_)
  have r_s0 : -2147483648 ≤ s0 ∧ s0 ≤ 2147483647 := hs9 (xI s0) (.head _)
  have r_s1 : -2147483648 ≤ s1 ∧ s1 ≤ 2147483647 := hs9 (xI s1) (.tail _ (.head _))
  refine xr_iconst (pc := 6) (hI := d_M_rarityOf_6) (hr := by decide) ?_
  obtain ⟨c9, hyp⟩ := hyp
  refine xr_iadd (pc := 7) (hI := d_M_rarityOf_7) (hr := c9) ?_
  obtain ⟨c9, hyp⟩ := hyp
  refine xr_imul (pc := 8) (hI := d_M_rarityOf_8) (hr := c9) ?_
  refine xr_iload_n (pc := 9) (i := 1) (hI := d_M_rarityOf_9) (hi := rfl) (hl := rfl) ?_
  refine xr_iconst (pc := 10) (hI := d_M_rarityOf_10) (hr := by decide) ?_
  obtain ⟨c9, hyp⟩ := hyp
  refine xr_iadd (pc := 11) (hI := d_M_rarityOf_11) (hr := c9) ?_
  obtain ⟨c9, hyp⟩ := hyp
  refine xr_idiv (pc := 12) (hI := d_M_rarityOf_12) (h0 := c9) ?_
  exact xq_callS (pc := 13) (index := 244) (K := m_M_logarithm) (As := [xI (Int.tdiv (s1 * (s0 + 1)) (x1 + 1))]) (S := []) (L0 := [xI (Int.tdiv (s1 * (s0 + 1)) (x1 + 1)), xZ]) (hI := d_M_rarityOf_13) (hK := k_M_logarithm) (hlk := w_2244) (hnoM := rfl) (hS8 := Nat.le_of_ble_eq_true rfl) (hstat := w_2245) (hlen := Nat.le_of_ble_eq_true rfl) (hst := rfl) (hL0 := rfl)  (xwp_mono hyp (fun v9 h9 q9 => xr_drop (L9 := [xZ, xZ]) (xdrs (xdrz xdr0)) q9) (fun _ _ z9 => z9))
theorem d_M_rarityOf_16 : decode prog_14_method_43_code 16 = .ok (.ireturn, 1) := by decide +kernel
theorem v_M_rarityOf_16 {G : XG} {d : Nat} {h : XH} {Q : XV → XH → Prop} {X : Nat → XH → Prop} {s0 : Int} (F : xFix h) (hyp : (Q (xI s0) h)) : xwp G m_M_rarityOf (d + 3) 16 [xZ, xZ] [xI s0] h Q X := by
  have hnx9 : (93 : Int) ≤ xnx h := F.2.2
  refine xr_okS (fun hs9 => ?_)
  have r_s0 : -2147483648 ≤ s0 ∧ s0 ≤ 2147483647 := hs9 (xI s0) (.head _)
  refine xr_ireturn (S := []) (pc := 16) (hI := d_M_rarityOf_16) (hr := rfl) ?_
  exact hyp

end
