/-! ===== mopvc3 ===== -/
section
abbrev m_M_gather : XM := (⟨"BeaconIndexModel", "gather", "(III)I"⟩, prog_14_method_38_code, 6, (some .int), [])
theorem d_M_gather_0 : decode prog_14_method_38_code 0 = .ok (.iload_n 1, 1) := by decide +kernel
theorem d_M_gather_1 : decode prog_14_method_38_code 1 = .ok (.istore 4, 2) := by decide +kernel
theorem d_M_gather_3 : decode prog_14_method_38_code 3 = .ok (.iload_n 2, 1) := by decide +kernel
theorem d_M_gather_4 : decode prog_14_method_38_code 4 = .ok (.istore 5, 2) := by decide +kernel
theorem v_M_gather_0 {G : XG} {d : Nat} {h : XH} {Q : XV → XH → Prop} {X : Nat → XH → Prop} {x1 x2 x3 : Int} (F : xFix h) (hyp : (xwp G m_M_gather (d + 1) 6 [xR 53, xZ, xI x2, xI x3, xI x1, xI x2] [] h Q X)) : xwp G m_M_gather (d + 1) 0 [xR 53, xI x1, xI x2, xI x3, xZ, xZ] [] h Q X := by
  have hnx9 : (93 : Int) ≤ xnx h := F.2.2
  refine xr_okL (fun hl9 => ?_)
  have r_x1 : -2147483648 ≤ x1 ∧ x1 ≤ 2147483647 := hl9 (xI x1) (.tail _ (.head _)) (Nat.le_of_ble_eq_true rfl)
  have r_x2 : -2147483648 ≤ x2 ∧ x2 ≤ 2147483647 := hl9 (xI x2) (.tail _ (.tail _ (.head _))) (Nat.le_of_ble_eq_true rfl)
  have r_x3 : -2147483648 ≤ x3 ∧ x3 ≤ 2147483647 := hl9 (xI x3) (.tail _ (.tail _ (.tail _ (.head _)))) (Nat.le_of_ble_eq_true rfl)
  refine xr_iload_n (pc := 0) (i := 1) (hI := d_M_gather_0) (hi := rfl) (hl := rfl) ?_
  refine xr_istore (pc := 1) (i := 4) (L9 := [xR 53, xI x1, xI x2, xI x3, xI x1, xZ]) (hI := d_M_gather_1) (hn := Nat.le_of_ble_eq_true rfl) (hL9 := rfl) ?_
  refine xr_iload_n (pc := 3) (i := 2) (hI := d_M_gather_3) (hi := rfl) (hl := rfl) ?_
  refine xr_istore (pc := 4) (i := 5) (L9 := [xR 53, xI x1, xI x2, xI x3, xI x1, xI x2]) (hI := d_M_gather_4) (hn := Nat.le_of_ble_eq_true rfl) (hL9 := rfl) ?_
  exact xr_drop (L9 := [xR 53, xZ, xI x2, xI x3, xI x1, xI x2]) (xdrs (xdrz (xdrs (xdrs (xdrs (xdrs xdr0)))))) hyp
theorem d_M_gather_6 : decode prog_14_method_38_code 6 = .ok (.iload 5, 2) := by decide +kernel
theorem d_M_gather_8 : decode prog_14_method_38_code 8 = .ok (.iload_n 2, 1) := by decide +kernel
theorem d_M_gather_9 : decode prog_14_method_38_code 9 = .ok (.iload_n 3, 1) := by decide +kernel
theorem d_M_gather_10 : decode prog_14_method_38_code 10 = .ok (.iadd, 1) := by decide +kernel
theorem d_M_gather_11 : decode prog_14_method_38_code 11 = .ok (.if_icmp .ge 43, 3) := by decide +kernel
theorem d_M_gather_54 : decode prog_14_method_38_code 54 = .ok (.iload 4, 2) := by decide +kernel
theorem d_M_gather_56 : decode prog_14_method_38_code 56 = .ok (.ireturn, 1) := by decide +kernel
theorem d_M_gather_14 : decode prog_14_method_38_code 14 = .ok (.aload_n 0, 1) := by decide +kernel
theorem d_M_gather_15 : decode prog_14_method_38_code 15 = .ok (.getfield 35, 3) := by decide +kernel
theorem d_M_gather_18 : decode prog_14_method_38_code 18 = .ok (.iload 5, 2) := by decide +kernel
theorem d_M_gather_20 : decode prog_14_method_38_code 20 = .ok (.laload, 1) := by decide +kernel
theorem d_M_gather_21 : decode prog_14_method_38_code 21 = .ok (.ldc2_w 225, 3) := by decide +kernel
theorem d_M_gather_24 : decode prog_14_method_38_code 24 = .ok (.lcmp, 1) := by decide +kernel
theorem d_M_gather_25 : decode prog_14_method_38_code 25 = .ok (.ifCond .ne 6, 3) := by decide +kernel
theorem d_M_gather_31 : decode prog_14_method_38_code 31 = .ok (.aload_n 0, 1) := by decide +kernel
theorem d_M_gather_32 : decode prog_14_method_38_code 32 = .ok (.getfield 42, 3) := by decide +kernel
theorem w_1603 : Cond.fieldLink "BeaconIndexModel" 42 "BeaconIndexModel" "all" "[J" ∈ lw_tbl := List.mem_append_right _ (List.mem_of_getElem? (i := 1603) (by decide +kernel))
theorem d_M_gather_35 : decode prog_14_method_38_code 35 = .ok (.iload 4, 2) := by decide +kernel
theorem d_M_gather_37 : decode prog_14_method_38_code 37 = .ok (.aload_n 0, 1) := by decide +kernel
theorem d_M_gather_38 : decode prog_14_method_38_code 38 = .ok (.getfield 35, 3) := by decide +kernel
theorem d_M_gather_41 : decode prog_14_method_38_code 41 = .ok (.iload 5, 2) := by decide +kernel
theorem d_M_gather_43 : decode prog_14_method_38_code 43 = .ok (.laload, 1) := by decide +kernel
theorem d_M_gather_44 : decode prog_14_method_38_code 44 = .ok (.lastore, 1) := by decide +kernel
theorem xfa_64 : xfreeA 64 = true := by decide +kernel
theorem d_M_gather_45 : decode prog_14_method_38_code 45 = .ok (.iinc 4 1, 3) := by decide +kernel
theorem d_M_gather_48 : decode prog_14_method_38_code 48 = .ok (.iinc 5 1, 3) := by decide +kernel
theorem d_M_gather_51 : decode prog_14_method_38_code 51 = .ok (.goto (-45), 3) := by decide +kernel
theorem d_M_gather_28 : decode prog_14_method_38_code 28 = .ok (.goto 20, 3) := by decide +kernel
theorem v_M_gather_6 {G : XG} {d : Nat} {h : XH} {Q : XV → XH → Prop} {X : Nat → XH → Prop} {x2 x3 x4 x5 : Int} (F : xFix h) (hyp : xiR (x2 + x3) ∧ (((x2 + x3) ≤ x5 → (Q (xI x4) h)) ∧ (¬ (x2 + x3) ≤ x5 → 0 ≤ x5 ∧ x5 < 12000 ∧ (((xpl h 62 x5) = (-1) → (xwp G m_M_gather (d + 1) 6 [xR 53, xZ, xI x2, xI x3, xI x4, xI (x5 + 1)] [] h Q X)) ∧ (¬ (xpl h 62 x5) = (-1) → 0 ≤ x4 ∧ x4 < 12000 ∧ (xFix (xst h 64 x4 (xpl h 62 x5)) → xwp G m_M_gather (d + 1) 6 [xR 53, xZ, xI x2, xI x3, xI (x4 + 1), xI (x5 + 1)] [] (xst h 64 x4 (xpl h 62 x5)) Q X)))))) : xwp G m_M_gather (d + 1) 6 [xR 53, xZ, xI x2, xI x3, xI x4, xI x5] [] h Q X := by
  have hnx9 : (93 : Int) ≤ xnx h := F.2.2
  refine xr_okL (fun hl9 => ?_)
  have r_x2 : -2147483648 ≤ x2 ∧ x2 ≤ 2147483647 := hl9 (xI x2) (.tail _ (.tail _ (.head _))) (Nat.le_of_ble_eq_true rfl)
  have r_x3 : -2147483648 ≤ x3 ∧ x3 ≤ 2147483647 := hl9 (xI x3) (.tail _ (.tail _ (.tail _ (.head _)))) (Nat.le_of_ble_eq_true rfl)
  have r_x4 : -2147483648 ≤ x4 ∧ x4 ≤ 2147483647 := hl9 (xI x4) (.tail _ (.tail _ (.tail _ (.tail _ (.head _))))) (Nat.le_of_ble_eq_true rfl)
  have r_x5 : -2147483648 ≤ x5 ∧ x5 ≤ 2147483647 := hl9 (xI x5) (.tail _ (.tail _ (.tail _ (.tail _ (.tail _ (.head _)))))) (Nat.le_of_ble_eq_true rfl)
  refine xr_iload (pc := 6) (i := 5) (hI := d_M_gather_6) (hl := rfl) ?_
  refine xr_iload_n (pc := 8) (i := 2) (hI := d_M_gather_8) (hi := rfl) (hl := rfl) ?_
  refine xr_iload_n (pc := 9) (i := 3) (hI := d_M_gather_9) (hi := rfl) (hl := rfl) ?_
  obtain ⟨c9, hyp⟩ := hyp
  refine xr_iadd (pc := 10) (hI := d_M_gather_10) (hr := c9) ?_
  refine xr_icmp_ge (pc := 11) (tgt := 54) (hI := d_M_gather_11) (ht := by decide) (fun q9 => ?_) (fun q9 => ?_)
  · replace hyp := hyp.1 q9
    have q1_ := q9
    clear q9
    refine xr_iload (pc := 54) (i := 4) (hI := d_M_gather_54) (hl := rfl) ?_
    refine xr_ireturn (S := []) (pc := 56) (hI := d_M_gather_56) (hr := rfl) ?_
    exact hyp
  · replace hyp := hyp.2 q9
    have q1_ := q9
    clear q9
    refine xr_aload_n (pc := 14) (i := 0) (hI := d_M_gather_14) (hi := rfl) (hl := rfl) ?_
    refine xg_getf (pc := 15) (ci := 11) (k := 13) (N := 38) (v9 := 2) (v := 62) (T := xF11) (hI := d_M_gather_15) (hw := w_1600) rfl xi11 (Or.inl rfl) (Nat.le_of_ble_eq_true rfl) (Nat.le_of_ble_eq_true rfl) rfl (ft_53 F) (fp_53_13 F) (fun f2_ => ?_)
    clear f2_
    refine xr_iload (pc := 18) (i := 5) (hI := d_M_gather_18) (hl := rfl) ?_
    obtain ⟨c3_, hyp⟩ := hyp
    obtain ⟨c4_, hyp⟩ := hyp
    refine xg_laload (pc := 20) (v := (xpl h 62 x5)) (hI := d_M_gather_20) (ft_62 F) c3_ (xlt_of (fl_62 F) c4_) rfl (fun f5_ => ?_)
    replace f5_ : -9223372036854775808 ≤ (xpl h 62 x5) ∧ (xpl h 62 x5) ≤ 9223372036854775807 := f5_
    refine xr_ldc2 (pc := 21) (z := (-1)) (hI := d_M_gather_21) (hw := w_1777) (hr := by decide) (hv := by decide) ?_
    refine xr_lcmp (pc := 24) (hI := d_M_gather_24) ?_
    refine xg_lif_ne (pc := 25) (tgt := 31) (hI := d_M_gather_25) (ht := by decide) (fun q9 => ?_) (fun q9 => ?_)
    · replace hyp := hyp.2 q9
      have q6_ := q9
      clear q9
      refine xr_aload_n (pc := 31) (i := 0) (hI := d_M_gather_31) (hi := rfl) (hl := rfl) ?_
      refine xg_getf (pc := 32) (ci := 11) (k := 16) (N := 38) (v9 := 2) (v := 64) (T := xF11) (hI := d_M_gather_32) (hw := w_1603) rfl xi11 (Or.inl rfl) (Nat.le_of_ble_eq_true rfl) (Nat.le_of_ble_eq_true rfl) rfl (ft_53 F) (fp_53_16 F) (fun f7_ => ?_)
      clear f7_
      refine xr_iload (pc := 35) (i := 4) (hI := d_M_gather_35) (hl := rfl) ?_
      refine xr_aload_n (pc := 37) (i := 0) (hI := d_M_gather_37) (hi := rfl) (hl := rfl) ?_
      refine xg_getf (pc := 38) (ci := 11) (k := 13) (N := 38) (v9 := 2) (v := 62) (T := xF11) (hI := d_M_gather_38) (hw := w_1600) rfl xi11 (Or.inl rfl) (Nat.le_of_ble_eq_true rfl) (Nat.le_of_ble_eq_true rfl) rfl (ft_53 F) (fp_53_13 F) (fun f8_ => ?_)
      clear f8_
      refine xr_iload (pc := 41) (i := 5) (hI := d_M_gather_41) (hl := rfl) ?_
      refine xg_laload (pc := 43) (v := (xpl h 62 x5)) (hI := d_M_gather_43) (ft_62 F) (by clear hyp; omega) (xlt_of (fl_62 F) (by clear hyp; omega)) rfl (fun f9_ => ?_)
      replace f9_ : -9223372036854775808 ≤ (xpl h 62 x5) ∧ (xpl h 62 x5) ≤ 9223372036854775807 := f9_
      obtain ⟨c10_, hyp⟩ := hyp
      obtain ⟨c11_, hyp⟩ := hyp
      refine xr_lastore (pc := 44) (hI := d_M_gather_44) (ft_64 F) (by decide) c10_ (xlt_of (fl_64 F) c11_) ?_
      have F12_ : xFix (xst h 64 x4 (xpl h 62 x5)) := F.stA xfa_64
      refine xr_iinc (pc := 45) (i := 4) (L9 := [xR 53, xZ, xI x2, xI x3, xI (x4 + 1), xI x5]) (hI := d_M_gather_45) (hl := rfl) (hn := Nat.le_of_ble_eq_true rfl) (hr := ⟨by clear hyp; omega, by clear hyp; omega⟩) (hL9 := rfl) ?_
      refine xr_iinc (pc := 48) (i := 5) (L9 := [xR 53, xZ, xI x2, xI x3, xI (x4 + 1), xI (x5 + 1)]) (hI := d_M_gather_48) (hl := rfl) (hn := Nat.le_of_ble_eq_true rfl) (hr := ⟨by clear hyp; omega, by clear hyp; omega⟩) (hL9 := rfl) ?_
      refine xr_goto (pc := 51) (tgt := 6) (hI := d_M_gather_51) (ht := by decide) ?_
      exact (hyp F12_)
    · replace hyp := hyp.1 q9
      have q6_ := q9
      clear q9
      refine xr_goto (pc := 28) (tgt := 48) (hI := d_M_gather_28) (ht := by decide) ?_
      refine xr_iinc (pc := 48) (i := 5) (L9 := [xR 53, xZ, xI x2, xI x3, xI x4, xI (x5 + 1)]) (hI := d_M_gather_48) (hl := rfl) (hn := Nat.le_of_ble_eq_true rfl) (hr := ⟨by clear hyp; omega, by clear hyp; omega⟩) (hL9 := rfl) ?_
      refine xr_goto (pc := 51) (tgt := 6) (hI := d_M_gather_51) (ht := by decide) ?_
      exact hyp
abbrev m_M_different : XM := (⟨"BeaconIndexModel", "different", "(II)I"⟩, prog_14_method_39_code, 5, (some .int), [])
theorem d_M_different_0 : decode prog_14_method_39_code 0 = .ok (.aload_n 0, 1) := by decide +kernel
theorem d_M_different_1 : decode prog_14_method_39_code 1 = .ok (.getfield 42, 3) := by decide +kernel
theorem d_M_different_4 : decode prog_14_method_39_code 4 = .ok (.iload_n 1, 1) := by decide +kernel
theorem d_M_different_5 : decode prog_14_method_39_code 5 = .ok (.iload_n 2, 1) := by decide +kernel
theorem d_M_different_6 : decode prog_14_method_39_code 6 = .ok (.invokestatic 227, 3) := by decide +kernel
abbrev m_Arrays_sort : XM := (⟨"java/util/Arrays", "sort", "([JII)V"⟩, prog_44_method_5_code, 3, none, [])
theorem k_Arrays_sort : xCal m_Arrays_sort 3 := ⟨List.mem_append_right _ (List.mem_of_getElem? (i := 1899) (by decide +kernel)), w_29, Nat.le_of_ble_eq_true rfl, ⟨by decide +kernel, by decide +kernel⟩, by decide +kernel, by decide +kernel, rfl⟩
theorem w_1897 : Cond.methodLink "BeaconIndexModel" 227 ⟨"java/util/Arrays", "sort", "([JII)V"⟩ ∈ lw_tbl := List.mem_append_right _ (List.mem_of_getElem? (i := 1897) (by decide +kernel))
theorem w_1898 : Cond.static ⟨"java/util/Arrays", "sort", "([JII)V"⟩ ∈ lw_tbl := List.mem_append_right _ (List.mem_of_getElem? (i := 1898) (by decide +kernel))
theorem v_M_different_0 {G : XG} {d : Nat} {h : XH} {Q : XV → XH → Prop} {X : Nat → XH → Prop} {x1 x2 : Int} (F : xFix h) (hyp : (xwp G m_Arrays_sort (d + 215) 0 [xR 64, xI x1, xI x2] [] h (fun v9 h9 => xwp G m_M_different (d + 216) 9 [xR 53, xI x1, xI x2, xZ, xZ] (xpush v9 []) h9 Q X) X)) : xwp G m_M_different (d + 216) 0 [xR 53, xI x1, xI x2, xZ, xZ] [] h Q X := by
  have hnx9 : (93 : Int) ≤ xnx h := F.2.2
  refine xr_okL (fun hl9 => ?_)
  have r_x1 : -2147483648 ≤ x1 ∧ x1 ≤ 2147483647 := hl9 (xI x1) (.tail _ (.head _)) (Nat.le_of_ble_eq_true rfl)
  have r_x2 : -2147483648 ≤ x2 ∧ x2 ≤ 2147483647 := hl9 (xI x2) (.tail _ (.tail _ (.head _))) (Nat.le_of_ble_eq_true rfl)
  refine xr_aload_n (pc := 0) (i := 0) (hI := d_M_different_0) (hi := rfl) (hl := rfl) ?_
  refine xg_getf (pc := 1) (ci := 11) (k := 16) (N := 38) (v9 := 2) (v := 64) (T := xF11) (hI := d_M_different_1) (hw := w_1603) rfl xi11 (Or.inl rfl) (Nat.le_of_ble_eq_true rfl) (Nat.le_of_ble_eq_true rfl) rfl (ft_53 F) (fp_53_16 F) (fun f1_ => ?_)
  clear f1_
  refine xr_iload_n (pc := 4) (i := 1) (hI := d_M_different_4) (hi := rfl) (hl := rfl) ?_
  refine xr_iload_n (pc := 5) (i := 2) (hI := d_M_different_5) (hi := rfl) (hl := rfl) ?_
  exact xq_callS (pc := 6) (index := 227) (K := m_Arrays_sort) (As := [xR 64, xI x1, xI x2]) (S := []) (L0 := [xR 64, xI x1, xI x2]) (hI := d_M_different_6) (hK := k_Arrays_sort) (hlk := w_1897) (hnoM := rfl) (hS8 := Nat.le_of_ble_eq_true rfl) (hstat := w_1898) (hlen := Nat.le_of_ble_eq_true rfl) (hst := rfl) (hL0 := rfl)  hyp
theorem d_M_different_9 : decode prog_14_method_39_code 9 = .ok (.iload_n 1, 1) := by decide +kernel
theorem d_M_different_10 : decode prog_14_method_39_code 10 = .ok (.istore_n 3, 1) := by decide +kernel
theorem d_M_different_11 : decode prog_14_method_39_code 11 = .ok (.iload_n 1, 1) := by decide +kernel
theorem d_M_different_12 : decode prog_14_method_39_code 12 = .ok (.istore 4, 2) := by decide +kernel
theorem v_M_different_9 {G : XG} {d : Nat} {h : XH} {Q : XV → XH → Prop} {X : Nat → XH → Prop} {x1 x2 : Int} (F : xFix h) (hyp : (xwp G m_M_different (d + 216) 14 [xR 53, xI x1, xI x2, xI x1, xI x1] [] h Q X)) : xwp G m_M_different (d + 216) 9 [xR 53, xI x1, xI x2, xZ, xZ] [] h Q X := by
  have hnx9 : (93 : Int) ≤ xnx h := F.2.2
  refine xr_okL (fun hl9 => ?_)
  have r_x1 : -2147483648 ≤ x1 ∧ x1 ≤ 2147483647 := hl9 (xI x1) (.tail _ (.head _)) (Nat.le_of_ble_eq_true rfl)
  have r_x2 : -2147483648 ≤ x2 ∧ x2 ≤ 2147483647 := hl9 (xI x2) (.tail _ (.tail _ (.head _))) (Nat.le_of_ble_eq_true rfl)
  refine xr_iload_n (pc := 9) (i := 1) (hI := d_M_different_9) (hi := rfl) (hl := rfl) ?_
  refine xr_istore_n (pc := 10) (i := 3) (L9 := [xR 53, xI x1, xI x2, xI x1, xZ]) (hI := d_M_different_10) (hi := rfl) (hn := Nat.le_of_ble_eq_true rfl) (hL9 := rfl) ?_
  refine xr_iload_n (pc := 11) (i := 1) (hI := d_M_different_11) (hi := rfl) (hl := rfl) ?_
  refine xr_istore (pc := 12) (i := 4) (L9 := [xR 53, xI x1, xI x2, xI x1, xI x1]) (hI := d_M_different_12) (hn := Nat.le_of_ble_eq_true rfl) (hL9 := rfl) ?_
  exact hyp
theorem d_M_different_14 : decode prog_14_method_39_code 14 = .ok (.iload 4, 2) := by decide +kernel
theorem d_M_different_16 : decode prog_14_method_39_code 16 = .ok (.iload_n 2, 1) := by decide +kernel
theorem d_M_different_17 : decode prog_14_method_39_code 17 = .ok (.if_icmp .ge 53, 3) := by decide +kernel
theorem d_M_different_70 : decode prog_14_method_39_code 70 = .ok (.iload_n 3, 1) := by decide +kernel
theorem d_M_different_71 : decode prog_14_method_39_code 71 = .ok (.ireturn, 1) := by decide +kernel
theorem d_M_different_20 : decode prog_14_method_39_code 20 = .ok (.iload 4, 2) := by decide +kernel
theorem d_M_different_22 : decode prog_14_method_39_code 22 = .ok (.iload_n 1, 1) := by decide +kernel
theorem d_M_different_23 : decode prog_14_method_39_code 23 = .ok (.if_icmp .le 25, 3) := by decide +kernel
theorem d_M_different_26 : decode prog_14_method_39_code 26 = .ok (.aload_n 0, 1) := by decide +kernel
theorem d_M_different_27 : decode prog_14_method_39_code 27 = .ok (.getfield 42, 3) := by decide +kernel
theorem d_M_different_30 : decode prog_14_method_39_code 30 = .ok (.iload 4, 2) := by decide +kernel
theorem d_M_different_32 : decode prog_14_method_39_code 32 = .ok (.laload, 1) := by decide +kernel
theorem d_M_different_33 : decode prog_14_method_39_code 33 = .ok (.aload_n 0, 1) := by decide +kernel
theorem d_M_different_34 : decode prog_14_method_39_code 34 = .ok (.getfield 42, 3) := by decide +kernel
theorem d_M_different_37 : decode prog_14_method_39_code 37 = .ok (.iload_n 3, 1) := by decide +kernel
theorem d_M_different_38 : decode prog_14_method_39_code 38 = .ok (.iconst 1, 1) := by decide +kernel
theorem d_M_different_39 : decode prog_14_method_39_code 39 = .ok (.isub, 1) := by decide +kernel
theorem d_M_different_40 : decode prog_14_method_39_code 40 = .ok (.laload, 1) := by decide +kernel
theorem d_M_different_41 : decode prog_14_method_39_code 41 = .ok (.lcmp, 1) := by decide +kernel
theorem d_M_different_42 : decode prog_14_method_39_code 42 = .ok (.ifCond .ne 6, 3) := by decide +kernel
theorem d_M_different_45 : decode prog_14_method_39_code 45 = .ok (.goto 19, 3) := by decide +kernel
theorem d_M_different_64 : decode prog_14_method_39_code 64 = .ok (.iinc 4 1, 3) := by decide +kernel
theorem d_M_different_67 : decode prog_14_method_39_code 67 = .ok (.goto (-53), 3) := by decide +kernel
theorem v_M_different_14 {G : XG} {d : Nat} {h : XH} {Q : XV → XH → Prop} {X : Nat → XH → Prop} {x1 x2 x3 x4 : Int} (F : xFix h) (hyp : ((x2 ≤ x4 → (Q (xI x3) h)) ∧ (¬ x2 ≤ x4 → ((x4 ≤ x1 → (xwp G m_M_different (d + 216) 48 [xR 53, xI x1, xI x2, xI x3, xI x4] [] h Q X)) ∧ (¬ x4 ≤ x1 → 0 ≤ x4 ∧ x4 < 12000 ∧ xiR (x3 - 1) ∧ 0 ≤ (x3 - 1) ∧ (x3 - 1) < 12000 ∧ (((xpl h 64 x4) = (xpl h 64 (x3 - 1)) → (xwp G m_M_different (d + 216) 14 [xR 53, xI x1, xI x2, xI x3, xI (x4 + 1)] [] h Q X)) ∧ (¬ (xpl h 64 x4) = (xpl h 64 (x3 - 1)) → (xwp G m_M_different (d + 216) 48 [xR 53, xI x1, xI x2, xI x3, xI x4] [] h Q X)))))))) : xwp G m_M_different (d + 216) 14 [xR 53, xI x1, xI x2, xI x3, xI x4] [] h Q X := by
  have hnx9 : (93 : Int) ≤ xnx h := F.2.2
  refine xr_okL (fun hl9 => ?_)
  have r_x1 : -2147483648 ≤ x1 ∧ x1 ≤ 2147483647 := hl9 (xI x1) (.tail _ (.head _)) (Nat.le_of_ble_eq_true rfl)
  have r_x2 : -2147483648 ≤ x2 ∧ x2 ≤ 2147483647 := hl9 (xI x2) (.tail _ (.tail _ (.head _))) (Nat.le_of_ble_eq_true rfl)
  have r_x3 : -2147483648 ≤ x3 ∧ x3 ≤ 2147483647 := hl9 (xI x3) (.tail _ (.tail _ (.tail _ (.head _)))) (Nat.le_of_ble_eq_true rfl)
  have r_x4 : -2147483648 ≤ x4 ∧ x4 ≤ 2147483647 := hl9 (xI x4) (.tail _ (.tail _ (.tail _ (.tail _ (.head _))))) (Nat.le_of_ble_eq_true rfl)
  refine xr_iload (pc := 14) (i := 4) (hI := d_M_different_14) (hl := rfl) ?_
  refine xr_iload_n (pc := 16) (i := 2) (hI := d_M_different_16) (hi := rfl) (hl := rfl) ?_
  refine xr_icmp_ge (pc := 17) (tgt := 70) (hI := d_M_different_17) (ht := by decide) (fun q9 => ?_) (fun q9 => ?_)
  · replace hyp := hyp.1 q9
    have q1_ := q9
    clear q9
    refine xr_iload_n (pc := 70) (i := 3) (hI := d_M_different_70) (hi := rfl) (hl := rfl) ?_
    refine xr_ireturn (S := []) (pc := 71) (hI := d_M_different_71) (hr := rfl) ?_
    exact hyp
  · replace hyp := hyp.2 q9
    have q1_ := q9
    clear q9
    refine xr_iload (pc := 20) (i := 4) (hI := d_M_different_20) (hl := rfl) ?_
    refine xr_iload_n (pc := 22) (i := 1) (hI := d_M_different_22) (hi := rfl) (hl := rfl) ?_
    refine xr_icmp_le (pc := 23) (tgt := 48) (hI := d_M_different_23) (ht := by decide) (fun q9 => ?_) (fun q9 => ?_)
    · replace hyp := hyp.1 q9
      have q2_ := q9
      clear q9
      exact hyp
    · replace hyp := hyp.2 q9
      have q2_ := q9
      clear q9
      refine xr_aload_n (pc := 26) (i := 0) (hI := d_M_different_26) (hi := rfl) (hl := rfl) ?_
      refine xg_getf (pc := 27) (ci := 11) (k := 16) (N := 38) (v9 := 2) (v := 64) (T := xF11) (hI := d_M_different_27) (hw := w_1603) rfl xi11 (Or.inl rfl) (Nat.le_of_ble_eq_true rfl) (Nat.le_of_ble_eq_true rfl) rfl (ft_53 F) (fp_53_16 F) (fun f3_ => ?_)
      clear f3_
      refine xr_iload (pc := 30) (i := 4) (hI := d_M_different_30) (hl := rfl) ?_
      obtain ⟨c4_, hyp⟩ := hyp
      obtain ⟨c5_, hyp⟩ := hyp
      refine xg_laload (pc := 32) (v := (xpl h 64 x4)) (hI := d_M_different_32) (ft_64 F) c4_ (xlt_of (fl_64 F) c5_) rfl (fun f6_ => ?_)
      replace f6_ : -9223372036854775808 ≤ (xpl h 64 x4) ∧ (xpl h 64 x4) ≤ 9223372036854775807 := f6_
      refine xr_aload_n (pc := 33) (i := 0) (hI := d_M_different_33) (hi := rfl) (hl := rfl) ?_
      refine xg_getf (pc := 34) (ci := 11) (k := 16) (N := 38) (v9 := 2) (v := 64) (T := xF11) (hI := d_M_different_34) (hw := w_1603) rfl xi11 (Or.inl rfl) (Nat.le_of_ble_eq_true rfl) (Nat.le_of_ble_eq_true rfl) rfl (ft_53 F) (fp_53_16 F) (fun f7_ => ?_)
      clear f7_
      refine xr_iload_n (pc := 37) (i := 3) (hI := d_M_different_37) (hi := rfl) (hl := rfl) ?_
      refine xr_iconst (pc := 38) (hI := d_M_different_38) (hr := by decide) ?_
      obtain ⟨c9, hyp⟩ := hyp
      refine xr_isub (pc := 39) (hI := d_M_different_39) (hr := c9) ?_
      obtain ⟨c8_, hyp⟩ := hyp
      obtain ⟨c9_, hyp⟩ := hyp
      refine xg_laload (pc := 40) (v := (xpl h 64 (x3 - 1))) (hI := d_M_different_40) (ft_64 F) c8_ (xlt_of (fl_64 F) c9_) rfl (fun f10_ => ?_)
      replace f10_ : -9223372036854775808 ≤ (xpl h 64 (x3 - 1)) ∧ (xpl h 64 (x3 - 1)) ≤ 9223372036854775807 := f10_
      refine xr_lcmp (pc := 41) (hI := d_M_different_41) ?_
      refine xg_lif_ne (pc := 42) (tgt := 48) (hI := d_M_different_42) (ht := by decide) (fun q9 => ?_) (fun q9 => ?_)
      · replace hyp := hyp.2 q9
        have q11_ := q9
        clear q9
        exact hyp
      · replace hyp := hyp.1 q9
        have q11_ := q9
        clear q9
        refine xr_goto (pc := 45) (tgt := 64) (hI := d_M_different_45) (ht := by decide) ?_
        refine xr_iinc (pc := 64) (i := 4) (L9 := [xR 53, xI x1, xI x2, xI x3, xI (x4 + 1)]) (hI := d_M_different_64) (hl := rfl) (hn := Nat.le_of_ble_eq_true rfl) (hr := ⟨by clear hyp; omega, by clear hyp; omega⟩) (hL9 := rfl) ?_
        refine xr_goto (pc := 67) (tgt := 14) (hI := d_M_different_67) (ht := by decide) ?_
        exact hyp
theorem d_M_different_48 : decode prog_14_method_39_code 48 = .ok (.aload_n 0, 1) := by decide +kernel
theorem d_M_different_49 : decode prog_14_method_39_code 49 = .ok (.getfield 42, 3) := by decide +kernel
theorem d_M_different_52 : decode prog_14_method_39_code 52 = .ok (.iload_n 3, 1) := by decide +kernel
theorem d_M_different_53 : decode prog_14_method_39_code 53 = .ok (.aload_n 0, 1) := by decide +kernel
theorem d_M_different_54 : decode prog_14_method_39_code 54 = .ok (.getfield 42, 3) := by decide +kernel
theorem d_M_different_57 : decode prog_14_method_39_code 57 = .ok (.iload 4, 2) := by decide +kernel
theorem d_M_different_59 : decode prog_14_method_39_code 59 = .ok (.laload, 1) := by decide +kernel
theorem d_M_different_60 : decode prog_14_method_39_code 60 = .ok (.lastore, 1) := by decide +kernel
theorem d_M_different_61 : decode prog_14_method_39_code 61 = .ok (.iinc 3 1, 3) := by decide +kernel
theorem v_M_different_48 {G : XG} {d : Nat} {h : XH} {Q : XV → XH → Prop} {X : Nat → XH → Prop} {x1 x2 x3 x4 : Int} (F : xFix h) (hyp : 0 ≤ x4 ∧ x4 < 12000 ∧ 0 ≤ x3 ∧ x3 < 12000 ∧ (xFix (xst h 64 x3 (xpl h 64 x4)) → xwp G m_M_different (d + 216) 14 [xR 53, xI x1, xI x2, xI (x3 + 1), xI (x4 + 1)] [] (xst h 64 x3 (xpl h 64 x4)) Q X)) : xwp G m_M_different (d + 216) 48 [xR 53, xI x1, xI x2, xI x3, xI x4] [] h Q X := by
  have hnx9 : (93 : Int) ≤ xnx h := F.2.2
  refine xr_okL (fun hl9 => ?_)
  have r_x1 : -2147483648 ≤ x1 ∧ x1 ≤ 2147483647 := hl9 (xI x1) (.tail _ (.head _)) (Nat.le_of_ble_eq_true rfl)
  have r_x2 : -2147483648 ≤ x2 ∧ x2 ≤ 2147483647 := hl9 (xI x2) (.tail _ (.tail _ (.head _))) (Nat.le_of_ble_eq_true rfl)
  have r_x3 : -2147483648 ≤ x3 ∧ x3 ≤ 2147483647 := hl9 (xI x3) (.tail _ (.tail _ (.tail _ (.head _)))) (Nat.le_of_ble_eq_true rfl)
  have r_x4 : -2147483648 ≤ x4 ∧ x4 ≤ 2147483647 := hl9 (xI x4) (.tail _ (.tail _ (.tail _ (.tail _ (.head _))))) (Nat.le_of_ble_eq_true rfl)
  refine xr_aload_n (pc := 48) (i := 0) (hI := d_M_different_48) (hi := rfl) (hl := rfl) ?_
  refine xg_getf (pc := 49) (ci := 11) (k := 16) (N := 38) (v9 := 2) (v := 64) (T := xF11) (hI := d_M_different_49) (hw := w_1603) rfl xi11 (Or.inl rfl) (Nat.le_of_ble_eq_true rfl) (Nat.le_of_ble_eq_true rfl) rfl (ft_53 F) (fp_53_16 F) (fun f1_ => ?_)
  clear f1_
  refine xr_iload_n (pc := 52) (i := 3) (hI := d_M_different_52) (hi := rfl) (hl := rfl) ?_
  refine xr_aload_n (pc := 53) (i := 0) (hI := d_M_different_53) (hi := rfl) (hl := rfl) ?_
  refine xg_getf (pc := 54) (ci := 11) (k := 16) (N := 38) (v9 := 2) (v := 64) (T := xF11) (hI := d_M_different_54) (hw := w_1603) rfl xi11 (Or.inl rfl) (Nat.le_of_ble_eq_true rfl) (Nat.le_of_ble_eq_true rfl) rfl (ft_53 F) (fp_53_16 F) (fun f2_ => ?_)
  clear f2_
  refine xr_iload (pc := 57) (i := 4) (hI := d_M_different_57) (hl := rfl) ?_
  obtain ⟨c3_, hyp⟩ := hyp
  obtain ⟨c4_, hyp⟩ := hyp
  refine xg_laload (pc := 59) (v := (xpl h 64 x4)) (hI := d_M_different_59) (ft_64 F) c3_ (xlt_of (fl_64 F) c4_) rfl (fun f5_ => ?_)
  replace f5_ : -9223372036854775808 ≤ (xpl h 64 x4) ∧ (xpl h 64 x4) ≤ 9223372036854775807 := f5_
  obtain ⟨c6_, hyp⟩ := hyp
  obtain ⟨c7_, hyp⟩ := hyp
  refine xr_lastore (pc := 60) (hI := d_M_different_60) (ft_64 F) (by decide) c6_ (xlt_of (fl_64 F) c7_) ?_
  have F8_ : xFix (xst h 64 x3 (xpl h 64 x4)) := F.stA xfa_64
  refine xr_iinc (pc := 61) (i := 3) (L9 := [xR 53, xI x1, xI x2, xI (x3 + 1), xI x4]) (hI := d_M_different_61) (hl := rfl) (hn := Nat.le_of_ble_eq_true rfl) (hr := ⟨by clear hyp; omega, by clear hyp; omega⟩) (hL9 := rfl) ?_
  refine xr_iinc (pc := 64) (i := 4) (L9 := [xR 53, xI x1, xI x2, xI (x3 + 1), xI (x4 + 1)]) (hI := d_M_different_64) (hl := rfl) (hn := Nat.le_of_ble_eq_true rfl) (hr := ⟨by clear hyp; omega, by clear hyp; omega⟩) (hL9 := rfl) ?_
  refine xr_goto (pc := 67) (tgt := 14) (hI := d_M_different_67) (ht := by decide) ?_
  exact (hyp F8_)
abbrev m_M_differentIn : XM := (⟨"BeaconIndexModel", "differentIn", "(II)I"⟩, prog_14_method_40_code, 5, (some .int), [])
theorem d_M_differentIn_0 : decode prog_14_method_40_code 0 = .ok (.iconst 0, 1) := by decide +kernel
theorem d_M_differentIn_1 : decode prog_14_method_40_code 1 = .ok (.istore_n 3, 1) := by decide +kernel
theorem d_M_differentIn_2 : decode prog_14_method_40_code 2 = .ok (.aload_n 0, 1) := by decide +kernel
theorem d_M_differentIn_3 : decode prog_14_method_40_code 3 = .ok (.iload_n 1, 1) := by decide +kernel
theorem d_M_differentIn_4 : decode prog_14_method_40_code 4 = .ok (.invokevirtual 179, 3) := by decide +kernel
theorem v_M_differentIn_0 {G : XG} {d : Nat} {h : XH} {Q : XV → XH → Prop} {X : Nat → XH → Prop} {x1 x2 : Int} (F : xFix h) (hyp : (xwp G m_M_startOf (d + 216) 0 [xR 53, xI x1] [] h (fun v9 h9 => xwp G m_M_differentIn (d + 217) 7 [xR 53, xI x1, xI x2, xI 0, xZ] (xpush v9 []) h9 Q X) X)) : xwp G m_M_differentIn (d + 217) 0 [xR 53, xI x1, xI x2, xZ, xZ] [] h Q X := by
  have hnx9 : (93 : Int) ≤ xnx h := F.2.2
  refine xr_okL (fun hl9 => ?_)
  have r_x1 : -2147483648 ≤ x1 ∧ x1 ≤ 2147483647 := hl9 (xI x1) (.tail _ (.head _)) (Nat.le_of_ble_eq_true rfl)
  have r_x2 : -2147483648 ≤ x2 ∧ x2 ≤ 2147483647 := hl9 (xI x2) (.tail _ (.tail _ (.head _))) (Nat.le_of_ble_eq_true rfl)
  refine xr_iconst (pc := 0) (hI := d_M_differentIn_0) (hr := by decide) ?_
  refine xr_istore_n (pc := 1) (i := 3) (L9 := [xR 53, xI x1, xI x2, xI 0, xZ]) (hI := d_M_differentIn_1) (hi := rfl) (hn := Nat.le_of_ble_eq_true rfl) (hL9 := rfl) ?_
  refine xr_aload_n (pc := 2) (i := 0) (hI := d_M_differentIn_2) (hi := rfl) (hl := rfl) ?_
  refine xr_iload_n (pc := 3) (i := 1) (hI := d_M_differentIn_3) (hi := rfl) (hl := rfl) ?_
  exact xq_callV (pc := 4) (index := 179) (K := m_M_startOf) (As := [xI x1]) (S := []) (L0 := [xR 53, xI x1]) (hI := d_M_differentIn_4) (hK := k_M_startOf) (hlk := w_1736) (hnoM := rfl) (hS8 := Nat.le_of_ble_eq_true rfl) (ci := 11) (N := 38) (C := "BeaconIndexModel") (T := xF11) (hc := rfl) (hci := Nat.le_of_ble_eq_true rfl) (htb := (ft_53 F)) (hinst := w_1738) (hsel := sel_M_startOf) (hlen := Nat.le_of_ble_eq_true rfl) (hst := rfl) (hL0 := rfl)  hyp
theorem d_M_differentIn_7 : decode prog_14_method_40_code 7 = .ok (.istore 4, 2) := by decide +kernel
theorem v_M_differentIn_7 {G : XG} {d : Nat} {h : XH} {Q : XV → XH → Prop} {X : Nat → XH → Prop} {x1 x2 x3 s0 : Int} (F : xFix h) (hyp : (xwp G m_M_differentIn (d + 217) 9 [xR 53, xI x1, xI x2, xI x3, xI s0] [] h Q X)) : xwp G m_M_differentIn (d + 217) 7 [xR 53, xI x1, xI x2, xI x3, xZ] [xI s0] h Q X := by
  have hnx9 : (93 : Int) ≤ xnx h := F.2.2
  refine xr_okL (fun hl9 => ?_)
  have r_x1 : -2147483648 ≤ x1 ∧ x1 ≤ 2147483647 := hl9 (xI x1) (.tail _ (.head _)) (Nat.le_of_ble_eq_true rfl)
  have r_x2 : -2147483648 ≤ x2 ∧ x2 ≤ 2147483647 := hl9 (xI x2) (.tail _ (.tail _ (.head _))) (Nat.le_of_ble_eq_true rfl)
  have r_x3 : -2147483648 ≤ x3 ∧ x3 ≤ 2147483647 := hl9 (xI x3) (.tail _ (.tail _ (.tail _ (.head _)))) (Nat.le_of_ble_eq_true rfl)
  refine xr_okS (fun hs9 => ?_)
  have r_s0 : -2147483648 ≤ s0 ∧ s0 ≤ 2147483647 := hs9 (xI s0) (.head _)
  refine xr_istore (pc := 7) (i := 4) (L9 := [xR 53, xI x1, xI x2, xI x3, xI s0]) (hI := d_M_differentIn_7) (hn := Nat.le_of_ble_eq_true rfl) (hL9 := rfl) ?_
  exact hyp
theorem d_M_differentIn_9 : decode prog_14_method_40_code 9 = .ok (.iload 4, 2) := by decide +kernel
theorem d_M_differentIn_11 : decode prog_14_method_40_code 11 = .ok (.aload_n 0, 1) := by decide +kernel
theorem d_M_differentIn_12 : decode prog_14_method_40_code 12 = .ok (.getfield 16, 3) := by decide +kernel
theorem d_M_differentIn_15 : decode prog_14_method_40_code 15 = .ok (.iload_n 1, 1) := by decide +kernel
theorem d_M_differentIn_16 : decode prog_14_method_40_code 16 = .ok (.iaload, 1) := by decide +kernel
theorem d_M_differentIn_17 : decode prog_14_method_40_code 17 = .ok (.if_icmp .ge 43, 3) := by decide +kernel
theorem d_M_differentIn_60 : decode prog_14_method_40_code 60 = .ok (.aload_n 0, 1) := by decide +kernel
theorem d_M_differentIn_61 : decode prog_14_method_40_code 61 = .ok (.iconst 0, 1) := by decide +kernel
theorem d_M_differentIn_62 : decode prog_14_method_40_code 62 = .ok (.iload_n 3, 1) := by decide +kernel
theorem d_M_differentIn_63 : decode prog_14_method_40_code 63 = .ok (.invokevirtual 237, 3) := by decide +kernel
theorem k_M_different : xCal m_M_different 2 := ⟨List.mem_append_right _ (List.mem_of_getElem? (i := 1896) (by decide +kernel)), w_15, Nat.le_of_ble_eq_true rfl, ⟨by decide +kernel, by decide +kernel⟩, by decide +kernel, by decide +kernel, rfl⟩
theorem w_1893 : Cond.methodLink "BeaconIndexModel" 237 ⟨"BeaconIndexModel", "different", "(II)I"⟩ ∈ lw_tbl := List.mem_append_right _ (List.mem_of_getElem? (i := 1893) (by decide +kernel))
theorem w_1895 : Cond.instanceMethod ⟨"BeaconIndexModel", "different", "(II)I"⟩ ∈ lw_tbl := List.mem_append_right _ (List.mem_of_getElem? (i := 1895) (by decide +kernel))
theorem sel_M_different : Cond.selects "BeaconIndexModel" ⟨"BeaconIndexModel", "different", "(II)I"⟩ ⟨"BeaconIndexModel", "different", "(II)I"⟩ ∈ lw_tbl := List.mem_append_left _ (by decide +kernel)
theorem d_M_differentIn_20 : decode prog_14_method_40_code 20 = .ok (.aload_n 0, 1) := by decide +kernel
theorem d_M_differentIn_21 : decode prog_14_method_40_code 21 = .ok (.iload_n 3, 1) := by decide +kernel
theorem d_M_differentIn_22 : decode prog_14_method_40_code 22 = .ok (.aload_n 0, 1) := by decide +kernel
theorem d_M_differentIn_23 : decode prog_14_method_40_code 23 = .ok (.aload_n 0, 1) := by decide +kernel
theorem d_M_differentIn_24 : decode prog_14_method_40_code 24 = .ok (.getfield 13, 3) := by decide +kernel
theorem d_M_differentIn_27 : decode prog_14_method_40_code 27 = .ok (.iload 4, 2) := by decide +kernel
theorem d_M_differentIn_29 : decode prog_14_method_40_code 29 = .ok (.iaload, 1) := by decide +kernel
theorem d_M_differentIn_30 : decode prog_14_method_40_code 30 = .ok (.iload_n 2, 1) := by decide +kernel
theorem d_M_differentIn_31 : decode prog_14_method_40_code 31 = .ok (.invokevirtual 214, 3) := by decide +kernel
theorem v_M_differentIn_9 {G : XG} {d : Nat} {h : XH} {Q : XV → XH → Prop} {X : Nat → XH → Prop} {x1 x2 x3 x4 : Int} (F : xFix h) (hyp : 0 ≤ x1 ∧ x1 < 60 ∧ (((xpl h 56 x1) ≤ x4 → (xwp G m_M_different (d + 216) 0 [xR 53, xI 0, xI x3, xZ, xZ] [] h (fun v9 h9 => xwp G m_M_differentIn (d + 217) 66 [xZ, xZ, xZ, xZ, xZ] (xpush v9 []) h9 Q X) X)) ∧ (¬ (xpl h 56 x1) ≤ x4 → 0 ≤ x4 ∧ x4 < 60 ∧ (xwp G m_M_base (d + 216) 0 [xR 53, xI (xpl h 55 x4), xI x2] [] h (fun v9 h9 => xwp G m_M_differentIn (d + 217) 34 [xR 53, xI x1, xI x2, xZ, xI x4] (xpush v9 [xI x3, xR 53]) h9 Q X) X)))) : xwp G m_M_differentIn (d + 217) 9 [xR 53, xI x1, xI x2, xI x3, xI x4] [] h Q X := by
  have hnx9 : (93 : Int) ≤ xnx h := F.2.2
  refine xr_okL (fun hl9 => ?_)
  have r_x1 : -2147483648 ≤ x1 ∧ x1 ≤ 2147483647 := hl9 (xI x1) (.tail _ (.head _)) (Nat.le_of_ble_eq_true rfl)
  have r_x2 : -2147483648 ≤ x2 ∧ x2 ≤ 2147483647 := hl9 (xI x2) (.tail _ (.tail _ (.head _))) (Nat.le_of_ble_eq_true rfl)
  have r_x3 : -2147483648 ≤ x3 ∧ x3 ≤ 2147483647 := hl9 (xI x3) (.tail _ (.tail _ (.tail _ (.head _)))) (Nat.le_of_ble_eq_true rfl)
  have r_x4 : -2147483648 ≤ x4 ∧ x4 ≤ 2147483647 := hl9 (xI x4) (.tail _ (.tail _ (.tail _ (.tail _ (.head _))))) (Nat.le_of_ble_eq_true rfl)
  refine xr_iload (pc := 9) (i := 4) (hI := d_M_differentIn_9) (hl := rfl) ?_
  refine xr_aload_n (pc := 11) (i := 0) (hI := d_M_differentIn_11) (hi := rfl) (hl := rfl) ?_
  refine xg_getf (pc := 12) (ci := 11) (k := 7) (N := 38) (v9 := 2) (v := 56) (T := xF11) (hI := d_M_differentIn_12) (hw := w_1594) rfl xi11 (Or.inl rfl) (Nat.le_of_ble_eq_true rfl) (Nat.le_of_ble_eq_true rfl) rfl (ft_53 F) (fp_53_7 F) (fun f1_ => ?_)
  clear f1_
  refine xr_iload_n (pc := 15) (i := 1) (hI := d_M_differentIn_15) (hi := rfl) (hl := rfl) ?_
  obtain ⟨c2_, hyp⟩ := hyp
  obtain ⟨c3_, hyp⟩ := hyp
  refine xg_iaload (pc := 16) (v := (xpl h 56 x1)) (hI := d_M_differentIn_16) (ft_56 F) c2_ (xlt_of (fl_56 F) c3_) rfl (fun f4_ => ?_)
  replace f4_ : -2147483648 ≤ (xpl h 56 x1) ∧ (xpl h 56 x1) ≤ 2147483647 := f4_
  refine xr_icmp_ge (pc := 17) (tgt := 60) (hI := d_M_differentIn_17) (ht := by decide) (fun q9 => ?_) (fun q9 => ?_)
  · replace hyp := hyp.1 q9
    have q5_ := q9
    clear q9
    refine xr_aload_n (pc := 60) (i := 0) (hI := d_M_differentIn_60) (hi := rfl) (hl := rfl) ?_
    refine xr_iconst (pc := 61) (hI := d_M_differentIn_61) (hr := by decide) ?_
    refine xr_iload_n (pc := 62) (i := 3) (hI := d_M_differentIn_62) (hi := rfl) (hl := rfl) ?_
    exact xq_callV (pc := 63) (index := 237) (K := m_M_different) (As := [xI 0, xI x3]) (S := []) (L0 := [xR 53, xI 0, xI x3, xZ, xZ]) (hI := d_M_differentIn_63) (hK := k_M_different) (hlk := w_1893) (hnoM := rfl) (hS8 := Nat.le_of_ble_eq_true rfl) (ci := 11) (N := 38) (C := "BeaconIndexModel") (T := xF11) (hc := rfl) (hci := Nat.le_of_ble_eq_true rfl) (htb := (ft_53 F)) (hinst := w_1895) (hsel := sel_M_different) (hlen := Nat.le_of_ble_eq_true rfl) (hst := rfl) (hL0 := rfl)  (xwp_mono hyp (fun v9 h9 q9 => xr_drop (L9 := [xZ, xZ, xZ, xZ, xZ]) (xdrz (xdrz (xdrz (xdrz (xdrz xdr0))))) q9) (fun _ _ z9 => z9))
  · replace hyp := hyp.2 q9
    have q5_ := q9
    clear q9
    refine xr_aload_n (pc := 20) (i := 0) (hI := d_M_differentIn_20) (hi := rfl) (hl := rfl) ?_
    refine xr_iload_n (pc := 21) (i := 3) (hI := d_M_differentIn_21) (hi := rfl) (hl := rfl) ?_
    refine xr_aload_n (pc := 22) (i := 0) (hI := d_M_differentIn_22) (hi := rfl) (hl := rfl) ?_
    refine xr_aload_n (pc := 23) (i := 0) (hI := d_M_differentIn_23) (hi := rfl) (hl := rfl) ?_
    refine xg_getf (pc := 24) (ci := 11) (k := 3) (N := 38) (v9 := 2) (v := 55) (T := xF11) (hI := d_M_differentIn_24) (hw := w_1590) rfl xi11 (Or.inl rfl) (Nat.le_of_ble_eq_true rfl) (Nat.le_of_ble_eq_true rfl) rfl (ft_53 F) (fp_53_3 F) (fun f6_ => ?_)
    clear f6_
    refine xr_iload (pc := 27) (i := 4) (hI := d_M_differentIn_27) (hl := rfl) ?_
    obtain ⟨c7_, hyp⟩ := hyp
    obtain ⟨c8_, hyp⟩ := hyp
    refine xg_iaload (pc := 29) (v := (xpl h 55 x4)) (hI := d_M_differentIn_29) (ft_55 F) c7_ (xlt_of (fl_55 F) c8_) rfl (fun f9_ => ?_)
    replace f9_ : -2147483648 ≤ (xpl h 55 x4) ∧ (xpl h 55 x4) ≤ 2147483647 := f9_
    refine xr_iload_n (pc := 30) (i := 2) (hI := d_M_differentIn_30) (hi := rfl) (hl := rfl) ?_
    exact xq_callV (pc := 31) (index := 214) (K := m_M_base) (As := [xI (xpl h 55 x4), xI x2]) (S := [xI x3, xR 53]) (L0 := [xR 53, xI (xpl h 55 x4), xI x2]) (hI := d_M_differentIn_31) (hK := k_M_base) (hlk := w_1885) (hnoM := rfl) (hS8 := Nat.le_of_ble_eq_true rfl) (ci := 11) (N := 38) (C := "BeaconIndexModel") (T := xF11) (hc := rfl) (hci := Nat.le_of_ble_eq_true rfl) (htb := (ft_53 F)) (hinst := w_1887) (hsel := sel_M_base) (hlen := Nat.le_of_ble_eq_true rfl) (hst := rfl) (hL0 := rfl)  (xwp_mono hyp (fun v9 h9 q9 => xr_drop (L9 := [xR 53, xI x1, xI x2, xZ, xI x4]) (xdrs (xdrs (xdrs (xdrz (xdrs xdr0))))) q9) (fun _ _ z9 => z9))
theorem d_M_differentIn_34 : decode prog_14_method_40_code 34 = .ok (.aload_n 0, 1) := by decide +kernel
theorem d_M_differentIn_35 : decode prog_14_method_40_code 35 = .ok (.getfield 32, 3) := by decide +kernel
theorem d_M_differentIn_38 : decode prog_14_method_40_code 38 = .ok (.iconst 2, 1) := by decide +kernel
theorem d_M_differentIn_39 : decode prog_14_method_40_code 39 = .ok (.aload_n 0, 1) := by decide +kernel
theorem d_M_differentIn_40 : decode prog_14_method_40_code 40 = .ok (.getfield 13, 3) := by decide +kernel
theorem d_M_differentIn_43 : decode prog_14_method_40_code 43 = .ok (.iload 4, 2) := by decide +kernel
theorem d_M_differentIn_45 : decode prog_14_method_40_code 45 = .ok (.iaload, 1) := by decide +kernel
theorem d_M_differentIn_46 : decode prog_14_method_40_code 46 = .ok (.imul, 1) := by decide +kernel
theorem d_M_differentIn_47 : decode prog_14_method_40_code 47 = .ok (.iload_n 2, 1) := by decide +kernel
theorem d_M_differentIn_48 : decode prog_14_method_40_code 48 = .ok (.iadd, 1) := by decide +kernel
theorem d_M_differentIn_49 : decode prog_14_method_40_code 49 = .ok (.iaload, 1) := by decide +kernel
theorem d_M_differentIn_50 : decode prog_14_method_40_code 50 = .ok (.invokevirtual 233, 3) := by decide +kernel
theorem k_M_gather : xCal m_M_gather 3 := ⟨List.mem_append_right _ (List.mem_of_getElem? (i := 1892) (by decide +kernel)), w_15, Nat.le_of_ble_eq_true rfl, ⟨by decide +kernel, by decide +kernel⟩, by decide +kernel, by decide +kernel, rfl⟩
theorem w_1889 : Cond.methodLink "BeaconIndexModel" 233 ⟨"BeaconIndexModel", "gather", "(III)I"⟩ ∈ lw_tbl := List.mem_append_right _ (List.mem_of_getElem? (i := 1889) (by decide +kernel))
theorem w_1891 : Cond.instanceMethod ⟨"BeaconIndexModel", "gather", "(III)I"⟩ ∈ lw_tbl := List.mem_append_right _ (List.mem_of_getElem? (i := 1891) (by decide +kernel))
theorem sel_M_gather : Cond.selects "BeaconIndexModel" ⟨"BeaconIndexModel", "gather", "(III)I"⟩ ⟨"BeaconIndexModel", "gather", "(III)I"⟩ ∈ lw_tbl := List.mem_append_left _ (by decide +kernel)
theorem v_M_differentIn_34 {G : XG} {d : Nat} {h : XH} {Q : XV → XH → Prop} {X : Nat → XH → Prop} {x1 x2 x4 s0 s1 : Int} (F : xFix h) (hyp : 0 ≤ x4 ∧ x4 < 60 ∧ xiR (2 * (xpl h 55 x4)) ∧ xiR ((2 * (xpl h 55 x4)) + x2) ∧ 0 ≤ ((2 * (xpl h 55 x4)) + x2) ∧ ((2 * (xpl h 55 x4)) + x2) < 120 ∧ (xwp G m_M_gather (d + 216) 0 [xR 53, xI s1, xI s0, xI (xpl h 61 ((2 * (xpl h 55 x4)) + x2)), xZ, xZ] [] h (fun v9 h9 => xwp G m_M_differentIn (d + 217) 53 [xR 53, xI x1, xI x2, xZ, xI x4] (xpush v9 []) h9 Q X) X)) : xwp G m_M_differentIn (d + 217) 34 [xR 53, xI x1, xI x2, xZ, xI x4] [xI s0, xI s1, xR 53] h Q X := by
  have hnx9 : (93 : Int) ≤ xnx h := F.2.2
  refine xr_okL (fun hl9 => ?_)
  have r_x1 : -2147483648 ≤ x1 ∧ x1 ≤ 2147483647 := hl9 (xI x1) (.tail _ (.head _)) (Nat.le_of_ble_eq_true rfl)
  have r_x2 : -2147483648 ≤ x2 ∧ x2 ≤ 2147483647 := hl9 (xI x2) (.tail _ (.tail _ (.head _))) (Nat.le_of_ble_eq_true rfl)
  have r_x4 : -2147483648 ≤ x4 ∧ x4 ≤ 2147483647 := hl9 (xI x4) (.tail _ (.tail _ (.tail _ (.tail _ (.head _))))) (Nat.le_of_ble_eq_true rfl)
  refine xr_okS (fun hs9 => ?_)
  have r_s0 : -2147483648 ≤ s0 ∧ s0 ≤ 2147483647 := hs9 (xI s0) (.head _)
  have r_s1 : -2147483648 ≤ s1 ∧ s1 ≤ 2147483647 := hs9 (xI s1) (.tail _ (.head _))
  refine xr_aload_n (pc := 34) (i := 0) (hI := d_M_differentIn_34) (hi := rfl) (hl := rfl) ?_
  refine xg_getf (pc := 35) (ci := 11) (k := 12) (N := 38) (v9 := 2) (v := 61) (T := xF11) (hI := d_M_differentIn_35) (hw := w_1599) rfl xi11 (Or.inl rfl) (Nat.le_of_ble_eq_true rfl) (Nat.le_of_ble_eq_true rfl) rfl (ft_53 F) (fp_53_12 F) (fun f1_ => ?_)
  clear f1_
  refine xr_iconst (pc := 38) (hI := d_M_differentIn_38) (hr := by decide) ?_
  refine xr_aload_n (pc := 39) (i := 0) (hI := d_M_differentIn_39) (hi := rfl) (hl := rfl) ?_
  refine xg_getf (pc := 40) (ci := 11) (k := 3) (N := 38) (v9 := 2) (v := 55) (T := xF11) (hI := d_M_differentIn_40) (hw := w_1590) rfl xi11 (Or.inl rfl) (Nat.le_of_ble_eq_true rfl) (Nat.le_of_ble_eq_true rfl) rfl (ft_53 F) (fp_53_3 F) (fun f2_ => ?_)
  clear f2_
  refine xr_iload (pc := 43) (i := 4) (hI := d_M_differentIn_43) (hl := rfl) ?_
  obtain ⟨c3_, hyp⟩ := hyp
  obtain ⟨c4_, hyp⟩ := hyp
  refine xg_iaload (pc := 45) (v := (xpl h 55 x4)) (hI := d_M_differentIn_45) (ft_55 F) c3_ (xlt_of (fl_55 F) c4_) rfl (fun f5_ => ?_)
  replace f5_ : -2147483648 ≤ (xpl h 55 x4) ∧ (xpl h 55 x4) ≤ 2147483647 := f5_
  obtain ⟨c9, hyp⟩ := hyp
  refine xr_imul (pc := 46) (hI := d_M_differentIn_46) (hr := c9) ?_
  refine xr_iload_n (pc := 47) (i := 2) (hI := d_M_differentIn_47) (hi := rfl) (hl := rfl) ?_
  obtain ⟨c9, hyp⟩ := hyp
  refine xr_iadd (pc := 48) (hI := d_M_differentIn_48) (hr := c9) ?_
  obtain ⟨c6_, hyp⟩ := hyp
  obtain ⟨c7_, hyp⟩ := hyp
  refine xg_iaload (pc := 49) (v := (xpl h 61 ((2 * (xpl h 55 x4)) + x2))) (hI := d_M_differentIn_49) (ft_61 F) c6_ (xlt_of (fl_61 F) c7_) rfl (fun f8_ => ?_)
  replace f8_ : -2147483648 ≤ (xpl h 61 ((2 * (xpl h 55 x4)) + x2)) ∧ (xpl h 61 ((2 * (xpl h 55 x4)) + x2)) ≤ 2147483647 := f8_
  exact xq_callV (pc := 50) (index := 233) (K := m_M_gather) (As := [xI s1, xI s0, xI (xpl h 61 ((2 * (xpl h 55 x4)) + x2))]) (S := []) (L0 := [xR 53, xI s1, xI s0, xI (xpl h 61 ((2 * (xpl h 55 x4)) + x2)), xZ, xZ]) (hI := d_M_differentIn_50) (hK := k_M_gather) (hlk := w_1889) (hnoM := rfl) (hS8 := Nat.le_of_ble_eq_true rfl) (ci := 11) (N := 38) (C := "BeaconIndexModel") (T := xF11) (hc := rfl) (hci := Nat.le_of_ble_eq_true rfl) (htb := (ft_53 F)) (hinst := w_1891) (hsel := sel_M_gather) (hlen := Nat.le_of_ble_eq_true rfl) (hst := rfl) (hL0 := rfl)  hyp
theorem d_M_differentIn_53 : decode prog_14_method_40_code 53 = .ok (.istore_n 3, 1) := by decide +kernel
theorem d_M_differentIn_54 : decode prog_14_method_40_code 54 = .ok (.iinc 4 1, 3) := by decide +kernel
theorem d_M_differentIn_57 : decode prog_14_method_40_code 57 = .ok (.goto (-48), 3) := by decide +kernel
theorem v_M_differentIn_53 {G : XG} {d : Nat} {h : XH} {Q : XV → XH → Prop} {X : Nat → XH → Prop} {x1 x2 x4 s0 : Int} (F : xFix h) (hyp : xiR (x4 + 1) ∧ (xwp G m_M_differentIn (d + 217) 9 [xR 53, xI x1, xI x2, xI s0, xI (x4 + 1)] [] h Q X)) : xwp G m_M_differentIn (d + 217) 53 [xR 53, xI x1, xI x2, xZ, xI x4] [xI s0] h Q X := by
  have hnx9 : (93 : Int) ≤ xnx h := F.2.2
  refine xr_okL (fun hl9 => ?_)
  have r_x1 : -2147483648 ≤ x1 ∧ x1 ≤ 2147483647 := hl9 (xI x1) (.tail _ (.head _)) (Nat.le_of_ble_eq_true rfl)
  have r_x2 : -2147483648 ≤ x2 ∧ x2 ≤ 2147483647 := hl9 (xI x2) (.tail _ (.tail _ (.head _))) (Nat.le_of_ble_eq_true rfl)
  have r_x4 : -2147483648 ≤ x4 ∧ x4 ≤ 2147483647 := hl9 (xI x4) (.tail _ (.tail _ (.tail _ (.tail _ (.head _))))) (Nat.le_of_ble_eq_true rfl)
  refine xr_okS (fun hs9 => ?_)
  have r_s0 : -2147483648 ≤ s0 ∧ s0 ≤ 2147483647 := hs9 (xI s0) (.head _)
  refine xr_istore_n (pc := 53) (i := 3) (L9 := [xR 53, xI x1, xI x2, xI s0, xI x4]) (hI := d_M_differentIn_53) (hi := rfl) (hn := Nat.le_of_ble_eq_true rfl) (hL9 := rfl) ?_
  obtain ⟨c9, hyp⟩ := hyp
  refine xr_iinc (pc := 54) (i := 4) (L9 := [xR 53, xI x1, xI x2, xI s0, xI (x4 + 1)]) (hI := d_M_differentIn_54) (hl := rfl) (hn := Nat.le_of_ble_eq_true rfl) (hr := c9) (hL9 := rfl) ?_
  refine xr_goto (pc := 57) (tgt := 9) (hI := d_M_differentIn_57) (ht := by decide) ?_
  exact hyp
theorem d_M_differentIn_66 : decode prog_14_method_40_code 66 = .ok (.ireturn, 1) := by decide +kernel
theorem v_M_differentIn_66 {G : XG} {d : Nat} {h : XH} {Q : XV → XH → Prop} {X : Nat → XH → Prop} {s0 : Int} (F : xFix h) (hyp : (Q (xI s0) h)) : xwp G m_M_differentIn (d + 217) 66 [xZ, xZ, xZ, xZ, xZ] [xI s0] h Q X := by
  have hnx9 : (93 : Int) ≤ xnx h := F.2.2
  refine xr_okS (fun hs9 => ?_)
  have r_s0 : -2147483648 ≤ s0 ∧ s0 ≤ 2147483647 := hs9 (xI s0) (.head _)
  refine xr_ireturn (S := []) (pc := 66) (hI := d_M_differentIn_66) (hr := rfl) ?_
  exact hyp
abbrev m_M_wordsIn : XM := (⟨"BeaconIndexModel", "wordsIn", "(II)I"⟩, prog_14_method_89_code, 3, (some .int), [])
theorem d_M_wordsIn_0 : decode prog_14_method_89_code 0 = .ok (.aload_n 0, 1) := by decide +kernel
theorem d_M_wordsIn_1 : decode prog_14_method_89_code 1 = .ok (.aload_n 0, 1) := by decide +kernel
theorem d_M_wordsIn_2 : decode prog_14_method_89_code 2 = .ok (.iload_n 1, 1) := by decide +kernel
theorem d_M_wordsIn_3 : decode prog_14_method_89_code 3 = .ok (.invokevirtual 211, 3) := by decide +kernel
theorem d_M_wordsIn_6 : decode prog_14_method_89_code 6 = .ok (.ifCond .eq 14, 3) := by decide +kernel
theorem d_M_wordsIn_9 : decode prog_14_method_89_code 9 = .ok (.iload_n 2, 1) := by decide +kernel
theorem d_M_wordsIn_10 : decode prog_14_method_89_code 10 = .ok (.invokestatic 423, 3) := by decide +kernel
theorem d_M_wordsIn_13 : decode prog_14_method_89_code 13 = .ok (.ifCond .eq 7, 3) := by decide +kernel
theorem d_M_wordsIn_16 : decode prog_14_method_89_code 16 = .ok (.iconst 1, 1) := by decide +kernel
theorem d_M_wordsIn_17 : decode prog_14_method_89_code 17 = .ok (.goto 4, 3) := by decide +kernel
theorem v_M_wordsIn_0 {G : XG} {d : Nat} {h : XH} {Q : XV → XH → Prop} {X : Nat → XH → Prop} {x1 x2 : Int} (F : xFix h) (hyp : xiR ((xpl h 53 5) - 1) ∧ ((x1 < 0 → (xwp G m_M_wordsIn (d + 218) 20 [xR 53, xI x1, xI x2] [xR 53] h Q X)) ∧ (¬ x1 < 0 → ((((xpl h 53 5) - 1) < x1 → (xwp G m_M_wordsIn (d + 218) 20 [xR 53, xI x1, xI x2] [xR 53] h Q X)) ∧ (¬ ((xpl h 53 5) - 1) < x1 → ((x2 = 0 → (xwp G m_M_wordsIn (d + 218) 21 [xR 53, xI x1, xI x2] [xI 1, xR 53] h Q X)) ∧ (¬ x2 = 0 → ((x2 = 1 → (xwp G m_M_wordsIn (d + 218) 21 [xR 53, xI x1, xI x2] [xI 1, xR 53] h Q X)) ∧ (¬ x2 = 1 → (xwp G m_M_wordsIn (d + 218) 20 [xR 53, xI x1, xI x2] [xR 53] h Q X)))))))))) : xwp G m_M_wordsIn (d + 218) 0 [xR 53, xI x1, xI x2] [] h Q X := by
  have hnx9 : (93 : Int) ≤ xnx h := F.2.2
  refine xr_okL (fun hl9 => ?_)
  have r_x1 : -2147483648 ≤ x1 ∧ x1 ≤ 2147483647 := hl9 (xI x1) (.tail _ (.head _)) (Nat.le_of_ble_eq_true rfl)
  have r_x2 : -2147483648 ≤ x2 ∧ x2 ≤ 2147483647 := hl9 (xI x2) (.tail _ (.tail _ (.head _))) (Nat.le_of_ble_eq_true rfl)
  refine xr_aload_n (pc := 0) (i := 0) (hI := d_M_wordsIn_0) (hi := rfl) (hl := rfl) ?_
  refine xr_aload_n (pc := 1) (i := 0) (hI := d_M_wordsIn_1) (hi := rfl) (hl := rfl) ?_
  refine xr_iload_n (pc := 2) (i := 1) (hI := d_M_wordsIn_2) (hi := rfl) (hl := rfl) ?_
  refine xq_callV (pc := 3) (index := 211) (K := m_M_isSegment) (As := [xI x1]) (S := [xR 53]) (L0 := [xR 53, xI x1]) (hI := d_M_wordsIn_3) (hK := k_M_isSegment) (hlk := w_1862) (hnoM := rfl) (hS8 := Nat.le_of_ble_eq_true rfl) (ci := 11) (N := 38) (C := "BeaconIndexModel") (T := xF11) (hc := rfl) (hci := Nat.le_of_ble_eq_true rfl) (htb := (ft_53 F)) (hinst := w_1864) (hsel := sel_M_isSegment) (hlen := Nat.le_of_ble_eq_true rfl) (hst := rfl) (hL0 := rfl)  ?_
  refine xr_iload_n (pc := 0) (i := 1) (hI := d_M_isSegment_0) (hi := rfl) (hl := rfl) ?_
  refine xr_iconst (pc := 1) (hI := d_M_isSegment_1) (hr := by decide) ?_
  refine xr_aload_n (pc := 2) (i := 0) (hI := d_M_isSegment_2) (hi := rfl) (hl := rfl) ?_
  refine xg_getf (pc := 3) (ci := 11) (k := 5) (N := 38) (v9 := 0) (v := (xpl h 53 5)) (T := xF11) (hI := d_M_isSegment_3) (hw := w_1592) rfl xi11 (Or.inl rfl) (Nat.le_of_ble_eq_true rfl) (Nat.le_of_ble_eq_true rfl) rfl (ft_53 F) rfl (fun f1_ => ?_)
  replace f1_ : -2147483648 ≤ (xpl h 53 5) ∧ (xpl h 53 5) ≤ 2147483647 := f1_
  refine xr_iconst (pc := 6) (hI := d_M_isSegment_6) (hr := by decide) ?_
  obtain ⟨c9, hyp⟩ := hyp
  refine xr_isub (pc := 7) (hI := d_M_isSegment_7) (hr := c9) ?_
  refine xq_callS (pc := 8) (index := 101) (K := m_M_isBetween) (As := [xI x1, xI 0, xI ((xpl h 53 5) - 1)]) (S := []) (L0 := [xI x1, xI 0, xI ((xpl h 53 5) - 1)]) (hI := d_M_isSegment_8) (hK := k_M_isBetween) (hlk := w_1718) (hnoM := rfl) (hS8 := Nat.le_of_ble_eq_true rfl) (hstat := w_1719) (hlen := Nat.le_of_ble_eq_true rfl) (hst := rfl) (hL0 := rfl)  ?_
  refine xr_iload_n (pc := 0) (i := 0) (hI := d_M_isBetween_0) (hi := rfl) (hl := rfl) ?_
  refine xr_iload_n (pc := 1) (i := 1) (hI := d_M_isBetween_1) (hi := rfl) (hl := rfl) ?_
  refine xr_icmp_lt (pc := 2) (tgt := 14) (hI := d_M_isBetween_2) (ht := by decide) (fun q9 => ?_) (fun q9 => ?_)
  · replace hyp := hyp.1 q9
    have q2_ := q9
    clear q9
    refine xr_iconst (pc := 14) (hI := d_M_isBetween_14) (hr := by decide) ?_
    refine xr_ireturnT (S := []) (pc := 15) (hI := d_M_isBetween_15) (hr := rfl) (xnar_z (by decide)) ?_
    show xwp G m_M_isSegment (d + 217) 11 [xR 53, xI x1] [xI 0] _ _ _
    refine xr_ireturnT (S := []) (pc := 11) (hI := d_M_isSegment_11) (hr := rfl) (xnar_z (by decide)) ?_
    show xwp G m_M_wordsIn (d + 218) 6 [xR 53, xI x1, xI x2] [xI 0, xR 53] _ _ _
    refine xr_if_eq (pc := 6) (tgt := 20) (hI := d_M_wordsIn_6) (ht := by decide) (fun q9 => ?_) (fun q9 => ?_)
    · clear q9
      exact hyp
    · exact absurd q9 (by decide)
  · replace hyp := hyp.2 q9
    have q2_ := q9
    clear q9
    refine xr_iload_n (pc := 5) (i := 0) (hI := d_M_isBetween_5) (hi := rfl) (hl := rfl) ?_
    refine xr_iload_n (pc := 6) (i := 2) (hI := d_M_isBetween_6) (hi := rfl) (hl := rfl) ?_
    refine xr_icmp_gt (pc := 7) (tgt := 14) (hI := d_M_isBetween_7) (ht := by decide) (fun q9 => ?_) (fun q9 => ?_)
    · replace hyp := hyp.1 q9
      have q3_ := q9
      clear q9
      refine xr_iconst (pc := 14) (hI := d_M_isBetween_14) (hr := by decide) ?_
      refine xr_ireturnT (S := []) (pc := 15) (hI := d_M_isBetween_15) (hr := rfl) (xnar_z (by decide)) ?_
      show xwp G m_M_isSegment (d + 217) 11 [xR 53, xI x1] [xI 0] _ _ _
      refine xr_ireturnT (S := []) (pc := 11) (hI := d_M_isSegment_11) (hr := rfl) (xnar_z (by decide)) ?_
      show xwp G m_M_wordsIn (d + 218) 6 [xR 53, xI x1, xI x2] [xI 0, xR 53] _ _ _
      refine xr_if_eq (pc := 6) (tgt := 20) (hI := d_M_wordsIn_6) (ht := by decide) (fun q9 => ?_) (fun q9 => ?_)
      · clear q9
        exact hyp
      · exact absurd q9 (by decide)
    · replace hyp := hyp.2 q9
      have q3_ := q9
      clear q9
      refine xr_iconst (pc := 10) (hI := d_M_isBetween_10) (hr := by decide) ?_
      refine xr_goto (pc := 11) (tgt := 15) (hI := d_M_isBetween_11) (ht := by decide) ?_
      refine xr_ireturnT (S := []) (pc := 15) (hI := d_M_isBetween_15) (hr := rfl) (xnar_z (by decide)) ?_
      show xwp G m_M_isSegment (d + 217) 11 [xR 53, xI x1] [xI 1] _ _ _
      refine xr_ireturnT (S := []) (pc := 11) (hI := d_M_isSegment_11) (hr := rfl) (xnar_z (by decide)) ?_
      show xwp G m_M_wordsIn (d + 218) 6 [xR 53, xI x1, xI x2] [xI 1, xR 53] _ _ _
      refine xr_if_eq (pc := 6) (tgt := 20) (hI := d_M_wordsIn_6) (ht := by decide) (fun q9 => ?_) (fun q9 => ?_)
      · exact absurd q9 (by decide)
      · clear q9
        refine xr_iload_n (pc := 9) (i := 2) (hI := d_M_wordsIn_9) (hi := rfl) (hl := rfl) ?_
        refine xq_callS (pc := 10) (index := 423) (K := m_M_isField) (As := [xI x2]) (S := [xR 53]) (L0 := [xI x2]) (hI := d_M_wordsIn_10) (hK := k_M_isField) (hlk := w_1878) (hnoM := rfl) (hS8 := Nat.le_of_ble_eq_true rfl) (hstat := w_1879) (hlen := Nat.le_of_ble_eq_true rfl) (hst := rfl) (hL0 := rfl)  ?_
        refine xr_iload_n (pc := 0) (i := 0) (hI := d_M_isField_0) (hi := rfl) (hl := rfl) ?_
        refine xr_if_eq (pc := 1) (tgt := 9) (hI := d_M_isField_1) (ht := by decide) (fun q9 => ?_) (fun q9 => ?_)
        · replace hyp := hyp.1 q9
          have q4_ := q9
          clear q9
          refine xr_iconst (pc := 9) (hI := d_M_isField_9) (hr := by decide) ?_
          refine xr_goto (pc := 10) (tgt := 14) (hI := d_M_isField_10) (ht := by decide) ?_
          refine xr_ireturnT (S := []) (pc := 14) (hI := d_M_isField_14) (hr := rfl) (xnar_z (by decide)) ?_
          show xwp G m_M_wordsIn (d + 218) 13 [xR 53, xI x1, xI x2] [xI 1, xR 53] _ _ _
          refine xr_if_eq (pc := 13) (tgt := 20) (hI := d_M_wordsIn_13) (ht := by decide) (fun q9 => ?_) (fun q9 => ?_)
          · exact absurd q9 (by decide)
          · clear q9
            refine xr_iconst (pc := 16) (hI := d_M_wordsIn_16) (hr := by decide) ?_
            refine xr_goto (pc := 17) (tgt := 21) (hI := d_M_wordsIn_17) (ht := by decide) ?_
            exact hyp
        · replace hyp := hyp.2 q9
          have q4_ := q9
          clear q9
          refine xr_iload_n (pc := 4) (i := 0) (hI := d_M_isField_4) (hi := rfl) (hl := rfl) ?_
          refine xr_iconst (pc := 5) (hI := d_M_isField_5) (hr := by decide) ?_
          refine xr_icmp_ne (pc := 6) (tgt := 13) (hI := d_M_isField_6) (ht := by decide) (fun q9 => ?_) (fun q9 => ?_)
          · replace hyp := hyp.2 q9
            have q5_ := q9
            clear q9
            refine xr_iconst (pc := 13) (hI := d_M_isField_13) (hr := by decide) ?_
            refine xr_ireturnT (S := []) (pc := 14) (hI := d_M_isField_14) (hr := rfl) (xnar_z (by decide)) ?_
            show xwp G m_M_wordsIn (d + 218) 13 [xR 53, xI x1, xI x2] [xI 0, xR 53] _ _ _
            refine xr_if_eq (pc := 13) (tgt := 20) (hI := d_M_wordsIn_13) (ht := by decide) (fun q9 => ?_) (fun q9 => ?_)
            · clear q9
              exact hyp
            · exact absurd q9 (by decide)
          · replace hyp := hyp.1 q9
            have q5_ := q9
            clear q9
            refine xr_iconst (pc := 9) (hI := d_M_isField_9) (hr := by decide) ?_
            refine xr_goto (pc := 10) (tgt := 14) (hI := d_M_isField_10) (ht := by decide) ?_
            refine xr_ireturnT (S := []) (pc := 14) (hI := d_M_isField_14) (hr := rfl) (xnar_z (by decide)) ?_
            show xwp G m_M_wordsIn (d + 218) 13 [xR 53, xI x1, xI x2] [xI 1, xR 53] _ _ _
            refine xr_if_eq (pc := 13) (tgt := 20) (hI := d_M_wordsIn_13) (ht := by decide) (fun q9 => ?_) (fun q9 => ?_)
            · exact absurd q9 (by decide)
            · clear q9
              refine xr_iconst (pc := 16) (hI := d_M_wordsIn_16) (hr := by decide) ?_
              refine xr_goto (pc := 17) (tgt := 21) (hI := d_M_wordsIn_17) (ht := by decide) ?_
              exact hyp
theorem d_M_wordsIn_20 : decode prog_14_method_89_code 20 = .ok (.iconst 0, 1) := by decide +kernel
theorem v_M_wordsIn_20 {G : XG} {d : Nat} {h : XH} {Q : XV → XH → Prop} {X : Nat → XH → Prop} {x1 x2 : Int} (F : xFix h) (hyp : (xwp G m_M_wordsIn (d + 218) 21 [xR 53, xI x1, xI x2] [xI 0, xR 53] h Q X)) : xwp G m_M_wordsIn (d + 218) 20 [xR 53, xI x1, xI x2] [xR 53] h Q X := by
  have hnx9 : (93 : Int) ≤ xnx h := F.2.2
  refine xr_okL (fun hl9 => ?_)
  have r_x1 : -2147483648 ≤ x1 ∧ x1 ≤ 2147483647 := hl9 (xI x1) (.tail _ (.head _)) (Nat.le_of_ble_eq_true rfl)
  have r_x2 : -2147483648 ≤ x2 ∧ x2 ≤ 2147483647 := hl9 (xI x2) (.tail _ (.tail _ (.head _))) (Nat.le_of_ble_eq_true rfl)
  refine xr_iconst (pc := 20) (hI := d_M_wordsIn_20) (hr := by decide) ?_
  exact hyp
theorem d_M_wordsIn_21 : decode prog_14_method_89_code 21 = .ok (.invokevirtual 407, 3) := by decide +kernel
theorem d_M_wordsIn_24 : decode prog_14_method_89_code 24 = .ok (.ifCond .eq 12, 3) := by decide +kernel
theorem d_M_wordsIn_36 : decode prog_14_method_89_code 36 = .ok (.iconst 0, 1) := by decide +kernel
theorem d_M_wordsIn_37 : decode prog_14_method_89_code 37 = .ok (.ireturn, 1) := by decide +kernel
theorem d_M_wordsIn_27 : decode prog_14_method_89_code 27 = .ok (.aload_n 0, 1) := by decide +kernel
theorem d_M_wordsIn_28 : decode prog_14_method_89_code 28 = .ok (.iload_n 1, 1) := by decide +kernel
theorem d_M_wordsIn_29 : decode prog_14_method_89_code 29 = .ok (.iload_n 2, 1) := by decide +kernel
theorem d_M_wordsIn_30 : decode prog_14_method_89_code 30 = .ok (.invokevirtual 426, 3) := by decide +kernel
theorem k_M_differentIn : xCal m_M_differentIn 2 := ⟨List.mem_append_right _ (List.mem_of_getElem? (i := 1884) (by decide +kernel)), w_15, Nat.le_of_ble_eq_true rfl, ⟨by decide +kernel, by decide +kernel⟩, by decide +kernel, by decide +kernel, rfl⟩
theorem w_1881 : Cond.methodLink "BeaconIndexModel" 426 ⟨"BeaconIndexModel", "differentIn", "(II)I"⟩ ∈ lw_tbl := List.mem_append_right _ (List.mem_of_getElem? (i := 1881) (by decide +kernel))
theorem w_1883 : Cond.instanceMethod ⟨"BeaconIndexModel", "differentIn", "(II)I"⟩ ∈ lw_tbl := List.mem_append_right _ (List.mem_of_getElem? (i := 1883) (by decide +kernel))
theorem sel_M_differentIn : Cond.selects "BeaconIndexModel" ⟨"BeaconIndexModel", "differentIn", "(II)I"⟩ ⟨"BeaconIndexModel", "differentIn", "(II)I"⟩ ∈ lw_tbl := List.mem_append_left _ (by decide +kernel)
theorem v_M_wordsIn_21 {G : XG} {d : Nat} {h : XH} {Q : XV → XH → Prop} {X : Nat → XH → Prop} {x1 x2 s0 : Int} (F : xFix h) (hyp : ((s0 = 0 → (xFix (xst h 53 0 1) → Q (xI 0) (xst h 53 0 1))) ∧ (¬ s0 = 0 → (0 ≤ s0 ∧ s0 ≤ 1) ∧ ((s0 = 0 → (xFix (xst h 53 0 0) → Q (xI 0) (xst h 53 0 0))) ∧ (¬ s0 = 0 → (xFix (xst h 53 0 0) → xwp G m_M_differentIn (d + 217) 0 [xR 53, xI x1, xI x2, xZ, xZ] [] (xst h 53 0 0) (fun v9 h9 => xwp G m_M_wordsIn (d + 218) 33 [xZ, xZ, xZ] (xpush v9 []) h9 Q X) X)))))) : xwp G m_M_wordsIn (d + 218) 21 [xR 53, xI x1, xI x2] [xI s0, xR 53] h Q X := by
  have hnx9 : (93 : Int) ≤ xnx h := F.2.2
  refine xr_okL (fun hl9 => ?_)
  have r_x1 : -2147483648 ≤ x1 ∧ x1 ≤ 2147483647 := hl9 (xI x1) (.tail _ (.head _)) (Nat.le_of_ble_eq_true rfl)
  have r_x2 : -2147483648 ≤ x2 ∧ x2 ≤ 2147483647 := hl9 (xI x2) (.tail _ (.tail _ (.head _))) (Nat.le_of_ble_eq_true rfl)
  refine xr_okS (fun hs9 => ?_)
  have r_s0 : -2147483648 ≤ s0 ∧ s0 ≤ 2147483647 := hs9 (xI s0) (.head _)
  refine xq_callV (pc := 21) (index := 407) (K := m_M_isKnown) (As := [xI s0]) (S := []) (L0 := [xR 53, xI s0]) (hI := d_M_wordsIn_21) (hK := k_M_isKnown) (hlk := w_1810) (hnoM := rfl) (hS8 := Nat.le_of_ble_eq_true rfl) (ci := 11) (N := 38) (C := "BeaconIndexModel") (T := xF11) (hc := rfl) (hci := Nat.le_of_ble_eq_true rfl) (htb := (ft_53 F)) (hinst := w_1812) (hsel := sel_M_isKnown) (hlen := Nat.le_of_ble_eq_true rfl) (hst := rfl) (hL0 := rfl)  ?_
  refine xr_aload_n (pc := 0) (i := 0) (hI := d_M_isKnown_0) (hi := rfl) (hl := rfl) ?_
  refine xr_iload_n (pc := 1) (i := 1) (hI := d_M_isKnown_1) (hi := rfl) (hl := rfl) ?_
  refine xr_if_eq (pc := 2) (tgt := 9) (hI := d_M_isKnown_2) (ht := by decide) (fun q9 => ?_) (fun q9 => ?_)
  · replace hyp := hyp.1 q9
    have q1_ := q9
    clear q9
    refine xr_iconst (pc := 9) (hI := d_M_isKnown_9) (hr := by decide) ?_
    refine xr_putf (pc := 10) (ci := 11) (k := 0) (N := 38) (v9 := 0) (T := xF11) (tF := xT11) (hI := d_M_isKnown_10) (hw := w_1587) rfl xi11 xt11 xn11 (Or.inl rfl) (Nat.le_of_ble_eq_true rfl) (Nat.le_of_ble_eq_true rfl) rfl xfit_i rfl (ft_53 F) (by decide) (fun z => z) ?_
    have F2_ : xFix (xst h 53 0 1) := F.stL xfk_53_0
    refine xr_iload_n (pc := 13) (i := 1) (hI := d_M_isKnown_13) (hi := rfl) (hl := rfl) ?_
    refine xr_ireturnT (S := []) (pc := 14) (hI := d_M_isKnown_14) (hr := rfl) (xnar_z ⟨(by clear hyp; omega), (by clear hyp; omega)⟩) ?_
    show xwp G m_M_wordsIn (d + 218) 24 [xR 53, xI x1, xI x2] [xI s0] _ _ _
    refine xr_if_eq (pc := 24) (tgt := 36) (hI := d_M_wordsIn_24) (ht := by decide) (fun q9 => ?_) (fun q9 => ?_)
    · clear q9
      refine xr_iconst (pc := 36) (hI := d_M_wordsIn_36) (hr := by decide) ?_
      refine xr_ireturn (S := []) (pc := 37) (hI := d_M_wordsIn_37) (hr := rfl) ?_
      exact hyp F2_
    · exact absurd q9 (by clear hyp; omega)
  · replace hyp := hyp.2 q9
    have q1_ := q9
    clear q9
    refine xr_iconst (pc := 5) (hI := d_M_isKnown_5) (hr := by decide) ?_
    refine xr_goto (pc := 6) (tgt := 10) (hI := d_M_isKnown_6) (ht := by decide) ?_
    refine xr_putf (pc := 10) (ci := 11) (k := 0) (N := 38) (v9 := 0) (T := xF11) (tF := xT11) (hI := d_M_isKnown_10) (hw := w_1587) rfl xi11 xt11 xn11 (Or.inl rfl) (Nat.le_of_ble_eq_true rfl) (Nat.le_of_ble_eq_true rfl) rfl xfit_i rfl (ft_53 F) (by decide) (fun z => z) ?_
    have F3_ : xFix (xst h 53 0 0) := F.stL xfk_53_0
    refine xr_iload_n (pc := 13) (i := 1) (hI := d_M_isKnown_13) (hi := rfl) (hl := rfl) ?_
    obtain ⟨c9, hyp⟩ := hyp
    refine xr_ireturnT (S := []) (pc := 14) (hI := d_M_isKnown_14) (hr := rfl) (xnar_z c9) ?_
    show xwp G m_M_wordsIn (d + 218) 24 [xR 53, xI x1, xI x2] [xI s0] _ _ _
    refine xr_if_eq (pc := 24) (tgt := 36) (hI := d_M_wordsIn_24) (ht := by decide) (fun q9 => ?_) (fun q9 => ?_)
    · replace hyp := hyp.1 q9
      have q4_ := q9
      clear q9
      refine xr_iconst (pc := 36) (hI := d_M_wordsIn_36) (hr := by decide) ?_
      refine xr_ireturn (S := []) (pc := 37) (hI := d_M_wordsIn_37) (hr := rfl) ?_
      exact hyp F3_
    · replace hyp := hyp.2 q9
      have q4_ := q9
      clear q9
      refine xr_aload_n (pc := 27) (i := 0) (hI := d_M_wordsIn_27) (hi := rfl) (hl := rfl) ?_
      refine xr_iload_n (pc := 28) (i := 1) (hI := d_M_wordsIn_28) (hi := rfl) (hl := rfl) ?_
      refine xr_iload_n (pc := 29) (i := 2) (hI := d_M_wordsIn_29) (hi := rfl) (hl := rfl) ?_
      exact xq_callV (pc := 30) (index := 426) (K := m_M_differentIn) (As := [xI x1, xI x2]) (S := []) (L0 := [xR 53, xI x1, xI x2, xZ, xZ]) (hI := d_M_wordsIn_30) (hK := k_M_differentIn) (hlk := w_1881) (hnoM := rfl) (hS8 := Nat.le_of_ble_eq_true rfl) (ci := 11) (N := 38) (C := "BeaconIndexModel") (T := xF11) (hc := rfl) (hci := Nat.le_of_ble_eq_true rfl) (htb := (ft_53 F3_)) (hinst := w_1883) (hsel := sel_M_differentIn) (hlen := Nat.le_of_ble_eq_true rfl) (hst := rfl) (hL0 := rfl)  (xwp_mono (hyp F3_) (fun v9 h9 q9 => xr_drop (L9 := [xZ, xZ, xZ]) (xdrz (xdrz (xdrz xdr0))) q9) (fun _ _ z9 => z9))
theorem d_M_wordsIn_33 : decode prog_14_method_89_code 33 = .ok (.goto 4, 3) := by decide +kernel
theorem v_M_wordsIn_33 {G : XG} {d : Nat} {h : XH} {Q : XV → XH → Prop} {X : Nat → XH → Prop} {s0 : Int} (F : xFix h) (hyp : (Q (xI s0) h)) : xwp G m_M_wordsIn (d + 218) 33 [xZ, xZ, xZ] [xI s0] h Q X := by
  have hnx9 : (93 : Int) ≤ xnx h := F.2.2
  refine xr_okS (fun hs9 => ?_)
  have r_s0 : -2147483648 ≤ s0 ∧ s0 ≤ 2147483647 := hs9 (xI s0) (.head _)
  refine xr_goto (pc := 33) (tgt := 37) (hI := d_M_wordsIn_33) (ht := by decide) ?_
  refine xr_ireturn (S := []) (pc := 37) (hI := d_M_wordsIn_37) (hr := rfl) ?_
  exact hyp
abbrev m_M_changes : XM := (⟨"BeaconIndexModel", "changes", "(JJ)I"⟩, prog_14_method_41_code, 13, (some .int), [])
theorem d_M_changes_0 : decode prog_14_method_41_code 0 = .ok (.lload_n 1, 1) := by decide +kernel
theorem d_M_changes_1 : decode prog_14_method_41_code 1 = .ok (.invokestatic 240, 3) := by decide +kernel
theorem v_M_changes_0 {G : XG} {d : Nat} {h : XH} {Q : XV → XH → Prop} {X : Nat → XH → Prop} {x1 x3 : Int} (F : xFix h) (hyp : (xwp G m_M_lengthOf_J (d + 3) 0 [xL x1, xZ, xZ] [] h (fun v9 h9 => xwp G m_M_changes (d + 4) 4 [xR 53, xL x1, xZ, xL x3, xZ, xZ, xZ, xZ, xZ, xZ, xZ, xZ, xZ] (xpush v9 []) h9 Q X) X)) : xwp G m_M_changes (d + 4) 0 [xR 53, xL x1, xZ, xL x3, xZ, xZ, xZ, xZ, xZ, xZ, xZ, xZ, xZ] [] h Q X := by
  have hnx9 : (93 : Int) ≤ xnx h := F.2.2
  refine xr_okL (fun hl9 => ?_)
  have r_x1 : -9223372036854775808 ≤ x1 ∧ x1 ≤ 9223372036854775807 := hl9 (xL x1) (.tail _ (.head _)) (Nat.le_of_ble_eq_true rfl)
  have r_x3 : -9223372036854775808 ≤ x3 ∧ x3 ≤ 9223372036854775807 := hl9 (xL x3) (.tail _ (.tail _ (.tail _ (.head _)))) (Nat.le_of_ble_eq_true rfl)
  refine xr_lload_n (pc := 0) (i := 1) (hI := d_M_changes_0) (hi := rfl) (hl := rfl) ?_
  exact xq_callS (pc := 1) (index := 240) (K := m_M_lengthOf_J) (As := [xL x1]) (S := []) (L0 := [xL x1, xZ, xZ]) (hI := d_M_changes_1) (hK := k_M_lengthOf_J) (hlk := w_2203) (hnoM := rfl) (hS8 := Nat.le_of_ble_eq_true rfl) (hstat := w_2204) (hlen := Nat.le_of_ble_eq_true rfl) (hst := rfl) (hL0 := rfl)  hyp
theorem d_M_changes_4 : decode prog_14_method_41_code 4 = .ok (.istore 5, 2) := by decide +kernel
theorem d_M_changes_6 : decode prog_14_method_41_code 6 = .ok (.lload_n 3, 1) := by decide +kernel
theorem d_M_changes_7 : decode prog_14_method_41_code 7 = .ok (.invokestatic 240, 3) := by decide +kernel
theorem v_M_changes_4 {G : XG} {d : Nat} {h : XH} {Q : XV → XH → Prop} {X : Nat → XH → Prop} {x1 x3 s0 : Int} (F : xFix h) (hyp : (xwp G m_M_lengthOf_J (d + 3) 0 [xL x3, xZ, xZ] [] h (fun v9 h9 => xwp G m_M_changes (d + 4) 10 [xR 53, xL x1, xZ, xL x3, xZ, xI s0, xZ, xZ, xZ, xZ, xZ, xZ, xZ] (xpush v9 []) h9 Q X) X)) : xwp G m_M_changes (d + 4) 4 [xR 53, xL x1, xZ, xL x3, xZ, xZ, xZ, xZ, xZ, xZ, xZ, xZ, xZ] [xI s0] h Q X := by
  have hnx9 : (93 : Int) ≤ xnx h := F.2.2
  refine xr_okL (fun hl9 => ?_)
  have r_x1 : -9223372036854775808 ≤ x1 ∧ x1 ≤ 9223372036854775807 := hl9 (xL x1) (.tail _ (.head _)) (Nat.le_of_ble_eq_true rfl)
  have r_x3 : -9223372036854775808 ≤ x3 ∧ x3 ≤ 9223372036854775807 := hl9 (xL x3) (.tail _ (.tail _ (.tail _ (.head _)))) (Nat.le_of_ble_eq_true rfl)
  refine xr_okS (fun hs9 => ?_)
  have r_s0 : -2147483648 ≤ s0 ∧ s0 ≤ 2147483647 := hs9 (xI s0) (.head _)
  refine xr_istore (pc := 4) (i := 5) (L9 := [xR 53, xL x1, xZ, xL x3, xZ, xI s0, xZ, xZ, xZ, xZ, xZ, xZ, xZ]) (hI := d_M_changes_4) (hn := Nat.le_of_ble_eq_true rfl) (hL9 := rfl) ?_
  refine xr_lload_n (pc := 6) (i := 3) (hI := d_M_changes_6) (hi := rfl) (hl := rfl) ?_
  exact xq_callS (pc := 7) (index := 240) (K := m_M_lengthOf_J) (As := [xL x3]) (S := []) (L0 := [xL x3, xZ, xZ]) (hI := d_M_changes_7) (hK := k_M_lengthOf_J) (hlk := w_2203) (hnoM := rfl) (hS8 := Nat.le_of_ble_eq_true rfl) (hstat := w_2204) (hlen := Nat.le_of_ble_eq_true rfl) (hst := rfl) (hL0 := rfl)  hyp
theorem d_M_changes_10 : decode prog_14_method_41_code 10 = .ok (.istore 6, 2) := by decide +kernel
theorem d_M_changes_12 : decode prog_14_method_41_code 12 = .ok (.bipush 13, 2) := by decide +kernel
theorem d_M_changes_14 : decode prog_14_method_41_code 14 = .ok (.istore 7, 2) := by decide +kernel
theorem d_M_changes_16 : decode prog_14_method_41_code 16 = .ok (.iconst 0, 1) := by decide +kernel
theorem d_M_changes_17 : decode prog_14_method_41_code 17 = .ok (.istore 8, 2) := by decide +kernel
theorem v_M_changes_10 {G : XG} {d : Nat} {h : XH} {Q : XV → XH → Prop} {X : Nat → XH → Prop} {x1 x3 x5 s0 : Int} (F : xFix h) (hyp : (xwp G m_M_changes (d + 4) 19 [xR 53, xL x1, xZ, xL x3, xZ, xI x5, xI s0, xI 13, xI 0, xZ, xZ, xZ, xZ] [] h Q X)) : xwp G m_M_changes (d + 4) 10 [xR 53, xL x1, xZ, xL x3, xZ, xI x5, xZ, xZ, xZ, xZ, xZ, xZ, xZ] [xI s0] h Q X := by
  have hnx9 : (93 : Int) ≤ xnx h := F.2.2
  refine xr_okL (fun hl9 => ?_)
  have r_x1 : -9223372036854775808 ≤ x1 ∧ x1 ≤ 9223372036854775807 := hl9 (xL x1) (.tail _ (.head _)) (Nat.le_of_ble_eq_true rfl)
  have r_x3 : -9223372036854775808 ≤ x3 ∧ x3 ≤ 9223372036854775807 := hl9 (xL x3) (.tail _ (.tail _ (.tail _ (.head _)))) (Nat.le_of_ble_eq_true rfl)
  have r_x5 : -2147483648 ≤ x5 ∧ x5 ≤ 2147483647 := hl9 (xI x5) (.tail _ (.tail _ (.tail _ (.tail _ (.tail _ (.head _)))))) (Nat.le_of_ble_eq_true rfl)
  refine xr_okS (fun hs9 => ?_)
  have r_s0 : -2147483648 ≤ s0 ∧ s0 ≤ 2147483647 := hs9 (xI s0) (.head _)
  refine xr_istore (pc := 10) (i := 6) (L9 := [xR 53, xL x1, xZ, xL x3, xZ, xI x5, xI s0, xZ, xZ, xZ, xZ, xZ, xZ]) (hI := d_M_changes_10) (hn := Nat.le_of_ble_eq_true rfl) (hL9 := rfl) ?_
  refine xr_bipush (pc := 12) (hI := d_M_changes_12) (hr := by decide) (hv := by decide) ?_
  refine xr_istore (pc := 14) (i := 7) (L9 := [xR 53, xL x1, xZ, xL x3, xZ, xI x5, xI s0, xI 13, xZ, xZ, xZ, xZ, xZ]) (hI := d_M_changes_14) (hn := Nat.le_of_ble_eq_true rfl) (hL9 := rfl) ?_
  refine xr_iconst (pc := 16) (hI := d_M_changes_16) (hr := by decide) ?_
  refine xr_istore (pc := 17) (i := 8) (L9 := [xR 53, xL x1, xZ, xL x3, xZ, xI x5, xI s0, xI 13, xI 0, xZ, xZ, xZ, xZ]) (hI := d_M_changes_17) (hn := Nat.le_of_ble_eq_true rfl) (hL9 := rfl) ?_
  exact hyp
theorem d_M_changes_19 : decode prog_14_method_41_code 19 = .ok (.iload 8, 2) := by decide +kernel
theorem d_M_changes_21 : decode prog_14_method_41_code 21 = .ok (.iload 5, 2) := by decide +kernel
theorem d_M_changes_23 : decode prog_14_method_41_code 23 = .ok (.if_icmp .gt 230, 3) := by decide +kernel
theorem d_M_changes_253 : decode prog_14_method_41_code 253 = .ok (.aload_n 0, 1) := by decide +kernel
theorem d_M_changes_254 : decode prog_14_method_41_code 254 = .ok (.getfield 45, 3) := by decide +kernel
theorem w_1604 : Cond.fieldLink "BeaconIndexModel" 45 "BeaconIndexModel" "cost" "[I" ∈ lw_tbl := List.mem_append_right _ (List.mem_of_getElem? (i := 1604) (by decide +kernel))
theorem d_M_changes_257 : decode prog_14_method_41_code 257 = .ok (.iload 7, 2) := by decide +kernel
theorem d_M_changes_259 : decode prog_14_method_41_code 259 = .ok (.iload 5, 2) := by decide +kernel
theorem d_M_changes_261 : decode prog_14_method_41_code 261 = .ok (.imul, 1) := by decide +kernel
theorem d_M_changes_262 : decode prog_14_method_41_code 262 = .ok (.iload 6, 2) := by decide +kernel
theorem d_M_changes_264 : decode prog_14_method_41_code 264 = .ok (.iadd, 1) := by decide +kernel
theorem d_M_changes_265 : decode prog_14_method_41_code 265 = .ok (.iaload, 1) := by decide +kernel
theorem d_M_changes_266 : decode prog_14_method_41_code 266 = .ok (.ireturn, 1) := by decide +kernel
theorem d_M_changes_26 : decode prog_14_method_41_code 26 = .ok (.iconst 0, 1) := by decide +kernel
theorem d_M_changes_27 : decode prog_14_method_41_code 27 = .ok (.istore 9, 2) := by decide +kernel
theorem v_M_changes_19 {G : XG} {d : Nat} {h : XH} {Q : XV → XH → Prop} {X : Nat → XH → Prop} {x1 x3 x5 x6 x7 x8 : Int} (F : xFix h) (hyp : ((x5 < x8 → xiR (x7 * x5) ∧ xiR ((x7 * x5) + x6) ∧ 0 ≤ ((x7 * x5) + x6) ∧ ((x7 * x5) + x6) < 169 ∧ (Q (xI (xpl h 65 ((x7 * x5) + x6))) h)) ∧ (¬ x5 < x8 → (xwp G m_M_changes (d + 4) 29 [xR 53, xL x1, xZ, xL x3, xZ, xI x5, xI x6, xI x7, xI x8, xI 0, xZ, xZ, xZ] [] h Q X)))) : xwp G m_M_changes (d + 4) 19 [xR 53, xL x1, xZ, xL x3, xZ, xI x5, xI x6, xI x7, xI x8, xZ, xZ, xZ, xZ] [] h Q X := by
  have hnx9 : (93 : Int) ≤ xnx h := F.2.2
  refine xr_okL (fun hl9 => ?_)
  have r_x1 : -9223372036854775808 ≤ x1 ∧ x1 ≤ 9223372036854775807 := hl9 (xL x1) (.tail _ (.head _)) (Nat.le_of_ble_eq_true rfl)
  have r_x3 : -9223372036854775808 ≤ x3 ∧ x3 ≤ 9223372036854775807 := hl9 (xL x3) (.tail _ (.tail _ (.tail _ (.head _)))) (Nat.le_of_ble_eq_true rfl)
  have r_x5 : -2147483648 ≤ x5 ∧ x5 ≤ 2147483647 := hl9 (xI x5) (.tail _ (.tail _ (.tail _ (.tail _ (.tail _ (.head _)))))) (Nat.le_of_ble_eq_true rfl)
  have r_x6 : -2147483648 ≤ x6 ∧ x6 ≤ 2147483647 := hl9 (xI x6) (.tail _ (.tail _ (.tail _ (.tail _ (.tail _ (.tail _ (.head _))))))) (Nat.le_of_ble_eq_true rfl)
  have r_x7 : -2147483648 ≤ x7 ∧ x7 ≤ 2147483647 := hl9 (xI x7) (.tail _ (.tail _ (.tail _ (.tail _ (.tail _ (.tail _ (.tail _ (.head _)))))))) (Nat.le_of_ble_eq_true rfl)
  have r_x8 : -2147483648 ≤ x8 ∧ x8 ≤ 2147483647 := hl9 (xI x8) (.tail _ (.tail _ (.tail _ (.tail _ (.tail _ (.tail _ (.tail _ (.tail _ (.head _))))))))) (Nat.le_of_ble_eq_true rfl)
  refine xr_iload (pc := 19) (i := 8) (hI := d_M_changes_19) (hl := rfl) ?_
  refine xr_iload (pc := 21) (i := 5) (hI := d_M_changes_21) (hl := rfl) ?_
  refine xr_icmp_gt (pc := 23) (tgt := 253) (hI := d_M_changes_23) (ht := by decide) (fun q9 => ?_) (fun q9 => ?_)
  · replace hyp := hyp.1 q9
    have q1_ := q9
    clear q9
    refine xr_aload_n (pc := 253) (i := 0) (hI := d_M_changes_253) (hi := rfl) (hl := rfl) ?_
    refine xg_getf (pc := 254) (ci := 11) (k := 17) (N := 38) (v9 := 2) (v := 65) (T := xF11) (hI := d_M_changes_254) (hw := w_1604) rfl xi11 (Or.inl rfl) (Nat.le_of_ble_eq_true rfl) (Nat.le_of_ble_eq_true rfl) rfl (ft_53 F) (fp_53_17 F) (fun f2_ => ?_)
    clear f2_
    refine xr_iload (pc := 257) (i := 7) (hI := d_M_changes_257) (hl := rfl) ?_
    refine xr_iload (pc := 259) (i := 5) (hI := d_M_changes_259) (hl := rfl) ?_
    obtain ⟨c9, hyp⟩ := hyp
    refine xr_imul (pc := 261) (hI := d_M_changes_261) (hr := c9) ?_
    refine xr_iload (pc := 262) (i := 6) (hI := d_M_changes_262) (hl := rfl) ?_
    obtain ⟨c9, hyp⟩ := hyp
    refine xr_iadd (pc := 264) (hI := d_M_changes_264) (hr := c9) ?_
    obtain ⟨c3_, hyp⟩ := hyp
    obtain ⟨c4_, hyp⟩ := hyp
    refine xg_iaload (pc := 265) (v := (xpl h 65 ((x7 * x5) + x6))) (hI := d_M_changes_265) (ft_65 F) c3_ (xlt_of (fl_65 F) c4_) rfl (fun f5_ => ?_)
    replace f5_ : -2147483648 ≤ (xpl h 65 ((x7 * x5) + x6)) ∧ (xpl h 65 ((x7 * x5) + x6)) ≤ 2147483647 := f5_
    refine xr_ireturn (S := []) (pc := 266) (hI := d_M_changes_266) (hr := rfl) ?_
    exact hyp
  · replace hyp := hyp.2 q9
    have q1_ := q9
    clear q9
    refine xr_iconst (pc := 26) (hI := d_M_changes_26) (hr := by decide) ?_
    refine xr_istore (pc := 27) (i := 9) (L9 := [xR 53, xL x1, xZ, xL x3, xZ, xI x5, xI x6, xI x7, xI x8, xI 0, xZ, xZ, xZ]) (hI := d_M_changes_27) (hn := Nat.le_of_ble_eq_true rfl) (hL9 := rfl) ?_
    exact hyp
theorem d_M_changes_29 : decode prog_14_method_41_code 29 = .ok (.iload 9, 2) := by decide +kernel
theorem d_M_changes_31 : decode prog_14_method_41_code 31 = .ok (.iload 6, 2) := by decide +kernel
theorem d_M_changes_33 : decode prog_14_method_41_code 33 = .ok (.if_icmp .gt 214, 3) := by decide +kernel
theorem d_M_changes_247 : decode prog_14_method_41_code 247 = .ok (.iinc 8 1, 3) := by decide +kernel
theorem d_M_changes_250 : decode prog_14_method_41_code 250 = .ok (.goto (-231), 3) := by decide +kernel
theorem d_M_changes_36 : decode prog_14_method_41_code 36 = .ok (.iload 7, 2) := by decide +kernel
theorem d_M_changes_38 : decode prog_14_method_41_code 38 = .ok (.iload 8, 2) := by decide +kernel
theorem d_M_changes_40 : decode prog_14_method_41_code 40 = .ok (.imul, 1) := by decide +kernel
theorem d_M_changes_41 : decode prog_14_method_41_code 41 = .ok (.iload 9, 2) := by decide +kernel
theorem d_M_changes_43 : decode prog_14_method_41_code 43 = .ok (.iadd, 1) := by decide +kernel
theorem d_M_changes_44 : decode prog_14_method_41_code 44 = .ok (.istore 10, 2) := by decide +kernel
theorem d_M_changes_46 : decode prog_14_method_41_code 46 = .ok (.iload 8, 2) := by decide +kernel
theorem d_M_changes_48 : decode prog_14_method_41_code 48 = .ok (.ifCond .eq 8, 3) := by decide +kernel
theorem d_M_changes_51 : decode prog_14_method_41_code 51 = .ok (.iload 9, 2) := by decide +kernel
theorem d_M_changes_53 : decode prog_14_method_41_code 53 = .ok (.ifCond .ne 18, 3) := by decide +kernel
theorem d_M_changes_71 : decode prog_14_method_41_code 71 = .ok (.aload_n 0, 1) := by decide +kernel
theorem d_M_changes_72 : decode prog_14_method_41_code 72 = .ok (.getfield 45, 3) := by decide +kernel
theorem d_M_changes_75 : decode prog_14_method_41_code 75 = .ok (.iload 10, 2) := by decide +kernel
theorem d_M_changes_77 : decode prog_14_method_41_code 77 = .ok (.iload 7, 2) := by decide +kernel
theorem d_M_changes_79 : decode prog_14_method_41_code 79 = .ok (.isub, 1) := by decide +kernel
theorem d_M_changes_80 : decode prog_14_method_41_code 80 = .ok (.iconst 1, 1) := by decide +kernel
theorem d_M_changes_81 : decode prog_14_method_41_code 81 = .ok (.isub, 1) := by decide +kernel
theorem d_M_changes_82 : decode prog_14_method_41_code 82 = .ok (.iaload, 1) := by decide +kernel
theorem d_M_changes_83 : decode prog_14_method_41_code 83 = .ok (.lload_n 1, 1) := by decide +kernel
theorem d_M_changes_84 : decode prog_14_method_41_code 84 = .ok (.iload 8, 2) := by decide +kernel
theorem d_M_changes_86 : decode prog_14_method_41_code 86 = .ok (.iconst 1, 1) := by decide +kernel
theorem d_M_changes_87 : decode prog_14_method_41_code 87 = .ok (.isub, 1) := by decide +kernel
theorem d_M_changes_88 : decode prog_14_method_41_code 88 = .ok (.invokestatic 142, 3) := by decide +kernel
theorem v_M_changes_29 {G : XG} {d : Nat} {h : XH} {Q : XV → XH → Prop} {X : Nat → XH → Prop} {x1 x3 x5 x6 x7 x8 x9 : Int} (F : xFix h) (hyp : ((x6 < x9 → xiR (x8 + 1) ∧ (xwp G m_M_changes (d + 4) 19 [xR 53, xL x1, xZ, xL x3, xZ, xI x5, xI x6, xI x7, xI (x8 + 1), xZ, xZ, xZ, xZ] [] h Q X)) ∧ (¬ x6 < x9 → xiR (x7 * x8) ∧ xiR ((x7 * x8) + x9) ∧ ((x8 = 0 → (xwp G m_M_changes (d + 4) 56 [xR 53, xL x1, xZ, xL x3, xZ, xI x5, xI x6, xI x7, xI x8, xI x9, xI ((x7 * x8) + x9), xZ, xZ] [] h Q X)) ∧ (¬ x8 = 0 → ((x9 = 0 → (xwp G m_M_changes (d + 4) 56 [xR 53, xL x1, xZ, xL x3, xZ, xI x5, xI x6, xI x7, xI x8, xI x9, xI ((x7 * x8) + x9), xZ, xZ] [] h Q X)) ∧ (¬ x9 = 0 → xiR (((x7 * x8) + x9) - x7) ∧ xiR ((((x7 * x8) + x9) - x7) - 1) ∧ 0 ≤ ((((x7 * x8) + x9) - x7) - 1) ∧ ((((x7 * x8) + x9) - x7) - 1) < 169 ∧ xiR (x8 - 1) ∧ (xwp G m_M_digit (d + 3) 0 [xL x1, xZ, xI (x8 - 1)] [] h (fun v9 h9 => xwp G m_M_changes (d + 4) 91 [xR 53, xL x1, xZ, xL x3, xZ, xI x5, xI x6, xI x7, xI x8, xI x9, xI ((x7 * x8) + x9), xZ, xZ] (xpush v9 [xI (xpl h 65 ((((x7 * x8) + x9) - x7) - 1))]) h9 Q X) X)))))))) : xwp G m_M_changes (d + 4) 29 [xR 53, xL x1, xZ, xL x3, xZ, xI x5, xI x6, xI x7, xI x8, xI x9, xZ, xZ, xZ] [] h Q X := by
  have hnx9 : (93 : Int) ≤ xnx h := F.2.2
  refine xr_okL (fun hl9 => ?_)
  have r_x1 : -9223372036854775808 ≤ x1 ∧ x1 ≤ 9223372036854775807 := hl9 (xL x1) (.tail _ (.head _)) (Nat.le_of_ble_eq_true rfl)
  have r_x3 : -9223372036854775808 ≤ x3 ∧ x3 ≤ 9223372036854775807 := hl9 (xL x3) (.tail _ (.tail _ (.tail _ (.head _)))) (Nat.le_of_ble_eq_true rfl)
  have r_x5 : -2147483648 ≤ x5 ∧ x5 ≤ 2147483647 := hl9 (xI x5) (.tail _ (.tail _ (.tail _ (.tail _ (.tail _ (.head _)))))) (Nat.le_of_ble_eq_true rfl)
  have r_x6 : -2147483648 ≤ x6 ∧ x6 ≤ 2147483647 := hl9 (xI x6) (.tail _ (.tail _ (.tail _ (.tail _ (.tail _ (.tail _ (.head _))))))) (Nat.le_of_ble_eq_true rfl)
  have r_x7 : -2147483648 ≤ x7 ∧ x7 ≤ 2147483647 := hl9 (xI x7) (.tail _ (.tail _ (.tail _ (.tail _ (.tail _ (.tail _ (.tail _ (.head _)))))))) (Nat.le_of_ble_eq_true rfl)
  have r_x8 : -2147483648 ≤ x8 ∧ x8 ≤ 2147483647 := hl9 (xI x8) (.tail _ (.tail _ (.tail _ (.tail _ (.tail _ (.tail _ (.tail _ (.tail _ (.head _))))))))) (Nat.le_of_ble_eq_true rfl)
  have r_x9 : -2147483648 ≤ x9 ∧ x9 ≤ 2147483647 := hl9 (xI x9) (.tail _ (.tail _ (.tail _ (.tail _ (.tail _ (.tail _ (.tail _ (.tail _ (.tail _ (.head _)))))))))) (Nat.le_of_ble_eq_true rfl)
  refine xr_iload (pc := 29) (i := 9) (hI := d_M_changes_29) (hl := rfl) ?_
  refine xr_iload (pc := 31) (i := 6) (hI := d_M_changes_31) (hl := rfl) ?_
  refine xr_icmp_gt (pc := 33) (tgt := 247) (hI := d_M_changes_33) (ht := by decide) (fun q9 => ?_) (fun q9 => ?_)
  · replace hyp := hyp.1 q9
    have q1_ := q9
    clear q9
    obtain ⟨c9, hyp⟩ := hyp
    refine xr_iinc (pc := 247) (i := 8) (L9 := [xR 53, xL x1, xZ, xL x3, xZ, xI x5, xI x6, xI x7, xI (x8 + 1), xI x9, xZ, xZ, xZ]) (hI := d_M_changes_247) (hl := rfl) (hn := Nat.le_of_ble_eq_true rfl) (hr := c9) (hL9 := rfl) ?_
    refine xr_goto (pc := 250) (tgt := 19) (hI := d_M_changes_250) (ht := by decide) ?_
    exact xr_drop (L9 := [xR 53, xL x1, xZ, xL x3, xZ, xI x5, xI x6, xI x7, xI (x8 + 1), xZ, xZ, xZ, xZ]) (xdrs (xdrs (xdrs (xdrs (xdrs (xdrs (xdrs (xdrs (xdrs (xdrz (xdrs (xdrs (xdrs xdr0))))))))))))) hyp
  · replace hyp := hyp.2 q9
    have q1_ := q9
    clear q9
    refine xr_iload (pc := 36) (i := 7) (hI := d_M_changes_36) (hl := rfl) ?_
    refine xr_iload (pc := 38) (i := 8) (hI := d_M_changes_38) (hl := rfl) ?_
    obtain ⟨c9, hyp⟩ := hyp
    refine xr_imul (pc := 40) (hI := d_M_changes_40) (hr := c9) ?_
    refine xr_iload (pc := 41) (i := 9) (hI := d_M_changes_41) (hl := rfl) ?_
    obtain ⟨c9, hyp⟩ := hyp
    refine xr_iadd (pc := 43) (hI := d_M_changes_43) (hr := c9) ?_
    refine xr_istore (pc := 44) (i := 10) (L9 := [xR 53, xL x1, xZ, xL x3, xZ, xI x5, xI x6, xI x7, xI x8, xI x9, xI ((x7 * x8) + x9), xZ, xZ]) (hI := d_M_changes_44) (hn := Nat.le_of_ble_eq_true rfl) (hL9 := rfl) ?_
    refine xr_iload (pc := 46) (i := 8) (hI := d_M_changes_46) (hl := rfl) ?_
    refine xr_if_eq (pc := 48) (tgt := 56) (hI := d_M_changes_48) (ht := by decide) (fun q9 => ?_) (fun q9 => ?_)
    · replace hyp := hyp.1 q9
      have q2_ := q9
      clear q9
      exact hyp
    · replace hyp := hyp.2 q9
      have q2_ := q9
      clear q9
      refine xr_iload (pc := 51) (i := 9) (hI := d_M_changes_51) (hl := rfl) ?_
      refine xr_if_ne (pc := 53) (tgt := 71) (hI := d_M_changes_53) (ht := by decide) (fun q9 => ?_) (fun q9 => ?_)
      · replace hyp := hyp.2 q9
        have q3_ := q9
        clear q9
        refine xr_aload_n (pc := 71) (i := 0) (hI := d_M_changes_71) (hi := rfl) (hl := rfl) ?_
        refine xg_getf (pc := 72) (ci := 11) (k := 17) (N := 38) (v9 := 2) (v := 65) (T := xF11) (hI := d_M_changes_72) (hw := w_1604) rfl xi11 (Or.inl rfl) (Nat.le_of_ble_eq_true rfl) (Nat.le_of_ble_eq_true rfl) rfl (ft_53 F) (fp_53_17 F) (fun f4_ => ?_)
        clear f4_
        refine xr_iload (pc := 75) (i := 10) (hI := d_M_changes_75) (hl := rfl) ?_
        refine xr_iload (pc := 77) (i := 7) (hI := d_M_changes_77) (hl := rfl) ?_
        obtain ⟨c9, hyp⟩ := hyp
        refine xr_isub (pc := 79) (hI := d_M_changes_79) (hr := c9) ?_
        refine xr_iconst (pc := 80) (hI := d_M_changes_80) (hr := by decide) ?_
        obtain ⟨c9, hyp⟩ := hyp
        refine xr_isub (pc := 81) (hI := d_M_changes_81) (hr := c9) ?_
        obtain ⟨c5_, hyp⟩ := hyp
        obtain ⟨c6_, hyp⟩ := hyp
        refine xg_iaload (pc := 82) (v := (xpl h 65 ((((x7 * x8) + x9) - x7) - 1))) (hI := d_M_changes_82) (ft_65 F) c5_ (xlt_of (fl_65 F) c6_) rfl (fun f7_ => ?_)
        replace f7_ : -2147483648 ≤ (xpl h 65 ((((x7 * x8) + x9) - x7) - 1)) ∧ (xpl h 65 ((((x7 * x8) + x9) - x7) - 1)) ≤ 2147483647 := f7_
        refine xr_lload_n (pc := 83) (i := 1) (hI := d_M_changes_83) (hi := rfl) (hl := rfl) ?_
        refine xr_iload (pc := 84) (i := 8) (hI := d_M_changes_84) (hl := rfl) ?_
        refine xr_iconst (pc := 86) (hI := d_M_changes_86) (hr := by decide) ?_
        obtain ⟨c9, hyp⟩ := hyp
        refine xr_isub (pc := 87) (hI := d_M_changes_87) (hr := c9) ?_
        exact xq_callS (pc := 88) (index := 142) (K := m_M_digit) (As := [xL x1, xI (x8 - 1)]) (S := [xI (xpl h 65 ((((x7 * x8) + x9) - x7) - 1))]) (L0 := [xL x1, xZ, xI (x8 - 1)]) (hI := d_M_changes_88) (hK := k_M_digit) (hlk := w_2206) (hnoM := rfl) (hS8 := Nat.le_of_ble_eq_true rfl) (hstat := w_2207) (hlen := Nat.le_of_ble_eq_true rfl) (hst := rfl) (hL0 := rfl)  hyp
      · replace hyp := hyp.1 q9
        have q3_ := q9
        clear q9
        exact hyp
theorem d_M_changes_56 : decode prog_14_method_41_code 56 = .ok (.aload_n 0, 1) := by decide +kernel
theorem d_M_changes_57 : decode prog_14_method_41_code 57 = .ok (.getfield 45, 3) := by decide +kernel
theorem d_M_changes_60 : decode prog_14_method_41_code 60 = .ok (.iload 10, 2) := by decide +kernel
theorem d_M_changes_62 : decode prog_14_method_41_code 62 = .ok (.iload 8, 2) := by decide +kernel
theorem d_M_changes_64 : decode prog_14_method_41_code 64 = .ok (.iload 9, 2) := by decide +kernel
theorem d_M_changes_66 : decode prog_14_method_41_code 66 = .ok (.iadd, 1) := by decide +kernel
theorem d_M_changes_67 : decode prog_14_method_41_code 67 = .ok (.iastore, 1) := by decide +kernel
theorem xfa_65 : xfreeA 65 = true := by decide +kernel
theorem d_M_changes_68 : decode prog_14_method_41_code 68 = .ok (.goto 173, 3) := by decide +kernel
theorem d_M_changes_241 : decode prog_14_method_41_code 241 = .ok (.iinc 9 1, 3) := by decide +kernel
theorem d_M_changes_244 : decode prog_14_method_41_code 244 = .ok (.goto (-215), 3) := by decide +kernel
theorem v_M_changes_56 {G : XG} {d : Nat} {h : XH} {Q : XV → XH → Prop} {X : Nat → XH → Prop} {x1 x3 x5 x6 x7 x8 x9 x10 : Int} (F : xFix h) (hyp : xiR (x8 + x9) ∧ 0 ≤ x10 ∧ x10 < 169 ∧ xiR (x9 + 1) ∧ (xFix (xst h 65 x10 (x8 + x9)) → xwp G m_M_changes (d + 4) 29 [xR 53, xL x1, xZ, xL x3, xZ, xI x5, xI x6, xI x7, xI x8, xI (x9 + 1), xZ, xZ, xZ] [] (xst h 65 x10 (x8 + x9)) Q X)) : xwp G m_M_changes (d + 4) 56 [xR 53, xL x1, xZ, xL x3, xZ, xI x5, xI x6, xI x7, xI x8, xI x9, xI x10, xZ, xZ] [] h Q X := by
  have hnx9 : (93 : Int) ≤ xnx h := F.2.2
  refine xr_okL (fun hl9 => ?_)
  have r_x1 : -9223372036854775808 ≤ x1 ∧ x1 ≤ 9223372036854775807 := hl9 (xL x1) (.tail _ (.head _)) (Nat.le_of_ble_eq_true rfl)
  have r_x3 : -9223372036854775808 ≤ x3 ∧ x3 ≤ 9223372036854775807 := hl9 (xL x3) (.tail _ (.tail _ (.tail _ (.head _)))) (Nat.le_of_ble_eq_true rfl)
  have r_x5 : -2147483648 ≤ x5 ∧ x5 ≤ 2147483647 := hl9 (xI x5) (.tail _ (.tail _ (.tail _ (.tail _ (.tail _ (.head _)))))) (Nat.le_of_ble_eq_true rfl)
  have r_x6 : -2147483648 ≤ x6 ∧ x6 ≤ 2147483647 := hl9 (xI x6) (.tail _ (.tail _ (.tail _ (.tail _ (.tail _ (.tail _ (.head _))))))) (Nat.le_of_ble_eq_true rfl)
  have r_x7 : -2147483648 ≤ x7 ∧ x7 ≤ 2147483647 := hl9 (xI x7) (.tail _ (.tail _ (.tail _ (.tail _ (.tail _ (.tail _ (.tail _ (.head _)))))))) (Nat.le_of_ble_eq_true rfl)
  have r_x8 : -2147483648 ≤ x8 ∧ x8 ≤ 2147483647 := hl9 (xI x8) (.tail _ (.tail _ (.tail _ (.tail _ (.tail _ (.tail _ (.tail _ (.tail _ (.head _))))))))) (Nat.le_of_ble_eq_true rfl)
  have r_x9 : -2147483648 ≤ x9 ∧ x9 ≤ 2147483647 := hl9 (xI x9) (.tail _ (.tail _ (.tail _ (.tail _ (.tail _ (.tail _ (.tail _ (.tail _ (.tail _ (.head _)))))))))) (Nat.le_of_ble_eq_true rfl)
  have r_x10 : -2147483648 ≤ x10 ∧ x10 ≤ 2147483647 := hl9 (xI x10) (.tail _ (.tail _ (.tail _ (.tail _ (.tail _ (.tail _ (.tail _ (.tail _ (.tail _ (.tail _ (.head _))))))))))) (Nat.le_of_ble_eq_true rfl)
  refine xr_aload_n (pc := 56) (i := 0) (hI := d_M_changes_56) (hi := rfl) (hl := rfl) ?_
  refine xg_getf (pc := 57) (ci := 11) (k := 17) (N := 38) (v9 := 2) (v := 65) (T := xF11) (hI := d_M_changes_57) (hw := w_1604) rfl xi11 (Or.inl rfl) (Nat.le_of_ble_eq_true rfl) (Nat.le_of_ble_eq_true rfl) rfl (ft_53 F) (fp_53_17 F) (fun f1_ => ?_)
  clear f1_
  refine xr_iload (pc := 60) (i := 10) (hI := d_M_changes_60) (hl := rfl) ?_
  refine xr_iload (pc := 62) (i := 8) (hI := d_M_changes_62) (hl := rfl) ?_
  refine xr_iload (pc := 64) (i := 9) (hI := d_M_changes_64) (hl := rfl) ?_
  obtain ⟨c9, hyp⟩ := hyp
  refine xr_iadd (pc := 66) (hI := d_M_changes_66) (hr := c9) ?_
  obtain ⟨c2_, hyp⟩ := hyp
  obtain ⟨c3_, hyp⟩ := hyp
  refine xr_iastore (pc := 67) (hI := d_M_changes_67) (ft_65 F) (by decide) c2_ (xlt_of (fl_65 F) c3_) ?_
  have F4_ : xFix (xst h 65 x10 (x8 + x9)) := F.stA xfa_65
  refine xr_goto (pc := 68) (tgt := 241) (hI := d_M_changes_68) (ht := by decide) ?_
  obtain ⟨c9, hyp⟩ := hyp
  refine xr_iinc (pc := 241) (i := 9) (L9 := [xR 53, xL x1, xZ, xL x3, xZ, xI x5, xI x6, xI x7, xI x8, xI (x9 + 1), xI x10, xZ, xZ]) (hI := d_M_changes_241) (hl := rfl) (hn := Nat.le_of_ble_eq_true rfl) (hr := c9) (hL9 := rfl) ?_
  refine xr_goto (pc := 244) (tgt := 29) (hI := d_M_changes_244) (ht := by decide) ?_
  exact xr_drop (L9 := [xR 53, xL x1, xZ, xL x3, xZ, xI x5, xI x6, xI x7, xI x8, xI (x9 + 1), xZ, xZ, xZ]) (xdrs (xdrs (xdrs (xdrs (xdrs (xdrs (xdrs (xdrs (xdrs (xdrs (xdrz (xdrs (xdrs xdr0))))))))))))) (hyp F4_)
theorem d_M_changes_91 : decode prog_14_method_41_code 91 = .ok (.lload_n 3, 1) := by decide +kernel
theorem d_M_changes_92 : decode prog_14_method_41_code 92 = .ok (.iload 9, 2) := by decide +kernel
theorem d_M_changes_94 : decode prog_14_method_41_code 94 = .ok (.iconst 1, 1) := by decide +kernel
theorem d_M_changes_95 : decode prog_14_method_41_code 95 = .ok (.isub, 1) := by decide +kernel
theorem d_M_changes_96 : decode prog_14_method_41_code 96 = .ok (.invokestatic 142, 3) := by decide +kernel
theorem v_M_changes_91 {G : XG} {d : Nat} {h : XH} {Q : XV → XH → Prop} {X : Nat → XH → Prop} {x1 x3 x5 x6 x7 x8 x9 x10 s0 s1 : Int} (F : xFix h) (hyp : xiR (x9 - 1) ∧ (xwp G m_M_digit (d + 3) 0 [xL x3, xZ, xI (x9 - 1)] [] h (fun v9 h9 => xwp G m_M_changes (d + 4) 99 [xR 53, xL x1, xZ, xL x3, xZ, xI x5, xI x6, xI x7, xI x8, xI x9, xI x10, xZ, xZ] (xpush v9 [xI s0, xI s1]) h9 Q X) X)) : xwp G m_M_changes (d + 4) 91 [xR 53, xL x1, xZ, xL x3, xZ, xI x5, xI x6, xI x7, xI x8, xI x9, xI x10, xZ, xZ] [xI s0, xI s1] h Q X := by
  have hnx9 : (93 : Int) ≤ xnx h := F.2.2
  refine xr_okL (fun hl9 => ?_)
  have r_x1 : -9223372036854775808 ≤ x1 ∧ x1 ≤ 9223372036854775807 := hl9 (xL x1) (.tail _ (.head _)) (Nat.le_of_ble_eq_true rfl)
  have r_x3 : -9223372036854775808 ≤ x3 ∧ x3 ≤ 9223372036854775807 := hl9 (xL x3) (.tail _ (.tail _ (.tail _ (.head _)))) (Nat.le_of_ble_eq_true rfl)
  have r_x5 : -2147483648 ≤ x5 ∧ x5 ≤ 2147483647 := hl9 (xI x5) (.tail _ (.tail _ (.tail _ (.tail _ (.tail _ (.head _)))))) (Nat.le_of_ble_eq_true rfl)
  have r_x6 : -2147483648 ≤ x6 ∧ x6 ≤ 2147483647 := hl9 (xI x6) (.tail _ (.tail _ (.tail _ (.tail _ (.tail _ (.tail _ (.head _))))))) (Nat.le_of_ble_eq_true rfl)
  have r_x7 : -2147483648 ≤ x7 ∧ x7 ≤ 2147483647 := hl9 (xI x7) (.tail _ (.tail _ (.tail _ (.tail _ (.tail _ (.tail _ (.tail _ (.head _)))))))) (Nat.le_of_ble_eq_true rfl)
  have r_x8 : -2147483648 ≤ x8 ∧ x8 ≤ 2147483647 := hl9 (xI x8) (.tail _ (.tail _ (.tail _ (.tail _ (.tail _ (.tail _ (.tail _ (.tail _ (.head _))))))))) (Nat.le_of_ble_eq_true rfl)
  have r_x9 : -2147483648 ≤ x9 ∧ x9 ≤ 2147483647 := hl9 (xI x9) (.tail _ (.tail _ (.tail _ (.tail _ (.tail _ (.tail _ (.tail _ (.tail _ (.tail _ (.head _)))))))))) (Nat.le_of_ble_eq_true rfl)
  have r_x10 : -2147483648 ≤ x10 ∧ x10 ≤ 2147483647 := hl9 (xI x10) (.tail _ (.tail _ (.tail _ (.tail _ (.tail _ (.tail _ (.tail _ (.tail _ (.tail _ (.tail _ (.head _))))))))))) (Nat.le_of_ble_eq_true rfl)
  refine xr_okS (fun hs9 => ?_)
  have r_s0 : -2147483648 ≤ s0 ∧ s0 ≤ 2147483647 := hs9 (xI s0) (.head _)
  have r_s1 : -2147483648 ≤ s1 ∧ s1 ≤ 2147483647 := hs9 (xI s1) (.tail _ (.head _))
  refine xr_lload_n (pc := 91) (i := 3) (hI := d_M_changes_91) (hi := rfl) (hl := rfl) ?_
  refine xr_iload (pc := 92) (i := 9) (hI := d_M_changes_92) (hl := rfl) ?_
  refine xr_iconst (pc := 94) (hI := d_M_changes_94) (hr := by decide) ?_
  obtain ⟨c9, hyp⟩ := hyp
  refine xr_isub (pc := 95) (hI := d_M_changes_95) (hr := c9) ?_
  exact xq_callS (pc := 96) (index := 142) (K := m_M_digit) (As := [xL x3, xI (x9 - 1)]) (S := [xI s0, xI s1]) (L0 := [xL x3, xZ, xI (x9 - 1)]) (hI := d_M_changes_96) (hK := k_M_digit) (hlk := w_2206) (hnoM := rfl) (hS8 := Nat.le_of_ble_eq_true rfl) (hstat := w_2207) (hlen := Nat.le_of_ble_eq_true rfl) (hst := rfl) (hL0 := rfl)  hyp
theorem d_M_changes_99 : decode prog_14_method_41_code 99 = .ok (.if_icmp .ne 7, 3) := by decide +kernel
theorem d_M_changes_106 : decode prog_14_method_41_code 106 = .ok (.iconst 1, 1) := by decide +kernel
theorem d_M_changes_102 : decode prog_14_method_41_code 102 = .ok (.iconst 0, 1) := by decide +kernel
theorem d_M_changes_103 : decode prog_14_method_41_code 103 = .ok (.goto 4, 3) := by decide +kernel
theorem v_M_changes_99 {G : XG} {d : Nat} {h : XH} {Q : XV → XH → Prop} {X : Nat → XH → Prop} {x1 x3 x5 x6 x7 x8 x9 x10 s0 s1 s2 : Int} (F : xFix h) (hyp : ((s1 = s0 → (xwp G m_M_changes (d + 4) 107 [xR 53, xL x1, xZ, xL x3, xZ, xI x5, xI x6, xI x7, xI x8, xI x9, xI x10, xZ, xZ] [xI 0, xI s2] h Q X)) ∧ (¬ s1 = s0 → (xwp G m_M_changes (d + 4) 107 [xR 53, xL x1, xZ, xL x3, xZ, xI x5, xI x6, xI x7, xI x8, xI x9, xI x10, xZ, xZ] [xI 1, xI s2] h Q X)))) : xwp G m_M_changes (d + 4) 99 [xR 53, xL x1, xZ, xL x3, xZ, xI x5, xI x6, xI x7, xI x8, xI x9, xI x10, xZ, xZ] [xI s0, xI s1, xI s2] h Q X := by
  have hnx9 : (93 : Int) ≤ xnx h := F.2.2
  refine xr_okL (fun hl9 => ?_)
  have r_x1 : -9223372036854775808 ≤ x1 ∧ x1 ≤ 9223372036854775807 := hl9 (xL x1) (.tail _ (.head _)) (Nat.le_of_ble_eq_true rfl)
  have r_x3 : -9223372036854775808 ≤ x3 ∧ x3 ≤ 9223372036854775807 := hl9 (xL x3) (.tail _ (.tail _ (.tail _ (.head _)))) (Nat.le_of_ble_eq_true rfl)
  have r_x5 : -2147483648 ≤ x5 ∧ x5 ≤ 2147483647 := hl9 (xI x5) (.tail _ (.tail _ (.tail _ (.tail _ (.tail _ (.head _)))))) (Nat.le_of_ble_eq_true rfl)
  have r_x6 : -2147483648 ≤ x6 ∧ x6 ≤ 2147483647 := hl9 (xI x6) (.tail _ (.tail _ (.tail _ (.tail _ (.tail _ (.tail _ (.head _))))))) (Nat.le_of_ble_eq_true rfl)
  have r_x7 : -2147483648 ≤ x7 ∧ x7 ≤ 2147483647 := hl9 (xI x7) (.tail _ (.tail _ (.tail _ (.tail _ (.tail _ (.tail _ (.tail _ (.head _)))))))) (Nat.le_of_ble_eq_true rfl)
  have r_x8 : -2147483648 ≤ x8 ∧ x8 ≤ 2147483647 := hl9 (xI x8) (.tail _ (.tail _ (.tail _ (.tail _ (.tail _ (.tail _ (.tail _ (.tail _ (.head _))))))))) (Nat.le_of_ble_eq_true rfl)
  have r_x9 : -2147483648 ≤ x9 ∧ x9 ≤ 2147483647 := hl9 (xI x9) (.tail _ (.tail _ (.tail _ (.tail _ (.tail _ (.tail _ (.tail _ (.tail _ (.tail _ (.head _)))))))))) (Nat.le_of_ble_eq_true rfl)
  have r_x10 : -2147483648 ≤ x10 ∧ x10 ≤ 2147483647 := hl9 (xI x10) (.tail _ (.tail _ (.tail _ (.tail _ (.tail _ (.tail _ (.tail _ (.tail _ (.tail _ (.tail _ (.head _))))))))))) (Nat.le_of_ble_eq_true rfl)
  refine xr_okS (fun hs9 => ?_)
  have r_s0 : -2147483648 ≤ s0 ∧ s0 ≤ 2147483647 := hs9 (xI s0) (.head _)
  have r_s1 : -2147483648 ≤ s1 ∧ s1 ≤ 2147483647 := hs9 (xI s1) (.tail _ (.head _))
  have r_s2 : -2147483648 ≤ s2 ∧ s2 ≤ 2147483647 := hs9 (xI s2) (.tail _ (.tail _ (.head _)))
  refine xr_icmp_ne (pc := 99) (tgt := 106) (hI := d_M_changes_99) (ht := by decide) (fun q9 => ?_) (fun q9 => ?_)
  · replace hyp := hyp.2 q9
    have q1_ := q9
    clear q9
    refine xr_iconst (pc := 106) (hI := d_M_changes_106) (hr := by decide) ?_
    exact hyp
  · replace hyp := hyp.1 q9
    have q1_ := q9
    clear q9
    refine xr_iconst (pc := 102) (hI := d_M_changes_102) (hr := by decide) ?_
    refine xr_goto (pc := 103) (tgt := 107) (hI := d_M_changes_103) (ht := by decide) ?_
    exact hyp
theorem d_M_changes_107 : decode prog_14_method_41_code 107 = .ok (.iadd, 1) := by decide +kernel
theorem d_M_changes_108 : decode prog_14_method_41_code 108 = .ok (.istore 11, 2) := by decide +kernel
theorem d_M_changes_110 : decode prog_14_method_41_code 110 = .ok (.aload_n 0, 1) := by decide +kernel
theorem d_M_changes_111 : decode prog_14_method_41_code 111 = .ok (.getfield 45, 3) := by decide +kernel
theorem d_M_changes_114 : decode prog_14_method_41_code 114 = .ok (.iload 10, 2) := by decide +kernel
theorem d_M_changes_116 : decode prog_14_method_41_code 116 = .ok (.iload 11, 2) := by decide +kernel
theorem d_M_changes_118 : decode prog_14_method_41_code 118 = .ok (.iconst 1, 1) := by decide +kernel
theorem d_M_changes_119 : decode prog_14_method_41_code 119 = .ok (.aload_n 0, 1) := by decide +kernel
theorem d_M_changes_120 : decode prog_14_method_41_code 120 = .ok (.getfield 45, 3) := by decide +kernel
theorem d_M_changes_123 : decode prog_14_method_41_code 123 = .ok (.iload 10, 2) := by decide +kernel
theorem d_M_changes_125 : decode prog_14_method_41_code 125 = .ok (.iconst 1, 1) := by decide +kernel
theorem d_M_changes_126 : decode prog_14_method_41_code 126 = .ok (.isub, 1) := by decide +kernel
theorem d_M_changes_127 : decode prog_14_method_41_code 127 = .ok (.iaload, 1) := by decide +kernel
theorem d_M_changes_128 : decode prog_14_method_41_code 128 = .ok (.aload_n 0, 1) := by decide +kernel
theorem d_M_changes_129 : decode prog_14_method_41_code 129 = .ok (.getfield 45, 3) := by decide +kernel
theorem d_M_changes_132 : decode prog_14_method_41_code 132 = .ok (.iload 10, 2) := by decide +kernel
theorem d_M_changes_134 : decode prog_14_method_41_code 134 = .ok (.iload 7, 2) := by decide +kernel
theorem d_M_changes_136 : decode prog_14_method_41_code 136 = .ok (.isub, 1) := by decide +kernel
theorem d_M_changes_137 : decode prog_14_method_41_code 137 = .ok (.iaload, 1) := by decide +kernel
theorem d_M_changes_138 : decode prog_14_method_41_code 138 = .ok (.invokestatic 146, 3) := by decide +kernel
theorem d_M_changes_141 : decode prog_14_method_41_code 141 = .ok (.iadd, 1) := by decide +kernel
theorem d_M_changes_142 : decode prog_14_method_41_code 142 = .ok (.invokestatic 146, 3) := by decide +kernel
theorem d_M_changes_145 : decode prog_14_method_41_code 145 = .ok (.iastore, 1) := by decide +kernel
theorem d_M_changes_146 : decode prog_14_method_41_code 146 = .ok (.iload 8, 2) := by decide +kernel
theorem d_M_changes_148 : decode prog_14_method_41_code 148 = .ok (.iconst 1, 1) := by decide +kernel
theorem d_M_changes_149 : decode prog_14_method_41_code 149 = .ok (.if_icmp .le 51, 3) := by decide +kernel
theorem d_M_changes_152 : decode prog_14_method_41_code 152 = .ok (.iload 9, 2) := by decide +kernel
theorem d_M_changes_154 : decode prog_14_method_41_code 154 = .ok (.iconst 1, 1) := by decide +kernel
theorem d_M_changes_155 : decode prog_14_method_41_code 155 = .ok (.if_icmp .le 45, 3) := by decide +kernel
theorem d_M_changes_158 : decode prog_14_method_41_code 158 = .ok (.lload_n 1, 1) := by decide +kernel
theorem d_M_changes_159 : decode prog_14_method_41_code 159 = .ok (.iload 8, 2) := by decide +kernel
theorem d_M_changes_161 : decode prog_14_method_41_code 161 = .ok (.iconst 1, 1) := by decide +kernel
theorem d_M_changes_162 : decode prog_14_method_41_code 162 = .ok (.isub, 1) := by decide +kernel
theorem d_M_changes_163 : decode prog_14_method_41_code 163 = .ok (.invokestatic 142, 3) := by decide +kernel
theorem v_M_changes_107 {G : XG} {d : Nat} {h : XH} {Q : XV → XH → Prop} {X : Nat → XH → Prop} {x1 x3 x5 x6 x7 x8 x9 x10 s0 s1 : Int} (F : xFix h) (hyp : xiR (s1 + s0) ∧ xiR (x10 - 1) ∧ 0 ≤ (x10 - 1) ∧ (x10 - 1) < 169 ∧ xiR (x10 - x7) ∧ 0 ≤ (x10 - x7) ∧ (x10 - x7) < 169 ∧ xiR (1 + (min (xpl h 65 (x10 - 1)) (xpl h 65 (x10 - x7)))) ∧ x10 < 169 ∧ ((x8 ≤ 1 → (xFix (xst h 65 x10 (min (s1 + s0) (1 + (min (xpl h 65 (x10 - 1)) (xpl h 65 (x10 - x7)))))) → xwp G m_M_changes (d + 4) 200 [xR 53, xL x1, xZ, xL x3, xZ, xI x5, xI x6, xI x7, xI x8, xI x9, xI x10, xZ, xZ] [] (xst h 65 x10 (min (s1 + s0) (1 + (min (xpl h 65 (x10 - 1)) (xpl h 65 (x10 - x7)))))) Q X)) ∧ (¬ x8 ≤ 1 → ((x9 ≤ 1 → (xFix (xst h 65 x10 (min (s1 + s0) (1 + (min (xpl h 65 (x10 - 1)) (xpl h 65 (x10 - x7)))))) → xwp G m_M_changes (d + 4) 200 [xR 53, xL x1, xZ, xL x3, xZ, xI x5, xI x6, xI x7, xI x8, xI x9, xI x10, xZ, xZ] [] (xst h 65 x10 (min (s1 + s0) (1 + (min (xpl h 65 (x10 - 1)) (xpl h 65 (x10 - x7)))))) Q X)) ∧ (¬ x9 ≤ 1 → (xFix (xst h 65 x10 (min (s1 + s0) (1 + (min (xpl h 65 (x10 - 1)) (xpl h 65 (x10 - x7)))))) → xwp G m_M_digit (d + 3) 0 [xL x1, xZ, xI (x8 - 1)] [] (xst h 65 x10 (min (s1 + s0) (1 + (min (xpl h 65 (x10 - 1)) (xpl h 65 (x10 - x7)))))) (fun v9 h9 => xwp G m_M_changes (d + 4) 166 [xR 53, xL x1, xZ, xL x3, xZ, xI x5, xI x6, xI x7, xI x8, xI x9, xI x10, xZ, xZ] (xpush v9 []) h9 Q X) X)))))) : xwp G m_M_changes (d + 4) 107 [xR 53, xL x1, xZ, xL x3, xZ, xI x5, xI x6, xI x7, xI x8, xI x9, xI x10, xZ, xZ] [xI s0, xI s1] h Q X := by
  have hnx9 : (93 : Int) ≤ xnx h := F.2.2
  refine xr_okL (fun hl9 => ?_)
  have r_x1 : -9223372036854775808 ≤ x1 ∧ x1 ≤ 9223372036854775807 := hl9 (xL x1) (.tail _ (.head _)) (Nat.le_of_ble_eq_true rfl)
  have r_x3 : -9223372036854775808 ≤ x3 ∧ x3 ≤ 9223372036854775807 := hl9 (xL x3) (.tail _ (.tail _ (.tail _ (.head _)))) (Nat.le_of_ble_eq_true rfl)
  have r_x5 : -2147483648 ≤ x5 ∧ x5 ≤ 2147483647 := hl9 (xI x5) (.tail _ (.tail _ (.tail _ (.tail _ (.tail _ (.head _)))))) (Nat.le_of_ble_eq_true rfl)
  have r_x6 : -2147483648 ≤ x6 ∧ x6 ≤ 2147483647 := hl9 (xI x6) (.tail _ (.tail _ (.tail _ (.tail _ (.tail _ (.tail _ (.head _))))))) (Nat.le_of_ble_eq_true rfl)
  have r_x7 : -2147483648 ≤ x7 ∧ x7 ≤ 2147483647 := hl9 (xI x7) (.tail _ (.tail _ (.tail _ (.tail _ (.tail _ (.tail _ (.tail _ (.head _)))))))) (Nat.le_of_ble_eq_true rfl)
  have r_x8 : -2147483648 ≤ x8 ∧ x8 ≤ 2147483647 := hl9 (xI x8) (.tail _ (.tail _ (.tail _ (.tail _ (.tail _ (.tail _ (.tail _ (.tail _ (.head _))))))))) (Nat.le_of_ble_eq_true rfl)
  have r_x9 : -2147483648 ≤ x9 ∧ x9 ≤ 2147483647 := hl9 (xI x9) (.tail _ (.tail _ (.tail _ (.tail _ (.tail _ (.tail _ (.tail _ (.tail _ (.tail _ (.head _)))))))))) (Nat.le_of_ble_eq_true rfl)
  have r_x10 : -2147483648 ≤ x10 ∧ x10 ≤ 2147483647 := hl9 (xI x10) (.tail _ (.tail _ (.tail _ (.tail _ (.tail _ (.tail _ (.tail _ (.tail _ (.tail _ (.tail _ (.head _))))))))))) (Nat.le_of_ble_eq_true rfl)
  refine xr_okS (fun hs9 => ?_)
  have r_s0 : -2147483648 ≤ s0 ∧ s0 ≤ 2147483647 := hs9 (xI s0) (.head _)
  have r_s1 : -2147483648 ≤ s1 ∧ s1 ≤ 2147483647 := hs9 (xI s1) (.tail _ (.head _))
  obtain ⟨c9, hyp⟩ := hyp
  refine xr_iadd (pc := 107) (hI := d_M_changes_107) (hr := c9) ?_
  refine xr_istore (pc := 108) (i := 11) (L9 := [xR 53, xL x1, xZ, xL x3, xZ, xI x5, xI x6, xI x7, xI x8, xI x9, xI x10, xI (s1 + s0), xZ]) (hI := d_M_changes_108) (hn := Nat.le_of_ble_eq_true rfl) (hL9 := rfl) ?_
  refine xr_aload_n (pc := 110) (i := 0) (hI := d_M_changes_110) (hi := rfl) (hl := rfl) ?_
  refine xg_getf (pc := 111) (ci := 11) (k := 17) (N := 38) (v9 := 2) (v := 65) (T := xF11) (hI := d_M_changes_111) (hw := w_1604) rfl xi11 (Or.inl rfl) (Nat.le_of_ble_eq_true rfl) (Nat.le_of_ble_eq_true rfl) rfl (ft_53 F) (fp_53_17 F) (fun f1_ => ?_)
  clear f1_
  refine xr_iload (pc := 114) (i := 10) (hI := d_M_changes_114) (hl := rfl) ?_
  refine xr_iload (pc := 116) (i := 11) (hI := d_M_changes_116) (hl := rfl) ?_
  refine xr_iconst (pc := 118) (hI := d_M_changes_118) (hr := by decide) ?_
  refine xr_aload_n (pc := 119) (i := 0) (hI := d_M_changes_119) (hi := rfl) (hl := rfl) ?_
  refine xg_getf (pc := 120) (ci := 11) (k := 17) (N := 38) (v9 := 2) (v := 65) (T := xF11) (hI := d_M_changes_120) (hw := w_1604) rfl xi11 (Or.inl rfl) (Nat.le_of_ble_eq_true rfl) (Nat.le_of_ble_eq_true rfl) rfl (ft_53 F) (fp_53_17 F) (fun f2_ => ?_)
  clear f2_
  refine xr_iload (pc := 123) (i := 10) (hI := d_M_changes_123) (hl := rfl) ?_
  refine xr_iconst (pc := 125) (hI := d_M_changes_125) (hr := by decide) ?_
  obtain ⟨c9, hyp⟩ := hyp
  refine xr_isub (pc := 126) (hI := d_M_changes_126) (hr := c9) ?_
  obtain ⟨c3_, hyp⟩ := hyp
  obtain ⟨c4_, hyp⟩ := hyp
  refine xg_iaload (pc := 127) (v := (xpl h 65 (x10 - 1))) (hI := d_M_changes_127) (ft_65 F) c3_ (xlt_of (fl_65 F) c4_) rfl (fun f5_ => ?_)
  replace f5_ : -2147483648 ≤ (xpl h 65 (x10 - 1)) ∧ (xpl h 65 (x10 - 1)) ≤ 2147483647 := f5_
  refine xr_aload_n (pc := 128) (i := 0) (hI := d_M_changes_128) (hi := rfl) (hl := rfl) ?_
  refine xg_getf (pc := 129) (ci := 11) (k := 17) (N := 38) (v9 := 2) (v := 65) (T := xF11) (hI := d_M_changes_129) (hw := w_1604) rfl xi11 (Or.inl rfl) (Nat.le_of_ble_eq_true rfl) (Nat.le_of_ble_eq_true rfl) rfl (ft_53 F) (fp_53_17 F) (fun f6_ => ?_)
  clear f6_
  refine xr_iload (pc := 132) (i := 10) (hI := d_M_changes_132) (hl := rfl) ?_
  refine xr_iload (pc := 134) (i := 7) (hI := d_M_changes_134) (hl := rfl) ?_
  obtain ⟨c9, hyp⟩ := hyp
  refine xr_isub (pc := 136) (hI := d_M_changes_136) (hr := c9) ?_
  obtain ⟨c7_, hyp⟩ := hyp
  obtain ⟨c8_, hyp⟩ := hyp
  refine xg_iaload (pc := 137) (v := (xpl h 65 (x10 - x7))) (hI := d_M_changes_137) (ft_65 F) c7_ (xlt_of (fl_65 F) c8_) rfl (fun f9_ => ?_)
  replace f9_ : -2147483648 ≤ (xpl h 65 (x10 - x7)) ∧ (xpl h 65 (x10 - x7)) ≤ 2147483647 := f9_
  refine xr_mmin (pc := 138) (index := 146) (hI := d_M_changes_138) w_1786 w_542 w_25 w_mmin (Nat.le_add_left_of_le (by decide)) (Nat.le_of_ble_eq_true rfl) ?_
  have f10_ : (min (xpl h 65 (x10 - 1)) (xpl h 65 (x10 - x7))) ≤ (xpl h 65 (x10 - 1)) := (by clear hyp; omega)
  have f11_ : (min (xpl h 65 (x10 - 1)) (xpl h 65 (x10 - x7))) ≤ (xpl h 65 (x10 - x7)) := (by clear hyp; omega)
  have f12_ : (-2147483648) ≤ (min (xpl h 65 (x10 - 1)) (xpl h 65 (x10 - x7))) := (by clear hyp; omega)
  obtain ⟨c9, hyp⟩ := hyp
  refine xr_iadd (pc := 141) (hI := d_M_changes_141) (hr := c9) ?_
  refine xr_mmin (pc := 142) (index := 146) (hI := d_M_changes_142) w_1786 w_542 w_25 w_mmin (Nat.le_add_left_of_le (by decide)) (Nat.le_of_ble_eq_true rfl) ?_
  have f13_ : (min (s1 + s0) (1 + (min (xpl h 65 (x10 - 1)) (xpl h 65 (x10 - x7))))) ≤ (s1 + s0) := (by clear hyp; omega)
  have f14_ : (min (s1 + s0) (1 + (min (xpl h 65 (x10 - 1)) (xpl h 65 (x10 - x7))))) ≤ (1 + (min (xpl h 65 (x10 - 1)) (xpl h 65 (x10 - x7)))) := (by clear hyp; omega)
  have f15_ : (-2147483648) ≤ (min (s1 + s0) (1 + (min (xpl h 65 (x10 - 1)) (xpl h 65 (x10 - x7))))) := (by clear hyp; omega)
  obtain ⟨c16_, hyp⟩ := hyp
  refine xr_iastore (pc := 145) (hI := d_M_changes_145) (ft_65 F) (by decide) (by clear hyp; omega) (xlt_of (fl_65 F) c16_) ?_
  have F17_ : xFix (xst h 65 x10 (min (s1 + s0) (1 + (min (xpl h 65 (x10 - 1)) (xpl h 65 (x10 - x7)))))) := F.stA xfa_65
  refine xr_iload (pc := 146) (i := 8) (hI := d_M_changes_146) (hl := rfl) ?_
  refine xr_iconst (pc := 148) (hI := d_M_changes_148) (hr := by decide) ?_
  refine xr_icmp_le (pc := 149) (tgt := 200) (hI := d_M_changes_149) (ht := by decide) (fun q9 => ?_) (fun q9 => ?_)
  · replace hyp := hyp.1 q9
    have q18_ := q9
    clear q9
    exact xr_drop (L9 := [xR 53, xL x1, xZ, xL x3, xZ, xI x5, xI x6, xI x7, xI x8, xI x9, xI x10, xZ, xZ]) (xdrs (xdrs (xdrs (xdrs (xdrs (xdrs (xdrs (xdrs (xdrs (xdrs (xdrs (xdrz (xdrs xdr0))))))))))))) (hyp F17_)
  · replace hyp := hyp.2 q9
    have q18_ := q9
    clear q9
    refine xr_iload (pc := 152) (i := 9) (hI := d_M_changes_152) (hl := rfl) ?_
    refine xr_iconst (pc := 154) (hI := d_M_changes_154) (hr := by decide) ?_
    refine xr_icmp_le (pc := 155) (tgt := 200) (hI := d_M_changes_155) (ht := by decide) (fun q9 => ?_) (fun q9 => ?_)
    · replace hyp := hyp.1 q9
      have q19_ := q9
      clear q9
      exact xr_drop (L9 := [xR 53, xL x1, xZ, xL x3, xZ, xI x5, xI x6, xI x7, xI x8, xI x9, xI x10, xZ, xZ]) (xdrs (xdrs (xdrs (xdrs (xdrs (xdrs (xdrs (xdrs (xdrs (xdrs (xdrs (xdrz (xdrs xdr0))))))))))))) (hyp F17_)
    · replace hyp := hyp.2 q9
      have q19_ := q9
      clear q9
      refine xr_lload_n (pc := 158) (i := 1) (hI := d_M_changes_158) (hi := rfl) (hl := rfl) ?_
      refine xr_iload (pc := 159) (i := 8) (hI := d_M_changes_159) (hl := rfl) ?_
      refine xr_iconst (pc := 161) (hI := d_M_changes_161) (hr := by decide) ?_
      refine xr_isub (pc := 162) (hI := d_M_changes_162) (hr := ⟨by clear hyp; omega, by clear hyp; omega⟩) ?_
      exact xq_callS (pc := 163) (index := 142) (K := m_M_digit) (As := [xL x1, xI (x8 - 1)]) (S := []) (L0 := [xL x1, xZ, xI (x8 - 1)]) (hI := d_M_changes_163) (hK := k_M_digit) (hlk := w_2206) (hnoM := rfl) (hS8 := Nat.le_of_ble_eq_true rfl) (hstat := w_2207) (hlen := Nat.le_of_ble_eq_true rfl) (hst := rfl) (hL0 := rfl)  (xwp_mono (hyp F17_) (fun v9 h9 q9 => xr_drop (L9 := [xR 53, xL x1, xZ, xL x3, xZ, xI x5, xI x6, xI x7, xI x8, xI x9, xI x10, xZ, xZ]) (xdrs (xdrs (xdrs (xdrs (xdrs (xdrs (xdrs (xdrs (xdrs (xdrs (xdrs (xdrz (xdrs xdr0))))))))))))) q9) (fun _ _ z9 => z9))
theorem d_M_changes_166 : decode prog_14_method_41_code 166 = .ok (.lload_n 3, 1) := by decide +kernel
theorem d_M_changes_167 : decode prog_14_method_41_code 167 = .ok (.iload 9, 2) := by decide +kernel
theorem d_M_changes_169 : decode prog_14_method_41_code 169 = .ok (.iconst 2, 1) := by decide +kernel
theorem d_M_changes_170 : decode prog_14_method_41_code 170 = .ok (.isub, 1) := by decide +kernel
theorem d_M_changes_171 : decode prog_14_method_41_code 171 = .ok (.invokestatic 142, 3) := by decide +kernel
theorem v_M_changes_166 {G : XG} {d : Nat} {h : XH} {Q : XV → XH → Prop} {X : Nat → XH → Prop} {x1 x3 x5 x6 x7 x8 x9 x10 s0 : Int} (F : xFix h) (hyp : xiR (x9 - 2) ∧ (xwp G m_M_digit (d + 3) 0 [xL x3, xZ, xI (x9 - 2)] [] h (fun v9 h9 => xwp G m_M_changes (d + 4) 174 [xR 53, xL x1, xZ, xL x3, xZ, xI x5, xI x6, xI x7, xI x8, xI x9, xI x10, xZ, xZ] (xpush v9 [xI s0]) h9 Q X) X)) : xwp G m_M_changes (d + 4) 166 [xR 53, xL x1, xZ, xL x3, xZ, xI x5, xI x6, xI x7, xI x8, xI x9, xI x10, xZ, xZ] [xI s0] h Q X := by
  have hnx9 : (93 : Int) ≤ xnx h := F.2.2
  refine xr_okL (fun hl9 => ?_)
  have r_x1 : -9223372036854775808 ≤ x1 ∧ x1 ≤ 9223372036854775807 := hl9 (xL x1) (.tail _ (.head _)) (Nat.le_of_ble_eq_true rfl)
  have r_x3 : -9223372036854775808 ≤ x3 ∧ x3 ≤ 9223372036854775807 := hl9 (xL x3) (.tail _ (.tail _ (.tail _ (.head _)))) (Nat.le_of_ble_eq_true rfl)
  have r_x5 : -2147483648 ≤ x5 ∧ x5 ≤ 2147483647 := hl9 (xI x5) (.tail _ (.tail _ (.tail _ (.tail _ (.tail _ (.head _)))))) (Nat.le_of_ble_eq_true rfl)
  have r_x6 : -2147483648 ≤ x6 ∧ x6 ≤ 2147483647 := hl9 (xI x6) (.tail _ (.tail _ (.tail _ (.tail _ (.tail _ (.tail _ (.head _))))))) (Nat.le_of_ble_eq_true rfl)
  have r_x7 : -2147483648 ≤ x7 ∧ x7 ≤ 2147483647 := hl9 (xI x7) (.tail _ (.tail _ (.tail _ (.tail _ (.tail _ (.tail _ (.tail _ (.head _)))))))) (Nat.le_of_ble_eq_true rfl)
  have r_x8 : -2147483648 ≤ x8 ∧ x8 ≤ 2147483647 := hl9 (xI x8) (.tail _ (.tail _ (.tail _ (.tail _ (.tail _ (.tail _ (.tail _ (.tail _ (.head _))))))))) (Nat.le_of_ble_eq_true rfl)
  have r_x9 : -2147483648 ≤ x9 ∧ x9 ≤ 2147483647 := hl9 (xI x9) (.tail _ (.tail _ (.tail _ (.tail _ (.tail _ (.tail _ (.tail _ (.tail _ (.tail _ (.head _)))))))))) (Nat.le_of_ble_eq_true rfl)
  have r_x10 : -2147483648 ≤ x10 ∧ x10 ≤ 2147483647 := hl9 (xI x10) (.tail _ (.tail _ (.tail _ (.tail _ (.tail _ (.tail _ (.tail _ (.tail _ (.tail _ (.tail _ (.head _))))))))))) (Nat.le_of_ble_eq_true rfl)
  refine xr_okS (fun hs9 => ?_)
  have r_s0 : -2147483648 ≤ s0 ∧ s0 ≤ 2147483647 := hs9 (xI s0) (.head _)
  refine xr_lload_n (pc := 166) (i := 3) (hI := d_M_changes_166) (hi := rfl) (hl := rfl) ?_
  refine xr_iload (pc := 167) (i := 9) (hI := d_M_changes_167) (hl := rfl) ?_
  refine xr_iconst (pc := 169) (hI := d_M_changes_169) (hr := by decide) ?_
  obtain ⟨c9, hyp⟩ := hyp
  refine xr_isub (pc := 170) (hI := d_M_changes_170) (hr := c9) ?_
  exact xq_callS (pc := 171) (index := 142) (K := m_M_digit) (As := [xL x3, xI (x9 - 2)]) (S := [xI s0]) (L0 := [xL x3, xZ, xI (x9 - 2)]) (hI := d_M_changes_171) (hK := k_M_digit) (hlk := w_2206) (hnoM := rfl) (hS8 := Nat.le_of_ble_eq_true rfl) (hstat := w_2207) (hlen := Nat.le_of_ble_eq_true rfl) (hst := rfl) (hL0 := rfl)  hyp
theorem d_M_changes_174 : decode prog_14_method_41_code 174 = .ok (.if_icmp .ne 26, 3) := by decide +kernel
theorem d_M_changes_177 : decode prog_14_method_41_code 177 = .ok (.lload_n 1, 1) := by decide +kernel
theorem d_M_changes_178 : decode prog_14_method_41_code 178 = .ok (.iload 8, 2) := by decide +kernel
theorem d_M_changes_180 : decode prog_14_method_41_code 180 = .ok (.iconst 2, 1) := by decide +kernel
theorem d_M_changes_181 : decode prog_14_method_41_code 181 = .ok (.isub, 1) := by decide +kernel
theorem d_M_changes_182 : decode prog_14_method_41_code 182 = .ok (.invokestatic 142, 3) := by decide +kernel
theorem v_M_changes_174 {G : XG} {d : Nat} {h : XH} {Q : XV → XH → Prop} {X : Nat → XH → Prop} {x1 x3 x5 x6 x7 x8 x9 x10 s0 s1 : Int} (F : xFix h) (hyp : ((s1 = s0 → xiR (x8 - 2) ∧ (xwp G m_M_digit (d + 3) 0 [xL x1, xZ, xI (x8 - 2)] [] h (fun v9 h9 => xwp G m_M_changes (d + 4) 185 [xR 53, xL x1, xZ, xL x3, xZ, xI x5, xI x6, xI x7, xI x8, xI x9, xI x10, xZ, xZ] (xpush v9 []) h9 Q X) X)) ∧ (¬ s1 = s0 → (xwp G m_M_changes (d + 4) 200 [xR 53, xL x1, xZ, xL x3, xZ, xI x5, xI x6, xI x7, xI x8, xI x9, xI x10, xZ, xZ] [] h Q X)))) : xwp G m_M_changes (d + 4) 174 [xR 53, xL x1, xZ, xL x3, xZ, xI x5, xI x6, xI x7, xI x8, xI x9, xI x10, xZ, xZ] [xI s0, xI s1] h Q X := by
  have hnx9 : (93 : Int) ≤ xnx h := F.2.2
  refine xr_okL (fun hl9 => ?_)
  have r_x1 : -9223372036854775808 ≤ x1 ∧ x1 ≤ 9223372036854775807 := hl9 (xL x1) (.tail _ (.head _)) (Nat.le_of_ble_eq_true rfl)
  have r_x3 : -9223372036854775808 ≤ x3 ∧ x3 ≤ 9223372036854775807 := hl9 (xL x3) (.tail _ (.tail _ (.tail _ (.head _)))) (Nat.le_of_ble_eq_true rfl)
  have r_x5 : -2147483648 ≤ x5 ∧ x5 ≤ 2147483647 := hl9 (xI x5) (.tail _ (.tail _ (.tail _ (.tail _ (.tail _ (.head _)))))) (Nat.le_of_ble_eq_true rfl)
  have r_x6 : -2147483648 ≤ x6 ∧ x6 ≤ 2147483647 := hl9 (xI x6) (.tail _ (.tail _ (.tail _ (.tail _ (.tail _ (.tail _ (.head _))))))) (Nat.le_of_ble_eq_true rfl)
  have r_x7 : -2147483648 ≤ x7 ∧ x7 ≤ 2147483647 := hl9 (xI x7) (.tail _ (.tail _ (.tail _ (.tail _ (.tail _ (.tail _ (.tail _ (.head _)))))))) (Nat.le_of_ble_eq_true rfl)
  have r_x8 : -2147483648 ≤ x8 ∧ x8 ≤ 2147483647 := hl9 (xI x8) (.tail _ (.tail _ (.tail _ (.tail _ (.tail _ (.tail _ (.tail _ (.tail _ (.head _))))))))) (Nat.le_of_ble_eq_true rfl)
  have r_x9 : -2147483648 ≤ x9 ∧ x9 ≤ 2147483647 := hl9 (xI x9) (.tail _ (.tail _ (.tail _ (.tail _ (.tail _ (.tail _ (.tail _ (.tail _ (.tail _ (.head _)))))))))) (Nat.le_of_ble_eq_true rfl)
  have r_x10 : -2147483648 ≤ x10 ∧ x10 ≤ 2147483647 := hl9 (xI x10) (.tail _ (.tail _ (.tail _ (.tail _ (.tail _ (.tail _ (.tail _ (.tail _ (.tail _ (.tail _ (.head _))))))))))) (Nat.le_of_ble_eq_true rfl)
  refine xr_okS (fun hs9 => ?_)
  have r_s0 : -2147483648 ≤ s0 ∧ s0 ≤ 2147483647 := hs9 (xI s0) (.head _)
  have r_s1 : -2147483648 ≤ s1 ∧ s1 ≤ 2147483647 := hs9 (xI s1) (.tail _ (.head _))
  refine xr_icmp_ne (pc := 174) (tgt := 200) (hI := d_M_changes_174) (ht := by decide) (fun q9 => ?_) (fun q9 => ?_)
  · replace hyp := hyp.2 q9
    have q1_ := q9
    clear q9
    exact hyp
  · replace hyp := hyp.1 q9
    have q1_ := q9
    clear q9
    refine xr_lload_n (pc := 177) (i := 1) (hI := d_M_changes_177) (hi := rfl) (hl := rfl) ?_
    refine xr_iload (pc := 178) (i := 8) (hI := d_M_changes_178) (hl := rfl) ?_
    refine xr_iconst (pc := 180) (hI := d_M_changes_180) (hr := by decide) ?_
    obtain ⟨c9, hyp⟩ := hyp
    refine xr_isub (pc := 181) (hI := d_M_changes_181) (hr := c9) ?_
    exact xq_callS (pc := 182) (index := 142) (K := m_M_digit) (As := [xL x1, xI (x8 - 2)]) (S := []) (L0 := [xL x1, xZ, xI (x8 - 2)]) (hI := d_M_changes_182) (hK := k_M_digit) (hlk := w_2206) (hnoM := rfl) (hS8 := Nat.le_of_ble_eq_true rfl) (hstat := w_2207) (hlen := Nat.le_of_ble_eq_true rfl) (hst := rfl) (hL0 := rfl)  hyp
theorem d_M_changes_185 : decode prog_14_method_41_code 185 = .ok (.lload_n 3, 1) := by decide +kernel
theorem d_M_changes_186 : decode prog_14_method_41_code 186 = .ok (.iload 9, 2) := by decide +kernel
theorem d_M_changes_188 : decode prog_14_method_41_code 188 = .ok (.iconst 1, 1) := by decide +kernel
theorem d_M_changes_189 : decode prog_14_method_41_code 189 = .ok (.isub, 1) := by decide +kernel
theorem d_M_changes_190 : decode prog_14_method_41_code 190 = .ok (.invokestatic 142, 3) := by decide +kernel
theorem v_M_changes_185 {G : XG} {d : Nat} {h : XH} {Q : XV → XH → Prop} {X : Nat → XH → Prop} {x1 x3 x5 x6 x7 x8 x9 x10 s0 : Int} (F : xFix h) (hyp : xiR (x9 - 1) ∧ (xwp G m_M_digit (d + 3) 0 [xL x3, xZ, xI (x9 - 1)] [] h (fun v9 h9 => xwp G m_M_changes (d + 4) 193 [xR 53, xL x1, xZ, xL x3, xZ, xI x5, xI x6, xI x7, xI x8, xI x9, xI x10, xZ, xZ] (xpush v9 [xI s0]) h9 Q X) X)) : xwp G m_M_changes (d + 4) 185 [xR 53, xL x1, xZ, xL x3, xZ, xI x5, xI x6, xI x7, xI x8, xI x9, xI x10, xZ, xZ] [xI s0] h Q X := by
  have hnx9 : (93 : Int) ≤ xnx h := F.2.2
  refine xr_okL (fun hl9 => ?_)
  have r_x1 : -9223372036854775808 ≤ x1 ∧ x1 ≤ 9223372036854775807 := hl9 (xL x1) (.tail _ (.head _)) (Nat.le_of_ble_eq_true rfl)
  have r_x3 : -9223372036854775808 ≤ x3 ∧ x3 ≤ 9223372036854775807 := hl9 (xL x3) (.tail _ (.tail _ (.tail _ (.head _)))) (Nat.le_of_ble_eq_true rfl)
  have r_x5 : -2147483648 ≤ x5 ∧ x5 ≤ 2147483647 := hl9 (xI x5) (.tail _ (.tail _ (.tail _ (.tail _ (.tail _ (.head _)))))) (Nat.le_of_ble_eq_true rfl)
  have r_x6 : -2147483648 ≤ x6 ∧ x6 ≤ 2147483647 := hl9 (xI x6) (.tail _ (.tail _ (.tail _ (.tail _ (.tail _ (.tail _ (.head _))))))) (Nat.le_of_ble_eq_true rfl)
  have r_x7 : -2147483648 ≤ x7 ∧ x7 ≤ 2147483647 := hl9 (xI x7) (.tail _ (.tail _ (.tail _ (.tail _ (.tail _ (.tail _ (.tail _ (.head _)))))))) (Nat.le_of_ble_eq_true rfl)
  have r_x8 : -2147483648 ≤ x8 ∧ x8 ≤ 2147483647 := hl9 (xI x8) (.tail _ (.tail _ (.tail _ (.tail _ (.tail _ (.tail _ (.tail _ (.tail _ (.head _))))))))) (Nat.le_of_ble_eq_true rfl)
  have r_x9 : -2147483648 ≤ x9 ∧ x9 ≤ 2147483647 := hl9 (xI x9) (.tail _ (.tail _ (.tail _ (.tail _ (.tail _ (.tail _ (.tail _ (.tail _ (.tail _ (.head _)))))))))) (Nat.le_of_ble_eq_true rfl)
  have r_x10 : -2147483648 ≤ x10 ∧ x10 ≤ 2147483647 := hl9 (xI x10) (.tail _ (.tail _ (.tail _ (.tail _ (.tail _ (.tail _ (.tail _ (.tail _ (.tail _ (.tail _ (.head _))))))))))) (Nat.le_of_ble_eq_true rfl)
  refine xr_okS (fun hs9 => ?_)
  have r_s0 : -2147483648 ≤ s0 ∧ s0 ≤ 2147483647 := hs9 (xI s0) (.head _)
  refine xr_lload_n (pc := 185) (i := 3) (hI := d_M_changes_185) (hi := rfl) (hl := rfl) ?_
  refine xr_iload (pc := 186) (i := 9) (hI := d_M_changes_186) (hl := rfl) ?_
  refine xr_iconst (pc := 188) (hI := d_M_changes_188) (hr := by decide) ?_
  obtain ⟨c9, hyp⟩ := hyp
  refine xr_isub (pc := 189) (hI := d_M_changes_189) (hr := c9) ?_
  exact xq_callS (pc := 190) (index := 142) (K := m_M_digit) (As := [xL x3, xI (x9 - 1)]) (S := [xI s0]) (L0 := [xL x3, xZ, xI (x9 - 1)]) (hI := d_M_changes_190) (hK := k_M_digit) (hlk := w_2206) (hnoM := rfl) (hS8 := Nat.le_of_ble_eq_true rfl) (hstat := w_2207) (hlen := Nat.le_of_ble_eq_true rfl) (hst := rfl) (hL0 := rfl)  hyp
theorem d_M_changes_193 : decode prog_14_method_41_code 193 = .ok (.if_icmp .ne 7, 3) := by decide +kernel
theorem d_M_changes_196 : decode prog_14_method_41_code 196 = .ok (.iconst 1, 1) := by decide +kernel
theorem d_M_changes_197 : decode prog_14_method_41_code 197 = .ok (.goto 4, 3) := by decide +kernel
theorem v_M_changes_193 {G : XG} {d : Nat} {h : XH} {Q : XV → XH → Prop} {X : Nat → XH → Prop} {x1 x3 x5 x6 x7 x8 x9 x10 s0 s1 : Int} (F : xFix h) (hyp : ((s1 = s0 → (xwp G m_M_changes (d + 4) 201 [xR 53, xL x1, xZ, xL x3, xZ, xI x5, xI x6, xI x7, xI x8, xI x9, xI x10, xZ, xZ] [xI 1] h Q X)) ∧ (¬ s1 = s0 → (xwp G m_M_changes (d + 4) 200 [xR 53, xL x1, xZ, xL x3, xZ, xI x5, xI x6, xI x7, xI x8, xI x9, xI x10, xZ, xZ] [] h Q X)))) : xwp G m_M_changes (d + 4) 193 [xR 53, xL x1, xZ, xL x3, xZ, xI x5, xI x6, xI x7, xI x8, xI x9, xI x10, xZ, xZ] [xI s0, xI s1] h Q X := by
  have hnx9 : (93 : Int) ≤ xnx h := F.2.2
  refine xr_okL (fun hl9 => ?_)
  have r_x1 : -9223372036854775808 ≤ x1 ∧ x1 ≤ 9223372036854775807 := hl9 (xL x1) (.tail _ (.head _)) (Nat.le_of_ble_eq_true rfl)
  have r_x3 : -9223372036854775808 ≤ x3 ∧ x3 ≤ 9223372036854775807 := hl9 (xL x3) (.tail _ (.tail _ (.tail _ (.head _)))) (Nat.le_of_ble_eq_true rfl)
  have r_x5 : -2147483648 ≤ x5 ∧ x5 ≤ 2147483647 := hl9 (xI x5) (.tail _ (.tail _ (.tail _ (.tail _ (.tail _ (.head _)))))) (Nat.le_of_ble_eq_true rfl)
  have r_x6 : -2147483648 ≤ x6 ∧ x6 ≤ 2147483647 := hl9 (xI x6) (.tail _ (.tail _ (.tail _ (.tail _ (.tail _ (.tail _ (.head _))))))) (Nat.le_of_ble_eq_true rfl)
  have r_x7 : -2147483648 ≤ x7 ∧ x7 ≤ 2147483647 := hl9 (xI x7) (.tail _ (.tail _ (.tail _ (.tail _ (.tail _ (.tail _ (.tail _ (.head _)))))))) (Nat.le_of_ble_eq_true rfl)
  have r_x8 : -2147483648 ≤ x8 ∧ x8 ≤ 2147483647 := hl9 (xI x8) (.tail _ (.tail _ (.tail _ (.tail _ (.tail _ (.tail _ (.tail _ (.tail _ (.head _))))))))) (Nat.le_of_ble_eq_true rfl)
  have r_x9 : -2147483648 ≤ x9 ∧ x9 ≤ 2147483647 := hl9 (xI x9) (.tail _ (.tail _ (.tail _ (.tail _ (.tail _ (.tail _ (.tail _ (.tail _ (.tail _ (.head _)))))))))) (Nat.le_of_ble_eq_true rfl)
  have r_x10 : -2147483648 ≤ x10 ∧ x10 ≤ 2147483647 := hl9 (xI x10) (.tail _ (.tail _ (.tail _ (.tail _ (.tail _ (.tail _ (.tail _ (.tail _ (.tail _ (.tail _ (.head _))))))))))) (Nat.le_of_ble_eq_true rfl)
  refine xr_okS (fun hs9 => ?_)
  have r_s0 : -2147483648 ≤ s0 ∧ s0 ≤ 2147483647 := hs9 (xI s0) (.head _)
  have r_s1 : -2147483648 ≤ s1 ∧ s1 ≤ 2147483647 := hs9 (xI s1) (.tail _ (.head _))
  refine xr_icmp_ne (pc := 193) (tgt := 200) (hI := d_M_changes_193) (ht := by decide) (fun q9 => ?_) (fun q9 => ?_)
  · replace hyp := hyp.2 q9
    have q1_ := q9
    clear q9
    exact hyp
  · replace hyp := hyp.1 q9
    have q1_ := q9
    clear q9
    refine xr_iconst (pc := 196) (hI := d_M_changes_196) (hr := by decide) ?_
    refine xr_goto (pc := 197) (tgt := 201) (hI := d_M_changes_197) (ht := by decide) ?_
    exact hyp
theorem d_M_changes_200 : decode prog_14_method_41_code 200 = .ok (.iconst 0, 1) := by decide +kernel
theorem v_M_changes_200 {G : XG} {d : Nat} {h : XH} {Q : XV → XH → Prop} {X : Nat → XH → Prop} {x1 x3 x5 x6 x7 x8 x9 x10 : Int} (F : xFix h) (hyp : (xwp G m_M_changes (d + 4) 201 [xR 53, xL x1, xZ, xL x3, xZ, xI x5, xI x6, xI x7, xI x8, xI x9, xI x10, xZ, xZ] [xI 0] h Q X)) : xwp G m_M_changes (d + 4) 200 [xR 53, xL x1, xZ, xL x3, xZ, xI x5, xI x6, xI x7, xI x8, xI x9, xI x10, xZ, xZ] [] h Q X := by
  have hnx9 : (93 : Int) ≤ xnx h := F.2.2
  refine xr_okL (fun hl9 => ?_)
  have r_x1 : -9223372036854775808 ≤ x1 ∧ x1 ≤ 9223372036854775807 := hl9 (xL x1) (.tail _ (.head _)) (Nat.le_of_ble_eq_true rfl)
  have r_x3 : -9223372036854775808 ≤ x3 ∧ x3 ≤ 9223372036854775807 := hl9 (xL x3) (.tail _ (.tail _ (.tail _ (.head _)))) (Nat.le_of_ble_eq_true rfl)
  have r_x5 : -2147483648 ≤ x5 ∧ x5 ≤ 2147483647 := hl9 (xI x5) (.tail _ (.tail _ (.tail _ (.tail _ (.tail _ (.head _)))))) (Nat.le_of_ble_eq_true rfl)
  have r_x6 : -2147483648 ≤ x6 ∧ x6 ≤ 2147483647 := hl9 (xI x6) (.tail _ (.tail _ (.tail _ (.tail _ (.tail _ (.tail _ (.head _))))))) (Nat.le_of_ble_eq_true rfl)
  have r_x7 : -2147483648 ≤ x7 ∧ x7 ≤ 2147483647 := hl9 (xI x7) (.tail _ (.tail _ (.tail _ (.tail _ (.tail _ (.tail _ (.tail _ (.head _)))))))) (Nat.le_of_ble_eq_true rfl)
  have r_x8 : -2147483648 ≤ x8 ∧ x8 ≤ 2147483647 := hl9 (xI x8) (.tail _ (.tail _ (.tail _ (.tail _ (.tail _ (.tail _ (.tail _ (.tail _ (.head _))))))))) (Nat.le_of_ble_eq_true rfl)
  have r_x9 : -2147483648 ≤ x9 ∧ x9 ≤ 2147483647 := hl9 (xI x9) (.tail _ (.tail _ (.tail _ (.tail _ (.tail _ (.tail _ (.tail _ (.tail _ (.tail _ (.head _)))))))))) (Nat.le_of_ble_eq_true rfl)
  have r_x10 : -2147483648 ≤ x10 ∧ x10 ≤ 2147483647 := hl9 (xI x10) (.tail _ (.tail _ (.tail _ (.tail _ (.tail _ (.tail _ (.tail _ (.tail _ (.tail _ (.tail _ (.head _))))))))))) (Nat.le_of_ble_eq_true rfl)
  refine xr_iconst (pc := 200) (hI := d_M_changes_200) (hr := by decide) ?_
  exact hyp
theorem d_M_changes_201 : decode prog_14_method_41_code 201 = .ok (.istore 12, 2) := by decide +kernel
theorem d_M_changes_203 : decode prog_14_method_41_code 203 = .ok (.iload 12, 2) := by decide +kernel
theorem d_M_changes_205 : decode prog_14_method_41_code 205 = .ok (.ifCond .eq 36, 3) := by decide +kernel
theorem d_M_changes_208 : decode prog_14_method_41_code 208 = .ok (.aload_n 0, 1) := by decide +kernel
theorem d_M_changes_209 : decode prog_14_method_41_code 209 = .ok (.getfield 45, 3) := by decide +kernel
theorem d_M_changes_212 : decode prog_14_method_41_code 212 = .ok (.iload 10, 2) := by decide +kernel
theorem d_M_changes_214 : decode prog_14_method_41_code 214 = .ok (.aload_n 0, 1) := by decide +kernel
theorem d_M_changes_215 : decode prog_14_method_41_code 215 = .ok (.getfield 45, 3) := by decide +kernel
theorem d_M_changes_218 : decode prog_14_method_41_code 218 = .ok (.iload 10, 2) := by decide +kernel
theorem d_M_changes_220 : decode prog_14_method_41_code 220 = .ok (.iaload, 1) := by decide +kernel
theorem d_M_changes_221 : decode prog_14_method_41_code 221 = .ok (.iconst 1, 1) := by decide +kernel
theorem d_M_changes_222 : decode prog_14_method_41_code 222 = .ok (.aload_n 0, 1) := by decide +kernel
theorem d_M_changes_223 : decode prog_14_method_41_code 223 = .ok (.getfield 45, 3) := by decide +kernel
theorem d_M_changes_226 : decode prog_14_method_41_code 226 = .ok (.iload 10, 2) := by decide +kernel
theorem d_M_changes_228 : decode prog_14_method_41_code 228 = .ok (.iconst 2, 1) := by decide +kernel
theorem d_M_changes_229 : decode prog_14_method_41_code 229 = .ok (.iload 7, 2) := by decide +kernel
theorem d_M_changes_231 : decode prog_14_method_41_code 231 = .ok (.imul, 1) := by decide +kernel
theorem d_M_changes_232 : decode prog_14_method_41_code 232 = .ok (.isub, 1) := by decide +kernel
theorem d_M_changes_233 : decode prog_14_method_41_code 233 = .ok (.iconst 2, 1) := by decide +kernel
theorem d_M_changes_234 : decode prog_14_method_41_code 234 = .ok (.isub, 1) := by decide +kernel
theorem d_M_changes_235 : decode prog_14_method_41_code 235 = .ok (.iaload, 1) := by decide +kernel
theorem d_M_changes_236 : decode prog_14_method_41_code 236 = .ok (.iadd, 1) := by decide +kernel
theorem d_M_changes_237 : decode prog_14_method_41_code 237 = .ok (.invokestatic 146, 3) := by decide +kernel
theorem d_M_changes_240 : decode prog_14_method_41_code 240 = .ok (.iastore, 1) := by decide +kernel
theorem v_M_changes_201 {G : XG} {d : Nat} {h : XH} {Q : XV → XH → Prop} {X : Nat → XH → Prop} {x1 x3 x5 x6 x7 x8 x9 x10 s0 : Int} (F : xFix h) (hyp : ((s0 = 0 → xiR (x9 + 1) ∧ (xwp G m_M_changes (d + 4) 29 [xR 53, xL x1, xZ, xL x3, xZ, xI x5, xI x6, xI x7, xI x8, xI (x9 + 1), xZ, xZ, xZ] [] h Q X)) ∧ (¬ s0 = 0 → 0 ≤ x10 ∧ x10 < 169 ∧ xiR (2 * x7) ∧ xiR (x10 - (2 * x7)) ∧ 0 ≤ ((x10 - (2 * x7)) - 2) ∧ ((x10 - (2 * x7)) - 2) < 169 ∧ xiR (1 + (xpl h 65 ((x10 - (2 * x7)) - 2))) ∧ xiR (x9 + 1) ∧ (xFix (xst h 65 x10 (min (xpl h 65 x10) (1 + (xpl h 65 ((x10 - (2 * x7)) - 2))))) → xwp G m_M_changes (d + 4) 29 [xR 53, xL x1, xZ, xL x3, xZ, xI x5, xI x6, xI x7, xI x8, xI (x9 + 1), xZ, xZ, xZ] [] (xst h 65 x10 (min (xpl h 65 x10) (1 + (xpl h 65 ((x10 - (2 * x7)) - 2))))) Q X)))) : xwp G m_M_changes (d + 4) 201 [xR 53, xL x1, xZ, xL x3, xZ, xI x5, xI x6, xI x7, xI x8, xI x9, xI x10, xZ, xZ] [xI s0] h Q X := by
  have hnx9 : (93 : Int) ≤ xnx h := F.2.2
  refine xr_okL (fun hl9 => ?_)
  have r_x1 : -9223372036854775808 ≤ x1 ∧ x1 ≤ 9223372036854775807 := hl9 (xL x1) (.tail _ (.head _)) (Nat.le_of_ble_eq_true rfl)
  have r_x3 : -9223372036854775808 ≤ x3 ∧ x3 ≤ 9223372036854775807 := hl9 (xL x3) (.tail _ (.tail _ (.tail _ (.head _)))) (Nat.le_of_ble_eq_true rfl)
  have r_x5 : -2147483648 ≤ x5 ∧ x5 ≤ 2147483647 := hl9 (xI x5) (.tail _ (.tail _ (.tail _ (.tail _ (.tail _ (.head _)))))) (Nat.le_of_ble_eq_true rfl)
  have r_x6 : -2147483648 ≤ x6 ∧ x6 ≤ 2147483647 := hl9 (xI x6) (.tail _ (.tail _ (.tail _ (.tail _ (.tail _ (.tail _ (.head _))))))) (Nat.le_of_ble_eq_true rfl)
  have r_x7 : -2147483648 ≤ x7 ∧ x7 ≤ 2147483647 := hl9 (xI x7) (.tail _ (.tail _ (.tail _ (.tail _ (.tail _ (.tail _ (.tail _ (.head _)))))))) (Nat.le_of_ble_eq_true rfl)
  have r_x8 : -2147483648 ≤ x8 ∧ x8 ≤ 2147483647 := hl9 (xI x8) (.tail _ (.tail _ (.tail _ (.tail _ (.tail _ (.tail _ (.tail _ (.tail _ (.head _))))))))) (Nat.le_of_ble_eq_true rfl)
  have r_x9 : -2147483648 ≤ x9 ∧ x9 ≤ 2147483647 := hl9 (xI x9) (.tail _ (.tail _ (.tail _ (.tail _ (.tail _ (.tail _ (.tail _ (.tail _ (.tail _ (.head _)))))))))) (Nat.le_of_ble_eq_true rfl)
  have r_x10 : -2147483648 ≤ x10 ∧ x10 ≤ 2147483647 := hl9 (xI x10) (.tail _ (.tail _ (.tail _ (.tail _ (.tail _ (.tail _ (.tail _ (.tail _ (.tail _ (.tail _ (.head _))))))))))) (Nat.le_of_ble_eq_true rfl)
  refine xr_okS (fun hs9 => ?_)
  have r_s0 : -2147483648 ≤ s0 ∧ s0 ≤ 2147483647 := hs9 (xI s0) (.head _)
  refine xr_istore (pc := 201) (i := 12) (L9 := [xR 53, xL x1, xZ, xL x3, xZ, xI x5, xI x6, xI x7, xI x8, xI x9, xI x10, xZ, xI s0]) (hI := d_M_changes_201) (hn := Nat.le_of_ble_eq_true rfl) (hL9 := rfl) ?_
  refine xr_iload (pc := 203) (i := 12) (hI := d_M_changes_203) (hl := rfl) ?_
  refine xr_if_eq (pc := 205) (tgt := 241) (hI := d_M_changes_205) (ht := by decide) (fun q9 => ?_) (fun q9 => ?_)
  · replace hyp := hyp.1 q9
    have q1_ := q9
    clear q9
    obtain ⟨c9, hyp⟩ := hyp
    refine xr_iinc (pc := 241) (i := 9) (L9 := [xR 53, xL x1, xZ, xL x3, xZ, xI x5, xI x6, xI x7, xI x8, xI (x9 + 1), xI x10, xZ, xI s0]) (hI := d_M_changes_241) (hl := rfl) (hn := Nat.le_of_ble_eq_true rfl) (hr := c9) (hL9 := rfl) ?_
    refine xr_goto (pc := 244) (tgt := 29) (hI := d_M_changes_244) (ht := by decide) ?_
    exact xr_drop (L9 := [xR 53, xL x1, xZ, xL x3, xZ, xI x5, xI x6, xI x7, xI x8, xI (x9 + 1), xZ, xZ, xZ]) (xdrs (xdrs (xdrs (xdrs (xdrs (xdrs (xdrs (xdrs (xdrs (xdrs (xdrz (xdrs (xdrz xdr0))))))))))))) hyp
  · replace hyp := hyp.2 q9
    have q1_ := q9
    clear q9
    refine xr_aload_n (pc := 208) (i := 0) (hI := d_M_changes_208) (hi := rfl) (hl := rfl) ?_
    refine xg_getf (pc := 209) (ci := 11) (k := 17) (N := 38) (v9 := 2) (v := 65) (T := xF11) (hI := d_M_changes_209) (hw := w_1604) rfl xi11 (Or.inl rfl) (Nat.le_of_ble_eq_true rfl) (Nat.le_of_ble_eq_true rfl) rfl (ft_53 F) (fp_53_17 F) (fun f2_ => ?_)
    clear f2_
    refine xr_iload (pc := 212) (i := 10) (hI := d_M_changes_212) (hl := rfl) ?_
    refine xr_aload_n (pc := 214) (i := 0) (hI := d_M_changes_214) (hi := rfl) (hl := rfl) ?_
    refine xg_getf (pc := 215) (ci := 11) (k := 17) (N := 38) (v9 := 2) (v := 65) (T := xF11) (hI := d_M_changes_215) (hw := w_1604) rfl xi11 (Or.inl rfl) (Nat.le_of_ble_eq_true rfl) (Nat.le_of_ble_eq_true rfl) rfl (ft_53 F) (fp_53_17 F) (fun f3_ => ?_)
    clear f3_
    refine xr_iload (pc := 218) (i := 10) (hI := d_M_changes_218) (hl := rfl) ?_
    obtain ⟨c4_, hyp⟩ := hyp
    obtain ⟨c5_, hyp⟩ := hyp
    refine xg_iaload (pc := 220) (v := (xpl h 65 x10)) (hI := d_M_changes_220) (ft_65 F) c4_ (xlt_of (fl_65 F) c5_) rfl (fun f6_ => ?_)
    replace f6_ : -2147483648 ≤ (xpl h 65 x10) ∧ (xpl h 65 x10) ≤ 2147483647 := f6_
    refine xr_iconst (pc := 221) (hI := d_M_changes_221) (hr := by decide) ?_
    refine xr_aload_n (pc := 222) (i := 0) (hI := d_M_changes_222) (hi := rfl) (hl := rfl) ?_
    refine xg_getf (pc := 223) (ci := 11) (k := 17) (N := 38) (v9 := 2) (v := 65) (T := xF11) (hI := d_M_changes_223) (hw := w_1604) rfl xi11 (Or.inl rfl) (Nat.le_of_ble_eq_true rfl) (Nat.le_of_ble_eq_true rfl) rfl (ft_53 F) (fp_53_17 F) (fun f7_ => ?_)
    clear f7_
    refine xr_iload (pc := 226) (i := 10) (hI := d_M_changes_226) (hl := rfl) ?_
    refine xr_iconst (pc := 228) (hI := d_M_changes_228) (hr := by decide) ?_
    refine xr_iload (pc := 229) (i := 7) (hI := d_M_changes_229) (hl := rfl) ?_
    obtain ⟨c9, hyp⟩ := hyp
    refine xr_imul (pc := 231) (hI := d_M_changes_231) (hr := c9) ?_
    obtain ⟨c9, hyp⟩ := hyp
    refine xr_isub (pc := 232) (hI := d_M_changes_232) (hr := c9) ?_
    refine xr_iconst (pc := 233) (hI := d_M_changes_233) (hr := by decide) ?_
    refine xr_isub (pc := 234) (hI := d_M_changes_234) (hr := ⟨by clear hyp; omega, by clear hyp; omega⟩) ?_
    obtain ⟨c8_, hyp⟩ := hyp
    obtain ⟨c9_, hyp⟩ := hyp
    refine xg_iaload (pc := 235) (v := (xpl h 65 ((x10 - (2 * x7)) - 2))) (hI := d_M_changes_235) (ft_65 F) c8_ (xlt_of (fl_65 F) c9_) rfl (fun f10_ => ?_)
    replace f10_ : -2147483648 ≤ (xpl h 65 ((x10 - (2 * x7)) - 2)) ∧ (xpl h 65 ((x10 - (2 * x7)) - 2)) ≤ 2147483647 := f10_
    obtain ⟨c9, hyp⟩ := hyp
    refine xr_iadd (pc := 236) (hI := d_M_changes_236) (hr := c9) ?_
    refine xr_mmin (pc := 237) (index := 146) (hI := d_M_changes_237) w_1786 w_542 w_25 w_mmin (Nat.le_add_left_of_le (by decide)) (Nat.le_of_ble_eq_true rfl) ?_
    have f11_ : (min (xpl h 65 x10) (1 + (xpl h 65 ((x10 - (2 * x7)) - 2)))) ≤ (xpl h 65 x10) := (by clear hyp; omega)
    have f12_ : (min (xpl h 65 x10) (1 + (xpl h 65 ((x10 - (2 * x7)) - 2)))) ≤ (1 + (xpl h 65 ((x10 - (2 * x7)) - 2))) := (by clear hyp; omega)
    have f13_ : (-2147483648) ≤ (min (xpl h 65 x10) (1 + (xpl h 65 ((x10 - (2 * x7)) - 2)))) := (by clear hyp; omega)
    refine xr_iastore (pc := 240) (hI := d_M_changes_240) (ft_65 F) (by decide) (by clear hyp; omega) (xlt_of (fl_65 F) (by clear hyp; omega)) ?_
    have F14_ : xFix (xst h 65 x10 (min (xpl h 65 x10) (1 + (xpl h 65 ((x10 - (2 * x7)) - 2))))) := F.stA xfa_65
    obtain ⟨c9, hyp⟩ := hyp
    refine xr_iinc (pc := 241) (i := 9) (L9 := [xR 53, xL x1, xZ, xL x3, xZ, xI x5, xI x6, xI x7, xI x8, xI (x9 + 1), xI x10, xZ, xI s0]) (hI := d_M_changes_241) (hl := rfl) (hn := Nat.le_of_ble_eq_true rfl) (hr := c9) (hL9 := rfl) ?_
    refine xr_goto (pc := 244) (tgt := 29) (hI := d_M_changes_244) (ht := by decide) ?_
    exact xr_drop (L9 := [xR 53, xL x1, xZ, xL x3, xZ, xI x5, xI x6, xI x7, xI x8, xI (x9 + 1), xZ, xZ, xZ]) (xdrs (xdrs (xdrs (xdrs (xdrs (xdrs (xdrs (xdrs (xdrs (xdrs (xdrz (xdrs (xdrz xdr0))))))))))))) (hyp F14_)
abbrev m_M_nearest : XM := (⟨"BeaconIndexModel", "nearest", "()I"⟩, prog_14_method_100_code, 9, (some .int), [])
theorem d_M_nearest_0 : decode prog_14_method_100_code 0 = .ok (.aload_n 0, 1) := by decide +kernel
theorem d_M_nearest_1 : decode prog_14_method_100_code 1 = .ok (.iconst 0, 1) := by decide +kernel
theorem d_M_nearest_2 : decode prog_14_method_100_code 2 = .ok (.putfield 97, 3) := by decide +kernel
theorem d_M_nearest_5 : decode prog_14_method_100_code 5 = .ok (.iconst 0, 1) := by decide +kernel
theorem d_M_nearest_6 : decode prog_14_method_100_code 6 = .ok (.istore_n 1, 1) := by decide +kernel
theorem d_M_nearest_7 : decode prog_14_method_100_code 7 = .ok (.iconst 0, 1) := by decide +kernel
theorem d_M_nearest_8 : decode prog_14_method_100_code 8 = .ok (.istore_n 2, 1) := by decide +kernel
theorem v_M_nearest_0 {G : XG} {d : Nat} {h : XH} {Q : XV → XH → Prop} {X : Nat → XH → Prop} (F : xFix h) (hyp : (xFix (xst h 53 0 0) → xwp G m_M_nearest (d + 217) 9 [xR 53, xI 0, xI 0, xZ, xZ, xZ, xZ, xZ, xZ] [] (xst h 53 0 0) Q X)) : xwp G m_M_nearest (d + 217) 0 [xR 53, xZ, xZ, xZ, xZ, xZ, xZ, xZ, xZ] [] h Q X := by
  have hnx9 : (93 : Int) ≤ xnx h := F.2.2
  refine xr_aload_n (pc := 0) (i := 0) (hI := d_M_nearest_0) (hi := rfl) (hl := rfl) ?_
  refine xr_iconst (pc := 1) (hI := d_M_nearest_1) (hr := by decide) ?_
  refine xr_putf (pc := 2) (ci := 11) (k := 0) (N := 38) (v9 := 0) (T := xF11) (tF := xT11) (hI := d_M_nearest_2) (hw := w_1587) rfl xi11 xt11 xn11 (Or.inl rfl) (Nat.le_of_ble_eq_true rfl) (Nat.le_of_ble_eq_true rfl) rfl xfit_i rfl (ft_53 F) (by decide) (fun z => z) ?_
  have F1_ : xFix (xst h 53 0 0) := F.stL xfk_53_0
  refine xr_iconst (pc := 5) (hI := d_M_nearest_5) (hr := by decide) ?_
  refine xr_istore_n (pc := 6) (i := 1) (L9 := [xR 53, xI 0, xZ, xZ, xZ, xZ, xZ, xZ, xZ]) (hI := d_M_nearest_6) (hi := rfl) (hn := Nat.le_of_ble_eq_true rfl) (hL9 := rfl) ?_
  refine xr_iconst (pc := 7) (hI := d_M_nearest_7) (hr := by decide) ?_
  refine xr_istore_n (pc := 8) (i := 2) (L9 := [xR 53, xI 0, xI 0, xZ, xZ, xZ, xZ, xZ, xZ]) (hI := d_M_nearest_8) (hi := rfl) (hn := Nat.le_of_ble_eq_true rfl) (hL9 := rfl) ?_
  exact (hyp F1_)
theorem d_M_nearest_9 : decode prog_14_method_100_code 9 = .ok (.iload_n 2, 1) := by decide +kernel
theorem d_M_nearest_10 : decode prog_14_method_100_code 10 = .ok (.aload_n 0, 1) := by decide +kernel
theorem d_M_nearest_11 : decode prog_14_method_100_code 11 = .ok (.invokevirtual 191, 3) := by decide +kernel
theorem v_M_nearest_9 {G : XG} {d : Nat} {h : XH} {Q : XV → XH → Prop} {X : Nat → XH → Prop} {x1 x2 : Int} (F : xFix h) (hyp : (xwp G m_M_inSegments (d + 216) 0 [xR 53] [] h (fun v9 h9 => xwp G m_M_nearest (d + 217) 14 [xR 53, xI x1, xI x2, xZ, xZ, xZ, xZ, xZ, xZ] (xpush v9 [xI x2]) h9 Q X) X)) : xwp G m_M_nearest (d + 217) 9 [xR 53, xI x1, xI x2, xZ, xZ, xZ, xZ, xZ, xZ] [] h Q X := by
  have hnx9 : (93 : Int) ≤ xnx h := F.2.2
  refine xr_okL (fun hl9 => ?_)
  have r_x1 : -2147483648 ≤ x1 ∧ x1 ≤ 2147483647 := hl9 (xI x1) (.tail _ (.head _)) (Nat.le_of_ble_eq_true rfl)
  have r_x2 : -2147483648 ≤ x2 ∧ x2 ≤ 2147483647 := hl9 (xI x2) (.tail _ (.tail _ (.head _))) (Nat.le_of_ble_eq_true rfl)
  refine xr_iload_n (pc := 9) (i := 2) (hI := d_M_nearest_9) (hi := rfl) (hl := rfl) ?_
  refine xr_aload_n (pc := 10) (i := 0) (hI := d_M_nearest_10) (hi := rfl) (hl := rfl) ?_
  exact xq_callV (pc := 11) (index := 191) (K := m_M_inSegments) (As := []) (S := [xI x2]) (L0 := [xR 53]) (hI := d_M_nearest_11) (hK := k_M_inSegments) (hlk := w_1732) (hnoM := rfl) (hS8 := Nat.le_of_ble_eq_true rfl) (ci := 11) (N := 38) (C := "BeaconIndexModel") (T := xF11) (hc := rfl) (hci := Nat.le_of_ble_eq_true rfl) (htb := (ft_53 F)) (hinst := w_1734) (hsel := sel_M_inSegments) (hlen := Nat.le_of_ble_eq_true rfl) (hst := rfl) (hL0 := rfl)  hyp
theorem d_M_nearest_14 : decode prog_14_method_100_code 14 = .ok (.if_icmp .ge 52, 3) := by decide +kernel
theorem d_M_nearest_66 : decode prog_14_method_100_code 66 = .ok (.aload_n 0, 1) := by decide +kernel
theorem d_M_nearest_67 : decode prog_14_method_100_code 67 = .ok (.getfield 42, 3) := by decide +kernel
theorem d_M_nearest_70 : decode prog_14_method_100_code 70 = .ok (.iconst 0, 1) := by decide +kernel
theorem d_M_nearest_71 : decode prog_14_method_100_code 71 = .ok (.iload_n 1, 1) := by decide +kernel
theorem d_M_nearest_72 : decode prog_14_method_100_code 72 = .ok (.invokestatic 227, 3) := by decide +kernel
theorem d_M_nearest_17 : decode prog_14_method_100_code 17 = .ok (.aload_n 0, 1) := by decide +kernel
theorem d_M_nearest_18 : decode prog_14_method_100_code 18 = .ok (.getfield 13, 3) := by decide +kernel
theorem d_M_nearest_21 : decode prog_14_method_100_code 21 = .ok (.iload_n 2, 1) := by decide +kernel
theorem d_M_nearest_22 : decode prog_14_method_100_code 22 = .ok (.iaload, 1) := by decide +kernel
theorem d_M_nearest_23 : decode prog_14_method_100_code 23 = .ok (.istore_n 3, 1) := by decide +kernel
theorem d_M_nearest_24 : decode prog_14_method_100_code 24 = .ok (.aload_n 0, 1) := by decide +kernel
theorem d_M_nearest_25 : decode prog_14_method_100_code 25 = .ok (.iload_n 1, 1) := by decide +kernel
theorem d_M_nearest_26 : decode prog_14_method_100_code 26 = .ok (.aload_n 0, 1) := by decide +kernel
theorem d_M_nearest_27 : decode prog_14_method_100_code 27 = .ok (.iload_n 1, 1) := by decide +kernel
theorem d_M_nearest_28 : decode prog_14_method_100_code 28 = .ok (.aload_n 0, 1) := by decide +kernel
theorem d_M_nearest_29 : decode prog_14_method_100_code 29 = .ok (.iload_n 3, 1) := by decide +kernel
theorem d_M_nearest_30 : decode prog_14_method_100_code 30 = .ok (.iconst 0, 1) := by decide +kernel
theorem d_M_nearest_31 : decode prog_14_method_100_code 31 = .ok (.invokevirtual 214, 3) := by decide +kernel
theorem v_M_nearest_14 {G : XG} {d : Nat} {h : XH} {Q : XV → XH → Prop} {X : Nat → XH → Prop} {x1 x2 s0 s1 : Int} (F : xFix h) (hyp : ((s0 ≤ s1 → (xwp G m_Arrays_sort (d + 216) 0 [xR 64, xI 0, xI x1] [] h (fun v9 h9 => xwp G m_M_nearest (d + 217) 75 [xR 53, xI x1, xZ, xZ, xZ, xZ, xZ, xZ, xZ] (xpush v9 []) h9 Q X) X)) ∧ (¬ s0 ≤ s1 → 0 ≤ x2 ∧ x2 < 60 ∧ (xwp G m_M_base (d + 216) 0 [xR 53, xI (xpl h 55 x2), xI 0] [] h (fun v9 h9 => xwp G m_M_nearest (d + 217) 34 [xR 53, xZ, xI x2, xI (xpl h 55 x2), xZ, xZ, xZ, xZ, xZ] (xpush v9 [xI x1, xR 53, xI x1, xR 53]) h9 Q X) X)))) : xwp G m_M_nearest (d + 217) 14 [xR 53, xI x1, xI x2, xZ, xZ, xZ, xZ, xZ, xZ] [xI s0, xI s1] h Q X := by
  have hnx9 : (93 : Int) ≤ xnx h := F.2.2
  refine xr_okL (fun hl9 => ?_)
  have r_x1 : -2147483648 ≤ x1 ∧ x1 ≤ 2147483647 := hl9 (xI x1) (.tail _ (.head _)) (Nat.le_of_ble_eq_true rfl)
  have r_x2 : -2147483648 ≤ x2 ∧ x2 ≤ 2147483647 := hl9 (xI x2) (.tail _ (.tail _ (.head _))) (Nat.le_of_ble_eq_true rfl)
  refine xr_okS (fun hs9 => ?_)
  have r_s0 : -2147483648 ≤ s0 ∧ s0 ≤ 2147483647 := hs9 (xI s0) (.head _)
  have r_s1 : -2147483648 ≤ s1 ∧ s1 ≤ 2147483647 := hs9 (xI s1) (.tail _ (.head _))
  refine xr_icmp_ge (pc := 14) (tgt := 66) (hI := d_M_nearest_14) (ht := by decide) (fun q9 => ?_) (fun q9 => ?_)
  · replace hyp := hyp.1 q9
    have q1_ := q9
    clear q9
    refine xr_aload_n (pc := 66) (i := 0) (hI := d_M_nearest_66) (hi := rfl) (hl := rfl) ?_
    refine xg_getf (pc := 67) (ci := 11) (k := 16) (N := 38) (v9 := 2) (v := 64) (T := xF11) (hI := d_M_nearest_67) (hw := w_1603) rfl xi11 (Or.inl rfl) (Nat.le_of_ble_eq_true rfl) (Nat.le_of_ble_eq_true rfl) rfl (ft_53 F) (fp_53_16 F) (fun f2_ => ?_)
    clear f2_
    refine xr_iconst (pc := 70) (hI := d_M_nearest_70) (hr := by decide) ?_
    refine xr_iload_n (pc := 71) (i := 1) (hI := d_M_nearest_71) (hi := rfl) (hl := rfl) ?_
    exact xq_callS (pc := 72) (index := 227) (K := m_Arrays_sort) (As := [xR 64, xI 0, xI x1]) (S := []) (L0 := [xR 64, xI 0, xI x1]) (hI := d_M_nearest_72) (hK := k_Arrays_sort) (hlk := w_1897) (hnoM := rfl) (hS8 := Nat.le_of_ble_eq_true rfl) (hstat := w_1898) (hlen := Nat.le_of_ble_eq_true rfl) (hst := rfl) (hL0 := rfl)  (xwp_mono hyp (fun v9 h9 q9 => xr_drop (L9 := [xR 53, xI x1, xZ, xZ, xZ, xZ, xZ, xZ, xZ]) (xdrs (xdrs (xdrz (xdrs (xdrs (xdrs (xdrs (xdrs (xdrs xdr0))))))))) q9) (fun _ _ z9 => z9))
  · replace hyp := hyp.2 q9
    have q1_ := q9
    clear q9
    refine xr_aload_n (pc := 17) (i := 0) (hI := d_M_nearest_17) (hi := rfl) (hl := rfl) ?_
    refine xg_getf (pc := 18) (ci := 11) (k := 3) (N := 38) (v9 := 2) (v := 55) (T := xF11) (hI := d_M_nearest_18) (hw := w_1590) rfl xi11 (Or.inl rfl) (Nat.le_of_ble_eq_true rfl) (Nat.le_of_ble_eq_true rfl) rfl (ft_53 F) (fp_53_3 F) (fun f3_ => ?_)
    clear f3_
    refine xr_iload_n (pc := 21) (i := 2) (hI := d_M_nearest_21) (hi := rfl) (hl := rfl) ?_
    obtain ⟨c4_, hyp⟩ := hyp
    obtain ⟨c5_, hyp⟩ := hyp
    refine xg_iaload (pc := 22) (v := (xpl h 55 x2)) (hI := d_M_nearest_22) (ft_55 F) c4_ (xlt_of (fl_55 F) c5_) rfl (fun f6_ => ?_)
    replace f6_ : -2147483648 ≤ (xpl h 55 x2) ∧ (xpl h 55 x2) ≤ 2147483647 := f6_
    refine xr_istore_n (pc := 23) (i := 3) (L9 := [xR 53, xI x1, xI x2, xI (xpl h 55 x2), xZ, xZ, xZ, xZ, xZ]) (hI := d_M_nearest_23) (hi := rfl) (hn := Nat.le_of_ble_eq_true rfl) (hL9 := rfl) ?_
    refine xr_aload_n (pc := 24) (i := 0) (hI := d_M_nearest_24) (hi := rfl) (hl := rfl) ?_
    refine xr_iload_n (pc := 25) (i := 1) (hI := d_M_nearest_25) (hi := rfl) (hl := rfl) ?_
    refine xr_aload_n (pc := 26) (i := 0) (hI := d_M_nearest_26) (hi := rfl) (hl := rfl) ?_
    refine xr_iload_n (pc := 27) (i := 1) (hI := d_M_nearest_27) (hi := rfl) (hl := rfl) ?_
    refine xr_aload_n (pc := 28) (i := 0) (hI := d_M_nearest_28) (hi := rfl) (hl := rfl) ?_
    refine xr_iload_n (pc := 29) (i := 3) (hI := d_M_nearest_29) (hi := rfl) (hl := rfl) ?_
    refine xr_iconst (pc := 30) (hI := d_M_nearest_30) (hr := by decide) ?_
    exact xq_callV (pc := 31) (index := 214) (K := m_M_base) (As := [xI (xpl h 55 x2), xI 0]) (S := [xI x1, xR 53, xI x1, xR 53]) (L0 := [xR 53, xI (xpl h 55 x2), xI 0]) (hI := d_M_nearest_31) (hK := k_M_base) (hlk := w_1885) (hnoM := rfl) (hS8 := Nat.le_of_ble_eq_true rfl) (ci := 11) (N := 38) (C := "BeaconIndexModel") (T := xF11) (hc := rfl) (hci := Nat.le_of_ble_eq_true rfl) (htb := (ft_53 F)) (hinst := w_1887) (hsel := sel_M_base) (hlen := Nat.le_of_ble_eq_true rfl) (hst := rfl) (hL0 := rfl)  (xwp_mono hyp (fun v9 h9 q9 => xr_drop (L9 := [xR 53, xZ, xI x2, xI (xpl h 55 x2), xZ, xZ, xZ, xZ, xZ]) (xdrs (xdrz (xdrs (xdrs (xdrs (xdrs (xdrs (xdrs (xdrs xdr0))))))))) q9) (fun _ _ z9 => z9))
theorem d_M_nearest_34 : decode prog_14_method_100_code 34 = .ok (.aload_n 0, 1) := by decide +kernel
theorem d_M_nearest_35 : decode prog_14_method_100_code 35 = .ok (.getfield 32, 3) := by decide +kernel
theorem d_M_nearest_38 : decode prog_14_method_100_code 38 = .ok (.iconst 2, 1) := by decide +kernel
theorem d_M_nearest_39 : decode prog_14_method_100_code 39 = .ok (.iload_n 3, 1) := by decide +kernel
theorem d_M_nearest_40 : decode prog_14_method_100_code 40 = .ok (.imul, 1) := by decide +kernel
theorem d_M_nearest_41 : decode prog_14_method_100_code 41 = .ok (.iaload, 1) := by decide +kernel
theorem d_M_nearest_42 : decode prog_14_method_100_code 42 = .ok (.aload_n 0, 1) := by decide +kernel
theorem d_M_nearest_43 : decode prog_14_method_100_code 43 = .ok (.getfield 32, 3) := by decide +kernel
theorem d_M_nearest_46 : decode prog_14_method_100_code 46 = .ok (.iconst 2, 1) := by decide +kernel
theorem d_M_nearest_47 : decode prog_14_method_100_code 47 = .ok (.iload_n 3, 1) := by decide +kernel
theorem d_M_nearest_48 : decode prog_14_method_100_code 48 = .ok (.imul, 1) := by decide +kernel
theorem d_M_nearest_49 : decode prog_14_method_100_code 49 = .ok (.iconst 1, 1) := by decide +kernel
theorem d_M_nearest_50 : decode prog_14_method_100_code 50 = .ok (.iadd, 1) := by decide +kernel
theorem d_M_nearest_51 : decode prog_14_method_100_code 51 = .ok (.iaload, 1) := by decide +kernel
theorem d_M_nearest_52 : decode prog_14_method_100_code 52 = .ok (.iadd, 1) := by decide +kernel
theorem d_M_nearest_53 : decode prog_14_method_100_code 53 = .ok (.invokevirtual 233, 3) := by decide +kernel
theorem v_M_nearest_34 {G : XG} {d : Nat} {h : XH} {Q : XV → XH → Prop} {X : Nat → XH → Prop} {x2 x3 s0 s1 s3 : Int} (F : xFix h) (hyp : xiR (2 * x3) ∧ 0 ≤ (2 * x3) ∧ (2 * x3) < 120 ∧ xiR ((xpl h 61 (2 * x3)) + (xpl h 61 ((2 * x3) + 1))) ∧ (xwp G m_M_gather (d + 216) 0 [xR 53, xI s1, xI s0, xI ((xpl h 61 (2 * x3)) + (xpl h 61 ((2 * x3) + 1))), xZ, xZ] [] h (fun v9 h9 => xwp G m_M_nearest (d + 217) 56 [xR 53, xZ, xI x2, xZ, xZ, xZ, xZ, xZ, xZ] (xpush v9 [xI s3, xR 53]) h9 Q X) X)) : xwp G m_M_nearest (d + 217) 34 [xR 53, xZ, xI x2, xI x3, xZ, xZ, xZ, xZ, xZ] [xI s0, xI s1, xR 53, xI s3, xR 53] h Q X := by
  have hnx9 : (93 : Int) ≤ xnx h := F.2.2
  refine xr_okL (fun hl9 => ?_)
  have r_x2 : -2147483648 ≤ x2 ∧ x2 ≤ 2147483647 := hl9 (xI x2) (.tail _ (.tail _ (.head _))) (Nat.le_of_ble_eq_true rfl)
  have r_x3 : -2147483648 ≤ x3 ∧ x3 ≤ 2147483647 := hl9 (xI x3) (.tail _ (.tail _ (.tail _ (.head _)))) (Nat.le_of_ble_eq_true rfl)
  refine xr_okS (fun hs9 => ?_)
  have r_s0 : -2147483648 ≤ s0 ∧ s0 ≤ 2147483647 := hs9 (xI s0) (.head _)
  have r_s1 : -2147483648 ≤ s1 ∧ s1 ≤ 2147483647 := hs9 (xI s1) (.tail _ (.head _))
  have r_s3 : -2147483648 ≤ s3 ∧ s3 ≤ 2147483647 := hs9 (xI s3) (.tail _ (.tail _ (.tail _ (.head _))))
  refine xr_aload_n (pc := 34) (i := 0) (hI := d_M_nearest_34) (hi := rfl) (hl := rfl) ?_
  refine xg_getf (pc := 35) (ci := 11) (k := 12) (N := 38) (v9 := 2) (v := 61) (T := xF11) (hI := d_M_nearest_35) (hw := w_1599) rfl xi11 (Or.inl rfl) (Nat.le_of_ble_eq_true rfl) (Nat.le_of_ble_eq_true rfl) rfl (ft_53 F) (fp_53_12 F) (fun f1_ => ?_)
  clear f1_
  refine xr_iconst (pc := 38) (hI := d_M_nearest_38) (hr := by decide) ?_
  refine xr_iload_n (pc := 39) (i := 3) (hI := d_M_nearest_39) (hi := rfl) (hl := rfl) ?_
  obtain ⟨c9, hyp⟩ := hyp
  refine xr_imul (pc := 40) (hI := d_M_nearest_40) (hr := c9) ?_
  obtain ⟨c2_, hyp⟩ := hyp
  obtain ⟨c3_, hyp⟩ := hyp
  refine xg_iaload (pc := 41) (v := (xpl h 61 (2 * x3))) (hI := d_M_nearest_41) (ft_61 F) c2_ (xlt_of (fl_61 F) c3_) rfl (fun f4_ => ?_)
  replace f4_ : -2147483648 ≤ (xpl h 61 (2 * x3)) ∧ (xpl h 61 (2 * x3)) ≤ 2147483647 := f4_
  refine xr_aload_n (pc := 42) (i := 0) (hI := d_M_nearest_42) (hi := rfl) (hl := rfl) ?_
  refine xg_getf (pc := 43) (ci := 11) (k := 12) (N := 38) (v9 := 2) (v := 61) (T := xF11) (hI := d_M_nearest_43) (hw := w_1599) rfl xi11 (Or.inl rfl) (Nat.le_of_ble_eq_true rfl) (Nat.le_of_ble_eq_true rfl) rfl (ft_53 F) (fp_53_12 F) (fun f5_ => ?_)
  clear f5_
  refine xr_iconst (pc := 46) (hI := d_M_nearest_46) (hr := by decide) ?_
  refine xr_iload_n (pc := 47) (i := 3) (hI := d_M_nearest_47) (hi := rfl) (hl := rfl) ?_
  refine xr_imul (pc := 48) (hI := d_M_nearest_48) (hr := ⟨by clear hyp; omega, by clear hyp; omega⟩) ?_
  refine xr_iconst (pc := 49) (hI := d_M_nearest_49) (hr := by decide) ?_
  refine xr_iadd (pc := 50) (hI := d_M_nearest_50) (hr := ⟨by clear hyp; omega, by clear hyp; omega⟩) ?_
  refine xg_iaload (pc := 51) (v := (xpl h 61 ((2 * x3) + 1))) (hI := d_M_nearest_51) (ft_61 F) (by clear hyp; omega) (xlt_of (fl_61 F) (by clear hyp; omega)) rfl (fun f6_ => ?_)
  replace f6_ : -2147483648 ≤ (xpl h 61 ((2 * x3) + 1)) ∧ (xpl h 61 ((2 * x3) + 1)) ≤ 2147483647 := f6_
  obtain ⟨c9, hyp⟩ := hyp
  refine xr_iadd (pc := 52) (hI := d_M_nearest_52) (hr := c9) ?_
  exact xq_callV (pc := 53) (index := 233) (K := m_M_gather) (As := [xI s1, xI s0, xI ((xpl h 61 (2 * x3)) + (xpl h 61 ((2 * x3) + 1)))]) (S := [xI s3, xR 53]) (L0 := [xR 53, xI s1, xI s0, xI ((xpl h 61 (2 * x3)) + (xpl h 61 ((2 * x3) + 1))), xZ, xZ]) (hI := d_M_nearest_53) (hK := k_M_gather) (hlk := w_1889) (hnoM := rfl) (hS8 := Nat.le_of_ble_eq_true rfl) (ci := 11) (N := 38) (C := "BeaconIndexModel") (T := xF11) (hc := rfl) (hci := Nat.le_of_ble_eq_true rfl) (htb := (ft_53 F)) (hinst := w_1891) (hsel := sel_M_gather) (hlen := Nat.le_of_ble_eq_true rfl) (hst := rfl) (hL0 := rfl)  (xwp_mono hyp (fun v9 h9 q9 => xr_drop (L9 := [xR 53, xZ, xI x2, xZ, xZ, xZ, xZ, xZ, xZ]) (xdrs (xdrs (xdrs (xdrz (xdrs (xdrs (xdrs (xdrs (xdrs xdr0))))))))) q9) (fun _ _ z9 => z9))
theorem d_M_nearest_56 : decode prog_14_method_100_code 56 = .ok (.invokevirtual 237, 3) := by decide +kernel
theorem v_M_nearest_56 {G : XG} {d : Nat} {h : XH} {Q : XV → XH → Prop} {X : Nat → XH → Prop} {x2 s0 s1 : Int} (F : xFix h) (hyp : (xwp G m_M_different (d + 216) 0 [xR 53, xI s1, xI s0, xZ, xZ] [] h (fun v9 h9 => xwp G m_M_nearest (d + 217) 59 [xR 53, xZ, xI x2, xZ, xZ, xZ, xZ, xZ, xZ] (xpush v9 []) h9 Q X) X)) : xwp G m_M_nearest (d + 217) 56 [xR 53, xZ, xI x2, xZ, xZ, xZ, xZ, xZ, xZ] [xI s0, xI s1, xR 53] h Q X := by
  have hnx9 : (93 : Int) ≤ xnx h := F.2.2
  refine xr_okL (fun hl9 => ?_)
  have r_x2 : -2147483648 ≤ x2 ∧ x2 ≤ 2147483647 := hl9 (xI x2) (.tail _ (.tail _ (.head _))) (Nat.le_of_ble_eq_true rfl)
  refine xr_okS (fun hs9 => ?_)
  have r_s0 : -2147483648 ≤ s0 ∧ s0 ≤ 2147483647 := hs9 (xI s0) (.head _)
  have r_s1 : -2147483648 ≤ s1 ∧ s1 ≤ 2147483647 := hs9 (xI s1) (.tail _ (.head _))
  exact xq_callV (pc := 56) (index := 237) (K := m_M_different) (As := [xI s1, xI s0]) (S := []) (L0 := [xR 53, xI s1, xI s0, xZ, xZ]) (hI := d_M_nearest_56) (hK := k_M_different) (hlk := w_1893) (hnoM := rfl) (hS8 := Nat.le_of_ble_eq_true rfl) (ci := 11) (N := 38) (C := "BeaconIndexModel") (T := xF11) (hc := rfl) (hci := Nat.le_of_ble_eq_true rfl) (htb := (ft_53 F)) (hinst := w_1895) (hsel := sel_M_different) (hlen := Nat.le_of_ble_eq_true rfl) (hst := rfl) (hL0 := rfl)  hyp
theorem d_M_nearest_59 : decode prog_14_method_100_code 59 = .ok (.istore_n 1, 1) := by decide +kernel
theorem d_M_nearest_60 : decode prog_14_method_100_code 60 = .ok (.iinc 2 1, 3) := by decide +kernel
theorem d_M_nearest_63 : decode prog_14_method_100_code 63 = .ok (.goto (-54), 3) := by decide +kernel
theorem v_M_nearest_59 {G : XG} {d : Nat} {h : XH} {Q : XV → XH → Prop} {X : Nat → XH → Prop} {x2 s0 : Int} (F : xFix h) (hyp : xiR (x2 + 1) ∧ (xwp G m_M_nearest (d + 217) 9 [xR 53, xI s0, xI (x2 + 1), xZ, xZ, xZ, xZ, xZ, xZ] [] h Q X)) : xwp G m_M_nearest (d + 217) 59 [xR 53, xZ, xI x2, xZ, xZ, xZ, xZ, xZ, xZ] [xI s0] h Q X := by
  have hnx9 : (93 : Int) ≤ xnx h := F.2.2
  refine xr_okL (fun hl9 => ?_)
  have r_x2 : -2147483648 ≤ x2 ∧ x2 ≤ 2147483647 := hl9 (xI x2) (.tail _ (.tail _ (.head _))) (Nat.le_of_ble_eq_true rfl)
  refine xr_okS (fun hs9 => ?_)
  have r_s0 : -2147483648 ≤ s0 ∧ s0 ≤ 2147483647 := hs9 (xI s0) (.head _)
  refine xr_istore_n (pc := 59) (i := 1) (L9 := [xR 53, xI s0, xI x2, xZ, xZ, xZ, xZ, xZ, xZ]) (hI := d_M_nearest_59) (hi := rfl) (hn := Nat.le_of_ble_eq_true rfl) (hL9 := rfl) ?_
  obtain ⟨c9, hyp⟩ := hyp
  refine xr_iinc (pc := 60) (i := 2) (L9 := [xR 53, xI s0, xI (x2 + 1), xZ, xZ, xZ, xZ, xZ, xZ]) (hI := d_M_nearest_60) (hl := rfl) (hn := Nat.le_of_ble_eq_true rfl) (hr := c9) (hL9 := rfl) ?_
  refine xr_goto (pc := 63) (tgt := 9) (hI := d_M_nearest_63) (ht := by decide) ?_
  exact hyp
theorem d_M_nearest_75 : decode prog_14_method_100_code 75 = .ok (.iconst (-1), 1) := by decide +kernel
theorem d_M_nearest_76 : decode prog_14_method_100_code 76 = .ok (.istore_n 2, 1) := by decide +kernel
theorem d_M_nearest_77 : decode prog_14_method_100_code 77 = .ok (.iconst 0, 1) := by decide +kernel
theorem d_M_nearest_78 : decode prog_14_method_100_code 78 = .ok (.istore_n 3, 1) := by decide +kernel
theorem d_M_nearest_79 : decode prog_14_method_100_code 79 = .ok (.aload_n 0, 1) := by decide +kernel
theorem d_M_nearest_80 : decode prog_14_method_100_code 80 = .ok (.getfield 217, 3) := by decide +kernel
theorem d_M_nearest_83 : decode prog_14_method_100_code 83 = .ok (.lstore 4, 2) := by decide +kernel
theorem d_M_nearest_85 : decode prog_14_method_100_code 85 = .ok (.iconst 0, 1) := by decide +kernel
theorem d_M_nearest_86 : decode prog_14_method_100_code 86 = .ok (.istore 6, 2) := by decide +kernel
theorem d_M_nearest_88 : decode prog_14_method_100_code 88 = .ok (.iconst 0, 1) := by decide +kernel
theorem d_M_nearest_89 : decode prog_14_method_100_code 89 = .ok (.istore 7, 2) := by decide +kernel
theorem v_M_nearest_75 {G : XG} {d : Nat} {h : XH} {Q : XV → XH → Prop} {X : Nat → XH → Prop} {x1 : Int} (F : xFix h) (hyp : (xwp G m_M_nearest (d + 217) 91 [xR 53, xI x1, xI (-1), xI 0, xL (xpl h 53 14), xZ, xZ, xI 0, xZ] [] h Q X)) : xwp G m_M_nearest (d + 217) 75 [xR 53, xI x1, xZ, xZ, xZ, xZ, xZ, xZ, xZ] [] h Q X := by
  have hnx9 : (93 : Int) ≤ xnx h := F.2.2
  refine xr_okL (fun hl9 => ?_)
  have r_x1 : -2147483648 ≤ x1 ∧ x1 ≤ 2147483647 := hl9 (xI x1) (.tail _ (.head _)) (Nat.le_of_ble_eq_true rfl)
  refine xr_iconst (pc := 75) (hI := d_M_nearest_75) (hr := by decide) ?_
  refine xr_istore_n (pc := 76) (i := 2) (L9 := [xR 53, xI x1, xI (-1), xZ, xZ, xZ, xZ, xZ, xZ]) (hI := d_M_nearest_76) (hi := rfl) (hn := Nat.le_of_ble_eq_true rfl) (hL9 := rfl) ?_
  refine xr_iconst (pc := 77) (hI := d_M_nearest_77) (hr := by decide) ?_
  refine xr_istore_n (pc := 78) (i := 3) (L9 := [xR 53, xI x1, xI (-1), xI 0, xZ, xZ, xZ, xZ, xZ]) (hI := d_M_nearest_78) (hi := rfl) (hn := Nat.le_of_ble_eq_true rfl) (hL9 := rfl) ?_
  refine xr_aload_n (pc := 79) (i := 0) (hI := d_M_nearest_79) (hi := rfl) (hl := rfl) ?_
  refine xg_getf (pc := 80) (ci := 11) (k := 14) (N := 38) (v9 := 1) (v := (xpl h 53 14)) (T := xF11) (hI := d_M_nearest_80) (hw := w_1601) rfl xi11 (Or.inl rfl) (Nat.le_of_ble_eq_true rfl) (Nat.le_of_ble_eq_true rfl) rfl (ft_53 F) rfl (fun f1_ => ?_)
  replace f1_ : -9223372036854775808 ≤ (xpl h 53 14) ∧ (xpl h 53 14) ≤ 9223372036854775807 := f1_
  refine xr_lstore (pc := 83) (i := 4) (L9 := [xR 53, xI x1, xI (-1), xI 0, xL (xpl h 53 14), xZ, xZ, xZ, xZ]) (hI := d_M_nearest_83) (hn := Nat.le_of_ble_eq_true rfl) (hL9 := rfl) ?_
  refine xr_iconst (pc := 85) (hI := d_M_nearest_85) (hr := by decide) ?_
  refine xr_istore (pc := 86) (i := 6) (L9 := [xR 53, xI x1, xI (-1), xI 0, xL (xpl h 53 14), xZ, xI 0, xZ, xZ]) (hI := d_M_nearest_86) (hn := Nat.le_of_ble_eq_true rfl) (hL9 := rfl) ?_
  refine xr_iconst (pc := 88) (hI := d_M_nearest_88) (hr := by decide) ?_
  refine xr_istore (pc := 89) (i := 7) (L9 := [xR 53, xI x1, xI (-1), xI 0, xL (xpl h 53 14), xZ, xI 0, xI 0, xZ]) (hI := d_M_nearest_89) (hn := Nat.le_of_ble_eq_true rfl) (hL9 := rfl) ?_
  exact xr_drop (L9 := [xR 53, xI x1, xI (-1), xI 0, xL (xpl h 53 14), xZ, xZ, xI 0, xZ]) (xdrs (xdrs (xdrs (xdrs (xdrs (xdrs (xdrz (xdrs (xdrs xdr0))))))))) hyp
theorem d_M_nearest_91 : decode prog_14_method_100_code 91 = .ok (.iload 7, 2) := by decide +kernel
theorem d_M_nearest_93 : decode prog_14_method_100_code 93 = .ok (.iload_n 1, 1) := by decide +kernel
theorem d_M_nearest_94 : decode prog_14_method_100_code 94 = .ok (.if_icmp .ge 108, 3) := by decide +kernel
theorem d_M_nearest_202 : decode prog_14_method_100_code 202 = .ok (.aload_n 0, 1) := by decide +kernel
theorem d_M_nearest_203 : decode prog_14_method_100_code 203 = .ok (.lload 4, 2) := by decide +kernel
theorem d_M_nearest_205 : decode prog_14_method_100_code 205 = .ok (.putfield 217, 3) := by decide +kernel
theorem xfk_53_14 : xfree 53 14 = true := by decide +kernel
theorem d_M_nearest_208 : decode prog_14_method_100_code 208 = .ok (.iload_n 2, 1) := by decide +kernel
theorem d_M_nearest_209 : decode prog_14_method_100_code 209 = .ok (.ireturn, 1) := by decide +kernel
theorem d_M_nearest_97 : decode prog_14_method_100_code 97 = .ok (.iload 7, 2) := by decide +kernel
theorem d_M_nearest_99 : decode prog_14_method_100_code 99 = .ok (.istore 6, 2) := by decide +kernel
theorem v_M_nearest_91 {G : XG} {d : Nat} {h : XH} {Q : XV → XH → Prop} {X : Nat → XH → Prop} {x1 x2 x3 x4 x7 : Int} (F : xFix h) (hyp : ((x1 ≤ x7 → (xFix (xst h 53 14 x4) → Q (xI x2) (xst h 53 14 x4))) ∧ (¬ x1 ≤ x7 → (xwp G m_M_nearest (d + 217) 101 [xR 53, xI x1, xI x2, xI x3, xL x4, xZ, xI x7, xI x7, xZ] [] h Q X)))) : xwp G m_M_nearest (d + 217) 91 [xR 53, xI x1, xI x2, xI x3, xL x4, xZ, xZ, xI x7, xZ] [] h Q X := by
  have hnx9 : (93 : Int) ≤ xnx h := F.2.2
  refine xr_okL (fun hl9 => ?_)
  have r_x1 : -2147483648 ≤ x1 ∧ x1 ≤ 2147483647 := hl9 (xI x1) (.tail _ (.head _)) (Nat.le_of_ble_eq_true rfl)
  have r_x2 : -2147483648 ≤ x2 ∧ x2 ≤ 2147483647 := hl9 (xI x2) (.tail _ (.tail _ (.head _))) (Nat.le_of_ble_eq_true rfl)
  have r_x3 : -2147483648 ≤ x3 ∧ x3 ≤ 2147483647 := hl9 (xI x3) (.tail _ (.tail _ (.tail _ (.head _)))) (Nat.le_of_ble_eq_true rfl)
  have r_x4 : -9223372036854775808 ≤ x4 ∧ x4 ≤ 9223372036854775807 := hl9 (xL x4) (.tail _ (.tail _ (.tail _ (.tail _ (.head _))))) (Nat.le_of_ble_eq_true rfl)
  have r_x7 : -2147483648 ≤ x7 ∧ x7 ≤ 2147483647 := hl9 (xI x7) (.tail _ (.tail _ (.tail _ (.tail _ (.tail _ (.tail _ (.tail _ (.head _)))))))) (Nat.le_of_ble_eq_true rfl)
  refine xr_iload (pc := 91) (i := 7) (hI := d_M_nearest_91) (hl := rfl) ?_
  refine xr_iload_n (pc := 93) (i := 1) (hI := d_M_nearest_93) (hi := rfl) (hl := rfl) ?_
  refine xr_icmp_ge (pc := 94) (tgt := 202) (hI := d_M_nearest_94) (ht := by decide) (fun q9 => ?_) (fun q9 => ?_)
  · replace hyp := hyp.1 q9
    have q1_ := q9
    clear q9
    refine xr_aload_n (pc := 202) (i := 0) (hI := d_M_nearest_202) (hi := rfl) (hl := rfl) ?_
    refine xr_lload (pc := 203) (i := 4) (hI := d_M_nearest_203) (hl := rfl) ?_
    refine xr_putf (pc := 205) (ci := 11) (k := 14) (N := 38) (v9 := 1) (T := xF11) (tF := xT11) (hI := d_M_nearest_205) (hw := w_1601) rfl xi11 xt11 xn11 (Or.inl rfl) (Nat.le_of_ble_eq_true rfl) (Nat.le_of_ble_eq_true rfl) rfl xfit_l rfl (ft_53 F) (by decide) (fun z => z) ?_
    have F2_ : xFix (xst h 53 14 x4) := F.stL xfk_53_14
    refine xr_iload_n (pc := 208) (i := 2) (hI := d_M_nearest_208) (hi := rfl) (hl := rfl) ?_
    refine xr_ireturn (S := []) (pc := 209) (hI := d_M_nearest_209) (hr := rfl) ?_
    exact hyp F2_
  · replace hyp := hyp.2 q9
    have q1_ := q9
    clear q9
    refine xr_iload (pc := 97) (i := 7) (hI := d_M_nearest_97) (hl := rfl) ?_
    refine xr_istore (pc := 99) (i := 6) (L9 := [xR 53, xI x1, xI x2, xI x3, xL x4, xZ, xI x7, xI x7, xZ]) (hI := d_M_nearest_99) (hn := Nat.le_of_ble_eq_true rfl) (hL9 := rfl) ?_
    exact hyp
theorem d_M_nearest_101 : decode prog_14_method_100_code 101 = .ok (.iload 6, 2) := by decide +kernel
theorem d_M_nearest_103 : decode prog_14_method_100_code 103 = .ok (.iload_n 1, 1) := by decide +kernel
theorem d_M_nearest_104 : decode prog_14_method_100_code 104 = .ok (.if_icmp .ge 27, 3) := by decide +kernel
theorem d_M_nearest_107 : decode prog_14_method_100_code 107 = .ok (.aload_n 0, 1) := by decide +kernel
theorem d_M_nearest_108 : decode prog_14_method_100_code 108 = .ok (.getfield 42, 3) := by decide +kernel
theorem d_M_nearest_111 : decode prog_14_method_100_code 111 = .ok (.iload 6, 2) := by decide +kernel
theorem d_M_nearest_113 : decode prog_14_method_100_code 113 = .ok (.laload, 1) := by decide +kernel
theorem d_M_nearest_114 : decode prog_14_method_100_code 114 = .ok (.aload_n 0, 1) := by decide +kernel
theorem d_M_nearest_115 : decode prog_14_method_100_code 115 = .ok (.getfield 42, 3) := by decide +kernel
theorem d_M_nearest_118 : decode prog_14_method_100_code 118 = .ok (.iload 7, 2) := by decide +kernel
theorem d_M_nearest_120 : decode prog_14_method_100_code 120 = .ok (.laload, 1) := by decide +kernel
theorem d_M_nearest_121 : decode prog_14_method_100_code 121 = .ok (.lcmp, 1) := by decide +kernel
theorem d_M_nearest_122 : decode prog_14_method_100_code 122 = .ok (.ifCond .ne 9, 3) := by decide +kernel
theorem d_M_nearest_125 : decode prog_14_method_100_code 125 = .ok (.iinc 6 1, 3) := by decide +kernel
theorem d_M_nearest_128 : decode prog_14_method_100_code 128 = .ok (.goto (-27), 3) := by decide +kernel
theorem v_M_nearest_101 {G : XG} {d : Nat} {h : XH} {Q : XV → XH → Prop} {X : Nat → XH → Prop} {x1 x2 x3 x4 x6 x7 : Int} (F : xFix h) (hyp : ((x1 ≤ x6 → (xwp G m_M_nearest (d + 217) 131 [xR 53, xI x1, xI x2, xI x3, xL x4, xZ, xI x6, xI x7, xZ] [] h Q X)) ∧ (¬ x1 ≤ x6 → 0 ≤ x6 ∧ x6 < 12000 ∧ 0 ≤ x7 ∧ x7 < 12000 ∧ (((xpl h 64 x6) = (xpl h 64 x7) → (xwp G m_M_nearest (d + 217) 101 [xR 53, xI x1, xI x2, xI x3, xL x4, xZ, xI (x6 + 1), xI x7, xZ] [] h Q X)) ∧ (¬ (xpl h 64 x6) = (xpl h 64 x7) → (xwp G m_M_nearest (d + 217) 131 [xR 53, xI x1, xI x2, xI x3, xL x4, xZ, xI x6, xI x7, xZ] [] h Q X)))))) : xwp G m_M_nearest (d + 217) 101 [xR 53, xI x1, xI x2, xI x3, xL x4, xZ, xI x6, xI x7, xZ] [] h Q X := by
  have hnx9 : (93 : Int) ≤ xnx h := F.2.2
  refine xr_okL (fun hl9 => ?_)
  have r_x1 : -2147483648 ≤ x1 ∧ x1 ≤ 2147483647 := hl9 (xI x1) (.tail _ (.head _)) (Nat.le_of_ble_eq_true rfl)
  have r_x2 : -2147483648 ≤ x2 ∧ x2 ≤ 2147483647 := hl9 (xI x2) (.tail _ (.tail _ (.head _))) (Nat.le_of_ble_eq_true rfl)
  have r_x3 : -2147483648 ≤ x3 ∧ x3 ≤ 2147483647 := hl9 (xI x3) (.tail _ (.tail _ (.tail _ (.head _)))) (Nat.le_of_ble_eq_true rfl)
  have r_x4 : -9223372036854775808 ≤ x4 ∧ x4 ≤ 9223372036854775807 := hl9 (xL x4) (.tail _ (.tail _ (.tail _ (.tail _ (.head _))))) (Nat.le_of_ble_eq_true rfl)
  have r_x6 : -2147483648 ≤ x6 ∧ x6 ≤ 2147483647 := hl9 (xI x6) (.tail _ (.tail _ (.tail _ (.tail _ (.tail _ (.tail _ (.head _))))))) (Nat.le_of_ble_eq_true rfl)
  have r_x7 : -2147483648 ≤ x7 ∧ x7 ≤ 2147483647 := hl9 (xI x7) (.tail _ (.tail _ (.tail _ (.tail _ (.tail _ (.tail _ (.tail _ (.head _)))))))) (Nat.le_of_ble_eq_true rfl)
  refine xr_iload (pc := 101) (i := 6) (hI := d_M_nearest_101) (hl := rfl) ?_
  refine xr_iload_n (pc := 103) (i := 1) (hI := d_M_nearest_103) (hi := rfl) (hl := rfl) ?_
  refine xr_icmp_ge (pc := 104) (tgt := 131) (hI := d_M_nearest_104) (ht := by decide) (fun q9 => ?_) (fun q9 => ?_)
  · replace hyp := hyp.1 q9
    have q1_ := q9
    clear q9
    exact hyp
  · replace hyp := hyp.2 q9
    have q1_ := q9
    clear q9
    refine xr_aload_n (pc := 107) (i := 0) (hI := d_M_nearest_107) (hi := rfl) (hl := rfl) ?_
    refine xg_getf (pc := 108) (ci := 11) (k := 16) (N := 38) (v9 := 2) (v := 64) (T := xF11) (hI := d_M_nearest_108) (hw := w_1603) rfl xi11 (Or.inl rfl) (Nat.le_of_ble_eq_true rfl) (Nat.le_of_ble_eq_true rfl) rfl (ft_53 F) (fp_53_16 F) (fun f2_ => ?_)
    clear f2_
    refine xr_iload (pc := 111) (i := 6) (hI := d_M_nearest_111) (hl := rfl) ?_
    obtain ⟨c3_, hyp⟩ := hyp
    obtain ⟨c4_, hyp⟩ := hyp
    refine xg_laload (pc := 113) (v := (xpl h 64 x6)) (hI := d_M_nearest_113) (ft_64 F) c3_ (xlt_of (fl_64 F) c4_) rfl (fun f5_ => ?_)
    replace f5_ : -9223372036854775808 ≤ (xpl h 64 x6) ∧ (xpl h 64 x6) ≤ 9223372036854775807 := f5_
    refine xr_aload_n (pc := 114) (i := 0) (hI := d_M_nearest_114) (hi := rfl) (hl := rfl) ?_
    refine xg_getf (pc := 115) (ci := 11) (k := 16) (N := 38) (v9 := 2) (v := 64) (T := xF11) (hI := d_M_nearest_115) (hw := w_1603) rfl xi11 (Or.inl rfl) (Nat.le_of_ble_eq_true rfl) (Nat.le_of_ble_eq_true rfl) rfl (ft_53 F) (fp_53_16 F) (fun f6_ => ?_)
    clear f6_
    refine xr_iload (pc := 118) (i := 7) (hI := d_M_nearest_118) (hl := rfl) ?_
    obtain ⟨c7_, hyp⟩ := hyp
    obtain ⟨c8_, hyp⟩ := hyp
    refine xg_laload (pc := 120) (v := (xpl h 64 x7)) (hI := d_M_nearest_120) (ft_64 F) c7_ (xlt_of (fl_64 F) c8_) rfl (fun f9_ => ?_)
    replace f9_ : -9223372036854775808 ≤ (xpl h 64 x7) ∧ (xpl h 64 x7) ≤ 9223372036854775807 := f9_
    refine xr_lcmp (pc := 121) (hI := d_M_nearest_121) ?_
    refine xg_lif_ne (pc := 122) (tgt := 131) (hI := d_M_nearest_122) (ht := by decide) (fun q9 => ?_) (fun q9 => ?_)
    · replace hyp := hyp.2 q9
      have q10_ := q9
      clear q9
      exact hyp
    · replace hyp := hyp.1 q9
      have q10_ := q9
      clear q9
      refine xr_iinc (pc := 125) (i := 6) (L9 := [xR 53, xI x1, xI x2, xI x3, xL x4, xZ, xI (x6 + 1), xI x7, xZ]) (hI := d_M_nearest_125) (hl := rfl) (hn := Nat.le_of_ble_eq_true rfl) (hr := ⟨by clear hyp; omega, by clear hyp; omega⟩) (hL9 := rfl) ?_
      refine xr_goto (pc := 128) (tgt := 101) (hI := d_M_nearest_128) (ht := by decide) ?_
      exact hyp
theorem d_M_nearest_131 : decode prog_14_method_100_code 131 = .ok (.aload_n 0, 1) := by decide +kernel
theorem d_M_nearest_132 : decode prog_14_method_100_code 132 = .ok (.aload_n 0, 1) := by decide +kernel
theorem d_M_nearest_133 : decode prog_14_method_100_code 133 = .ok (.getfield 217, 3) := by decide +kernel
theorem d_M_nearest_136 : decode prog_14_method_100_code 136 = .ok (.aload_n 0, 1) := by decide +kernel
theorem d_M_nearest_137 : decode prog_14_method_100_code 137 = .ok (.getfield 42, 3) := by decide +kernel
theorem d_M_nearest_140 : decode prog_14_method_100_code 140 = .ok (.iload 7, 2) := by decide +kernel
theorem d_M_nearest_142 : decode prog_14_method_100_code 142 = .ok (.laload, 1) := by decide +kernel
theorem d_M_nearest_143 : decode prog_14_method_100_code 143 = .ok (.invokevirtual 441, 3) := by decide +kernel
theorem k_M_changes : xCal m_M_changes 2 := ⟨List.mem_append_right _ (List.mem_of_getElem? (i := 2254) (by decide +kernel)), w_15, Nat.le_of_ble_eq_true rfl, ⟨by decide +kernel, by decide +kernel⟩, by decide +kernel, by decide +kernel, rfl⟩
theorem w_2251 : Cond.methodLink "BeaconIndexModel" 441 ⟨"BeaconIndexModel", "changes", "(JJ)I"⟩ ∈ lw_tbl := List.mem_append_right _ (List.mem_of_getElem? (i := 2251) (by decide +kernel))
theorem w_2253 : Cond.instanceMethod ⟨"BeaconIndexModel", "changes", "(JJ)I"⟩ ∈ lw_tbl := List.mem_append_right _ (List.mem_of_getElem? (i := 2253) (by decide +kernel))
theorem sel_M_changes : Cond.selects "BeaconIndexModel" ⟨"BeaconIndexModel", "changes", "(JJ)I"⟩ ⟨"BeaconIndexModel", "changes", "(JJ)I"⟩ ∈ lw_tbl := List.mem_append_left _ (by decide +kernel)
theorem v_M_nearest_131 {G : XG} {d : Nat} {h : XH} {Q : XV → XH → Prop} {X : Nat → XH → Prop} {x1 x2 x3 x4 x6 x7 : Int} (F : xFix h) (hyp : 0 ≤ x7 ∧ x7 < 12000 ∧ (xwp G m_M_changes (d + 216) 0 [xR 53, xL (xpl h 53 14), xZ, xL (xpl h 64 x7), xZ, xZ, xZ, xZ, xZ, xZ, xZ, xZ, xZ] [] h (fun v9 h9 => xwp G m_M_nearest (d + 217) 146 [xR 53, xI x1, xI x2, xI x3, xL x4, xZ, xI x6, xI x7, xZ] (xpush v9 []) h9 Q X) X)) : xwp G m_M_nearest (d + 217) 131 [xR 53, xI x1, xI x2, xI x3, xL x4, xZ, xI x6, xI x7, xZ] [] h Q X := by
  have hnx9 : (93 : Int) ≤ xnx h := F.2.2
  refine xr_okL (fun hl9 => ?_)
  have r_x1 : -2147483648 ≤ x1 ∧ x1 ≤ 2147483647 := hl9 (xI x1) (.tail _ (.head _)) (Nat.le_of_ble_eq_true rfl)
  have r_x2 : -2147483648 ≤ x2 ∧ x2 ≤ 2147483647 := hl9 (xI x2) (.tail _ (.tail _ (.head _))) (Nat.le_of_ble_eq_true rfl)
  have r_x3 : -2147483648 ≤ x3 ∧ x3 ≤ 2147483647 := hl9 (xI x3) (.tail _ (.tail _ (.tail _ (.head _)))) (Nat.le_of_ble_eq_true rfl)
  have r_x4 : -9223372036854775808 ≤ x4 ∧ x4 ≤ 9223372036854775807 := hl9 (xL x4) (.tail _ (.tail _ (.tail _ (.tail _ (.head _))))) (Nat.le_of_ble_eq_true rfl)
  have r_x6 : -2147483648 ≤ x6 ∧ x6 ≤ 2147483647 := hl9 (xI x6) (.tail _ (.tail _ (.tail _ (.tail _ (.tail _ (.tail _ (.head _))))))) (Nat.le_of_ble_eq_true rfl)
  have r_x7 : -2147483648 ≤ x7 ∧ x7 ≤ 2147483647 := hl9 (xI x7) (.tail _ (.tail _ (.tail _ (.tail _ (.tail _ (.tail _ (.tail _ (.head _)))))))) (Nat.le_of_ble_eq_true rfl)
  refine xr_aload_n (pc := 131) (i := 0) (hI := d_M_nearest_131) (hi := rfl) (hl := rfl) ?_
  refine xr_aload_n (pc := 132) (i := 0) (hI := d_M_nearest_132) (hi := rfl) (hl := rfl) ?_
  refine xg_getf (pc := 133) (ci := 11) (k := 14) (N := 38) (v9 := 1) (v := (xpl h 53 14)) (T := xF11) (hI := d_M_nearest_133) (hw := w_1601) rfl xi11 (Or.inl rfl) (Nat.le_of_ble_eq_true rfl) (Nat.le_of_ble_eq_true rfl) rfl (ft_53 F) rfl (fun f1_ => ?_)
  replace f1_ : -9223372036854775808 ≤ (xpl h 53 14) ∧ (xpl h 53 14) ≤ 9223372036854775807 := f1_
  refine xr_aload_n (pc := 136) (i := 0) (hI := d_M_nearest_136) (hi := rfl) (hl := rfl) ?_
  refine xg_getf (pc := 137) (ci := 11) (k := 16) (N := 38) (v9 := 2) (v := 64) (T := xF11) (hI := d_M_nearest_137) (hw := w_1603) rfl xi11 (Or.inl rfl) (Nat.le_of_ble_eq_true rfl) (Nat.le_of_ble_eq_true rfl) rfl (ft_53 F) (fp_53_16 F) (fun f2_ => ?_)
  clear f2_
  refine xr_iload (pc := 140) (i := 7) (hI := d_M_nearest_140) (hl := rfl) ?_
  obtain ⟨c3_, hyp⟩ := hyp
  obtain ⟨c4_, hyp⟩ := hyp
  refine xg_laload (pc := 142) (v := (xpl h 64 x7)) (hI := d_M_nearest_142) (ft_64 F) c3_ (xlt_of (fl_64 F) c4_) rfl (fun f5_ => ?_)
  replace f5_ : -9223372036854775808 ≤ (xpl h 64 x7) ∧ (xpl h 64 x7) ≤ 9223372036854775807 := f5_
  exact xq_callV (pc := 143) (index := 441) (K := m_M_changes) (As := [xL (xpl h 53 14), xL (xpl h 64 x7)]) (S := []) (L0 := [xR 53, xL (xpl h 53 14), xZ, xL (xpl h 64 x7), xZ, xZ, xZ, xZ, xZ, xZ, xZ, xZ, xZ]) (hI := d_M_nearest_143) (hK := k_M_changes) (hlk := w_2251) (hnoM := rfl) (hS8 := Nat.le_of_ble_eq_true rfl) (ci := 11) (N := 38) (C := "BeaconIndexModel") (T := xF11) (hc := rfl) (hci := Nat.le_of_ble_eq_true rfl) (htb := (ft_53 F)) (hinst := w_2253) (hsel := sel_M_changes) (hlen := Nat.le_of_ble_eq_true rfl) (hst := rfl) (hL0 := rfl)  hyp
theorem d_M_nearest_146 : decode prog_14_method_100_code 146 = .ok (.istore 8, 2) := by decide +kernel
theorem d_M_nearest_148 : decode prog_14_method_100_code 148 = .ok (.iload_n 2, 1) := by decide +kernel
theorem d_M_nearest_149 : decode prog_14_method_100_code 149 = .ok (.iconst (-1), 1) := by decide +kernel
theorem d_M_nearest_150 : decode prog_14_method_100_code 150 = .ok (.if_icmp .eq 27, 3) := by decide +kernel
theorem d_M_nearest_153 : decode prog_14_method_100_code 153 = .ok (.iload 8, 2) := by decide +kernel
theorem d_M_nearest_155 : decode prog_14_method_100_code 155 = .ok (.iload_n 2, 1) := by decide +kernel
theorem d_M_nearest_156 : decode prog_14_method_100_code 156 = .ok (.if_icmp .gt 39, 3) := by decide +kernel
theorem d_M_nearest_195 : decode prog_14_method_100_code 195 = .ok (.iload 6, 2) := by decide +kernel
theorem d_M_nearest_197 : decode prog_14_method_100_code 197 = .ok (.istore 7, 2) := by decide +kernel
theorem d_M_nearest_199 : decode prog_14_method_100_code 199 = .ok (.goto (-108), 3) := by decide +kernel
theorem d_M_nearest_159 : decode prog_14_method_100_code 159 = .ok (.iload 8, 2) := by decide +kernel
theorem d_M_nearest_161 : decode prog_14_method_100_code 161 = .ok (.iload_n 2, 1) := by decide +kernel
theorem d_M_nearest_162 : decode prog_14_method_100_code 162 = .ok (.if_icmp .ne 15, 3) := by decide +kernel
theorem d_M_nearest_165 : decode prog_14_method_100_code 165 = .ok (.iload 6, 2) := by decide +kernel
theorem d_M_nearest_167 : decode prog_14_method_100_code 167 = .ok (.iload 7, 2) := by decide +kernel
theorem d_M_nearest_169 : decode prog_14_method_100_code 169 = .ok (.isub, 1) := by decide +kernel
theorem d_M_nearest_170 : decode prog_14_method_100_code 170 = .ok (.iload_n 3, 1) := by decide +kernel
theorem d_M_nearest_171 : decode prog_14_method_100_code 171 = .ok (.if_icmp .gt 6, 3) := by decide +kernel
theorem d_M_nearest_174 : decode prog_14_method_100_code 174 = .ok (.goto 21, 3) := by decide +kernel
theorem v_M_nearest_146 {G : XG} {d : Nat} {h : XH} {Q : XV → XH → Prop} {X : Nat → XH → Prop} {x1 x2 x3 x4 x6 x7 s0 : Int} (F : xFix h) (hyp : ((x2 = (-1) → (xwp G m_M_nearest (d + 217) 177 [xR 53, xI x1, xZ, xZ, xZ, xZ, xI x6, xI x7, xI s0] [] h Q X)) ∧ (¬ x2 = (-1) → ((x2 < s0 → (xwp G m_M_nearest (d + 217) 91 [xR 53, xI x1, xI x2, xI x3, xL x4, xZ, xZ, xI x6, xZ] [] h Q X)) ∧ (¬ x2 < s0 → ((s0 = x2 → xiR (x6 - x7) ∧ ((x3 < (x6 - x7) → (xwp G m_M_nearest (d + 217) 177 [xR 53, xI x1, xZ, xZ, xZ, xZ, xI x6, xI x7, xI s0] [] h Q X)) ∧ (¬ x3 < (x6 - x7) → (xwp G m_M_nearest (d + 217) 91 [xR 53, xI x1, xI x2, xI x3, xL x4, xZ, xZ, xI x6, xZ] [] h Q X)))) ∧ (¬ s0 = x2 → (xwp G m_M_nearest (d + 217) 177 [xR 53, xI x1, xZ, xZ, xZ, xZ, xI x6, xI x7, xI s0] [] h Q X)))))))) : xwp G m_M_nearest (d + 217) 146 [xR 53, xI x1, xI x2, xI x3, xL x4, xZ, xI x6, xI x7, xZ] [xI s0] h Q X := by
  have hnx9 : (93 : Int) ≤ xnx h := F.2.2
  refine xr_okL (fun hl9 => ?_)
  have r_x1 : -2147483648 ≤ x1 ∧ x1 ≤ 2147483647 := hl9 (xI x1) (.tail _ (.head _)) (Nat.le_of_ble_eq_true rfl)
  have r_x2 : -2147483648 ≤ x2 ∧ x2 ≤ 2147483647 := hl9 (xI x2) (.tail _ (.tail _ (.head _))) (Nat.le_of_ble_eq_true rfl)
  have r_x3 : -2147483648 ≤ x3 ∧ x3 ≤ 2147483647 := hl9 (xI x3) (.tail _ (.tail _ (.tail _ (.head _)))) (Nat.le_of_ble_eq_true rfl)
  have r_x4 : -9223372036854775808 ≤ x4 ∧ x4 ≤ 9223372036854775807 := hl9 (xL x4) (.tail _ (.tail _ (.tail _ (.tail _ (.head _))))) (Nat.le_of_ble_eq_true rfl)
  have r_x6 : -2147483648 ≤ x6 ∧ x6 ≤ 2147483647 := hl9 (xI x6) (.tail _ (.tail _ (.tail _ (.tail _ (.tail _ (.tail _ (.head _))))))) (Nat.le_of_ble_eq_true rfl)
  have r_x7 : -2147483648 ≤ x7 ∧ x7 ≤ 2147483647 := hl9 (xI x7) (.tail _ (.tail _ (.tail _ (.tail _ (.tail _ (.tail _ (.tail _ (.head _)))))))) (Nat.le_of_ble_eq_true rfl)
  refine xr_okS (fun hs9 => ?_)
  have r_s0 : -2147483648 ≤ s0 ∧ s0 ≤ 2147483647 := hs9 (xI s0) (.head _)
  refine xr_istore (pc := 146) (i := 8) (L9 := [xR 53, xI x1, xI x2, xI x3, xL x4, xZ, xI x6, xI x7, xI s0]) (hI := d_M_nearest_146) (hn := Nat.le_of_ble_eq_true rfl) (hL9 := rfl) ?_
  refine xr_iload_n (pc := 148) (i := 2) (hI := d_M_nearest_148) (hi := rfl) (hl := rfl) ?_
  refine xr_iconst (pc := 149) (hI := d_M_nearest_149) (hr := by decide) ?_
  refine xr_icmp_eq (pc := 150) (tgt := 177) (hI := d_M_nearest_150) (ht := by decide) (fun q9 => ?_) (fun q9 => ?_)
  · replace hyp := hyp.1 q9
    have q1_ := q9
    clear q9
    exact xr_drop (L9 := [xR 53, xI x1, xZ, xZ, xZ, xZ, xI x6, xI x7, xI s0]) (xdrs (xdrs (xdrz (xdrz (xdrz (xdrs (xdrs (xdrs (xdrs xdr0))))))))) hyp
  · replace hyp := hyp.2 q9
    have q1_ := q9
    clear q9
    refine xr_iload (pc := 153) (i := 8) (hI := d_M_nearest_153) (hl := rfl) ?_
    refine xr_iload_n (pc := 155) (i := 2) (hI := d_M_nearest_155) (hi := rfl) (hl := rfl) ?_
    refine xr_icmp_gt (pc := 156) (tgt := 195) (hI := d_M_nearest_156) (ht := by decide) (fun q9 => ?_) (fun q9 => ?_)
    · replace hyp := hyp.1 q9
      have q2_ := q9
      clear q9
      refine xr_iload (pc := 195) (i := 6) (hI := d_M_nearest_195) (hl := rfl) ?_
      refine xr_istore (pc := 197) (i := 7) (L9 := [xR 53, xI x1, xI x2, xI x3, xL x4, xZ, xI x6, xI x6, xI s0]) (hI := d_M_nearest_197) (hn := Nat.le_of_ble_eq_true rfl) (hL9 := rfl) ?_
      refine xr_goto (pc := 199) (tgt := 91) (hI := d_M_nearest_199) (ht := by decide) ?_
      exact xr_drop (L9 := [xR 53, xI x1, xI x2, xI x3, xL x4, xZ, xZ, xI x6, xZ]) (xdrs (xdrs (xdrs (xdrs (xdrs (xdrs (xdrz (xdrs (xdrz xdr0))))))))) hyp
    · replace hyp := hyp.2 q9
      have q2_ := q9
      clear q9
      refine xr_iload (pc := 159) (i := 8) (hI := d_M_nearest_159) (hl := rfl) ?_
      refine xr_iload_n (pc := 161) (i := 2) (hI := d_M_nearest_161) (hi := rfl) (hl := rfl) ?_
      refine xr_icmp_ne (pc := 162) (tgt := 177) (hI := d_M_nearest_162) (ht := by decide) (fun q9 => ?_) (fun q9 => ?_)
      · replace hyp := hyp.2 q9
        have q3_ := q9
        clear q9
        exact xr_drop (L9 := [xR 53, xI x1, xZ, xZ, xZ, xZ, xI x6, xI x7, xI s0]) (xdrs (xdrs (xdrz (xdrz (xdrz (xdrs (xdrs (xdrs (xdrs xdr0))))))))) hyp
      · replace hyp := hyp.1 q9
        have q3_ := q9
        clear q9
        refine xr_iload (pc := 165) (i := 6) (hI := d_M_nearest_165) (hl := rfl) ?_
        refine xr_iload (pc := 167) (i := 7) (hI := d_M_nearest_167) (hl := rfl) ?_
        obtain ⟨c9, hyp⟩ := hyp
        refine xr_isub (pc := 169) (hI := d_M_nearest_169) (hr := c9) ?_
        refine xr_iload_n (pc := 170) (i := 3) (hI := d_M_nearest_170) (hi := rfl) (hl := rfl) ?_
        refine xr_icmp_gt (pc := 171) (tgt := 177) (hI := d_M_nearest_171) (ht := by decide) (fun q9 => ?_) (fun q9 => ?_)
        · replace hyp := hyp.1 q9
          have q4_ := q9
          clear q9
          exact xr_drop (L9 := [xR 53, xI x1, xZ, xZ, xZ, xZ, xI x6, xI x7, xI s0]) (xdrs (xdrs (xdrz (xdrz (xdrz (xdrs (xdrs (xdrs (xdrs xdr0))))))))) hyp
        · replace hyp := hyp.2 q9
          have q4_ := q9
          clear q9
          refine xr_goto (pc := 174) (tgt := 195) (hI := d_M_nearest_174) (ht := by decide) ?_
          refine xr_iload (pc := 195) (i := 6) (hI := d_M_nearest_195) (hl := rfl) ?_
          refine xr_istore (pc := 197) (i := 7) (L9 := [xR 53, xI x1, xI x2, xI x3, xL x4, xZ, xI x6, xI x6, xI s0]) (hI := d_M_nearest_197) (hn := Nat.le_of_ble_eq_true rfl) (hL9 := rfl) ?_
          refine xr_goto (pc := 199) (tgt := 91) (hI := d_M_nearest_199) (ht := by decide) ?_
          exact xr_drop (L9 := [xR 53, xI x1, xI x2, xI x3, xL x4, xZ, xZ, xI x6, xZ]) (xdrs (xdrs (xdrs (xdrs (xdrs (xdrs (xdrz (xdrs (xdrz xdr0))))))))) hyp
theorem d_M_nearest_177 : decode prog_14_method_100_code 177 = .ok (.iload 8, 2) := by decide +kernel
theorem d_M_nearest_179 : decode prog_14_method_100_code 179 = .ok (.istore_n 2, 1) := by decide +kernel
theorem d_M_nearest_180 : decode prog_14_method_100_code 180 = .ok (.iload 6, 2) := by decide +kernel
theorem d_M_nearest_182 : decode prog_14_method_100_code 182 = .ok (.iload 7, 2) := by decide +kernel
theorem d_M_nearest_184 : decode prog_14_method_100_code 184 = .ok (.isub, 1) := by decide +kernel
theorem d_M_nearest_185 : decode prog_14_method_100_code 185 = .ok (.istore_n 3, 1) := by decide +kernel
theorem d_M_nearest_186 : decode prog_14_method_100_code 186 = .ok (.aload_n 0, 1) := by decide +kernel
theorem d_M_nearest_187 : decode prog_14_method_100_code 187 = .ok (.getfield 42, 3) := by decide +kernel
theorem d_M_nearest_190 : decode prog_14_method_100_code 190 = .ok (.iload 7, 2) := by decide +kernel
theorem d_M_nearest_192 : decode prog_14_method_100_code 192 = .ok (.laload, 1) := by decide +kernel
theorem d_M_nearest_193 : decode prog_14_method_100_code 193 = .ok (.lstore 4, 2) := by decide +kernel
theorem v_M_nearest_177 {G : XG} {d : Nat} {h : XH} {Q : XV → XH → Prop} {X : Nat → XH → Prop} {x1 x6 x7 x8 : Int} (F : xFix h) (hyp : xiR (x6 - x7) ∧ 0 ≤ x7 ∧ x7 < 12000 ∧ (xwp G m_M_nearest (d + 217) 91 [xR 53, xI x1, xI x8, xI (x6 - x7), xL (xpl h 64 x7), xZ, xZ, xI x6, xZ] [] h Q X)) : xwp G m_M_nearest (d + 217) 177 [xR 53, xI x1, xZ, xZ, xZ, xZ, xI x6, xI x7, xI x8] [] h Q X := by
  have hnx9 : (93 : Int) ≤ xnx h := F.2.2
  refine xr_okL (fun hl9 => ?_)
  have r_x1 : -2147483648 ≤ x1 ∧ x1 ≤ 2147483647 := hl9 (xI x1) (.tail _ (.head _)) (Nat.le_of_ble_eq_true rfl)
  have r_x6 : -2147483648 ≤ x6 ∧ x6 ≤ 2147483647 := hl9 (xI x6) (.tail _ (.tail _ (.tail _ (.tail _ (.tail _ (.tail _ (.head _))))))) (Nat.le_of_ble_eq_true rfl)
  have r_x7 : -2147483648 ≤ x7 ∧ x7 ≤ 2147483647 := hl9 (xI x7) (.tail _ (.tail _ (.tail _ (.tail _ (.tail _ (.tail _ (.tail _ (.head _)))))))) (Nat.le_of_ble_eq_true rfl)
  have r_x8 : -2147483648 ≤ x8 ∧ x8 ≤ 2147483647 := hl9 (xI x8) (.tail _ (.tail _ (.tail _ (.tail _ (.tail _ (.tail _ (.tail _ (.tail _ (.head _))))))))) (Nat.le_of_ble_eq_true rfl)
  refine xr_iload (pc := 177) (i := 8) (hI := d_M_nearest_177) (hl := rfl) ?_
  refine xr_istore_n (pc := 179) (i := 2) (L9 := [xR 53, xI x1, xI x8, xZ, xZ, xZ, xI x6, xI x7, xI x8]) (hI := d_M_nearest_179) (hi := rfl) (hn := Nat.le_of_ble_eq_true rfl) (hL9 := rfl) ?_
  refine xr_iload (pc := 180) (i := 6) (hI := d_M_nearest_180) (hl := rfl) ?_
  refine xr_iload (pc := 182) (i := 7) (hI := d_M_nearest_182) (hl := rfl) ?_
  obtain ⟨c9, hyp⟩ := hyp
  refine xr_isub (pc := 184) (hI := d_M_nearest_184) (hr := c9) ?_
  refine xr_istore_n (pc := 185) (i := 3) (L9 := [xR 53, xI x1, xI x8, xI (x6 - x7), xZ, xZ, xI x6, xI x7, xI x8]) (hI := d_M_nearest_185) (hi := rfl) (hn := Nat.le_of_ble_eq_true rfl) (hL9 := rfl) ?_
  refine xr_aload_n (pc := 186) (i := 0) (hI := d_M_nearest_186) (hi := rfl) (hl := rfl) ?_
  refine xg_getf (pc := 187) (ci := 11) (k := 16) (N := 38) (v9 := 2) (v := 64) (T := xF11) (hI := d_M_nearest_187) (hw := w_1603) rfl xi11 (Or.inl rfl) (Nat.le_of_ble_eq_true rfl) (Nat.le_of_ble_eq_true rfl) rfl (ft_53 F) (fp_53_16 F) (fun f1_ => ?_)
  clear f1_
  refine xr_iload (pc := 190) (i := 7) (hI := d_M_nearest_190) (hl := rfl) ?_
  obtain ⟨c2_, hyp⟩ := hyp
  obtain ⟨c3_, hyp⟩ := hyp
  refine xg_laload (pc := 192) (v := (xpl h 64 x7)) (hI := d_M_nearest_192) (ft_64 F) c2_ (xlt_of (fl_64 F) c3_) rfl (fun f4_ => ?_)
  replace f4_ : -9223372036854775808 ≤ (xpl h 64 x7) ∧ (xpl h 64 x7) ≤ 9223372036854775807 := f4_
  refine xr_lstore (pc := 193) (i := 4) (L9 := [xR 53, xI x1, xI x8, xI (x6 - x7), xL (xpl h 64 x7), xZ, xI x6, xI x7, xI x8]) (hI := d_M_nearest_193) (hn := Nat.le_of_ble_eq_true rfl) (hL9 := rfl) ?_
  refine xr_iload (pc := 195) (i := 6) (hI := d_M_nearest_195) (hl := rfl) ?_
  refine xr_istore (pc := 197) (i := 7) (L9 := [xR 53, xI x1, xI x8, xI (x6 - x7), xL (xpl h 64 x7), xZ, xI x6, xI x6, xI x8]) (hI := d_M_nearest_197) (hn := Nat.le_of_ble_eq_true rfl) (hL9 := rfl) ?_
  refine xr_goto (pc := 199) (tgt := 91) (hI := d_M_nearest_199) (ht := by decide) ?_
  exact xr_drop (L9 := [xR 53, xI x1, xI x8, xI (x6 - x7), xL (xpl h 64 x7), xZ, xZ, xI x6, xZ]) (xdrs (xdrs (xdrs (xdrs (xdrs (xdrs (xdrz (xdrs (xdrz xdr0))))))))) hyp

end
