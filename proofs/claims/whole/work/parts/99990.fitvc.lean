/-! ===== fitvc ===== -/
section
abbrev m_M_cellOf : XM := (⟨"BeaconIndexModel", "cellOf", "(III)I"⟩, prog_14_method_56_code, 4, (some .int), [])
theorem d_M_cellOf_0 : decode prog_14_method_56_code 0 = .ok (.iconst 2, 1) := by decide +kernel
theorem d_M_cellOf_1 : decode prog_14_method_56_code 1 = .ok (.bipush 60, 2) := by decide +kernel
theorem d_M_cellOf_3 : decode prog_14_method_56_code 3 = .ok (.iload_n 1, 1) := by decide +kernel
theorem d_M_cellOf_4 : decode prog_14_method_56_code 4 = .ok (.imul, 1) := by decide +kernel
theorem d_M_cellOf_5 : decode prog_14_method_56_code 5 = .ok (.iload_n 2, 1) := by decide +kernel
theorem d_M_cellOf_6 : decode prog_14_method_56_code 6 = .ok (.iadd, 1) := by decide +kernel
theorem d_M_cellOf_7 : decode prog_14_method_56_code 7 = .ok (.imul, 1) := by decide +kernel
theorem d_M_cellOf_8 : decode prog_14_method_56_code 8 = .ok (.iload_n 3, 1) := by decide +kernel
theorem d_M_cellOf_9 : decode prog_14_method_56_code 9 = .ok (.iadd, 1) := by decide +kernel
theorem d_M_cellOf_10 : decode prog_14_method_56_code 10 = .ok (.ireturn, 1) := by decide +kernel
theorem v_M_cellOf_0 {G : XG} {d : Nat} {h : XH} {Q : XV → XH → Prop} {X : Nat → XH → Prop} {x1 x2 x3 : Int} (F : xFix h) (hyp : xiR (60 * x1) ∧ xiR ((60 * x1) + x2) ∧ xiR (2 * ((60 * x1) + x2)) ∧ xiR ((2 * ((60 * x1) + x2)) + x3) ∧ (Q (xI ((2 * ((60 * x1) + x2)) + x3)) h)) : xwp G m_M_cellOf (d + 1) 0 [xR 53, xI x1, xI x2, xI x3] [] h Q X := by
  have hnx9 : (93 : Int) ≤ xnx h := F.2.2
  refine xr_okL (fun hl9 => ?_)
  have r_x1 : -2147483648 ≤ x1 ∧ x1 ≤ 2147483647 := hl9 (xI x1) (.tail _ (.head _)) (Nat.le_of_ble_eq_true rfl)
  have r_x2 : -2147483648 ≤ x2 ∧ x2 ≤ 2147483647 := hl9 (xI x2) (.tail _ (.tail _ (.head _))) (Nat.le_of_ble_eq_true rfl)
  have r_x3 : -2147483648 ≤ x3 ∧ x3 ≤ 2147483647 := hl9 (xI x3) (.tail _ (.tail _ (.tail _ (.head _)))) (Nat.le_of_ble_eq_true rfl)
  refine xr_iconst (pc := 0) (hI := d_M_cellOf_0) (hr := by decide) ?_
  refine xr_bipush (pc := 1) (hI := d_M_cellOf_1) (hr := by decide) (hv := by decide) ?_
  refine xr_iload_n (pc := 3) (i := 1) (hI := d_M_cellOf_3) (hi := rfl) (hl := rfl) ?_
  obtain ⟨c9, hyp⟩ := hyp
  refine xr_imul (pc := 4) (hI := d_M_cellOf_4) (hr := c9) ?_
  refine xr_iload_n (pc := 5) (i := 2) (hI := d_M_cellOf_5) (hi := rfl) (hl := rfl) ?_
  obtain ⟨c9, hyp⟩ := hyp
  refine xr_iadd (pc := 6) (hI := d_M_cellOf_6) (hr := c9) ?_
  obtain ⟨c9, hyp⟩ := hyp
  refine xr_imul (pc := 7) (hI := d_M_cellOf_7) (hr := c9) ?_
  refine xr_iload_n (pc := 8) (i := 3) (hI := d_M_cellOf_8) (hi := rfl) (hl := rfl) ?_
  obtain ⟨c9, hyp⟩ := hyp
  refine xr_iadd (pc := 9) (hI := d_M_cellOf_9) (hr := c9) ?_
  refine xr_ireturn (S := []) (pc := 10) (hI := d_M_cellOf_10) (hr := rfl) ?_
  exact hyp
abbrev m_M_note : XM := (⟨"BeaconIndexModel", "note", "(II)V"⟩, prog_14_method_57_code, 3, none, [])
theorem d_M_note_0 : decode prog_14_method_57_code 0 = .ok (.aload_n 0, 1) := by decide +kernel
theorem d_M_note_1 : decode prog_14_method_57_code 1 = .ok (.getfield 67, 3) := by decide +kernel
theorem w_1614 : Cond.fieldLink "BeaconIndexModel" 67 "BeaconIndexModel" "fits" "[I" ∈ lw_tbl := List.mem_append_right _ (List.mem_of_getElem? (i := 1614) (by decide +kernel))
theorem d_M_note_4 : decode prog_14_method_57_code 4 = .ok (.iload_n 1, 1) := by decide +kernel
theorem d_M_note_5 : decode prog_14_method_57_code 5 = .ok (.iaload, 1) := by decide +kernel
theorem d_M_note_6 : decode prog_14_method_57_code 6 = .ok (.ifCond .ne 10, 3) := by decide +kernel
theorem d_M_note_9 : decode prog_14_method_57_code 9 = .ok (.aload_n 0, 1) := by decide +kernel
theorem d_M_note_10 : decode prog_14_method_57_code 10 = .ok (.getfield 70, 3) := by decide +kernel
theorem w_1615 : Cond.fieldLink "BeaconIndexModel" 70 "BeaconIndexModel" "firsts" "[I" ∈ lw_tbl := List.mem_append_right _ (List.mem_of_getElem? (i := 1615) (by decide +kernel))
theorem d_M_note_13 : decode prog_14_method_57_code 13 = .ok (.iload_n 1, 1) := by decide +kernel
theorem d_M_note_14 : decode prog_14_method_57_code 14 = .ok (.iload_n 2, 1) := by decide +kernel
theorem d_M_note_15 : decode prog_14_method_57_code 15 = .ok (.iastore, 1) := by decide +kernel
theorem xfa_82 : xfreeA 82 = true := by decide +kernel
theorem v_M_note_0 {G : XG} {d : Nat} {h : XH} {Q : XV → XH → Prop} {X : Nat → XH → Prop} {x1 x2 : Int} (F : xFix h) (hyp : 0 ≤ x1 ∧ x1 < 4920 ∧ (((xpl h 81 x1) = 0 → (xFix (xst h 82 x1 x2) → xwp G m_M_note (d + 1) 16 [xR 53, xI x1, xZ] [] (xst h 82 x1 x2) Q X)) ∧ (¬ (xpl h 81 x1) = 0 → (xwp G m_M_note (d + 1) 16 [xR 53, xI x1, xZ] [] h Q X)))) : xwp G m_M_note (d + 1) 0 [xR 53, xI x1, xI x2] [] h Q X := by
  have hnx9 : (93 : Int) ≤ xnx h := F.2.2
  refine xr_okL (fun hl9 => ?_)
  have r_x1 : -2147483648 ≤ x1 ∧ x1 ≤ 2147483647 := hl9 (xI x1) (.tail _ (.head _)) (Nat.le_of_ble_eq_true rfl)
  have r_x2 : -2147483648 ≤ x2 ∧ x2 ≤ 2147483647 := hl9 (xI x2) (.tail _ (.tail _ (.head _))) (Nat.le_of_ble_eq_true rfl)
  refine xr_aload_n (pc := 0) (i := 0) (hI := d_M_note_0) (hi := rfl) (hl := rfl) ?_
  refine xg_getf (pc := 1) (ci := 11) (k := 27) (N := 38) (v9 := 2) (v := 81) (T := xF11) (hI := d_M_note_1) (hw := w_1614) rfl xi11 (Or.inl rfl) (Nat.le_of_ble_eq_true rfl) (Nat.le_of_ble_eq_true rfl) rfl (ft_53 F) (fp_53_27 F) (fun f1_ => ?_)
  clear f1_
  refine xr_iload_n (pc := 4) (i := 1) (hI := d_M_note_4) (hi := rfl) (hl := rfl) ?_
  obtain ⟨c2_, hyp⟩ := hyp
  obtain ⟨c3_, hyp⟩ := hyp
  refine xg_iaload (pc := 5) (v := (xpl h 81 x1)) (hI := d_M_note_5) (ft_81 F) c2_ (xlt_of (fl_81 F) c3_) rfl (fun f4_ => ?_)
  replace f4_ : -2147483648 ≤ (xpl h 81 x1) ∧ (xpl h 81 x1) ≤ 2147483647 := f4_
  refine xr_if_ne (pc := 6) (tgt := 16) (hI := d_M_note_6) (ht := by decide) (fun q9 => ?_) (fun q9 => ?_)
  · replace hyp := hyp.2 q9
    have q5_ := q9
    clear q9
    exact xr_drop (L9 := [xR 53, xI x1, xZ]) (xdrs (xdrs (xdrz xdr0))) hyp
  · replace hyp := hyp.1 q9
    have q5_ := q9
    clear q9
    refine xr_aload_n (pc := 9) (i := 0) (hI := d_M_note_9) (hi := rfl) (hl := rfl) ?_
    refine xg_getf (pc := 10) (ci := 11) (k := 28) (N := 38) (v9 := 2) (v := 82) (T := xF11) (hI := d_M_note_10) (hw := w_1615) rfl xi11 (Or.inl rfl) (Nat.le_of_ble_eq_true rfl) (Nat.le_of_ble_eq_true rfl) rfl (ft_53 F) (fp_53_28 F) (fun f6_ => ?_)
    clear f6_
    refine xr_iload_n (pc := 13) (i := 1) (hI := d_M_note_13) (hi := rfl) (hl := rfl) ?_
    refine xr_iload_n (pc := 14) (i := 2) (hI := d_M_note_14) (hi := rfl) (hl := rfl) ?_
    refine xr_iastore (pc := 15) (hI := d_M_note_15) (ft_82 F) (by decide) (by clear hyp; omega) (xlt_of (fl_82 F) (by clear hyp; omega)) ?_
    have F7_ : xFix (xst h 82 x1 x2) := F.stA xfa_82
    exact xr_drop (L9 := [xR 53, xI x1, xZ]) (xdrs (xdrs (xdrz xdr0))) (hyp F7_)
theorem d_M_note_16 : decode prog_14_method_57_code 16 = .ok (.aload_n 0, 1) := by decide +kernel
theorem d_M_note_17 : decode prog_14_method_57_code 17 = .ok (.getfield 67, 3) := by decide +kernel
theorem d_M_note_20 : decode prog_14_method_57_code 20 = .ok (.iload_n 1, 1) := by decide +kernel
theorem d_M_note_21 : decode prog_14_method_57_code 21 = .ok (.dup2, 1) := by decide +kernel
theorem d_M_note_22 : decode prog_14_method_57_code 22 = .ok (.iaload, 1) := by decide +kernel
theorem d_M_note_23 : decode prog_14_method_57_code 23 = .ok (.iconst 1, 1) := by decide +kernel
theorem d_M_note_24 : decode prog_14_method_57_code 24 = .ok (.iadd, 1) := by decide +kernel
theorem d_M_note_25 : decode prog_14_method_57_code 25 = .ok (.iastore, 1) := by decide +kernel
theorem xfa_81 : xfreeA 81 = true := by decide +kernel
theorem d_M_note_26 : decode prog_14_method_57_code 26 = .ok (.return_, 1) := by decide +kernel
theorem v_M_note_16 {G : XG} {d : Nat} {h : XH} {Q : XV → XH → Prop} {X : Nat → XH → Prop} {x1 : Int} (F : xFix h) (hyp : 0 ≤ x1 ∧ x1 < 4920 ∧ xiR ((xpl h 81 x1) + 1) ∧ (xFix (xst h 81 x1 ((xpl h 81 x1) + 1)) → Q xN (xst h 81 x1 ((xpl h 81 x1) + 1)))) : xwp G m_M_note (d + 1) 16 [xR 53, xI x1, xZ] [] h Q X := by
  have hnx9 : (93 : Int) ≤ xnx h := F.2.2
  refine xr_okL (fun hl9 => ?_)
  have r_x1 : -2147483648 ≤ x1 ∧ x1 ≤ 2147483647 := hl9 (xI x1) (.tail _ (.head _)) (Nat.le_of_ble_eq_true rfl)
  refine xr_aload_n (pc := 16) (i := 0) (hI := d_M_note_16) (hi := rfl) (hl := rfl) ?_
  refine xg_getf (pc := 17) (ci := 11) (k := 27) (N := 38) (v9 := 2) (v := 81) (T := xF11) (hI := d_M_note_17) (hw := w_1614) rfl xi11 (Or.inl rfl) (Nat.le_of_ble_eq_true rfl) (Nat.le_of_ble_eq_true rfl) rfl (ft_53 F) (fp_53_27 F) (fun f1_ => ?_)
  clear f1_
  refine xr_iload_n (pc := 20) (i := 1) (hI := d_M_note_20) (hi := rfl) (hl := rfl) ?_
  refine xr_dup2 (pc := 21) (hI := d_M_note_21) (hv := rfl) (hw := rfl) ?_
  obtain ⟨c2_, hyp⟩ := hyp
  obtain ⟨c3_, hyp⟩ := hyp
  refine xg_iaload (pc := 22) (v := (xpl h 81 x1)) (hI := d_M_note_22) (ft_81 F) c2_ (xlt_of (fl_81 F) c3_) rfl (fun f4_ => ?_)
  replace f4_ : -2147483648 ≤ (xpl h 81 x1) ∧ (xpl h 81 x1) ≤ 2147483647 := f4_
  refine xr_iconst (pc := 23) (hI := d_M_note_23) (hr := by decide) ?_
  obtain ⟨c9, hyp⟩ := hyp
  refine xr_iadd (pc := 24) (hI := d_M_note_24) (hr := c9) ?_
  refine xr_iastore (pc := 25) (hI := d_M_note_25) (ft_81 F) (by decide) (by clear hyp; omega) (xlt_of (fl_81 F) (by clear hyp; omega)) ?_
  have F5_ : xFix (xst h 81 x1 ((xpl h 81 x1) + 1)) := F.stA xfa_81
  refine xr_return (S := []) (pc := 26) (hI := d_M_note_26) (hr := rfl) ?_
  exact hyp F5_
abbrev m_M_doesFit : XM := (⟨"BeaconIndexModel", "doesFit", "(IIII)Z"⟩, prog_14_method_58_code, 10, (some .boolean), [])
theorem d_M_doesFit_0 : decode prog_14_method_58_code 0 = .ok (.aload_n 0, 1) := by decide +kernel
theorem d_M_doesFit_1 : decode prog_14_method_58_code 1 = .ok (.getfield 51, 3) := by decide +kernel
theorem d_M_doesFit_4 : decode prog_14_method_58_code 4 = .ok (.getfield 282, 3) := by decide +kernel
theorem d_M_doesFit_7 : decode prog_14_method_58_code 7 = .ok (.iload_n 1, 1) := by decide +kernel
theorem d_M_doesFit_8 : decode prog_14_method_58_code 8 = .ok (.iaload, 1) := by decide +kernel
theorem d_M_doesFit_9 : decode prog_14_method_58_code 9 = .ok (.istore 5, 2) := by decide +kernel
theorem d_M_doesFit_11 : decode prog_14_method_58_code 11 = .ok (.aload_n 0, 1) := by decide +kernel
theorem d_M_doesFit_12 : decode prog_14_method_58_code 12 = .ok (.getfield 35, 3) := by decide +kernel
theorem d_M_doesFit_15 : decode prog_14_method_58_code 15 = .ok (.iload_n 2, 1) := by decide +kernel
theorem d_M_doesFit_16 : decode prog_14_method_58_code 16 = .ok (.iload 4, 2) := by decide +kernel
theorem d_M_doesFit_18 : decode prog_14_method_58_code 18 = .ok (.iadd, 1) := by decide +kernel
theorem d_M_doesFit_19 : decode prog_14_method_58_code 19 = .ok (.laload, 1) := by decide +kernel
theorem d_M_doesFit_20 : decode prog_14_method_58_code 20 = .ok (.lstore 6, 2) := by decide +kernel
theorem d_M_doesFit_22 : decode prog_14_method_58_code 22 = .ok (.aload_n 0, 1) := by decide +kernel
theorem d_M_doesFit_23 : decode prog_14_method_58_code 23 = .ok (.getfield 51, 3) := by decide +kernel
theorem d_M_doesFit_26 : decode prog_14_method_58_code 26 = .ok (.getfield 304, 3) := by decide +kernel
theorem d_M_doesFit_29 : decode prog_14_method_58_code 29 = .ok (.iload_n 1, 1) := by decide +kernel
theorem d_M_doesFit_30 : decode prog_14_method_58_code 30 = .ok (.iaload, 1) := by decide +kernel
theorem d_M_doesFit_31 : decode prog_14_method_58_code 31 = .ok (.iconst 1, 1) := by decide +kernel
theorem d_M_doesFit_32 : decode prog_14_method_58_code 32 = .ok (.if_icmp .ne 43, 3) := by decide +kernel
theorem d_M_doesFit_75 : decode prog_14_method_58_code 75 = .ok (.aload_n 0, 1) := by decide +kernel
theorem d_M_doesFit_76 : decode prog_14_method_58_code 76 = .ok (.getfield 51, 3) := by decide +kernel
theorem d_M_doesFit_79 : decode prog_14_method_58_code 79 = .ok (.getfield 337, 3) := by decide +kernel
theorem d_M_doesFit_82 : decode prog_14_method_58_code 82 = .ok (.iload_n 1, 1) := by decide +kernel
theorem d_M_doesFit_83 : decode prog_14_method_58_code 83 = .ok (.iaload, 1) := by decide +kernel
theorem d_M_doesFit_84 : decode prog_14_method_58_code 84 = .ok (.iconst 2, 1) := by decide +kernel
theorem d_M_doesFit_85 : decode prog_14_method_58_code 85 = .ok (.if_icmp .ge 38, 3) := by decide +kernel
theorem d_M_doesFit_123 : decode prog_14_method_58_code 123 = .ok (.iload 5, 2) := by decide +kernel
theorem d_M_doesFit_125 : decode prog_14_method_58_code 125 = .ok (.istore 8, 2) := by decide +kernel
theorem d_M_doesFit_88 : decode prog_14_method_58_code 88 = .ok (.aload_n 0, 1) := by decide +kernel
theorem d_M_doesFit_89 : decode prog_14_method_58_code 89 = .ok (.getfield 51, 3) := by decide +kernel
theorem d_M_doesFit_92 : decode prog_14_method_58_code 92 = .ok (.getfield 337, 3) := by decide +kernel
theorem d_M_doesFit_95 : decode prog_14_method_58_code 95 = .ok (.iload_n 1, 1) := by decide +kernel
theorem d_M_doesFit_96 : decode prog_14_method_58_code 96 = .ok (.iaload, 1) := by decide +kernel
theorem d_M_doesFit_97 : decode prog_14_method_58_code 97 = .ok (.iconst 1, 1) := by decide +kernel
theorem d_M_doesFit_98 : decode prog_14_method_58_code 98 = .ok (.if_icmp .ne 23, 3) := by decide +kernel
theorem d_M_doesFit_121 : decode prog_14_method_58_code 121 = .ok (.iconst 0, 1) := by decide +kernel
theorem d_M_doesFit_122 : decode prog_14_method_58_code 122 = .ok (.ireturn, 1) := by decide +kernel
theorem d_M_doesFit_101 : decode prog_14_method_58_code 101 = .ok (.lload 6, 2) := by decide +kernel
theorem d_M_doesFit_103 : decode prog_14_method_58_code 103 = .ok (.aload_n 0, 1) := by decide +kernel
theorem d_M_doesFit_104 : decode prog_14_method_58_code 104 = .ok (.getfield 51, 3) := by decide +kernel
theorem d_M_doesFit_107 : decode prog_14_method_58_code 107 = .ok (.getfield 319, 3) := by decide +kernel
theorem d_M_doesFit_110 : decode prog_14_method_58_code 110 = .ok (.iload 5, 2) := by decide +kernel
theorem d_M_doesFit_112 : decode prog_14_method_58_code 112 = .ok (.laload, 1) := by decide +kernel
theorem d_M_doesFit_113 : decode prog_14_method_58_code 113 = .ok (.lcmp, 1) := by decide +kernel
theorem d_M_doesFit_114 : decode prog_14_method_58_code 114 = .ok (.ifCond .ne 7, 3) := by decide +kernel
theorem d_M_doesFit_117 : decode prog_14_method_58_code 117 = .ok (.iconst 1, 1) := by decide +kernel
theorem d_M_doesFit_118 : decode prog_14_method_58_code 118 = .ok (.goto 4, 3) := by decide +kernel
theorem d_M_doesFit_35 : decode prog_14_method_58_code 35 = .ok (.lload 6, 2) := by decide +kernel
theorem d_M_doesFit_37 : decode prog_14_method_58_code 37 = .ok (.aload_n 0, 1) := by decide +kernel
theorem d_M_doesFit_38 : decode prog_14_method_58_code 38 = .ok (.getfield 51, 3) := by decide +kernel
theorem d_M_doesFit_41 : decode prog_14_method_58_code 41 = .ok (.getfield 319, 3) := by decide +kernel
theorem d_M_doesFit_44 : decode prog_14_method_58_code 44 = .ok (.iload 5, 2) := by decide +kernel
theorem d_M_doesFit_46 : decode prog_14_method_58_code 46 = .ok (.laload, 1) := by decide +kernel
theorem d_M_doesFit_47 : decode prog_14_method_58_code 47 = .ok (.lcmp, 1) := by decide +kernel
theorem d_M_doesFit_48 : decode prog_14_method_58_code 48 = .ok (.ifCond .lt 25, 3) := by decide +kernel
theorem d_M_doesFit_73 : decode prog_14_method_58_code 73 = .ok (.iconst 0, 1) := by decide +kernel
theorem d_M_doesFit_74 : decode prog_14_method_58_code 74 = .ok (.ireturn, 1) := by decide +kernel
theorem d_M_doesFit_51 : decode prog_14_method_58_code 51 = .ok (.lload 6, 2) := by decide +kernel
theorem d_M_doesFit_53 : decode prog_14_method_58_code 53 = .ok (.aload_n 0, 1) := by decide +kernel
theorem d_M_doesFit_54 : decode prog_14_method_58_code 54 = .ok (.getfield 51, 3) := by decide +kernel
theorem d_M_doesFit_57 : decode prog_14_method_58_code 57 = .ok (.getfield 319, 3) := by decide +kernel
theorem d_M_doesFit_60 : decode prog_14_method_58_code 60 = .ok (.iload 5, 2) := by decide +kernel
theorem d_M_doesFit_62 : decode prog_14_method_58_code 62 = .ok (.iconst 1, 1) := by decide +kernel
theorem d_M_doesFit_63 : decode prog_14_method_58_code 63 = .ok (.iadd, 1) := by decide +kernel
theorem d_M_doesFit_64 : decode prog_14_method_58_code 64 = .ok (.laload, 1) := by decide +kernel
theorem d_M_doesFit_65 : decode prog_14_method_58_code 65 = .ok (.lcmp, 1) := by decide +kernel
theorem d_M_doesFit_66 : decode prog_14_method_58_code 66 = .ok (.ifCond .ge 7, 3) := by decide +kernel
theorem d_M_doesFit_69 : decode prog_14_method_58_code 69 = .ok (.iconst 1, 1) := by decide +kernel
theorem d_M_doesFit_70 : decode prog_14_method_58_code 70 = .ok (.goto 4, 3) := by decide +kernel
theorem v_M_doesFit_0 {G : XG} {d : Nat} {h : XH} {Q : XV → XH → Prop} {X : Nat → XH → Prop} {x1 x2 x3 x4 : Int} (F : xFix h) (hyp : xtg h (xpl h 53 19) = 12 ∧ xtg h (xpl h (xpl h 53 19) 6) = 100 ∧ 0 ≤ x1 ∧ x1 < (xln h (xpl h (xpl h 53 19) 6)) ∧ xiR (x2 + x4) ∧ 0 ≤ (x2 + x4) ∧ (x2 + x4) < 12000 ∧ xtg h (xpl h (xpl h 53 19) 5) = 100 ∧ x1 < (xln h (xpl h (xpl h 53 19) 5)) ∧ (((xpl h (xpl h (xpl h 53 19) 5) x1) = 1 → xtg h (xpl h (xpl h 53 19) 11) = 101 ∧ 0 ≤ (xpl h (xpl h (xpl h 53 19) 6) x1) ∧ (xpl h (xpl h (xpl h 53 19) 6) x1) < (xln h (xpl h (xpl h 53 19) 11)) ∧ (((xpl h 62 (x2 + x4)) < (xpl h (xpl h (xpl h 53 19) 11) (xpl h (xpl h (xpl h 53 19) 6) x1)) → (Q (xI 0) h)) ∧ (¬ (xpl h 62 (x2 + x4)) < (xpl h (xpl h (xpl h 53 19) 11) (xpl h (xpl h (xpl h 53 19) 6) x1)) → xiR ((xpl h (xpl h (xpl h 53 19) 6) x1) + 1) ∧ ((xpl h (xpl h (xpl h 53 19) 6) x1) + 1) < (xln h (xpl h (xpl h 53 19) 11)) ∧ (((xpl h (xpl h (xpl h 53 19) 11) ((xpl h (xpl h (xpl h 53 19) 6) x1) + 1)) ≤ (xpl h 62 (x2 + x4)) → (Q (xI 0) h)) ∧ (¬ (xpl h (xpl h (xpl h 53 19) 11) ((xpl h (xpl h (xpl h 53 19) 6) x1) + 1)) ≤ (xpl h 62 (x2 + x4)) → (Q (xI 1) h)))))) ∧ (¬ (xpl h (xpl h (xpl h 53 19) 5) x1) = 1 → xtg h (xpl h (xpl h 53 19) 7) = 100 ∧ x1 < (xln h (xpl h (xpl h 53 19) 7)) ∧ (((2 : Int) ≤ (xpl h (xpl h (xpl h 53 19) 7) x1) → (xwp G m_M_doesFit (d + 1) 127 [xR 53, xI x1, xI x2, xI x3, xI x4, xI (xpl h (xpl h (xpl h 53 19) 6) x1), xZ, xZ, xI (xpl h (xpl h (xpl h 53 19) 6) x1), xZ] [] h Q X)) ∧ (¬ (2 : Int) ≤ (xpl h (xpl h (xpl h 53 19) 7) x1) → (((xpl h (xpl h (xpl h 53 19) 7) x1) = 1 → xtg h (xpl h (xpl h 53 19) 11) = 101 ∧ 0 ≤ (xpl h (xpl h (xpl h 53 19) 6) x1) ∧ (xpl h (xpl h (xpl h 53 19) 6) x1) < (xln h (xpl h (xpl h 53 19) 11)) ∧ (((xpl h 62 (x2 + x4)) = (xpl h (xpl h (xpl h 53 19) 11) (xpl h (xpl h (xpl h 53 19) 6) x1)) → (Q (xI 1) h)) ∧ (¬ (xpl h 62 (x2 + x4)) = (xpl h (xpl h (xpl h 53 19) 11) (xpl h (xpl h (xpl h 53 19) 6) x1)) → (Q (xI 0) h)))) ∧ (¬ (xpl h (xpl h (xpl h 53 19) 7) x1) = 1 → (Q (xI 0) h)))))))) : xwp G m_M_doesFit (d + 1) 0 [xR 53, xI x1, xI x2, xI x3, xI x4, xZ, xZ, xZ, xZ, xZ] [] h Q X := by
  have hnx9 : (93 : Int) ≤ xnx h := F.2.2
  refine xr_okL (fun hl9 => ?_)
  have r_x1 : -2147483648 ≤ x1 ∧ x1 ≤ 2147483647 := hl9 (xI x1) (.tail _ (.head _)) (Nat.le_of_ble_eq_true rfl)
  have r_x2 : -2147483648 ≤ x2 ∧ x2 ≤ 2147483647 := hl9 (xI x2) (.tail _ (.tail _ (.head _))) (Nat.le_of_ble_eq_true rfl)
  have r_x3 : -2147483648 ≤ x3 ∧ x3 ≤ 2147483647 := hl9 (xI x3) (.tail _ (.tail _ (.tail _ (.head _)))) (Nat.le_of_ble_eq_true rfl)
  have r_x4 : -2147483648 ≤ x4 ∧ x4 ≤ 2147483647 := hl9 (xI x4) (.tail _ (.tail _ (.tail _ (.tail _ (.head _))))) (Nat.le_of_ble_eq_true rfl)
  refine xr_aload_n (pc := 0) (i := 0) (hI := d_M_doesFit_0) (hi := rfl) (hl := rfl) ?_
  refine xg_getf (pc := 1) (ci := 11) (k := 19) (N := 38) (v9 := 2) (v := (xpl h 53 19)) (T := xF11) (hI := d_M_doesFit_1) (hw := w_1606) rfl xi11 (Or.inl rfl) (Nat.le_of_ble_eq_true rfl) (Nat.le_of_ble_eq_true rfl) rfl (ft_53 F) rfl (fun f1_ => ?_)
  clear f1_
  obtain ⟨c9, hyp⟩ := hyp
  have t2_ := c9
  clear c9
  refine xg_getfN (pc := 4) (ci := 12) (k := 6) (N := 13) (v9 := 2) (v := (xpl h (xpl h 53 19) 6)) (T := xF12) (hI := d_M_doesFit_4) (hw := w_1548) rfl xi12 (Or.inl rfl) (Nat.le_of_ble_eq_true rfl) (Nat.le_of_ble_eq_true rfl) rfl t2_ rfl (fun f3_ => ?_)
  clear f3_
  refine xr_iload_n (pc := 7) (i := 1) (hI := d_M_doesFit_7) (hi := rfl) (hl := rfl) ?_
  obtain ⟨c9, hyp⟩ := hyp
  have t4_ := c9
  clear c9
  obtain ⟨c5_, hyp⟩ := hyp
  obtain ⟨c6_, hyp⟩ := hyp
  refine xg_iaload (pc := 8) (v := (xpl h (xpl h (xpl h 53 19) 6) x1)) (hI := d_M_doesFit_8) t4_ c5_ (xlt_of rfl c6_) rfl (fun f7_ => ?_)
  replace f7_ : -2147483648 ≤ (xpl h (xpl h (xpl h 53 19) 6) x1) ∧ (xpl h (xpl h (xpl h 53 19) 6) x1) ≤ 2147483647 := f7_
  refine xr_istore (pc := 9) (i := 5) (L9 := [xR 53, xI x1, xI x2, xI x3, xI x4, xI (xpl h (xpl h (xpl h 53 19) 6) x1), xZ, xZ, xZ, xZ]) (hI := d_M_doesFit_9) (hn := Nat.le_of_ble_eq_true rfl) (hL9 := rfl) ?_
  refine xr_aload_n (pc := 11) (i := 0) (hI := d_M_doesFit_11) (hi := rfl) (hl := rfl) ?_
  refine xg_getf (pc := 12) (ci := 11) (k := 13) (N := 38) (v9 := 2) (v := 62) (T := xF11) (hI := d_M_doesFit_12) (hw := w_1600) rfl xi11 (Or.inl rfl) (Nat.le_of_ble_eq_true rfl) (Nat.le_of_ble_eq_true rfl) rfl (ft_53 F) (fp_53_13 F) (fun f8_ => ?_)
  clear f8_
  refine xr_iload_n (pc := 15) (i := 2) (hI := d_M_doesFit_15) (hi := rfl) (hl := rfl) ?_
  refine xr_iload (pc := 16) (i := 4) (hI := d_M_doesFit_16) (hl := rfl) ?_
  obtain ⟨c9, hyp⟩ := hyp
  refine xr_iadd (pc := 18) (hI := d_M_doesFit_18) (hr := c9) ?_
  obtain ⟨c9_, hyp⟩ := hyp
  obtain ⟨c10_, hyp⟩ := hyp
  refine xg_laload (pc := 19) (v := (xpl h 62 (x2 + x4))) (hI := d_M_doesFit_19) (ft_62 F) c9_ (xlt_of (fl_62 F) c10_) rfl (fun f11_ => ?_)
  replace f11_ : -9223372036854775808 ≤ (xpl h 62 (x2 + x4)) ∧ (xpl h 62 (x2 + x4)) ≤ 9223372036854775807 := f11_
  refine xr_lstore (pc := 20) (i := 6) (L9 := [xR 53, xI x1, xI x2, xI x3, xI x4, xI (xpl h (xpl h (xpl h 53 19) 6) x1), xL (xpl h 62 (x2 + x4)), xZ, xZ, xZ]) (hI := d_M_doesFit_20) (hn := Nat.le_of_ble_eq_true rfl) (hL9 := rfl) ?_
  refine xr_aload_n (pc := 22) (i := 0) (hI := d_M_doesFit_22) (hi := rfl) (hl := rfl) ?_
  refine xg_getf (pc := 23) (ci := 11) (k := 19) (N := 38) (v9 := 2) (v := (xpl h 53 19)) (T := xF11) (hI := d_M_doesFit_23) (hw := w_1606) rfl xi11 (Or.inl rfl) (Nat.le_of_ble_eq_true rfl) (Nat.le_of_ble_eq_true rfl) rfl (ft_53 F) rfl (fun f12_ => ?_)
  clear f12_
  refine xg_getfN (pc := 26) (ci := 12) (k := 5) (N := 13) (v9 := 2) (v := (xpl h (xpl h 53 19) 5)) (T := xF12) (hI := d_M_doesFit_26) (hw := w_1546) rfl xi12 (Or.inl rfl) (Nat.le_of_ble_eq_true rfl) (Nat.le_of_ble_eq_true rfl) rfl t2_ rfl (fun f13_ => ?_)
  clear f13_
  refine xr_iload_n (pc := 29) (i := 1) (hI := d_M_doesFit_29) (hi := rfl) (hl := rfl) ?_
  obtain ⟨c9, hyp⟩ := hyp
  have t14_ := c9
  clear c9
  obtain ⟨c15_, hyp⟩ := hyp
  refine xg_iaload (pc := 30) (v := (xpl h (xpl h (xpl h 53 19) 5) x1)) (hI := d_M_doesFit_30) t14_ (by clear hyp; omega) (xlt_of rfl c15_) rfl (fun f16_ => ?_)
  replace f16_ : -2147483648 ≤ (xpl h (xpl h (xpl h 53 19) 5) x1) ∧ (xpl h (xpl h (xpl h 53 19) 5) x1) ≤ 2147483647 := f16_
  refine xr_iconst (pc := 31) (hI := d_M_doesFit_31) (hr := by decide) ?_
  refine xr_icmp_ne (pc := 32) (tgt := 75) (hI := d_M_doesFit_32) (ht := by decide) (fun q9 => ?_) (fun q9 => ?_)
  · replace hyp := hyp.2 q9
    have q17_ := q9
    clear q9
    refine xr_aload_n (pc := 75) (i := 0) (hI := d_M_doesFit_75) (hi := rfl) (hl := rfl) ?_
    refine xg_getf (pc := 76) (ci := 11) (k := 19) (N := 38) (v9 := 2) (v := (xpl h 53 19)) (T := xF11) (hI := d_M_doesFit_76) (hw := w_1606) rfl xi11 (Or.inl rfl) (Nat.le_of_ble_eq_true rfl) (Nat.le_of_ble_eq_true rfl) rfl (ft_53 F) rfl (fun f18_ => ?_)
    clear f18_
    refine xg_getfN (pc := 79) (ci := 12) (k := 7) (N := 13) (v9 := 2) (v := (xpl h (xpl h 53 19) 7)) (T := xF12) (hI := d_M_doesFit_79) (hw := w_1550) rfl xi12 (Or.inl rfl) (Nat.le_of_ble_eq_true rfl) (Nat.le_of_ble_eq_true rfl) rfl t2_ rfl (fun f19_ => ?_)
    clear f19_
    refine xr_iload_n (pc := 82) (i := 1) (hI := d_M_doesFit_82) (hi := rfl) (hl := rfl) ?_
    obtain ⟨c9, hyp⟩ := hyp
    have t20_ := c9
    clear c9
    obtain ⟨c21_, hyp⟩ := hyp
    refine xg_iaload (pc := 83) (v := (xpl h (xpl h (xpl h 53 19) 7) x1)) (hI := d_M_doesFit_83) t20_ (by clear hyp; omega) (xlt_of rfl c21_) rfl (fun f22_ => ?_)
    replace f22_ : -2147483648 ≤ (xpl h (xpl h (xpl h 53 19) 7) x1) ∧ (xpl h (xpl h (xpl h 53 19) 7) x1) ≤ 2147483647 := f22_
    refine xr_iconst (pc := 84) (hI := d_M_doesFit_84) (hr := by decide) ?_
    refine xr_icmp_ge (pc := 85) (tgt := 123) (hI := d_M_doesFit_85) (ht := by decide) (fun q9 => ?_) (fun q9 => ?_)
    · replace hyp := hyp.1 q9
      have q23_ := q9
      clear q9
      refine xr_iload (pc := 123) (i := 5) (hI := d_M_doesFit_123) (hl := rfl) ?_
      refine xr_istore (pc := 125) (i := 8) (L9 := [xR 53, xI x1, xI x2, xI x3, xI x4, xI (xpl h (xpl h (xpl h 53 19) 6) x1), xL (xpl h 62 (x2 + x4)), xZ, xI (xpl h (xpl h (xpl h 53 19) 6) x1), xZ]) (hI := d_M_doesFit_125) (hn := Nat.le_of_ble_eq_true rfl) (hL9 := rfl) ?_
      exact xr_drop (L9 := [xR 53, xI x1, xI x2, xI x3, xI x4, xI (xpl h (xpl h (xpl h 53 19) 6) x1), xZ, xZ, xI (xpl h (xpl h (xpl h 53 19) 6) x1), xZ]) (xdrs (xdrs (xdrs (xdrs (xdrs (xdrs (xdrz (xdrs (xdrs (xdrs xdr0)))))))))) hyp
    · replace hyp := hyp.2 q9
      have q23_ := q9
      clear q9
      refine xr_aload_n (pc := 88) (i := 0) (hI := d_M_doesFit_88) (hi := rfl) (hl := rfl) ?_
      refine xg_getf (pc := 89) (ci := 11) (k := 19) (N := 38) (v9 := 2) (v := (xpl h 53 19)) (T := xF11) (hI := d_M_doesFit_89) (hw := w_1606) rfl xi11 (Or.inl rfl) (Nat.le_of_ble_eq_true rfl) (Nat.le_of_ble_eq_true rfl) rfl (ft_53 F) rfl (fun f24_ => ?_)
      clear f24_
      refine xg_getfN (pc := 92) (ci := 12) (k := 7) (N := 13) (v9 := 2) (v := (xpl h (xpl h 53 19) 7)) (T := xF12) (hI := d_M_doesFit_92) (hw := w_1550) rfl xi12 (Or.inl rfl) (Nat.le_of_ble_eq_true rfl) (Nat.le_of_ble_eq_true rfl) rfl t2_ rfl (fun f25_ => ?_)
      clear f25_
      refine xr_iload_n (pc := 95) (i := 1) (hI := d_M_doesFit_95) (hi := rfl) (hl := rfl) ?_
      refine xg_iaload (pc := 96) (v := (xpl h (xpl h (xpl h 53 19) 7) x1)) (hI := d_M_doesFit_96) t20_ (by clear hyp; omega) (xlt_of rfl (by clear hyp; omega)) rfl (fun f26_ => ?_)
      replace f26_ : -2147483648 ≤ (xpl h (xpl h (xpl h 53 19) 7) x1) ∧ (xpl h (xpl h (xpl h 53 19) 7) x1) ≤ 2147483647 := f26_
      refine xr_iconst (pc := 97) (hI := d_M_doesFit_97) (hr := by decide) ?_
      refine xr_icmp_ne (pc := 98) (tgt := 121) (hI := d_M_doesFit_98) (ht := by decide) (fun q9 => ?_) (fun q9 => ?_)
      · replace hyp := hyp.2 q9
        have q27_ := q9
        clear q9
        refine xr_iconst (pc := 121) (hI := d_M_doesFit_121) (hr := by decide) ?_
        refine xr_ireturnT (S := []) (pc := 122) (hI := d_M_doesFit_122) (hr := rfl) (xnar_z (by decide)) ?_
        exact hyp
      · replace hyp := hyp.1 q9
        have q27_ := q9
        clear q9
        refine xr_lload (pc := 101) (i := 6) (hI := d_M_doesFit_101) (hl := rfl) ?_
        refine xr_aload_n (pc := 103) (i := 0) (hI := d_M_doesFit_103) (hi := rfl) (hl := rfl) ?_
        refine xg_getf (pc := 104) (ci := 11) (k := 19) (N := 38) (v9 := 2) (v := (xpl h 53 19)) (T := xF11) (hI := d_M_doesFit_104) (hw := w_1606) rfl xi11 (Or.inl rfl) (Nat.le_of_ble_eq_true rfl) (Nat.le_of_ble_eq_true rfl) rfl (ft_53 F) rfl (fun f28_ => ?_)
        clear f28_
        refine xg_getfN (pc := 107) (ci := 12) (k := 11) (N := 13) (v9 := 2) (v := (xpl h (xpl h 53 19) 11)) (T := xF12) (hI := d_M_doesFit_107) (hw := w_1557) rfl xi12 (Or.inl rfl) (Nat.le_of_ble_eq_true rfl) (Nat.le_of_ble_eq_true rfl) rfl t2_ rfl (fun f29_ => ?_)
        clear f29_
        refine xr_iload (pc := 110) (i := 5) (hI := d_M_doesFit_110) (hl := rfl) ?_
        obtain ⟨c9, hyp⟩ := hyp
        have t30_ := c9
        clear c9
        obtain ⟨c31_, hyp⟩ := hyp
        obtain ⟨c32_, hyp⟩ := hyp
        refine xg_laload (pc := 112) (v := (xpl h (xpl h (xpl h 53 19) 11) (xpl h (xpl h (xpl h 53 19) 6) x1))) (hI := d_M_doesFit_112) t30_ c31_ (xlt_of rfl c32_) rfl (fun f33_ => ?_)
        replace f33_ : -9223372036854775808 ≤ (xpl h (xpl h (xpl h 53 19) 11) (xpl h (xpl h (xpl h 53 19) 6) x1)) ∧ (xpl h (xpl h (xpl h 53 19) 11) (xpl h (xpl h (xpl h 53 19) 6) x1)) ≤ 9223372036854775807 := f33_
        refine xr_lcmp (pc := 113) (hI := d_M_doesFit_113) ?_
        refine xg_lif_ne (pc := 114) (tgt := 121) (hI := d_M_doesFit_114) (ht := by decide) (fun q9 => ?_) (fun q9 => ?_)
        · replace hyp := hyp.2 q9
          have q34_ := q9
          clear q9
          refine xr_iconst (pc := 121) (hI := d_M_doesFit_121) (hr := by decide) ?_
          refine xr_ireturnT (S := []) (pc := 122) (hI := d_M_doesFit_122) (hr := rfl) (xnar_z (by decide)) ?_
          exact hyp
        · replace hyp := hyp.1 q9
          have q34_ := q9
          clear q9
          refine xr_iconst (pc := 117) (hI := d_M_doesFit_117) (hr := by decide) ?_
          refine xr_goto (pc := 118) (tgt := 122) (hI := d_M_doesFit_118) (ht := by decide) ?_
          refine xr_ireturnT (S := []) (pc := 122) (hI := d_M_doesFit_122) (hr := rfl) (xnar_z (by decide)) ?_
          exact hyp
  · replace hyp := hyp.1 q9
    have q17_ := q9
    clear q9
    refine xr_lload (pc := 35) (i := 6) (hI := d_M_doesFit_35) (hl := rfl) ?_
    refine xr_aload_n (pc := 37) (i := 0) (hI := d_M_doesFit_37) (hi := rfl) (hl := rfl) ?_
    refine xg_getf (pc := 38) (ci := 11) (k := 19) (N := 38) (v9 := 2) (v := (xpl h 53 19)) (T := xF11) (hI := d_M_doesFit_38) (hw := w_1606) rfl xi11 (Or.inl rfl) (Nat.le_of_ble_eq_true rfl) (Nat.le_of_ble_eq_true rfl) rfl (ft_53 F) rfl (fun f35_ => ?_)
    clear f35_
    refine xg_getfN (pc := 41) (ci := 12) (k := 11) (N := 13) (v9 := 2) (v := (xpl h (xpl h 53 19) 11)) (T := xF12) (hI := d_M_doesFit_41) (hw := w_1557) rfl xi12 (Or.inl rfl) (Nat.le_of_ble_eq_true rfl) (Nat.le_of_ble_eq_true rfl) rfl t2_ rfl (fun f36_ => ?_)
    clear f36_
    refine xr_iload (pc := 44) (i := 5) (hI := d_M_doesFit_44) (hl := rfl) ?_
    obtain ⟨c9, hyp⟩ := hyp
    have t37_ := c9
    clear c9
    obtain ⟨c38_, hyp⟩ := hyp
    obtain ⟨c39_, hyp⟩ := hyp
    refine xg_laload (pc := 46) (v := (xpl h (xpl h (xpl h 53 19) 11) (xpl h (xpl h (xpl h 53 19) 6) x1))) (hI := d_M_doesFit_46) t37_ c38_ (xlt_of rfl c39_) rfl (fun f40_ => ?_)
    replace f40_ : -9223372036854775808 ≤ (xpl h (xpl h (xpl h 53 19) 11) (xpl h (xpl h (xpl h 53 19) 6) x1)) ∧ (xpl h (xpl h (xpl h 53 19) 11) (xpl h (xpl h (xpl h 53 19) 6) x1)) ≤ 9223372036854775807 := f40_
    refine xr_lcmp (pc := 47) (hI := d_M_doesFit_47) ?_
    refine xg_lif_lt (pc := 48) (tgt := 73) (hI := d_M_doesFit_48) (ht := by decide) (fun q9 => ?_) (fun q9 => ?_)
    · replace hyp := hyp.1 q9
      have q41_ := q9
      clear q9
      refine xr_iconst (pc := 73) (hI := d_M_doesFit_73) (hr := by decide) ?_
      refine xr_ireturnT (S := []) (pc := 74) (hI := d_M_doesFit_74) (hr := rfl) (xnar_z (by decide)) ?_
      exact hyp
    · replace hyp := hyp.2 q9
      have q41_ := q9
      clear q9
      refine xr_lload (pc := 51) (i := 6) (hI := d_M_doesFit_51) (hl := rfl) ?_
      refine xr_aload_n (pc := 53) (i := 0) (hI := d_M_doesFit_53) (hi := rfl) (hl := rfl) ?_
      refine xg_getf (pc := 54) (ci := 11) (k := 19) (N := 38) (v9 := 2) (v := (xpl h 53 19)) (T := xF11) (hI := d_M_doesFit_54) (hw := w_1606) rfl xi11 (Or.inl rfl) (Nat.le_of_ble_eq_true rfl) (Nat.le_of_ble_eq_true rfl) rfl (ft_53 F) rfl (fun f42_ => ?_)
      clear f42_
      refine xg_getfN (pc := 57) (ci := 12) (k := 11) (N := 13) (v9 := 2) (v := (xpl h (xpl h 53 19) 11)) (T := xF12) (hI := d_M_doesFit_57) (hw := w_1557) rfl xi12 (Or.inl rfl) (Nat.le_of_ble_eq_true rfl) (Nat.le_of_ble_eq_true rfl) rfl t2_ rfl (fun f43_ => ?_)
      clear f43_
      refine xr_iload (pc := 60) (i := 5) (hI := d_M_doesFit_60) (hl := rfl) ?_
      refine xr_iconst (pc := 62) (hI := d_M_doesFit_62) (hr := by decide) ?_
      obtain ⟨c9, hyp⟩ := hyp
      refine xr_iadd (pc := 63) (hI := d_M_doesFit_63) (hr := c9) ?_
      obtain ⟨c44_, hyp⟩ := hyp
      refine xg_laload (pc := 64) (v := (xpl h (xpl h (xpl h 53 19) 11) ((xpl h (xpl h (xpl h 53 19) 6) x1) + 1))) (hI := d_M_doesFit_64) t37_ (by clear hyp; omega) (xlt_of rfl c44_) rfl (fun f45_ => ?_)
      replace f45_ : -9223372036854775808 ≤ (xpl h (xpl h (xpl h 53 19) 11) ((xpl h (xpl h (xpl h 53 19) 6) x1) + 1)) ∧ (xpl h (xpl h (xpl h 53 19) 11) ((xpl h (xpl h (xpl h 53 19) 6) x1) + 1)) ≤ 9223372036854775807 := f45_
      refine xr_lcmp (pc := 65) (hI := d_M_doesFit_65) ?_
      refine xg_lif_ge (pc := 66) (tgt := 73) (hI := d_M_doesFit_66) (ht := by decide) (fun q9 => ?_) (fun q9 => ?_)
      · replace hyp := hyp.1 q9
        have q46_ := q9
        clear q9
        refine xr_iconst (pc := 73) (hI := d_M_doesFit_73) (hr := by decide) ?_
        refine xr_ireturnT (S := []) (pc := 74) (hI := d_M_doesFit_74) (hr := rfl) (xnar_z (by decide)) ?_
        exact hyp
      · replace hyp := hyp.2 q9
        have q46_ := q9
        clear q9
        refine xr_iconst (pc := 69) (hI := d_M_doesFit_69) (hr := by decide) ?_
        refine xr_goto (pc := 70) (tgt := 74) (hI := d_M_doesFit_70) (ht := by decide) ?_
        refine xr_ireturnT (S := []) (pc := 74) (hI := d_M_doesFit_74) (hr := rfl) (xnar_z (by decide)) ?_
        exact hyp
theorem d_M_doesFit_127 : decode prog_14_method_58_code 127 = .ok (.iload 8, 2) := by decide +kernel
theorem d_M_doesFit_129 : decode prog_14_method_58_code 129 = .ok (.iload 5, 2) := by decide +kernel
theorem d_M_doesFit_131 : decode prog_14_method_58_code 131 = .ok (.aload_n 0, 1) := by decide +kernel
theorem d_M_doesFit_132 : decode prog_14_method_58_code 132 = .ok (.getfield 51, 3) := by decide +kernel
theorem d_M_doesFit_135 : decode prog_14_method_58_code 135 = .ok (.getfield 337, 3) := by decide +kernel
theorem d_M_doesFit_138 : decode prog_14_method_58_code 138 = .ok (.iload_n 1, 1) := by decide +kernel
theorem d_M_doesFit_139 : decode prog_14_method_58_code 139 = .ok (.iaload, 1) := by decide +kernel
theorem d_M_doesFit_140 : decode prog_14_method_58_code 140 = .ok (.iadd, 1) := by decide +kernel
theorem d_M_doesFit_141 : decode prog_14_method_58_code 141 = .ok (.if_icmp .ge 55, 3) := by decide +kernel
theorem d_M_doesFit_196 : decode prog_14_method_58_code 196 = .ok (.iconst 1, 1) := by decide +kernel
theorem d_M_doesFit_197 : decode prog_14_method_58_code 197 = .ok (.ireturn, 1) := by decide +kernel
theorem d_M_doesFit_144 : decode prog_14_method_58_code 144 = .ok (.iload 4, 2) := by decide +kernel
theorem d_M_doesFit_146 : decode prog_14_method_58_code 146 = .ok (.aload_n 0, 1) := by decide +kernel
theorem d_M_doesFit_147 : decode prog_14_method_58_code 147 = .ok (.getfield 51, 3) := by decide +kernel
theorem d_M_doesFit_150 : decode prog_14_method_58_code 150 = .ok (.getfield 321, 3) := by decide +kernel
theorem d_M_doesFit_153 : decode prog_14_method_58_code 153 = .ok (.iload 8, 2) := by decide +kernel
theorem d_M_doesFit_155 : decode prog_14_method_58_code 155 = .ok (.iaload, 1) := by decide +kernel
theorem d_M_doesFit_156 : decode prog_14_method_58_code 156 = .ok (.iadd, 1) := by decide +kernel
theorem d_M_doesFit_157 : decode prog_14_method_58_code 157 = .ok (.istore 9, 2) := by decide +kernel
theorem d_M_doesFit_159 : decode prog_14_method_58_code 159 = .ok (.iload 9, 2) := by decide +kernel
theorem d_M_doesFit_161 : decode prog_14_method_58_code 161 = .ok (.iload_n 3, 1) := by decide +kernel
theorem d_M_doesFit_162 : decode prog_14_method_58_code 162 = .ok (.if_icmp .ge 26, 3) := by decide +kernel
theorem d_M_doesFit_188 : decode prog_14_method_58_code 188 = .ok (.iconst 0, 1) := by decide +kernel
theorem d_M_doesFit_189 : decode prog_14_method_58_code 189 = .ok (.ireturn, 1) := by decide +kernel
theorem d_M_doesFit_165 : decode prog_14_method_58_code 165 = .ok (.aload_n 0, 1) := by decide +kernel
theorem d_M_doesFit_166 : decode prog_14_method_58_code 166 = .ok (.getfield 35, 3) := by decide +kernel
theorem d_M_doesFit_169 : decode prog_14_method_58_code 169 = .ok (.iload_n 2, 1) := by decide +kernel
theorem d_M_doesFit_170 : decode prog_14_method_58_code 170 = .ok (.iload 9, 2) := by decide +kernel
theorem d_M_doesFit_172 : decode prog_14_method_58_code 172 = .ok (.iadd, 1) := by decide +kernel
theorem d_M_doesFit_173 : decode prog_14_method_58_code 173 = .ok (.laload, 1) := by decide +kernel
theorem d_M_doesFit_174 : decode prog_14_method_58_code 174 = .ok (.aload_n 0, 1) := by decide +kernel
theorem d_M_doesFit_175 : decode prog_14_method_58_code 175 = .ok (.getfield 51, 3) := by decide +kernel
theorem d_M_doesFit_178 : decode prog_14_method_58_code 178 = .ok (.getfield 319, 3) := by decide +kernel
theorem d_M_doesFit_181 : decode prog_14_method_58_code 181 = .ok (.iload 8, 2) := by decide +kernel
theorem d_M_doesFit_183 : decode prog_14_method_58_code 183 = .ok (.laload, 1) := by decide +kernel
theorem d_M_doesFit_184 : decode prog_14_method_58_code 184 = .ok (.lcmp, 1) := by decide +kernel
theorem d_M_doesFit_185 : decode prog_14_method_58_code 185 = .ok (.ifCond .eq 5, 3) := by decide +kernel
theorem d_M_doesFit_190 : decode prog_14_method_58_code 190 = .ok (.iinc 8 1, 3) := by decide +kernel
theorem d_M_doesFit_193 : decode prog_14_method_58_code 193 = .ok (.goto (-66), 3) := by decide +kernel
theorem v_M_doesFit_127 {G : XG} {d : Nat} {h : XH} {Q : XV → XH → Prop} {X : Nat → XH → Prop} {x1 x2 x3 x4 x5 x8 : Int} (F : xFix h) (hyp : xtg h (xpl h 53 19) = 12 ∧ xtg h (xpl h (xpl h 53 19) 7) = 100 ∧ 0 ≤ x1 ∧ x1 < (xln h (xpl h (xpl h 53 19) 7)) ∧ xiR (x5 + (xpl h (xpl h (xpl h 53 19) 7) x1)) ∧ (((x5 + (xpl h (xpl h (xpl h 53 19) 7) x1)) ≤ x8 → (Q (xI 1) h)) ∧ (¬ (x5 + (xpl h (xpl h (xpl h 53 19) 7) x1)) ≤ x8 → xtg h (xpl h (xpl h 53 19) 12) = 100 ∧ 0 ≤ x8 ∧ x8 < (xln h (xpl h (xpl h 53 19) 12)) ∧ xiR (x4 + (xpl h (xpl h (xpl h 53 19) 12) x8)) ∧ ((x3 ≤ (x4 + (xpl h (xpl h (xpl h 53 19) 12) x8)) → (Q (xI 0) h)) ∧ (¬ x3 ≤ (x4 + (xpl h (xpl h (xpl h 53 19) 12) x8)) → xiR (x2 + (x4 + (xpl h (xpl h (xpl h 53 19) 12) x8))) ∧ 0 ≤ (x2 + (x4 + (xpl h (xpl h (xpl h 53 19) 12) x8))) ∧ (x2 + (x4 + (xpl h (xpl h (xpl h 53 19) 12) x8))) < 12000 ∧ xtg h (xpl h (xpl h 53 19) 11) = 101 ∧ x8 < (xln h (xpl h (xpl h 53 19) 11)) ∧ (((xpl h 62 (x2 + (x4 + (xpl h (xpl h (xpl h 53 19) 12) x8)))) = (xpl h (xpl h (xpl h 53 19) 11) x8) → (xwp G m_M_doesFit (d + 1) 127 [xR 53, xI x1, xI x2, xI x3, xI x4, xI x5, xZ, xZ, xI (x8 + 1), xZ] [] h Q X)) ∧ (¬ (xpl h 62 (x2 + (x4 + (xpl h (xpl h (xpl h 53 19) 12) x8)))) = (xpl h (xpl h (xpl h 53 19) 11) x8) → (Q (xI 0) h)))))))) : xwp G m_M_doesFit (d + 1) 127 [xR 53, xI x1, xI x2, xI x3, xI x4, xI x5, xZ, xZ, xI x8, xZ] [] h Q X := by
  have hnx9 : (93 : Int) ≤ xnx h := F.2.2
  refine xr_okL (fun hl9 => ?_)
  have r_x1 : -2147483648 ≤ x1 ∧ x1 ≤ 2147483647 := hl9 (xI x1) (.tail _ (.head _)) (Nat.le_of_ble_eq_true rfl)
  have r_x2 : -2147483648 ≤ x2 ∧ x2 ≤ 2147483647 := hl9 (xI x2) (.tail _ (.tail _ (.head _))) (Nat.le_of_ble_eq_true rfl)
  have r_x3 : -2147483648 ≤ x3 ∧ x3 ≤ 2147483647 := hl9 (xI x3) (.tail _ (.tail _ (.tail _ (.head _)))) (Nat.le_of_ble_eq_true rfl)
  have r_x4 : -2147483648 ≤ x4 ∧ x4 ≤ 2147483647 := hl9 (xI x4) (.tail _ (.tail _ (.tail _ (.tail _ (.head _))))) (Nat.le_of_ble_eq_true rfl)
  have r_x5 : -2147483648 ≤ x5 ∧ x5 ≤ 2147483647 := hl9 (xI x5) (.tail _ (.tail _ (.tail _ (.tail _ (.tail _ (.head _)))))) (Nat.le_of_ble_eq_true rfl)
  have r_x8 : -2147483648 ≤ x8 ∧ x8 ≤ 2147483647 := hl9 (xI x8) (.tail _ (.tail _ (.tail _ (.tail _ (.tail _ (.tail _ (.tail _ (.tail _ (.head _))))))))) (Nat.le_of_ble_eq_true rfl)
  refine xr_iload (pc := 127) (i := 8) (hI := d_M_doesFit_127) (hl := rfl) ?_
  refine xr_iload (pc := 129) (i := 5) (hI := d_M_doesFit_129) (hl := rfl) ?_
  refine xr_aload_n (pc := 131) (i := 0) (hI := d_M_doesFit_131) (hi := rfl) (hl := rfl) ?_
  refine xg_getf (pc := 132) (ci := 11) (k := 19) (N := 38) (v9 := 2) (v := (xpl h 53 19)) (T := xF11) (hI := d_M_doesFit_132) (hw := w_1606) rfl xi11 (Or.inl rfl) (Nat.le_of_ble_eq_true rfl) (Nat.le_of_ble_eq_true rfl) rfl (ft_53 F) rfl (fun f1_ => ?_)
  clear f1_
  obtain ⟨c9, hyp⟩ := hyp
  have t2_ := c9
  clear c9
  refine xg_getfN (pc := 135) (ci := 12) (k := 7) (N := 13) (v9 := 2) (v := (xpl h (xpl h 53 19) 7)) (T := xF12) (hI := d_M_doesFit_135) (hw := w_1550) rfl xi12 (Or.inl rfl) (Nat.le_of_ble_eq_true rfl) (Nat.le_of_ble_eq_true rfl) rfl t2_ rfl (fun f3_ => ?_)
  clear f3_
  refine xr_iload_n (pc := 138) (i := 1) (hI := d_M_doesFit_138) (hi := rfl) (hl := rfl) ?_
  obtain ⟨c9, hyp⟩ := hyp
  have t4_ := c9
  clear c9
  obtain ⟨c5_, hyp⟩ := hyp
  obtain ⟨c6_, hyp⟩ := hyp
  refine xg_iaload (pc := 139) (v := (xpl h (xpl h (xpl h 53 19) 7) x1)) (hI := d_M_doesFit_139) t4_ c5_ (xlt_of rfl c6_) rfl (fun f7_ => ?_)
  replace f7_ : -2147483648 ≤ (xpl h (xpl h (xpl h 53 19) 7) x1) ∧ (xpl h (xpl h (xpl h 53 19) 7) x1) ≤ 2147483647 := f7_
  obtain ⟨c9, hyp⟩ := hyp
  refine xr_iadd (pc := 140) (hI := d_M_doesFit_140) (hr := c9) ?_
  refine xr_icmp_ge (pc := 141) (tgt := 196) (hI := d_M_doesFit_141) (ht := by decide) (fun q9 => ?_) (fun q9 => ?_)
  · replace hyp := hyp.1 q9
    have q8_ := q9
    clear q9
    refine xr_iconst (pc := 196) (hI := d_M_doesFit_196) (hr := by decide) ?_
    refine xr_ireturnT (S := []) (pc := 197) (hI := d_M_doesFit_197) (hr := rfl) (xnar_z (by decide)) ?_
    exact hyp
  · replace hyp := hyp.2 q9
    have q8_ := q9
    clear q9
    refine xr_iload (pc := 144) (i := 4) (hI := d_M_doesFit_144) (hl := rfl) ?_
    refine xr_aload_n (pc := 146) (i := 0) (hI := d_M_doesFit_146) (hi := rfl) (hl := rfl) ?_
    refine xg_getf (pc := 147) (ci := 11) (k := 19) (N := 38) (v9 := 2) (v := (xpl h 53 19)) (T := xF11) (hI := d_M_doesFit_147) (hw := w_1606) rfl xi11 (Or.inl rfl) (Nat.le_of_ble_eq_true rfl) (Nat.le_of_ble_eq_true rfl) rfl (ft_53 F) rfl (fun f9_ => ?_)
    clear f9_
    refine xg_getfN (pc := 150) (ci := 12) (k := 12) (N := 13) (v9 := 2) (v := (xpl h (xpl h 53 19) 12)) (T := xF12) (hI := d_M_doesFit_150) (hw := w_1559) rfl xi12 (Or.inl rfl) (Nat.le_of_ble_eq_true rfl) (Nat.le_of_ble_eq_true rfl) rfl t2_ rfl (fun f10_ => ?_)
    clear f10_
    refine xr_iload (pc := 153) (i := 8) (hI := d_M_doesFit_153) (hl := rfl) ?_
    obtain ⟨c9, hyp⟩ := hyp
    have t11_ := c9
    clear c9
    obtain ⟨c12_, hyp⟩ := hyp
    obtain ⟨c13_, hyp⟩ := hyp
    refine xg_iaload (pc := 155) (v := (xpl h (xpl h (xpl h 53 19) 12) x8)) (hI := d_M_doesFit_155) t11_ c12_ (xlt_of rfl c13_) rfl (fun f14_ => ?_)
    replace f14_ : -2147483648 ≤ (xpl h (xpl h (xpl h 53 19) 12) x8) ∧ (xpl h (xpl h (xpl h 53 19) 12) x8) ≤ 2147483647 := f14_
    obtain ⟨c9, hyp⟩ := hyp
    refine xr_iadd (pc := 156) (hI := d_M_doesFit_156) (hr := c9) ?_
    refine xr_istore (pc := 157) (i := 9) (L9 := [xR 53, xI x1, xI x2, xI x3, xI x4, xI x5, xZ, xZ, xI x8, xI (x4 + (xpl h (xpl h (xpl h 53 19) 12) x8))]) (hI := d_M_doesFit_157) (hn := Nat.le_of_ble_eq_true rfl) (hL9 := rfl) ?_
    refine xr_iload (pc := 159) (i := 9) (hI := d_M_doesFit_159) (hl := rfl) ?_
    refine xr_iload_n (pc := 161) (i := 3) (hI := d_M_doesFit_161) (hi := rfl) (hl := rfl) ?_
    refine xr_icmp_ge (pc := 162) (tgt := 188) (hI := d_M_doesFit_162) (ht := by decide) (fun q9 => ?_) (fun q9 => ?_)
    · replace hyp := hyp.1 q9
      have q15_ := q9
      clear q9
      refine xr_iconst (pc := 188) (hI := d_M_doesFit_188) (hr := by decide) ?_
      refine xr_ireturnT (S := []) (pc := 189) (hI := d_M_doesFit_189) (hr := rfl) (xnar_z (by decide)) ?_
      exact hyp
    · replace hyp := hyp.2 q9
      have q15_ := q9
      clear q9
      refine xr_aload_n (pc := 165) (i := 0) (hI := d_M_doesFit_165) (hi := rfl) (hl := rfl) ?_
      refine xg_getf (pc := 166) (ci := 11) (k := 13) (N := 38) (v9 := 2) (v := 62) (T := xF11) (hI := d_M_doesFit_166) (hw := w_1600) rfl xi11 (Or.inl rfl) (Nat.le_of_ble_eq_true rfl) (Nat.le_of_ble_eq_true rfl) rfl (ft_53 F) (fp_53_13 F) (fun f16_ => ?_)
      clear f16_
      refine xr_iload_n (pc := 169) (i := 2) (hI := d_M_doesFit_169) (hi := rfl) (hl := rfl) ?_
      refine xr_iload (pc := 170) (i := 9) (hI := d_M_doesFit_170) (hl := rfl) ?_
      obtain ⟨c9, hyp⟩ := hyp
      refine xr_iadd (pc := 172) (hI := d_M_doesFit_172) (hr := c9) ?_
      obtain ⟨c17_, hyp⟩ := hyp
      obtain ⟨c18_, hyp⟩ := hyp
      refine xg_laload (pc := 173) (v := (xpl h 62 (x2 + (x4 + (xpl h (xpl h (xpl h 53 19) 12) x8))))) (hI := d_M_doesFit_173) (ft_62 F) c17_ (xlt_of (fl_62 F) c18_) rfl (fun f19_ => ?_)
      replace f19_ : -9223372036854775808 ≤ (xpl h 62 (x2 + (x4 + (xpl h (xpl h (xpl h 53 19) 12) x8)))) ∧ (xpl h 62 (x2 + (x4 + (xpl h (xpl h (xpl h 53 19) 12) x8)))) ≤ 9223372036854775807 := f19_
      refine xr_aload_n (pc := 174) (i := 0) (hI := d_M_doesFit_174) (hi := rfl) (hl := rfl) ?_
      refine xg_getf (pc := 175) (ci := 11) (k := 19) (N := 38) (v9 := 2) (v := (xpl h 53 19)) (T := xF11) (hI := d_M_doesFit_175) (hw := w_1606) rfl xi11 (Or.inl rfl) (Nat.le_of_ble_eq_true rfl) (Nat.le_of_ble_eq_true rfl) rfl (ft_53 F) rfl (fun f20_ => ?_)
      clear f20_
      refine xg_getfN (pc := 178) (ci := 12) (k := 11) (N := 13) (v9 := 2) (v := (xpl h (xpl h 53 19) 11)) (T := xF12) (hI := d_M_doesFit_178) (hw := w_1557) rfl xi12 (Or.inl rfl) (Nat.le_of_ble_eq_true rfl) (Nat.le_of_ble_eq_true rfl) rfl t2_ rfl (fun f21_ => ?_)
      clear f21_
      refine xr_iload (pc := 181) (i := 8) (hI := d_M_doesFit_181) (hl := rfl) ?_
      obtain ⟨c9, hyp⟩ := hyp
      have t22_ := c9
      clear c9
      obtain ⟨c23_, hyp⟩ := hyp
      refine xg_laload (pc := 183) (v := (xpl h (xpl h (xpl h 53 19) 11) x8)) (hI := d_M_doesFit_183) t22_ (by clear hyp; omega) (xlt_of rfl c23_) rfl (fun f24_ => ?_)
      replace f24_ : -9223372036854775808 ≤ (xpl h (xpl h (xpl h 53 19) 11) x8) ∧ (xpl h (xpl h (xpl h 53 19) 11) x8) ≤ 9223372036854775807 := f24_
      refine xr_lcmp (pc := 184) (hI := d_M_doesFit_184) ?_
      refine xg_lif_eq (pc := 185) (tgt := 190) (hI := d_M_doesFit_185) (ht := by decide) (fun q9 => ?_) (fun q9 => ?_)
      · replace hyp := hyp.1 q9
        have q25_ := q9
        clear q9
        refine xr_iinc (pc := 190) (i := 8) (L9 := [xR 53, xI x1, xI x2, xI x3, xI x4, xI x5, xZ, xZ, xI (x8 + 1), xI (x4 + (xpl h (xpl h (xpl h 53 19) 12) x8))]) (hI := d_M_doesFit_190) (hl := rfl) (hn := Nat.le_of_ble_eq_true rfl) (hr := ⟨by clear hyp; omega, by clear hyp; omega⟩) (hL9 := rfl) ?_
        refine xr_goto (pc := 193) (tgt := 127) (hI := d_M_doesFit_193) (ht := by decide) ?_
        exact xr_drop (L9 := [xR 53, xI x1, xI x2, xI x3, xI x4, xI x5, xZ, xZ, xI (x8 + 1), xZ]) (xdrs (xdrs (xdrs (xdrs (xdrs (xdrs (xdrs (xdrs (xdrs (xdrz xdr0)))))))))) hyp
      · replace hyp := hyp.2 q9
        have q25_ := q9
        clear q9
        refine xr_iconst (pc := 188) (hI := d_M_doesFit_188) (hr := by decide) ?_
        refine xr_ireturnT (S := []) (pc := 189) (hI := d_M_doesFit_189) (hr := rfl) (xnar_z (by decide)) ?_
        exact hyp
abbrev m_M_inPhrase : XM := (⟨"BeaconIndexModel", "inPhrase", "(IJ)I"⟩, prog_14_method_59_code, 6, (some .int), [])
theorem d_M_inPhrase_0 : decode prog_14_method_59_code 0 = .ok (.aload_n 0, 1) := by decide +kernel
theorem d_M_inPhrase_1 : decode prog_14_method_59_code 1 = .ok (.getfield 51, 3) := by decide +kernel
theorem d_M_inPhrase_4 : decode prog_14_method_59_code 4 = .ok (.getfield 282, 3) := by decide +kernel
theorem d_M_inPhrase_7 : decode prog_14_method_59_code 7 = .ok (.iload_n 1, 1) := by decide +kernel
theorem d_M_inPhrase_8 : decode prog_14_method_59_code 8 = .ok (.iaload, 1) := by decide +kernel
theorem d_M_inPhrase_9 : decode prog_14_method_59_code 9 = .ok (.istore 4, 2) := by decide +kernel
theorem d_M_inPhrase_11 : decode prog_14_method_59_code 11 = .ok (.iconst 0, 1) := by decide +kernel
theorem d_M_inPhrase_12 : decode prog_14_method_59_code 12 = .ok (.istore 5, 2) := by decide +kernel
theorem v_M_inPhrase_0 {G : XG} {d : Nat} {h : XH} {Q : XV → XH → Prop} {X : Nat → XH → Prop} {x1 x2 : Int} (F : xFix h) (hyp : xtg h (xpl h 53 19) = 12 ∧ xtg h (xpl h (xpl h 53 19) 6) = 100 ∧ 0 ≤ x1 ∧ x1 < (xln h (xpl h (xpl h 53 19) 6)) ∧ (xwp G m_M_inPhrase (d + 1) 14 [xR 53, xI x1, xL x2, xZ, xI (xpl h (xpl h (xpl h 53 19) 6) x1), xI 0] [] h Q X)) : xwp G m_M_inPhrase (d + 1) 0 [xR 53, xI x1, xL x2, xZ, xZ, xZ] [] h Q X := by
  have hnx9 : (93 : Int) ≤ xnx h := F.2.2
  refine xr_okL (fun hl9 => ?_)
  have r_x1 : -2147483648 ≤ x1 ∧ x1 ≤ 2147483647 := hl9 (xI x1) (.tail _ (.head _)) (Nat.le_of_ble_eq_true rfl)
  have r_x2 : -9223372036854775808 ≤ x2 ∧ x2 ≤ 9223372036854775807 := hl9 (xL x2) (.tail _ (.tail _ (.head _))) (Nat.le_of_ble_eq_true rfl)
  refine xr_aload_n (pc := 0) (i := 0) (hI := d_M_inPhrase_0) (hi := rfl) (hl := rfl) ?_
  refine xg_getf (pc := 1) (ci := 11) (k := 19) (N := 38) (v9 := 2) (v := (xpl h 53 19)) (T := xF11) (hI := d_M_inPhrase_1) (hw := w_1606) rfl xi11 (Or.inl rfl) (Nat.le_of_ble_eq_true rfl) (Nat.le_of_ble_eq_true rfl) rfl (ft_53 F) rfl (fun f1_ => ?_)
  clear f1_
  obtain ⟨c9, hyp⟩ := hyp
  have t2_ := c9
  clear c9
  refine xg_getfN (pc := 4) (ci := 12) (k := 6) (N := 13) (v9 := 2) (v := (xpl h (xpl h 53 19) 6)) (T := xF12) (hI := d_M_inPhrase_4) (hw := w_1548) rfl xi12 (Or.inl rfl) (Nat.le_of_ble_eq_true rfl) (Nat.le_of_ble_eq_true rfl) rfl t2_ rfl (fun f3_ => ?_)
  clear f3_
  refine xr_iload_n (pc := 7) (i := 1) (hI := d_M_inPhrase_7) (hi := rfl) (hl := rfl) ?_
  obtain ⟨c9, hyp⟩ := hyp
  have t4_ := c9
  clear c9
  obtain ⟨c5_, hyp⟩ := hyp
  obtain ⟨c6_, hyp⟩ := hyp
  refine xg_iaload (pc := 8) (v := (xpl h (xpl h (xpl h 53 19) 6) x1)) (hI := d_M_inPhrase_8) t4_ c5_ (xlt_of rfl c6_) rfl (fun f7_ => ?_)
  replace f7_ : -2147483648 ≤ (xpl h (xpl h (xpl h 53 19) 6) x1) ∧ (xpl h (xpl h (xpl h 53 19) 6) x1) ≤ 2147483647 := f7_
  refine xr_istore (pc := 9) (i := 4) (L9 := [xR 53, xI x1, xL x2, xZ, xI (xpl h (xpl h (xpl h 53 19) 6) x1), xZ]) (hI := d_M_inPhrase_9) (hn := Nat.le_of_ble_eq_true rfl) (hL9 := rfl) ?_
  refine xr_iconst (pc := 11) (hI := d_M_inPhrase_11) (hr := by decide) ?_
  refine xr_istore (pc := 12) (i := 5) (L9 := [xR 53, xI x1, xL x2, xZ, xI (xpl h (xpl h (xpl h 53 19) 6) x1), xI 0]) (hI := d_M_inPhrase_12) (hn := Nat.le_of_ble_eq_true rfl) (hL9 := rfl) ?_
  exact hyp
theorem d_M_inPhrase_14 : decode prog_14_method_59_code 14 = .ok (.iload 5, 2) := by decide +kernel
theorem d_M_inPhrase_16 : decode prog_14_method_59_code 16 = .ok (.aload_n 0, 1) := by decide +kernel
theorem d_M_inPhrase_17 : decode prog_14_method_59_code 17 = .ok (.getfield 51, 3) := by decide +kernel
theorem d_M_inPhrase_20 : decode prog_14_method_59_code 20 = .ok (.getfield 337, 3) := by decide +kernel
theorem d_M_inPhrase_23 : decode prog_14_method_59_code 23 = .ok (.iload_n 1, 1) := by decide +kernel
theorem d_M_inPhrase_24 : decode prog_14_method_59_code 24 = .ok (.iaload, 1) := by decide +kernel
theorem d_M_inPhrase_25 : decode prog_14_method_59_code 25 = .ok (.if_icmp .ge 30, 3) := by decide +kernel
theorem d_M_inPhrase_55 : decode prog_14_method_59_code 55 = .ok (.iconst (-1), 1) := by decide +kernel
theorem d_M_inPhrase_56 : decode prog_14_method_59_code 56 = .ok (.ireturn, 1) := by decide +kernel
theorem d_M_inPhrase_28 : decode prog_14_method_59_code 28 = .ok (.aload_n 0, 1) := by decide +kernel
theorem d_M_inPhrase_29 : decode prog_14_method_59_code 29 = .ok (.getfield 51, 3) := by decide +kernel
theorem d_M_inPhrase_32 : decode prog_14_method_59_code 32 = .ok (.getfield 319, 3) := by decide +kernel
theorem d_M_inPhrase_35 : decode prog_14_method_59_code 35 = .ok (.iload 4, 2) := by decide +kernel
theorem d_M_inPhrase_37 : decode prog_14_method_59_code 37 = .ok (.iload 5, 2) := by decide +kernel
theorem d_M_inPhrase_39 : decode prog_14_method_59_code 39 = .ok (.iadd, 1) := by decide +kernel
theorem d_M_inPhrase_40 : decode prog_14_method_59_code 40 = .ok (.laload, 1) := by decide +kernel
theorem d_M_inPhrase_41 : decode prog_14_method_59_code 41 = .ok (.lload_n 2, 1) := by decide +kernel
theorem d_M_inPhrase_42 : decode prog_14_method_59_code 42 = .ok (.lcmp, 1) := by decide +kernel
theorem d_M_inPhrase_43 : decode prog_14_method_59_code 43 = .ok (.ifCond .ne 6, 3) := by decide +kernel
theorem d_M_inPhrase_49 : decode prog_14_method_59_code 49 = .ok (.iinc 5 1, 3) := by decide +kernel
theorem d_M_inPhrase_52 : decode prog_14_method_59_code 52 = .ok (.goto (-38), 3) := by decide +kernel
theorem d_M_inPhrase_46 : decode prog_14_method_59_code 46 = .ok (.iload 5, 2) := by decide +kernel
theorem d_M_inPhrase_48 : decode prog_14_method_59_code 48 = .ok (.ireturn, 1) := by decide +kernel
theorem v_M_inPhrase_14 {G : XG} {d : Nat} {h : XH} {Q : XV → XH → Prop} {X : Nat → XH → Prop} {x1 x2 x4 x5 : Int} (F : xFix h) (hyp : xtg h (xpl h 53 19) = 12 ∧ xtg h (xpl h (xpl h 53 19) 7) = 100 ∧ 0 ≤ x1 ∧ x1 < (xln h (xpl h (xpl h 53 19) 7)) ∧ (((xpl h (xpl h (xpl h 53 19) 7) x1) ≤ x5 → (Q (xI (-1)) h)) ∧ (¬ (xpl h (xpl h (xpl h 53 19) 7) x1) ≤ x5 → xiR (x4 + x5) ∧ xtg h (xpl h (xpl h 53 19) 11) = 101 ∧ 0 ≤ (x4 + x5) ∧ (x4 + x5) < (xln h (xpl h (xpl h 53 19) 11)) ∧ (((xpl h (xpl h (xpl h 53 19) 11) (x4 + x5)) = x2 → (Q (xI x5) h)) ∧ (¬ (xpl h (xpl h (xpl h 53 19) 11) (x4 + x5)) = x2 → (xwp G m_M_inPhrase (d + 1) 14 [xR 53, xI x1, xL x2, xZ, xI x4, xI (x5 + 1)] [] h Q X)))))) : xwp G m_M_inPhrase (d + 1) 14 [xR 53, xI x1, xL x2, xZ, xI x4, xI x5] [] h Q X := by
  have hnx9 : (93 : Int) ≤ xnx h := F.2.2
  refine xr_okL (fun hl9 => ?_)
  have r_x1 : -2147483648 ≤ x1 ∧ x1 ≤ 2147483647 := hl9 (xI x1) (.tail _ (.head _)) (Nat.le_of_ble_eq_true rfl)
  have r_x2 : -9223372036854775808 ≤ x2 ∧ x2 ≤ 9223372036854775807 := hl9 (xL x2) (.tail _ (.tail _ (.head _))) (Nat.le_of_ble_eq_true rfl)
  have r_x4 : -2147483648 ≤ x4 ∧ x4 ≤ 2147483647 := hl9 (xI x4) (.tail _ (.tail _ (.tail _ (.tail _ (.head _))))) (Nat.le_of_ble_eq_true rfl)
  have r_x5 : -2147483648 ≤ x5 ∧ x5 ≤ 2147483647 := hl9 (xI x5) (.tail _ (.tail _ (.tail _ (.tail _ (.tail _ (.head _)))))) (Nat.le_of_ble_eq_true rfl)
  refine xr_iload (pc := 14) (i := 5) (hI := d_M_inPhrase_14) (hl := rfl) ?_
  refine xr_aload_n (pc := 16) (i := 0) (hI := d_M_inPhrase_16) (hi := rfl) (hl := rfl) ?_
  refine xg_getf (pc := 17) (ci := 11) (k := 19) (N := 38) (v9 := 2) (v := (xpl h 53 19)) (T := xF11) (hI := d_M_inPhrase_17) (hw := w_1606) rfl xi11 (Or.inl rfl) (Nat.le_of_ble_eq_true rfl) (Nat.le_of_ble_eq_true rfl) rfl (ft_53 F) rfl (fun f1_ => ?_)
  clear f1_
  obtain ⟨c9, hyp⟩ := hyp
  have t2_ := c9
  clear c9
  refine xg_getfN (pc := 20) (ci := 12) (k := 7) (N := 13) (v9 := 2) (v := (xpl h (xpl h 53 19) 7)) (T := xF12) (hI := d_M_inPhrase_20) (hw := w_1550) rfl xi12 (Or.inl rfl) (Nat.le_of_ble_eq_true rfl) (Nat.le_of_ble_eq_true rfl) rfl t2_ rfl (fun f3_ => ?_)
  clear f3_
  refine xr_iload_n (pc := 23) (i := 1) (hI := d_M_inPhrase_23) (hi := rfl) (hl := rfl) ?_
  obtain ⟨c9, hyp⟩ := hyp
  have t4_ := c9
  clear c9
  obtain ⟨c5_, hyp⟩ := hyp
  obtain ⟨c6_, hyp⟩ := hyp
  refine xg_iaload (pc := 24) (v := (xpl h (xpl h (xpl h 53 19) 7) x1)) (hI := d_M_inPhrase_24) t4_ c5_ (xlt_of rfl c6_) rfl (fun f7_ => ?_)
  replace f7_ : -2147483648 ≤ (xpl h (xpl h (xpl h 53 19) 7) x1) ∧ (xpl h (xpl h (xpl h 53 19) 7) x1) ≤ 2147483647 := f7_
  refine xr_icmp_ge (pc := 25) (tgt := 55) (hI := d_M_inPhrase_25) (ht := by decide) (fun q9 => ?_) (fun q9 => ?_)
  · replace hyp := hyp.1 q9
    have q8_ := q9
    clear q9
    refine xr_iconst (pc := 55) (hI := d_M_inPhrase_55) (hr := by decide) ?_
    refine xr_ireturn (S := []) (pc := 56) (hI := d_M_inPhrase_56) (hr := rfl) ?_
    exact hyp
  · replace hyp := hyp.2 q9
    have q8_ := q9
    clear q9
    refine xr_aload_n (pc := 28) (i := 0) (hI := d_M_inPhrase_28) (hi := rfl) (hl := rfl) ?_
    refine xg_getf (pc := 29) (ci := 11) (k := 19) (N := 38) (v9 := 2) (v := (xpl h 53 19)) (T := xF11) (hI := d_M_inPhrase_29) (hw := w_1606) rfl xi11 (Or.inl rfl) (Nat.le_of_ble_eq_true rfl) (Nat.le_of_ble_eq_true rfl) rfl (ft_53 F) rfl (fun f9_ => ?_)
    clear f9_
    refine xg_getfN (pc := 32) (ci := 12) (k := 11) (N := 13) (v9 := 2) (v := (xpl h (xpl h 53 19) 11)) (T := xF12) (hI := d_M_inPhrase_32) (hw := w_1557) rfl xi12 (Or.inl rfl) (Nat.le_of_ble_eq_true rfl) (Nat.le_of_ble_eq_true rfl) rfl t2_ rfl (fun f10_ => ?_)
    clear f10_
    refine xr_iload (pc := 35) (i := 4) (hI := d_M_inPhrase_35) (hl := rfl) ?_
    refine xr_iload (pc := 37) (i := 5) (hI := d_M_inPhrase_37) (hl := rfl) ?_
    obtain ⟨c9, hyp⟩ := hyp
    refine xr_iadd (pc := 39) (hI := d_M_inPhrase_39) (hr := c9) ?_
    obtain ⟨c9, hyp⟩ := hyp
    have t11_ := c9
    clear c9
    obtain ⟨c12_, hyp⟩ := hyp
    obtain ⟨c13_, hyp⟩ := hyp
    refine xg_laload (pc := 40) (v := (xpl h (xpl h (xpl h 53 19) 11) (x4 + x5))) (hI := d_M_inPhrase_40) t11_ c12_ (xlt_of rfl c13_) rfl (fun f14_ => ?_)
    replace f14_ : -9223372036854775808 ≤ (xpl h (xpl h (xpl h 53 19) 11) (x4 + x5)) ∧ (xpl h (xpl h (xpl h 53 19) 11) (x4 + x5)) ≤ 9223372036854775807 := f14_
    refine xr_lload_n (pc := 41) (i := 2) (hI := d_M_inPhrase_41) (hi := rfl) (hl := rfl) ?_
    refine xr_lcmp (pc := 42) (hI := d_M_inPhrase_42) ?_
    refine xg_lif_ne (pc := 43) (tgt := 49) (hI := d_M_inPhrase_43) (ht := by decide) (fun q9 => ?_) (fun q9 => ?_)
    · replace hyp := hyp.2 q9
      have q15_ := q9
      clear q9
      refine xr_iinc (pc := 49) (i := 5) (L9 := [xR 53, xI x1, xL x2, xZ, xI x4, xI (x5 + 1)]) (hI := d_M_inPhrase_49) (hl := rfl) (hn := Nat.le_of_ble_eq_true rfl) (hr := ⟨by clear hyp; omega, by clear hyp; omega⟩) (hL9 := rfl) ?_
      refine xr_goto (pc := 52) (tgt := 14) (hI := d_M_inPhrase_52) (ht := by decide) ?_
      exact hyp
    · replace hyp := hyp.1 q9
      have q15_ := q9
      clear q9
      refine xr_iload (pc := 46) (i := 5) (hI := d_M_inPhrase_46) (hl := rfl) ?_
      refine xr_ireturn (S := []) (pc := 48) (hI := d_M_inPhrase_48) (hr := rfl) ?_
      exact hyp
abbrev m_M_turn : XM := (⟨"BeaconIndexModel", "turn", "(II)V"⟩, prog_14_method_60_code, 3, none, [])
theorem d_M_turn_0 : decode prog_14_method_60_code 0 = .ok (.iload_n 1, 1) := by decide +kernel
theorem d_M_turn_1 : decode prog_14_method_60_code 1 = .ok (.iconst (-1), 1) := by decide +kernel
theorem d_M_turn_2 : decode prog_14_method_60_code 2 = .ok (.if_icmp .ne 4, 3) := by decide +kernel
theorem d_M_turn_6 : decode prog_14_method_60_code 6 = .ok (.iload_n 2, 1) := by decide +kernel
theorem d_M_turn_7 : decode prog_14_method_60_code 7 = .ok (.ifCond .le 21, 3) := by decide +kernel
theorem d_M_turn_28 : decode prog_14_method_60_code 28 = .ok (.aload_n 0, 1) := by decide +kernel
theorem d_M_turn_29 : decode prog_14_method_60_code 29 = .ok (.getfield 88, 3) := by decide +kernel
theorem w_1621 : Cond.fieldLink "BeaconIndexModel" 88 "BeaconIndexModel" "has" "[I" ∈ lw_tbl := List.mem_append_right _ (List.mem_of_getElem? (i := 1621) (by decide +kernel))
theorem d_M_turn_32 : decode prog_14_method_60_code 32 = .ok (.iload_n 1, 1) := by decide +kernel
theorem d_M_turn_33 : decode prog_14_method_60_code 33 = .ok (.iaload, 1) := by decide +kernel
theorem d_M_turn_34 : decode prog_14_method_60_code 34 = .ok (.aload_n 0, 1) := by decide +kernel
theorem d_M_turn_35 : decode prog_14_method_60_code 35 = .ok (.getfield 85, 3) := by decide +kernel
theorem w_1620 : Cond.fieldLink "BeaconIndexModel" 85 "BeaconIndexModel" "needs" "[I" ∈ lw_tbl := List.mem_append_right _ (List.mem_of_getElem? (i := 1620) (by decide +kernel))
theorem d_M_turn_38 : decode prog_14_method_60_code 38 = .ok (.iload_n 1, 1) := by decide +kernel
theorem d_M_turn_39 : decode prog_14_method_60_code 39 = .ok (.iaload, 1) := by decide +kernel
theorem d_M_turn_40 : decode prog_14_method_60_code 40 = .ok (.if_icmp .gt 13, 3) := by decide +kernel
theorem d_M_turn_10 : decode prog_14_method_60_code 10 = .ok (.aload_n 0, 1) := by decide +kernel
theorem d_M_turn_11 : decode prog_14_method_60_code 11 = .ok (.getfield 88, 3) := by decide +kernel
theorem d_M_turn_14 : decode prog_14_method_60_code 14 = .ok (.iload_n 1, 1) := by decide +kernel
theorem d_M_turn_15 : decode prog_14_method_60_code 15 = .ok (.iaload, 1) := by decide +kernel
theorem d_M_turn_16 : decode prog_14_method_60_code 16 = .ok (.aload_n 0, 1) := by decide +kernel
theorem d_M_turn_17 : decode prog_14_method_60_code 17 = .ok (.getfield 85, 3) := by decide +kernel
theorem d_M_turn_20 : decode prog_14_method_60_code 20 = .ok (.iload_n 1, 1) := by decide +kernel
theorem d_M_turn_21 : decode prog_14_method_60_code 21 = .ok (.iaload, 1) := by decide +kernel
theorem d_M_turn_22 : decode prog_14_method_60_code 22 = .ok (.if_icmp .ge 31, 3) := by decide +kernel
theorem d_M_turn_25 : decode prog_14_method_60_code 25 = .ok (.goto 18, 3) := by decide +kernel
theorem d_M_turn_5 : decode prog_14_method_60_code 5 = .ok (.return_, 1) := by decide +kernel
theorem v_M_turn_0 {G : XG} {d : Nat} {h : XH} {Q : XV → XH → Prop} {X : Nat → XH → Prop} {x1 x2 : Int} (F : xFix h) (hyp : ((x1 = (-1) → (Q xN h)) ∧ (¬ x1 = (-1) → ((x2 ≤ 0 → 0 ≤ x1 ∧ x1 < 40 ∧ (((xpl h 87 x1) < (xpl h 88 x1) → (xwp G m_M_turn (d + 1) 53 [xR 53, xI x1, xI x2] [] h Q X)) ∧ (¬ (xpl h 87 x1) < (xpl h 88 x1) → (xwp G m_M_turn (d + 1) 43 [xR 53, xI x1, xI x2] [] h Q X)))) ∧ (¬ x2 ≤ 0 → 0 ≤ x1 ∧ x1 < 40 ∧ (((xpl h 87 x1) ≤ (xpl h 88 x1) → (xwp G m_M_turn (d + 1) 53 [xR 53, xI x1, xI x2] [] h Q X)) ∧ (¬ (xpl h 87 x1) ≤ (xpl h 88 x1) → (xwp G m_M_turn (d + 1) 43 [xR 53, xI x1, xI x2] [] h Q X)))))))) : xwp G m_M_turn (d + 1) 0 [xR 53, xI x1, xI x2] [] h Q X := by
  have hnx9 : (93 : Int) ≤ xnx h := F.2.2
  refine xr_okL (fun hl9 => ?_)
  have r_x1 : -2147483648 ≤ x1 ∧ x1 ≤ 2147483647 := hl9 (xI x1) (.tail _ (.head _)) (Nat.le_of_ble_eq_true rfl)
  have r_x2 : -2147483648 ≤ x2 ∧ x2 ≤ 2147483647 := hl9 (xI x2) (.tail _ (.tail _ (.head _))) (Nat.le_of_ble_eq_true rfl)
  refine xr_iload_n (pc := 0) (i := 1) (hI := d_M_turn_0) (hi := rfl) (hl := rfl) ?_
  refine xr_iconst (pc := 1) (hI := d_M_turn_1) (hr := by decide) ?_
  refine xr_icmp_ne (pc := 2) (tgt := 6) (hI := d_M_turn_2) (ht := by decide) (fun q9 => ?_) (fun q9 => ?_)
  · replace hyp := hyp.2 q9
    have q1_ := q9
    clear q9
    refine xr_iload_n (pc := 6) (i := 2) (hI := d_M_turn_6) (hi := rfl) (hl := rfl) ?_
    refine xr_if_le (pc := 7) (tgt := 28) (hI := d_M_turn_7) (ht := by decide) (fun q9 => ?_) (fun q9 => ?_)
    · replace hyp := hyp.1 q9
      have q2_ := q9
      clear q9
      refine xr_aload_n (pc := 28) (i := 0) (hI := d_M_turn_28) (hi := rfl) (hl := rfl) ?_
      refine xg_getf (pc := 29) (ci := 11) (k := 34) (N := 38) (v9 := 2) (v := 88) (T := xF11) (hI := d_M_turn_29) (hw := w_1621) rfl xi11 (Or.inl rfl) (Nat.le_of_ble_eq_true rfl) (Nat.le_of_ble_eq_true rfl) rfl (ft_53 F) (fp_53_34 F) (fun f3_ => ?_)
      clear f3_
      refine xr_iload_n (pc := 32) (i := 1) (hI := d_M_turn_32) (hi := rfl) (hl := rfl) ?_
      obtain ⟨c4_, hyp⟩ := hyp
      obtain ⟨c5_, hyp⟩ := hyp
      refine xg_iaload (pc := 33) (v := (xpl h 88 x1)) (hI := d_M_turn_33) (ft_88 F) c4_ (xlt_of (fl_88 F) c5_) rfl (fun f6_ => ?_)
      replace f6_ : -2147483648 ≤ (xpl h 88 x1) ∧ (xpl h 88 x1) ≤ 2147483647 := f6_
      refine xr_aload_n (pc := 34) (i := 0) (hI := d_M_turn_34) (hi := rfl) (hl := rfl) ?_
      refine xg_getf (pc := 35) (ci := 11) (k := 33) (N := 38) (v9 := 2) (v := 87) (T := xF11) (hI := d_M_turn_35) (hw := w_1620) rfl xi11 (Or.inl rfl) (Nat.le_of_ble_eq_true rfl) (Nat.le_of_ble_eq_true rfl) rfl (ft_53 F) (fp_53_33 F) (fun f7_ => ?_)
      clear f7_
      refine xr_iload_n (pc := 38) (i := 1) (hI := d_M_turn_38) (hi := rfl) (hl := rfl) ?_
      refine xg_iaload (pc := 39) (v := (xpl h 87 x1)) (hI := d_M_turn_39) (ft_87 F) (by clear hyp; omega) (xlt_of (fl_87 F) (by clear hyp; omega)) rfl (fun f8_ => ?_)
      replace f8_ : -2147483648 ≤ (xpl h 87 x1) ∧ (xpl h 87 x1) ≤ 2147483647 := f8_
      refine xr_icmp_gt (pc := 40) (tgt := 53) (hI := d_M_turn_40) (ht := by decide) (fun q9 => ?_) (fun q9 => ?_)
      · replace hyp := hyp.1 q9
        have q9_ := q9
        clear q9
        exact hyp
      · replace hyp := hyp.2 q9
        have q9_ := q9
        clear q9
        exact hyp
    · replace hyp := hyp.2 q9
      have q2_ := q9
      clear q9
      refine xr_aload_n (pc := 10) (i := 0) (hI := d_M_turn_10) (hi := rfl) (hl := rfl) ?_
      refine xg_getf (pc := 11) (ci := 11) (k := 34) (N := 38) (v9 := 2) (v := 88) (T := xF11) (hI := d_M_turn_11) (hw := w_1621) rfl xi11 (Or.inl rfl) (Nat.le_of_ble_eq_true rfl) (Nat.le_of_ble_eq_true rfl) rfl (ft_53 F) (fp_53_34 F) (fun f10_ => ?_)
      clear f10_
      refine xr_iload_n (pc := 14) (i := 1) (hI := d_M_turn_14) (hi := rfl) (hl := rfl) ?_
      obtain ⟨c11_, hyp⟩ := hyp
      obtain ⟨c12_, hyp⟩ := hyp
      refine xg_iaload (pc := 15) (v := (xpl h 88 x1)) (hI := d_M_turn_15) (ft_88 F) c11_ (xlt_of (fl_88 F) c12_) rfl (fun f13_ => ?_)
      replace f13_ : -2147483648 ≤ (xpl h 88 x1) ∧ (xpl h 88 x1) ≤ 2147483647 := f13_
      refine xr_aload_n (pc := 16) (i := 0) (hI := d_M_turn_16) (hi := rfl) (hl := rfl) ?_
      refine xg_getf (pc := 17) (ci := 11) (k := 33) (N := 38) (v9 := 2) (v := 87) (T := xF11) (hI := d_M_turn_17) (hw := w_1620) rfl xi11 (Or.inl rfl) (Nat.le_of_ble_eq_true rfl) (Nat.le_of_ble_eq_true rfl) rfl (ft_53 F) (fp_53_33 F) (fun f14_ => ?_)
      clear f14_
      refine xr_iload_n (pc := 20) (i := 1) (hI := d_M_turn_20) (hi := rfl) (hl := rfl) ?_
      refine xg_iaload (pc := 21) (v := (xpl h 87 x1)) (hI := d_M_turn_21) (ft_87 F) (by clear hyp; omega) (xlt_of (fl_87 F) (by clear hyp; omega)) rfl (fun f15_ => ?_)
      replace f15_ : -2147483648 ≤ (xpl h 87 x1) ∧ (xpl h 87 x1) ≤ 2147483647 := f15_
      refine xr_icmp_ge (pc := 22) (tgt := 53) (hI := d_M_turn_22) (ht := by decide) (fun q9 => ?_) (fun q9 => ?_)
      · replace hyp := hyp.1 q9
        have q16_ := q9
        clear q9
        exact hyp
      · replace hyp := hyp.2 q9
        have q16_ := q9
        clear q9
        refine xr_goto (pc := 25) (tgt := 43) (hI := d_M_turn_25) (ht := by decide) ?_
        exact hyp
  · replace hyp := hyp.1 q9
    have q1_ := q9
    clear q9
    refine xr_return (S := []) (pc := 5) (hI := d_M_turn_5) (hr := rfl) ?_
    exact hyp
theorem d_M_turn_43 : decode prog_14_method_60_code 43 = .ok (.aload_n 0, 1) := by decide +kernel
theorem d_M_turn_44 : decode prog_14_method_60_code 44 = .ok (.dup, 1) := by decide +kernel
theorem d_M_turn_45 : decode prog_14_method_60_code 45 = .ok (.getfield 338, 3) := by decide +kernel
theorem w_1622 : Cond.fieldLink "BeaconIndexModel" 338 "BeaconIndexModel" "lacks" "I" ∈ lw_tbl := List.mem_append_right _ (List.mem_of_getElem? (i := 1622) (by decide +kernel))
theorem d_M_turn_48 : decode prog_14_method_60_code 48 = .ok (.iload_n 2, 1) := by decide +kernel
theorem d_M_turn_49 : decode prog_14_method_60_code 49 = .ok (.isub, 1) := by decide +kernel
theorem d_M_turn_50 : decode prog_14_method_60_code 50 = .ok (.putfield 338, 3) := by decide +kernel
theorem xfk_53_35 : xfree 53 35 = true := by decide +kernel
theorem v_M_turn_43 {G : XG} {d : Nat} {h : XH} {Q : XV → XH → Prop} {X : Nat → XH → Prop} {x1 x2 : Int} (F : xFix h) (hyp : xiR ((xpl h 53 35) - x2) ∧ (xFix (xst h 53 35 ((xpl h 53 35) - x2)) → xwp G m_M_turn (d + 1) 53 [xR 53, xI x1, xI x2] [] (xst h 53 35 ((xpl h 53 35) - x2)) Q X)) : xwp G m_M_turn (d + 1) 43 [xR 53, xI x1, xI x2] [] h Q X := by
  have hnx9 : (93 : Int) ≤ xnx h := F.2.2
  refine xr_okL (fun hl9 => ?_)
  have r_x1 : -2147483648 ≤ x1 ∧ x1 ≤ 2147483647 := hl9 (xI x1) (.tail _ (.head _)) (Nat.le_of_ble_eq_true rfl)
  have r_x2 : -2147483648 ≤ x2 ∧ x2 ≤ 2147483647 := hl9 (xI x2) (.tail _ (.tail _ (.head _))) (Nat.le_of_ble_eq_true rfl)
  refine xr_aload_n (pc := 43) (i := 0) (hI := d_M_turn_43) (hi := rfl) (hl := rfl) ?_
  refine xr_dup (pc := 44) (hI := d_M_turn_44) (hv := rfl) ?_
  refine xg_getf (pc := 45) (ci := 11) (k := 35) (N := 38) (v9 := 0) (v := (xpl h 53 35)) (T := xF11) (hI := d_M_turn_45) (hw := w_1622) rfl xi11 (Or.inl rfl) (Nat.le_of_ble_eq_true rfl) (Nat.le_of_ble_eq_true rfl) rfl (ft_53 F) rfl (fun f1_ => ?_)
  replace f1_ : -2147483648 ≤ (xpl h 53 35) ∧ (xpl h 53 35) ≤ 2147483647 := f1_
  refine xr_iload_n (pc := 48) (i := 2) (hI := d_M_turn_48) (hi := rfl) (hl := rfl) ?_
  obtain ⟨c9, hyp⟩ := hyp
  refine xr_isub (pc := 49) (hI := d_M_turn_49) (hr := c9) ?_
  refine xr_putf (pc := 50) (ci := 11) (k := 35) (N := 38) (v9 := 0) (T := xF11) (tF := xT11) (hI := d_M_turn_50) (hw := w_1622) rfl xi11 xt11 xn11 (Or.inl rfl) (Nat.le_of_ble_eq_true rfl) (Nat.le_of_ble_eq_true rfl) rfl xfit_i rfl (ft_53 F) (by decide) (fun z => z) ?_
  have F2_ : xFix (xst h 53 35 ((xpl h 53 35) - x2)) := F.stL xfk_53_35
  exact (hyp F2_)
theorem d_M_turn_53 : decode prog_14_method_60_code 53 = .ok (.aload_n 0, 1) := by decide +kernel
theorem d_M_turn_54 : decode prog_14_method_60_code 54 = .ok (.getfield 88, 3) := by decide +kernel
theorem d_M_turn_57 : decode prog_14_method_60_code 57 = .ok (.iload_n 1, 1) := by decide +kernel
theorem d_M_turn_58 : decode prog_14_method_60_code 58 = .ok (.dup2, 1) := by decide +kernel
theorem d_M_turn_59 : decode prog_14_method_60_code 59 = .ok (.iaload, 1) := by decide +kernel
theorem d_M_turn_60 : decode prog_14_method_60_code 60 = .ok (.iload_n 2, 1) := by decide +kernel
theorem d_M_turn_61 : decode prog_14_method_60_code 61 = .ok (.iadd, 1) := by decide +kernel
theorem d_M_turn_62 : decode prog_14_method_60_code 62 = .ok (.iastore, 1) := by decide +kernel
theorem xfa_88 : xfreeA 88 = true := by decide +kernel
theorem d_M_turn_63 : decode prog_14_method_60_code 63 = .ok (.return_, 1) := by decide +kernel
theorem v_M_turn_53 {G : XG} {d : Nat} {h : XH} {Q : XV → XH → Prop} {X : Nat → XH → Prop} {x1 x2 : Int} (F : xFix h) (hyp : 0 ≤ x1 ∧ x1 < 40 ∧ xiR ((xpl h 88 x1) + x2) ∧ (xFix (xst h 88 x1 ((xpl h 88 x1) + x2)) → Q xN (xst h 88 x1 ((xpl h 88 x1) + x2)))) : xwp G m_M_turn (d + 1) 53 [xR 53, xI x1, xI x2] [] h Q X := by
  have hnx9 : (93 : Int) ≤ xnx h := F.2.2
  refine xr_okL (fun hl9 => ?_)
  have r_x1 : -2147483648 ≤ x1 ∧ x1 ≤ 2147483647 := hl9 (xI x1) (.tail _ (.head _)) (Nat.le_of_ble_eq_true rfl)
  have r_x2 : -2147483648 ≤ x2 ∧ x2 ≤ 2147483647 := hl9 (xI x2) (.tail _ (.tail _ (.head _))) (Nat.le_of_ble_eq_true rfl)
  refine xr_aload_n (pc := 53) (i := 0) (hI := d_M_turn_53) (hi := rfl) (hl := rfl) ?_
  refine xg_getf (pc := 54) (ci := 11) (k := 34) (N := 38) (v9 := 2) (v := 88) (T := xF11) (hI := d_M_turn_54) (hw := w_1621) rfl xi11 (Or.inl rfl) (Nat.le_of_ble_eq_true rfl) (Nat.le_of_ble_eq_true rfl) rfl (ft_53 F) (fp_53_34 F) (fun f1_ => ?_)
  clear f1_
  refine xr_iload_n (pc := 57) (i := 1) (hI := d_M_turn_57) (hi := rfl) (hl := rfl) ?_
  refine xr_dup2 (pc := 58) (hI := d_M_turn_58) (hv := rfl) (hw := rfl) ?_
  obtain ⟨c2_, hyp⟩ := hyp
  obtain ⟨c3_, hyp⟩ := hyp
  refine xg_iaload (pc := 59) (v := (xpl h 88 x1)) (hI := d_M_turn_59) (ft_88 F) c2_ (xlt_of (fl_88 F) c3_) rfl (fun f4_ => ?_)
  replace f4_ : -2147483648 ≤ (xpl h 88 x1) ∧ (xpl h 88 x1) ≤ 2147483647 := f4_
  refine xr_iload_n (pc := 60) (i := 2) (hI := d_M_turn_60) (hi := rfl) (hl := rfl) ?_
  obtain ⟨c9, hyp⟩ := hyp
  refine xr_iadd (pc := 61) (hI := d_M_turn_61) (hr := c9) ?_
  refine xr_iastore (pc := 62) (hI := d_M_turn_62) (ft_88 F) (by decide) (by clear hyp; omega) (xlt_of (fl_88 F) (by clear hyp; omega)) ?_
  have F5_ : xFix (xst h 88 x1 ((xpl h 88 x1) + x2)) := F.stA xfa_88
  refine xr_return (S := []) (pc := 63) (hI := d_M_turn_63) (hr := rfl) ?_
  exact hyp F5_
abbrev m_M_seekNear : XM := (⟨"BeaconIndexModel", "seekNear", "(IIII)V"⟩, prog_14_method_61_code, 10, none, [])
theorem d_M_seekNear_0 : decode prog_14_method_61_code 0 = .ok (.aload_n 0, 1) := by decide +kernel
theorem d_M_seekNear_1 : decode prog_14_method_61_code 1 = .ok (.getfield 51, 3) := by decide +kernel
theorem d_M_seekNear_4 : decode prog_14_method_61_code 4 = .ok (.getfield 313, 3) := by decide +kernel
theorem d_M_seekNear_7 : decode prog_14_method_61_code 7 = .ok (.iload_n 1, 1) := by decide +kernel
theorem d_M_seekNear_8 : decode prog_14_method_61_code 8 = .ok (.iaload, 1) := by decide +kernel
theorem d_M_seekNear_9 : decode prog_14_method_61_code 9 = .ok (.aload_n 0, 1) := by decide +kernel
theorem d_M_seekNear_10 : decode prog_14_method_61_code 10 = .ok (.getfield 51, 3) := by decide +kernel
theorem d_M_seekNear_13 : decode prog_14_method_61_code 13 = .ok (.getfield 330, 3) := by decide +kernel
theorem d_M_seekNear_16 : decode prog_14_method_61_code 16 = .ok (.iload_n 1, 1) := by decide +kernel
theorem d_M_seekNear_17 : decode prog_14_method_61_code 17 = .ok (.iaload, 1) := by decide +kernel
theorem d_M_seekNear_18 : decode prog_14_method_61_code 18 = .ok (.iadd, 1) := by decide +kernel
theorem d_M_seekNear_19 : decode prog_14_method_61_code 19 = .ok (.iconst 1, 1) := by decide +kernel
theorem d_M_seekNear_20 : decode prog_14_method_61_code 20 = .ok (.isub, 1) := by decide +kernel
theorem d_M_seekNear_21 : decode prog_14_method_61_code 21 = .ok (.istore 5, 2) := by decide +kernel
theorem d_M_seekNear_23 : decode prog_14_method_61_code 23 = .ok (.aload_n 0, 1) := by decide +kernel
theorem d_M_seekNear_24 : decode prog_14_method_61_code 24 = .ok (.aload_n 0, 1) := by decide +kernel
theorem d_M_seekNear_25 : decode prog_14_method_61_code 25 = .ok (.getfield 51, 3) := by decide +kernel
theorem d_M_seekNear_28 : decode prog_14_method_61_code 28 = .ok (.getfield 337, 3) := by decide +kernel
theorem d_M_seekNear_31 : decode prog_14_method_61_code 31 = .ok (.iload_n 1, 1) := by decide +kernel
theorem d_M_seekNear_32 : decode prog_14_method_61_code 32 = .ok (.iaload, 1) := by decide +kernel
theorem d_M_seekNear_33 : decode prog_14_method_61_code 33 = .ok (.putfield 338, 3) := by decide +kernel
theorem d_M_seekNear_36 : decode prog_14_method_61_code 36 = .ok (.iconst 0, 1) := by decide +kernel
theorem d_M_seekNear_37 : decode prog_14_method_61_code 37 = .ok (.istore 6, 2) := by decide +kernel
theorem v_M_seekNear_0 {G : XG} {d : Nat} {h : XH} {Q : XV → XH → Prop} {X : Nat → XH → Prop} {x1 x2 x3 x4 : Int} (F : xFix h) (hyp : xtg h (xpl h 53 19) = 12 ∧ xtg h (xpl h (xpl h 53 19) 9) = 100 ∧ 0 ≤ x1 ∧ x1 < (xln h (xpl h (xpl h 53 19) 9)) ∧ xtg h (xpl h (xpl h 53 19) 8) = 100 ∧ x1 < (xln h (xpl h (xpl h 53 19) 8)) ∧ xiR ((xpl h (xpl h (xpl h 53 19) 9) x1) + (xpl h (xpl h (xpl h 53 19) 8) x1)) ∧ xiR (((xpl h (xpl h (xpl h 53 19) 9) x1) + (xpl h (xpl h (xpl h 53 19) 8) x1)) - 1) ∧ xtg h (xpl h (xpl h 53 19) 7) = 100 ∧ x1 < (xln h (xpl h (xpl h 53 19) 7)) ∧ (xFix (xst h 53 35 (xpl h (xpl h (xpl h 53 19) 7) x1)) → xwp G m_M_seekNear (d + 2) 39 [xR 53, xI x1, xI x2, xI x3, xI x4, xI (((xpl h (xpl h (xpl h 53 19) 9) x1) + (xpl h (xpl h (xpl h 53 19) 8) x1)) - 1), xI 0, xZ, xZ, xZ] [] (xst h 53 35 (xpl h (xpl h (xpl h 53 19) 7) x1)) Q X)) : xwp G m_M_seekNear (d + 2) 0 [xR 53, xI x1, xI x2, xI x3, xI x4, xZ, xZ, xZ, xZ, xZ] [] h Q X := by
  have hnx9 : (93 : Int) ≤ xnx h := F.2.2
  refine xr_okL (fun hl9 => ?_)
  have r_x1 : -2147483648 ≤ x1 ∧ x1 ≤ 2147483647 := hl9 (xI x1) (.tail _ (.head _)) (Nat.le_of_ble_eq_true rfl)
  have r_x2 : -2147483648 ≤ x2 ∧ x2 ≤ 2147483647 := hl9 (xI x2) (.tail _ (.tail _ (.head _))) (Nat.le_of_ble_eq_true rfl)
  have r_x3 : -2147483648 ≤ x3 ∧ x3 ≤ 2147483647 := hl9 (xI x3) (.tail _ (.tail _ (.tail _ (.head _)))) (Nat.le_of_ble_eq_true rfl)
  have r_x4 : -2147483648 ≤ x4 ∧ x4 ≤ 2147483647 := hl9 (xI x4) (.tail _ (.tail _ (.tail _ (.tail _ (.head _))))) (Nat.le_of_ble_eq_true rfl)
  refine xr_aload_n (pc := 0) (i := 0) (hI := d_M_seekNear_0) (hi := rfl) (hl := rfl) ?_
  refine xg_getf (pc := 1) (ci := 11) (k := 19) (N := 38) (v9 := 2) (v := (xpl h 53 19)) (T := xF11) (hI := d_M_seekNear_1) (hw := w_1606) rfl xi11 (Or.inl rfl) (Nat.le_of_ble_eq_true rfl) (Nat.le_of_ble_eq_true rfl) rfl (ft_53 F) rfl (fun f1_ => ?_)
  clear f1_
  obtain ⟨c9, hyp⟩ := hyp
  have t2_ := c9
  clear c9
  refine xg_getfN (pc := 4) (ci := 12) (k := 9) (N := 13) (v9 := 2) (v := (xpl h (xpl h 53 19) 9)) (T := xF12) (hI := d_M_seekNear_4) (hw := w_1554) rfl xi12 (Or.inl rfl) (Nat.le_of_ble_eq_true rfl) (Nat.le_of_ble_eq_true rfl) rfl t2_ rfl (fun f3_ => ?_)
  clear f3_
  refine xr_iload_n (pc := 7) (i := 1) (hI := d_M_seekNear_7) (hi := rfl) (hl := rfl) ?_
  obtain ⟨c9, hyp⟩ := hyp
  have t4_ := c9
  clear c9
  obtain ⟨c5_, hyp⟩ := hyp
  obtain ⟨c6_, hyp⟩ := hyp
  refine xg_iaload (pc := 8) (v := (xpl h (xpl h (xpl h 53 19) 9) x1)) (hI := d_M_seekNear_8) t4_ c5_ (xlt_of rfl c6_) rfl (fun f7_ => ?_)
  replace f7_ : -2147483648 ≤ (xpl h (xpl h (xpl h 53 19) 9) x1) ∧ (xpl h (xpl h (xpl h 53 19) 9) x1) ≤ 2147483647 := f7_
  refine xr_aload_n (pc := 9) (i := 0) (hI := d_M_seekNear_9) (hi := rfl) (hl := rfl) ?_
  refine xg_getf (pc := 10) (ci := 11) (k := 19) (N := 38) (v9 := 2) (v := (xpl h 53 19)) (T := xF11) (hI := d_M_seekNear_10) (hw := w_1606) rfl xi11 (Or.inl rfl) (Nat.le_of_ble_eq_true rfl) (Nat.le_of_ble_eq_true rfl) rfl (ft_53 F) rfl (fun f8_ => ?_)
  clear f8_
  refine xg_getfN (pc := 13) (ci := 12) (k := 8) (N := 13) (v9 := 2) (v := (xpl h (xpl h 53 19) 8)) (T := xF12) (hI := d_M_seekNear_13) (hw := w_1552) rfl xi12 (Or.inl rfl) (Nat.le_of_ble_eq_true rfl) (Nat.le_of_ble_eq_true rfl) rfl t2_ rfl (fun f9_ => ?_)
  clear f9_
  refine xr_iload_n (pc := 16) (i := 1) (hI := d_M_seekNear_16) (hi := rfl) (hl := rfl) ?_
  obtain ⟨c9, hyp⟩ := hyp
  have t10_ := c9
  clear c9
  obtain ⟨c11_, hyp⟩ := hyp
  refine xg_iaload (pc := 17) (v := (xpl h (xpl h (xpl h 53 19) 8) x1)) (hI := d_M_seekNear_17) t10_ (by clear hyp; omega) (xlt_of rfl c11_) rfl (fun f12_ => ?_)
  replace f12_ : -2147483648 ≤ (xpl h (xpl h (xpl h 53 19) 8) x1) ∧ (xpl h (xpl h (xpl h 53 19) 8) x1) ≤ 2147483647 := f12_
  obtain ⟨c9, hyp⟩ := hyp
  refine xr_iadd (pc := 18) (hI := d_M_seekNear_18) (hr := c9) ?_
  refine xr_iconst (pc := 19) (hI := d_M_seekNear_19) (hr := by decide) ?_
  obtain ⟨c9, hyp⟩ := hyp
  refine xr_isub (pc := 20) (hI := d_M_seekNear_20) (hr := c9) ?_
  refine xr_istore (pc := 21) (i := 5) (L9 := [xR 53, xI x1, xI x2, xI x3, xI x4, xI (((xpl h (xpl h (xpl h 53 19) 9) x1) + (xpl h (xpl h (xpl h 53 19) 8) x1)) - 1), xZ, xZ, xZ, xZ]) (hI := d_M_seekNear_21) (hn := Nat.le_of_ble_eq_true rfl) (hL9 := rfl) ?_
  refine xr_aload_n (pc := 23) (i := 0) (hI := d_M_seekNear_23) (hi := rfl) (hl := rfl) ?_
  refine xr_aload_n (pc := 24) (i := 0) (hI := d_M_seekNear_24) (hi := rfl) (hl := rfl) ?_
  refine xg_getf (pc := 25) (ci := 11) (k := 19) (N := 38) (v9 := 2) (v := (xpl h 53 19)) (T := xF11) (hI := d_M_seekNear_25) (hw := w_1606) rfl xi11 (Or.inl rfl) (Nat.le_of_ble_eq_true rfl) (Nat.le_of_ble_eq_true rfl) rfl (ft_53 F) rfl (fun f13_ => ?_)
  clear f13_
  refine xg_getfN (pc := 28) (ci := 12) (k := 7) (N := 13) (v9 := 2) (v := (xpl h (xpl h 53 19) 7)) (T := xF12) (hI := d_M_seekNear_28) (hw := w_1550) rfl xi12 (Or.inl rfl) (Nat.le_of_ble_eq_true rfl) (Nat.le_of_ble_eq_true rfl) rfl t2_ rfl (fun f14_ => ?_)
  clear f14_
  refine xr_iload_n (pc := 31) (i := 1) (hI := d_M_seekNear_31) (hi := rfl) (hl := rfl) ?_
  obtain ⟨c9, hyp⟩ := hyp
  have t15_ := c9
  clear c9
  obtain ⟨c16_, hyp⟩ := hyp
  refine xg_iaload (pc := 32) (v := (xpl h (xpl h (xpl h 53 19) 7) x1)) (hI := d_M_seekNear_32) t15_ (by clear hyp; omega) (xlt_of rfl c16_) rfl (fun f17_ => ?_)
  replace f17_ : -2147483648 ≤ (xpl h (xpl h (xpl h 53 19) 7) x1) ∧ (xpl h (xpl h (xpl h 53 19) 7) x1) ≤ 2147483647 := f17_
  refine xr_putf (pc := 33) (ci := 11) (k := 35) (N := 38) (v9 := 0) (T := xF11) (tF := xT11) (hI := d_M_seekNear_33) (hw := w_1622) rfl xi11 xt11 xn11 (Or.inl rfl) (Nat.le_of_ble_eq_true rfl) (Nat.le_of_ble_eq_true rfl) rfl xfit_i rfl (ft_53 F) (by decide) (fun z => z) ?_
  have F18_ : xFix (xst h 53 35 (xpl h (xpl h (xpl h 53 19) 7) x1)) := F.stL xfk_53_35
  refine xr_iconst (pc := 36) (hI := d_M_seekNear_36) (hr := by decide) ?_
  refine xr_istore (pc := 37) (i := 6) (L9 := [xR 53, xI x1, xI x2, xI x3, xI x4, xI (((xpl h (xpl h (xpl h 53 19) 9) x1) + (xpl h (xpl h (xpl h 53 19) 8) x1)) - 1), xI 0, xZ, xZ, xZ]) (hI := d_M_seekNear_37) (hn := Nat.le_of_ble_eq_true rfl) (hL9 := rfl) ?_
  exact (hyp F18_)
theorem d_M_seekNear_39 : decode prog_14_method_61_code 39 = .ok (.iload 6, 2) := by decide +kernel
theorem d_M_seekNear_41 : decode prog_14_method_61_code 41 = .ok (.aload_n 0, 1) := by decide +kernel
theorem d_M_seekNear_42 : decode prog_14_method_61_code 42 = .ok (.getfield 338, 3) := by decide +kernel
theorem d_M_seekNear_45 : decode prog_14_method_61_code 45 = .ok (.if_icmp .ge 25, 3) := by decide +kernel
theorem d_M_seekNear_70 : decode prog_14_method_61_code 70 = .ok (.iconst 0, 1) := by decide +kernel
theorem d_M_seekNear_71 : decode prog_14_method_61_code 71 = .ok (.istore 6, 2) := by decide +kernel
theorem d_M_seekNear_48 : decode prog_14_method_61_code 48 = .ok (.aload_n 0, 1) := by decide +kernel
theorem d_M_seekNear_49 : decode prog_14_method_61_code 49 = .ok (.getfield 85, 3) := by decide +kernel
theorem d_M_seekNear_52 : decode prog_14_method_61_code 52 = .ok (.iload 6, 2) := by decide +kernel
theorem d_M_seekNear_54 : decode prog_14_method_61_code 54 = .ok (.iconst 0, 1) := by decide +kernel
theorem d_M_seekNear_55 : decode prog_14_method_61_code 55 = .ok (.iastore, 1) := by decide +kernel
theorem xfa_87 : xfreeA 87 = true := by decide +kernel
theorem d_M_seekNear_56 : decode prog_14_method_61_code 56 = .ok (.aload_n 0, 1) := by decide +kernel
theorem d_M_seekNear_57 : decode prog_14_method_61_code 57 = .ok (.getfield 88, 3) := by decide +kernel
theorem d_M_seekNear_60 : decode prog_14_method_61_code 60 = .ok (.iload 6, 2) := by decide +kernel
theorem d_M_seekNear_62 : decode prog_14_method_61_code 62 = .ok (.iconst 0, 1) := by decide +kernel
theorem d_M_seekNear_63 : decode prog_14_method_61_code 63 = .ok (.iastore, 1) := by decide +kernel
theorem d_M_seekNear_64 : decode prog_14_method_61_code 64 = .ok (.iinc 6 1, 3) := by decide +kernel
theorem d_M_seekNear_67 : decode prog_14_method_61_code 67 = .ok (.goto (-28), 3) := by decide +kernel
theorem v_M_seekNear_39 {G : XG} {d : Nat} {h : XH} {Q : XV → XH → Prop} {X : Nat → XH → Prop} {x1 x2 x3 x4 x5 x6 : Int} (F : xFix h) (hyp : (((xpl h 53 35) ≤ x6 → (xwp G m_M_seekNear (d + 2) 73 [xR 53, xI x1, xI x2, xI x3, xI x4, xI x5, xI 0, xZ, xZ, xZ] [] h Q X)) ∧ (¬ (xpl h 53 35) ≤ x6 → 0 ≤ x6 ∧ x6 < 40 ∧ (xFix (xst (xst h 87 x6 0) 88 x6 0) → xwp G m_M_seekNear (d + 2) 39 [xR 53, xI x1, xI x2, xI x3, xI x4, xI x5, xI (x6 + 1), xZ, xZ, xZ] [] (xst (xst h 87 x6 0) 88 x6 0) Q X)))) : xwp G m_M_seekNear (d + 2) 39 [xR 53, xI x1, xI x2, xI x3, xI x4, xI x5, xI x6, xZ, xZ, xZ] [] h Q X := by
  have hnx9 : (93 : Int) ≤ xnx h := F.2.2
  refine xr_okL (fun hl9 => ?_)
  have r_x1 : -2147483648 ≤ x1 ∧ x1 ≤ 2147483647 := hl9 (xI x1) (.tail _ (.head _)) (Nat.le_of_ble_eq_true rfl)
  have r_x2 : -2147483648 ≤ x2 ∧ x2 ≤ 2147483647 := hl9 (xI x2) (.tail _ (.tail _ (.head _))) (Nat.le_of_ble_eq_true rfl)
  have r_x3 : -2147483648 ≤ x3 ∧ x3 ≤ 2147483647 := hl9 (xI x3) (.tail _ (.tail _ (.tail _ (.head _)))) (Nat.le_of_ble_eq_true rfl)
  have r_x4 : -2147483648 ≤ x4 ∧ x4 ≤ 2147483647 := hl9 (xI x4) (.tail _ (.tail _ (.tail _ (.tail _ (.head _))))) (Nat.le_of_ble_eq_true rfl)
  have r_x5 : -2147483648 ≤ x5 ∧ x5 ≤ 2147483647 := hl9 (xI x5) (.tail _ (.tail _ (.tail _ (.tail _ (.tail _ (.head _)))))) (Nat.le_of_ble_eq_true rfl)
  have r_x6 : -2147483648 ≤ x6 ∧ x6 ≤ 2147483647 := hl9 (xI x6) (.tail _ (.tail _ (.tail _ (.tail _ (.tail _ (.tail _ (.head _))))))) (Nat.le_of_ble_eq_true rfl)
  refine xr_iload (pc := 39) (i := 6) (hI := d_M_seekNear_39) (hl := rfl) ?_
  refine xr_aload_n (pc := 41) (i := 0) (hI := d_M_seekNear_41) (hi := rfl) (hl := rfl) ?_
  refine xg_getf (pc := 42) (ci := 11) (k := 35) (N := 38) (v9 := 0) (v := (xpl h 53 35)) (T := xF11) (hI := d_M_seekNear_42) (hw := w_1622) rfl xi11 (Or.inl rfl) (Nat.le_of_ble_eq_true rfl) (Nat.le_of_ble_eq_true rfl) rfl (ft_53 F) rfl (fun f1_ => ?_)
  replace f1_ : -2147483648 ≤ (xpl h 53 35) ∧ (xpl h 53 35) ≤ 2147483647 := f1_
  refine xr_icmp_ge (pc := 45) (tgt := 70) (hI := d_M_seekNear_45) (ht := by decide) (fun q9 => ?_) (fun q9 => ?_)
  · replace hyp := hyp.1 q9
    have q2_ := q9
    clear q9
    refine xr_iconst (pc := 70) (hI := d_M_seekNear_70) (hr := by decide) ?_
    refine xr_istore (pc := 71) (i := 6) (L9 := [xR 53, xI x1, xI x2, xI x3, xI x4, xI x5, xI 0, xZ, xZ, xZ]) (hI := d_M_seekNear_71) (hn := Nat.le_of_ble_eq_true rfl) (hL9 := rfl) ?_
    exact hyp
  · replace hyp := hyp.2 q9
    have q2_ := q9
    clear q9
    refine xr_aload_n (pc := 48) (i := 0) (hI := d_M_seekNear_48) (hi := rfl) (hl := rfl) ?_
    refine xg_getf (pc := 49) (ci := 11) (k := 33) (N := 38) (v9 := 2) (v := 87) (T := xF11) (hI := d_M_seekNear_49) (hw := w_1620) rfl xi11 (Or.inl rfl) (Nat.le_of_ble_eq_true rfl) (Nat.le_of_ble_eq_true rfl) rfl (ft_53 F) (fp_53_33 F) (fun f3_ => ?_)
    clear f3_
    refine xr_iload (pc := 52) (i := 6) (hI := d_M_seekNear_52) (hl := rfl) ?_
    refine xr_iconst (pc := 54) (hI := d_M_seekNear_54) (hr := by decide) ?_
    obtain ⟨c4_, hyp⟩ := hyp
    obtain ⟨c5_, hyp⟩ := hyp
    refine xr_iastore (pc := 55) (hI := d_M_seekNear_55) (ft_87 F) (by decide) c4_ (xlt_of (fl_87 F) c5_) ?_
    have F6_ : xFix (xst h 87 x6 0) := F.stA xfa_87
    refine xr_aload_n (pc := 56) (i := 0) (hI := d_M_seekNear_56) (hi := rfl) (hl := rfl) ?_
    refine xg_getf (pc := 57) (ci := 11) (k := 34) (N := 38) (v9 := 2) (v := 88) (T := xF11) (hI := d_M_seekNear_57) (hw := w_1621) rfl xi11 (Or.inl rfl) (Nat.le_of_ble_eq_true rfl) (Nat.le_of_ble_eq_true rfl) rfl (ft_53 F6_) (fp_53_34 F6_) (fun f7_ => ?_)
    clear f7_
    refine xr_iload (pc := 60) (i := 6) (hI := d_M_seekNear_60) (hl := rfl) ?_
    refine xr_iconst (pc := 62) (hI := d_M_seekNear_62) (hr := by decide) ?_
    refine xr_iastore (pc := 63) (hI := d_M_seekNear_63) (ft_88 F6_) (by decide) (by clear hyp; omega) (xlt_of (fl_88 F6_) (by clear hyp; omega)) ?_
    have F8_ : xFix (xst (xst h 87 x6 0) 88 x6 0) := F6_.stA xfa_88
    refine xr_iinc (pc := 64) (i := 6) (L9 := [xR 53, xI x1, xI x2, xI x3, xI x4, xI x5, xI (x6 + 1), xZ, xZ, xZ]) (hI := d_M_seekNear_64) (hl := rfl) (hn := Nat.le_of_ble_eq_true rfl) (hr := ⟨by clear hyp; omega, by clear hyp; omega⟩) (hL9 := rfl) ?_
    refine xr_goto (pc := 67) (tgt := 39) (hI := d_M_seekNear_67) (ht := by decide) ?_
    exact (hyp F8_)
theorem d_M_seekNear_73 : decode prog_14_method_61_code 73 = .ok (.iload 6, 2) := by decide +kernel
theorem d_M_seekNear_75 : decode prog_14_method_61_code 75 = .ok (.aload_n 0, 1) := by decide +kernel
theorem d_M_seekNear_76 : decode prog_14_method_61_code 76 = .ok (.getfield 338, 3) := by decide +kernel
theorem d_M_seekNear_79 : decode prog_14_method_61_code 79 = .ok (.if_icmp .ge 43, 3) := by decide +kernel
theorem d_M_seekNear_122 : decode prog_14_method_61_code 122 = .ok (.iconst 0, 1) := by decide +kernel
theorem d_M_seekNear_123 : decode prog_14_method_61_code 123 = .ok (.istore 6, 2) := by decide +kernel
theorem d_M_seekNear_125 : decode prog_14_method_61_code 125 = .ok (.iconst (-1), 1) := by decide +kernel
theorem d_M_seekNear_126 : decode prog_14_method_61_code 126 = .ok (.istore 7, 2) := by decide +kernel
theorem d_M_seekNear_128 : decode prog_14_method_61_code 128 = .ok (.iconst 0, 1) := by decide +kernel
theorem d_M_seekNear_129 : decode prog_14_method_61_code 129 = .ok (.istore 8, 2) := by decide +kernel
theorem d_M_seekNear_82 : decode prog_14_method_61_code 82 = .ok (.aload_n 0, 1) := by decide +kernel
theorem d_M_seekNear_83 : decode prog_14_method_61_code 83 = .ok (.getfield 85, 3) := by decide +kernel
theorem d_M_seekNear_86 : decode prog_14_method_61_code 86 = .ok (.aload_n 0, 1) := by decide +kernel
theorem d_M_seekNear_87 : decode prog_14_method_61_code 87 = .ok (.iload_n 1, 1) := by decide +kernel
theorem d_M_seekNear_88 : decode prog_14_method_61_code 88 = .ok (.aload_n 0, 1) := by decide +kernel
theorem d_M_seekNear_89 : decode prog_14_method_61_code 89 = .ok (.getfield 51, 3) := by decide +kernel
theorem d_M_seekNear_92 : decode prog_14_method_61_code 92 = .ok (.getfield 319, 3) := by decide +kernel
theorem d_M_seekNear_95 : decode prog_14_method_61_code 95 = .ok (.aload_n 0, 1) := by decide +kernel
theorem d_M_seekNear_96 : decode prog_14_method_61_code 96 = .ok (.getfield 51, 3) := by decide +kernel
theorem d_M_seekNear_99 : decode prog_14_method_61_code 99 = .ok (.getfield 282, 3) := by decide +kernel
theorem d_M_seekNear_102 : decode prog_14_method_61_code 102 = .ok (.iload_n 1, 1) := by decide +kernel
theorem d_M_seekNear_103 : decode prog_14_method_61_code 103 = .ok (.iaload, 1) := by decide +kernel
theorem d_M_seekNear_104 : decode prog_14_method_61_code 104 = .ok (.iload 6, 2) := by decide +kernel
theorem d_M_seekNear_106 : decode prog_14_method_61_code 106 = .ok (.iadd, 1) := by decide +kernel
theorem d_M_seekNear_107 : decode prog_14_method_61_code 107 = .ok (.laload, 1) := by decide +kernel
theorem d_M_seekNear_108 : decode prog_14_method_61_code 108 = .ok (.invokevirtual 341, 3) := by decide +kernel
theorem k_M_inPhrase : xCal m_M_inPhrase 2 := ⟨List.mem_append_right _ (List.mem_of_getElem? (i := 2392) (by decide +kernel)), w_15, Nat.le_of_ble_eq_true rfl, ⟨by decide +kernel, by decide +kernel⟩, by decide +kernel, by decide +kernel, rfl⟩
theorem w_2389 : Cond.methodLink "BeaconIndexModel" 341 ⟨"BeaconIndexModel", "inPhrase", "(IJ)I"⟩ ∈ lw_tbl := List.mem_append_right _ (List.mem_of_getElem? (i := 2389) (by decide +kernel))
theorem w_2391 : Cond.instanceMethod ⟨"BeaconIndexModel", "inPhrase", "(IJ)I"⟩ ∈ lw_tbl := List.mem_append_right _ (List.mem_of_getElem? (i := 2391) (by decide +kernel))
theorem sel_M_inPhrase : Cond.selects "BeaconIndexModel" ⟨"BeaconIndexModel", "inPhrase", "(IJ)I"⟩ ⟨"BeaconIndexModel", "inPhrase", "(IJ)I"⟩ ∈ lw_tbl := List.mem_append_left _ (by decide +kernel)
theorem v_M_seekNear_73 {G : XG} {d : Nat} {h : XH} {Q : XV → XH → Prop} {X : Nat → XH → Prop} {x1 x2 x3 x4 x5 x6 : Int} (F : xFix h) (hyp : (((xpl h 53 35) ≤ x6 → (xwp G m_M_seekNear (d + 2) 131 [xR 53, xI x1, xI x2, xI x3, xI x4, xI x5, xI 0, xI (-1), xI 0, xZ] [] h Q X)) ∧ (¬ (xpl h 53 35) ≤ x6 → xtg h (xpl h 53 19) = 12 ∧ xtg h (xpl h (xpl h 53 19) 6) = 100 ∧ 0 ≤ x1 ∧ x1 < (xln h (xpl h (xpl h 53 19) 6)) ∧ xiR ((xpl h (xpl h (xpl h 53 19) 6) x1) + x6) ∧ xtg h (xpl h (xpl h 53 19) 11) = 101 ∧ 0 ≤ ((xpl h (xpl h (xpl h 53 19) 6) x1) + x6) ∧ ((xpl h (xpl h (xpl h 53 19) 6) x1) + x6) < (xln h (xpl h (xpl h 53 19) 11)) ∧ (xwp G m_M_inPhrase (d + 1) 0 [xR 53, xI x1, xL (xpl h (xpl h (xpl h 53 19) 11) ((xpl h (xpl h (xpl h 53 19) 6) x1) + x6)), xZ, xZ, xZ] [] h (fun v9 h9 => xwp G m_M_seekNear (d + 2) 111 [xR 53, xI x1, xI x2, xI x3, xI x4, xI x5, xI x6, xZ, xZ, xZ] (xpush v9 [xR 87]) h9 Q X) X)))) : xwp G m_M_seekNear (d + 2) 73 [xR 53, xI x1, xI x2, xI x3, xI x4, xI x5, xI x6, xZ, xZ, xZ] [] h Q X := by
  have hnx9 : (93 : Int) ≤ xnx h := F.2.2
  refine xr_okL (fun hl9 => ?_)
  have r_x1 : -2147483648 ≤ x1 ∧ x1 ≤ 2147483647 := hl9 (xI x1) (.tail _ (.head _)) (Nat.le_of_ble_eq_true rfl)
  have r_x2 : -2147483648 ≤ x2 ∧ x2 ≤ 2147483647 := hl9 (xI x2) (.tail _ (.tail _ (.head _))) (Nat.le_of_ble_eq_true rfl)
  have r_x3 : -2147483648 ≤ x3 ∧ x3 ≤ 2147483647 := hl9 (xI x3) (.tail _ (.tail _ (.tail _ (.head _)))) (Nat.le_of_ble_eq_true rfl)
  have r_x4 : -2147483648 ≤ x4 ∧ x4 ≤ 2147483647 := hl9 (xI x4) (.tail _ (.tail _ (.tail _ (.tail _ (.head _))))) (Nat.le_of_ble_eq_true rfl)
  have r_x5 : -2147483648 ≤ x5 ∧ x5 ≤ 2147483647 := hl9 (xI x5) (.tail _ (.tail _ (.tail _ (.tail _ (.tail _ (.head _)))))) (Nat.le_of_ble_eq_true rfl)
  have r_x6 : -2147483648 ≤ x6 ∧ x6 ≤ 2147483647 := hl9 (xI x6) (.tail _ (.tail _ (.tail _ (.tail _ (.tail _ (.tail _ (.head _))))))) (Nat.le_of_ble_eq_true rfl)
  refine xr_iload (pc := 73) (i := 6) (hI := d_M_seekNear_73) (hl := rfl) ?_
  refine xr_aload_n (pc := 75) (i := 0) (hI := d_M_seekNear_75) (hi := rfl) (hl := rfl) ?_
  refine xg_getf (pc := 76) (ci := 11) (k := 35) (N := 38) (v9 := 0) (v := (xpl h 53 35)) (T := xF11) (hI := d_M_seekNear_76) (hw := w_1622) rfl xi11 (Or.inl rfl) (Nat.le_of_ble_eq_true rfl) (Nat.le_of_ble_eq_true rfl) rfl (ft_53 F) rfl (fun f1_ => ?_)
  replace f1_ : -2147483648 ≤ (xpl h 53 35) ∧ (xpl h 53 35) ≤ 2147483647 := f1_
  refine xr_icmp_ge (pc := 79) (tgt := 122) (hI := d_M_seekNear_79) (ht := by decide) (fun q9 => ?_) (fun q9 => ?_)
  · replace hyp := hyp.1 q9
    have q2_ := q9
    clear q9
    refine xr_iconst (pc := 122) (hI := d_M_seekNear_122) (hr := by decide) ?_
    refine xr_istore (pc := 123) (i := 6) (L9 := [xR 53, xI x1, xI x2, xI x3, xI x4, xI x5, xI 0, xZ, xZ, xZ]) (hI := d_M_seekNear_123) (hn := Nat.le_of_ble_eq_true rfl) (hL9 := rfl) ?_
    refine xr_iconst (pc := 125) (hI := d_M_seekNear_125) (hr := by decide) ?_
    refine xr_istore (pc := 126) (i := 7) (L9 := [xR 53, xI x1, xI x2, xI x3, xI x4, xI x5, xI 0, xI (-1), xZ, xZ]) (hI := d_M_seekNear_126) (hn := Nat.le_of_ble_eq_true rfl) (hL9 := rfl) ?_
    refine xr_iconst (pc := 128) (hI := d_M_seekNear_128) (hr := by decide) ?_
    refine xr_istore (pc := 129) (i := 8) (L9 := [xR 53, xI x1, xI x2, xI x3, xI x4, xI x5, xI 0, xI (-1), xI 0, xZ]) (hI := d_M_seekNear_129) (hn := Nat.le_of_ble_eq_true rfl) (hL9 := rfl) ?_
    exact hyp
  · replace hyp := hyp.2 q9
    have q2_ := q9
    clear q9
    refine xr_aload_n (pc := 82) (i := 0) (hI := d_M_seekNear_82) (hi := rfl) (hl := rfl) ?_
    refine xg_getf (pc := 83) (ci := 11) (k := 33) (N := 38) (v9 := 2) (v := 87) (T := xF11) (hI := d_M_seekNear_83) (hw := w_1620) rfl xi11 (Or.inl rfl) (Nat.le_of_ble_eq_true rfl) (Nat.le_of_ble_eq_true rfl) rfl (ft_53 F) (fp_53_33 F) (fun f3_ => ?_)
    clear f3_
    refine xr_aload_n (pc := 86) (i := 0) (hI := d_M_seekNear_86) (hi := rfl) (hl := rfl) ?_
    refine xr_iload_n (pc := 87) (i := 1) (hI := d_M_seekNear_87) (hi := rfl) (hl := rfl) ?_
    refine xr_aload_n (pc := 88) (i := 0) (hI := d_M_seekNear_88) (hi := rfl) (hl := rfl) ?_
    refine xg_getf (pc := 89) (ci := 11) (k := 19) (N := 38) (v9 := 2) (v := (xpl h 53 19)) (T := xF11) (hI := d_M_seekNear_89) (hw := w_1606) rfl xi11 (Or.inl rfl) (Nat.le_of_ble_eq_true rfl) (Nat.le_of_ble_eq_true rfl) rfl (ft_53 F) rfl (fun f4_ => ?_)
    clear f4_
    obtain ⟨c9, hyp⟩ := hyp
    have t5_ := c9
    clear c9
    refine xg_getfN (pc := 92) (ci := 12) (k := 11) (N := 13) (v9 := 2) (v := (xpl h (xpl h 53 19) 11)) (T := xF12) (hI := d_M_seekNear_92) (hw := w_1557) rfl xi12 (Or.inl rfl) (Nat.le_of_ble_eq_true rfl) (Nat.le_of_ble_eq_true rfl) rfl t5_ rfl (fun f6_ => ?_)
    clear f6_
    refine xr_aload_n (pc := 95) (i := 0) (hI := d_M_seekNear_95) (hi := rfl) (hl := rfl) ?_
    refine xg_getf (pc := 96) (ci := 11) (k := 19) (N := 38) (v9 := 2) (v := (xpl h 53 19)) (T := xF11) (hI := d_M_seekNear_96) (hw := w_1606) rfl xi11 (Or.inl rfl) (Nat.le_of_ble_eq_true rfl) (Nat.le_of_ble_eq_true rfl) rfl (ft_53 F) rfl (fun f7_ => ?_)
    clear f7_
    refine xg_getfN (pc := 99) (ci := 12) (k := 6) (N := 13) (v9 := 2) (v := (xpl h (xpl h 53 19) 6)) (T := xF12) (hI := d_M_seekNear_99) (hw := w_1548) rfl xi12 (Or.inl rfl) (Nat.le_of_ble_eq_true rfl) (Nat.le_of_ble_eq_true rfl) rfl t5_ rfl (fun f8_ => ?_)
    clear f8_
    refine xr_iload_n (pc := 102) (i := 1) (hI := d_M_seekNear_102) (hi := rfl) (hl := rfl) ?_
    obtain ⟨c9, hyp⟩ := hyp
    have t9_ := c9
    clear c9
    obtain ⟨c10_, hyp⟩ := hyp
    obtain ⟨c11_, hyp⟩ := hyp
    refine xg_iaload (pc := 103) (v := (xpl h (xpl h (xpl h 53 19) 6) x1)) (hI := d_M_seekNear_103) t9_ c10_ (xlt_of rfl c11_) rfl (fun f12_ => ?_)
    replace f12_ : -2147483648 ≤ (xpl h (xpl h (xpl h 53 19) 6) x1) ∧ (xpl h (xpl h (xpl h 53 19) 6) x1) ≤ 2147483647 := f12_
    refine xr_iload (pc := 104) (i := 6) (hI := d_M_seekNear_104) (hl := rfl) ?_
    obtain ⟨c9, hyp⟩ := hyp
    refine xr_iadd (pc := 106) (hI := d_M_seekNear_106) (hr := c9) ?_
    obtain ⟨c9, hyp⟩ := hyp
    have t13_ := c9
    clear c9
    obtain ⟨c14_, hyp⟩ := hyp
    obtain ⟨c15_, hyp⟩ := hyp
    refine xg_laload (pc := 107) (v := (xpl h (xpl h (xpl h 53 19) 11) ((xpl h (xpl h (xpl h 53 19) 6) x1) + x6))) (hI := d_M_seekNear_107) t13_ c14_ (xlt_of rfl c15_) rfl (fun f16_ => ?_)
    replace f16_ : -9223372036854775808 ≤ (xpl h (xpl h (xpl h 53 19) 11) ((xpl h (xpl h (xpl h 53 19) 6) x1) + x6)) ∧ (xpl h (xpl h (xpl h 53 19) 11) ((xpl h (xpl h (xpl h 53 19) 6) x1) + x6)) ≤ 9223372036854775807 := f16_
    exact xq_callV (pc := 108) (index := 341) (K := m_M_inPhrase) (As := [xI x1, xL (xpl h (xpl h (xpl h 53 19) 11) ((xpl h (xpl h (xpl h 53 19) 6) x1) + x6))]) (S := [xR 87]) (L0 := [xR 53, xI x1, xL (xpl h (xpl h (xpl h 53 19) 11) ((xpl h (xpl h (xpl h 53 19) 6) x1) + x6)), xZ, xZ, xZ]) (hI := d_M_seekNear_108) (hK := k_M_inPhrase) (hlk := w_2389) (hnoM := rfl) (hS8 := Nat.le_of_ble_eq_true rfl) (ci := 11) (N := 38) (C := "BeaconIndexModel") (T := xF11) (hc := rfl) (hci := Nat.le_of_ble_eq_true rfl) (htb := (ft_53 F)) (hinst := w_2391) (hsel := sel_M_inPhrase) (hlen := Nat.le_of_ble_eq_true rfl) (hst := rfl) (hL0 := rfl)  hyp
theorem d_M_seekNear_111 : decode prog_14_method_61_code 111 = .ok (.dup2, 1) := by decide +kernel
theorem d_M_seekNear_112 : decode prog_14_method_61_code 112 = .ok (.iaload, 1) := by decide +kernel
theorem d_M_seekNear_113 : decode prog_14_method_61_code 113 = .ok (.iconst 1, 1) := by decide +kernel
theorem d_M_seekNear_114 : decode prog_14_method_61_code 114 = .ok (.iadd, 1) := by decide +kernel
theorem d_M_seekNear_115 : decode prog_14_method_61_code 115 = .ok (.iastore, 1) := by decide +kernel
theorem d_M_seekNear_116 : decode prog_14_method_61_code 116 = .ok (.iinc 6 1, 3) := by decide +kernel
theorem d_M_seekNear_119 : decode prog_14_method_61_code 119 = .ok (.goto (-46), 3) := by decide +kernel
theorem v_M_seekNear_111 {G : XG} {d : Nat} {h : XH} {Q : XV → XH → Prop} {X : Nat → XH → Prop} {x1 x2 x3 x4 x5 x6 s0 s1 : Int} (F : xFix h) (hyp : xtg h s1 = 100 ∧ 0 ≤ s0 ∧ s0 < (xln h s1) ∧ xiR ((xpl h s1 s0) + 1) ∧ 0 ≤ s1 ∧ xiR (x6 + 1) ∧ (xFix (xst h s1 s0 ((xpl h s1 s0) + 1)) → xwp G m_M_seekNear (d + 2) 73 [xR 53, xI x1, xI x2, xI x3, xI x4, xI x5, xI (x6 + 1), xZ, xZ, xZ] [] (xst h s1 s0 ((xpl h s1 s0) + 1)) Q X)) : xwp G m_M_seekNear (d + 2) 111 [xR 53, xI x1, xI x2, xI x3, xI x4, xI x5, xI x6, xZ, xZ, xZ] [xI s0, xR s1] h Q X := by
  have hnx9 : (93 : Int) ≤ xnx h := F.2.2
  refine xr_okL (fun hl9 => ?_)
  have r_x1 : -2147483648 ≤ x1 ∧ x1 ≤ 2147483647 := hl9 (xI x1) (.tail _ (.head _)) (Nat.le_of_ble_eq_true rfl)
  have r_x2 : -2147483648 ≤ x2 ∧ x2 ≤ 2147483647 := hl9 (xI x2) (.tail _ (.tail _ (.head _))) (Nat.le_of_ble_eq_true rfl)
  have r_x3 : -2147483648 ≤ x3 ∧ x3 ≤ 2147483647 := hl9 (xI x3) (.tail _ (.tail _ (.tail _ (.head _)))) (Nat.le_of_ble_eq_true rfl)
  have r_x4 : -2147483648 ≤ x4 ∧ x4 ≤ 2147483647 := hl9 (xI x4) (.tail _ (.tail _ (.tail _ (.tail _ (.head _))))) (Nat.le_of_ble_eq_true rfl)
  have r_x5 : -2147483648 ≤ x5 ∧ x5 ≤ 2147483647 := hl9 (xI x5) (.tail _ (.tail _ (.tail _ (.tail _ (.tail _ (.head _)))))) (Nat.le_of_ble_eq_true rfl)
  have r_x6 : -2147483648 ≤ x6 ∧ x6 ≤ 2147483647 := hl9 (xI x6) (.tail _ (.tail _ (.tail _ (.tail _ (.tail _ (.tail _ (.head _))))))) (Nat.le_of_ble_eq_true rfl)
  refine xr_okS (fun hs9 => ?_)
  have r_s0 : -2147483648 ≤ s0 ∧ s0 ≤ 2147483647 := hs9 (xI s0) (.head _)
  refine xr_dup2 (pc := 111) (hI := d_M_seekNear_111) (hv := rfl) (hw := rfl) ?_
  obtain ⟨c9, hyp⟩ := hyp
  have t1_ := c9
  clear c9
  obtain ⟨c2_, hyp⟩ := hyp
  obtain ⟨c3_, hyp⟩ := hyp
  refine xg_iaload (pc := 112) (v := (xpl h s1 s0)) (hI := d_M_seekNear_112) t1_ c2_ (xlt_of rfl c3_) rfl (fun f4_ => ?_)
  replace f4_ : -2147483648 ≤ (xpl h s1 s0) ∧ (xpl h s1 s0) ≤ 2147483647 := f4_
  refine xr_iconst (pc := 113) (hI := d_M_seekNear_113) (hr := by decide) ?_
  obtain ⟨c9, hyp⟩ := hyp
  refine xr_iadd (pc := 114) (hI := d_M_seekNear_114) (hr := c9) ?_
  obtain ⟨c5_, hyp⟩ := hyp
  refine xr_iastore (pc := 115) (hI := d_M_seekNear_115) t1_ c5_ (by clear hyp; omega) (xlt_of rfl (by clear hyp; omega)) ?_
  have F6_ : xFix (xst h s1 s0 ((xpl h s1 s0) + 1)) := F.stTA (t := 100) c5_ t1_ xta_100
  obtain ⟨c9, hyp⟩ := hyp
  refine xr_iinc (pc := 116) (i := 6) (L9 := [xR 53, xI x1, xI x2, xI x3, xI x4, xI x5, xI (x6 + 1), xZ, xZ, xZ]) (hI := d_M_seekNear_116) (hl := rfl) (hn := Nat.le_of_ble_eq_true rfl) (hr := c9) (hL9 := rfl) ?_
  refine xr_goto (pc := 119) (tgt := 73) (hI := d_M_seekNear_119) (ht := by decide) ?_
  exact (hyp F6_)
theorem d_M_seekNear_131 : decode prog_14_method_61_code 131 = .ok (.iload 8, 2) := by decide +kernel
theorem d_M_seekNear_133 : decode prog_14_method_61_code 133 = .ok (.iload_n 3, 1) := by decide +kernel
theorem d_M_seekNear_134 : decode prog_14_method_61_code 134 = .ok (.if_icmp .ge 113, 3) := by decide +kernel
theorem d_M_seekNear_247 : decode prog_14_method_61_code 247 = .ok (.return_, 1) := by decide +kernel
theorem v_M_seekNear_131 {G : XG} {d : Nat} {h : XH} {Q : XV → XH → Prop} {X : Nat → XH → Prop} {x1 x2 x3 x4 x5 x6 x7 x8 : Int} (F : xFix h) (hyp : ((x3 ≤ x8 → (Q xN h)) ∧ (¬ x3 ≤ x8 → (xwp G m_M_seekNear (d + 2) 137 [xR 53, xI x1, xI x2, xI x3, xI x4, xI x5, xI x6, xI x7, xI x8, xZ] [] h Q X)))) : xwp G m_M_seekNear (d + 2) 131 [xR 53, xI x1, xI x2, xI x3, xI x4, xI x5, xI x6, xI x7, xI x8, xZ] [] h Q X := by
  have hnx9 : (93 : Int) ≤ xnx h := F.2.2
  refine xr_okL (fun hl9 => ?_)
  have r_x1 : -2147483648 ≤ x1 ∧ x1 ≤ 2147483647 := hl9 (xI x1) (.tail _ (.head _)) (Nat.le_of_ble_eq_true rfl)
  have r_x2 : -2147483648 ≤ x2 ∧ x2 ≤ 2147483647 := hl9 (xI x2) (.tail _ (.tail _ (.head _))) (Nat.le_of_ble_eq_true rfl)
  have r_x3 : -2147483648 ≤ x3 ∧ x3 ≤ 2147483647 := hl9 (xI x3) (.tail _ (.tail _ (.tail _ (.head _)))) (Nat.le_of_ble_eq_true rfl)
  have r_x4 : -2147483648 ≤ x4 ∧ x4 ≤ 2147483647 := hl9 (xI x4) (.tail _ (.tail _ (.tail _ (.tail _ (.head _))))) (Nat.le_of_ble_eq_true rfl)
  have r_x5 : -2147483648 ≤ x5 ∧ x5 ≤ 2147483647 := hl9 (xI x5) (.tail _ (.tail _ (.tail _ (.tail _ (.tail _ (.head _)))))) (Nat.le_of_ble_eq_true rfl)
  have r_x6 : -2147483648 ≤ x6 ∧ x6 ≤ 2147483647 := hl9 (xI x6) (.tail _ (.tail _ (.tail _ (.tail _ (.tail _ (.tail _ (.head _))))))) (Nat.le_of_ble_eq_true rfl)
  have r_x7 : -2147483648 ≤ x7 ∧ x7 ≤ 2147483647 := hl9 (xI x7) (.tail _ (.tail _ (.tail _ (.tail _ (.tail _ (.tail _ (.tail _ (.head _)))))))) (Nat.le_of_ble_eq_true rfl)
  have r_x8 : -2147483648 ≤ x8 ∧ x8 ≤ 2147483647 := hl9 (xI x8) (.tail _ (.tail _ (.tail _ (.tail _ (.tail _ (.tail _ (.tail _ (.tail _ (.head _))))))))) (Nat.le_of_ble_eq_true rfl)
  refine xr_iload (pc := 131) (i := 8) (hI := d_M_seekNear_131) (hl := rfl) ?_
  refine xr_iload_n (pc := 133) (i := 3) (hI := d_M_seekNear_133) (hi := rfl) (hl := rfl) ?_
  refine xr_icmp_ge (pc := 134) (tgt := 247) (hI := d_M_seekNear_134) (ht := by decide) (fun q9 => ?_) (fun q9 => ?_)
  · replace hyp := hyp.1 q9
    have q1_ := q9
    clear q9
    refine xr_return (S := []) (pc := 247) (hI := d_M_seekNear_247) (hr := rfl) ?_
    exact hyp
  · replace hyp := hyp.2 q9
    have q1_ := q9
    clear q9
    exact hyp
theorem d_M_seekNear_137 : decode prog_14_method_61_code 137 = .ok (.iload 6, 2) := by decide +kernel
theorem d_M_seekNear_139 : decode prog_14_method_61_code 139 = .ok (.iload_n 3, 1) := by decide +kernel
theorem d_M_seekNear_140 : decode prog_14_method_61_code 140 = .ok (.if_icmp .ge 38, 3) := by decide +kernel
theorem d_M_seekNear_143 : decode prog_14_method_61_code 143 = .ok (.iload 6, 2) := by decide +kernel
theorem d_M_seekNear_145 : decode prog_14_method_61_code 145 = .ok (.iload 8, 2) := by decide +kernel
theorem d_M_seekNear_147 : decode prog_14_method_61_code 147 = .ok (.iload 5, 2) := by decide +kernel
theorem d_M_seekNear_149 : decode prog_14_method_61_code 149 = .ok (.iadd, 1) := by decide +kernel
theorem d_M_seekNear_150 : decode prog_14_method_61_code 150 = .ok (.if_icmp .gt 28, 3) := by decide +kernel
theorem d_M_seekNear_153 : decode prog_14_method_61_code 153 = .ok (.aload_n 0, 1) := by decide +kernel
theorem d_M_seekNear_154 : decode prog_14_method_61_code 154 = .ok (.aload_n 0, 1) := by decide +kernel
theorem d_M_seekNear_155 : decode prog_14_method_61_code 155 = .ok (.iload_n 1, 1) := by decide +kernel
theorem d_M_seekNear_156 : decode prog_14_method_61_code 156 = .ok (.aload_n 0, 1) := by decide +kernel
theorem d_M_seekNear_157 : decode prog_14_method_61_code 157 = .ok (.getfield 35, 3) := by decide +kernel
theorem d_M_seekNear_160 : decode prog_14_method_61_code 160 = .ok (.iload_n 2, 1) := by decide +kernel
theorem d_M_seekNear_161 : decode prog_14_method_61_code 161 = .ok (.iload 6, 2) := by decide +kernel
theorem d_M_seekNear_163 : decode prog_14_method_61_code 163 = .ok (.iadd, 1) := by decide +kernel
theorem d_M_seekNear_164 : decode prog_14_method_61_code 164 = .ok (.laload, 1) := by decide +kernel
theorem d_M_seekNear_165 : decode prog_14_method_61_code 165 = .ok (.invokevirtual 341, 3) := by decide +kernel
theorem v_M_seekNear_137 {G : XG} {d : Nat} {h : XH} {Q : XV → XH → Prop} {X : Nat → XH → Prop} {x1 x2 x3 x4 x5 x6 x7 x8 : Int} (F : xFix h) (hyp : ((x3 ≤ x6 → (xwp G m_M_seekNear (d + 2) 178 [xR 53, xI x1, xI x2, xI x3, xI x4, xI x5, xI x6, xI x7, xI x8, xZ] [] h Q X)) ∧ (¬ x3 ≤ x6 → xiR (x8 + x5) ∧ (((x8 + x5) < x6 → (xwp G m_M_seekNear (d + 2) 178 [xR 53, xI x1, xI x2, xI x3, xI x4, xI x5, xI x6, xI x7, xI x8, xZ] [] h Q X)) ∧ (¬ (x8 + x5) < x6 → xiR (x2 + x6) ∧ 0 ≤ (x2 + x6) ∧ (x2 + x6) < 12000 ∧ (xwp G m_M_inPhrase (d + 1) 0 [xR 53, xI x1, xL (xpl h 62 (x2 + x6)), xZ, xZ, xZ] [] h (fun v9 h9 => xwp G m_M_seekNear (d + 2) 168 [xR 53, xI x1, xI x2, xI x3, xI x4, xI x5, xI x6, xI x7, xI x8, xZ] (xpush v9 [xR 53]) h9 Q X) X)))))) : xwp G m_M_seekNear (d + 2) 137 [xR 53, xI x1, xI x2, xI x3, xI x4, xI x5, xI x6, xI x7, xI x8, xZ] [] h Q X := by
  have hnx9 : (93 : Int) ≤ xnx h := F.2.2
  refine xr_okL (fun hl9 => ?_)
  have r_x1 : -2147483648 ≤ x1 ∧ x1 ≤ 2147483647 := hl9 (xI x1) (.tail _ (.head _)) (Nat.le_of_ble_eq_true rfl)
  have r_x2 : -2147483648 ≤ x2 ∧ x2 ≤ 2147483647 := hl9 (xI x2) (.tail _ (.tail _ (.head _))) (Nat.le_of_ble_eq_true rfl)
  have r_x3 : -2147483648 ≤ x3 ∧ x3 ≤ 2147483647 := hl9 (xI x3) (.tail _ (.tail _ (.tail _ (.head _)))) (Nat.le_of_ble_eq_true rfl)
  have r_x4 : -2147483648 ≤ x4 ∧ x4 ≤ 2147483647 := hl9 (xI x4) (.tail _ (.tail _ (.tail _ (.tail _ (.head _))))) (Nat.le_of_ble_eq_true rfl)
  have r_x5 : -2147483648 ≤ x5 ∧ x5 ≤ 2147483647 := hl9 (xI x5) (.tail _ (.tail _ (.tail _ (.tail _ (.tail _ (.head _)))))) (Nat.le_of_ble_eq_true rfl)
  have r_x6 : -2147483648 ≤ x6 ∧ x6 ≤ 2147483647 := hl9 (xI x6) (.tail _ (.tail _ (.tail _ (.tail _ (.tail _ (.tail _ (.head _))))))) (Nat.le_of_ble_eq_true rfl)
  have r_x7 : -2147483648 ≤ x7 ∧ x7 ≤ 2147483647 := hl9 (xI x7) (.tail _ (.tail _ (.tail _ (.tail _ (.tail _ (.tail _ (.tail _ (.head _)))))))) (Nat.le_of_ble_eq_true rfl)
  have r_x8 : -2147483648 ≤ x8 ∧ x8 ≤ 2147483647 := hl9 (xI x8) (.tail _ (.tail _ (.tail _ (.tail _ (.tail _ (.tail _ (.tail _ (.tail _ (.head _))))))))) (Nat.le_of_ble_eq_true rfl)
  refine xr_iload (pc := 137) (i := 6) (hI := d_M_seekNear_137) (hl := rfl) ?_
  refine xr_iload_n (pc := 139) (i := 3) (hI := d_M_seekNear_139) (hi := rfl) (hl := rfl) ?_
  refine xr_icmp_ge (pc := 140) (tgt := 178) (hI := d_M_seekNear_140) (ht := by decide) (fun q9 => ?_) (fun q9 => ?_)
  · replace hyp := hyp.1 q9
    have q1_ := q9
    clear q9
    exact hyp
  · replace hyp := hyp.2 q9
    have q1_ := q9
    clear q9
    refine xr_iload (pc := 143) (i := 6) (hI := d_M_seekNear_143) (hl := rfl) ?_
    refine xr_iload (pc := 145) (i := 8) (hI := d_M_seekNear_145) (hl := rfl) ?_
    refine xr_iload (pc := 147) (i := 5) (hI := d_M_seekNear_147) (hl := rfl) ?_
    obtain ⟨c9, hyp⟩ := hyp
    refine xr_iadd (pc := 149) (hI := d_M_seekNear_149) (hr := c9) ?_
    refine xr_icmp_gt (pc := 150) (tgt := 178) (hI := d_M_seekNear_150) (ht := by decide) (fun q9 => ?_) (fun q9 => ?_)
    · replace hyp := hyp.1 q9
      have q2_ := q9
      clear q9
      exact hyp
    · replace hyp := hyp.2 q9
      have q2_ := q9
      clear q9
      refine xr_aload_n (pc := 153) (i := 0) (hI := d_M_seekNear_153) (hi := rfl) (hl := rfl) ?_
      refine xr_aload_n (pc := 154) (i := 0) (hI := d_M_seekNear_154) (hi := rfl) (hl := rfl) ?_
      refine xr_iload_n (pc := 155) (i := 1) (hI := d_M_seekNear_155) (hi := rfl) (hl := rfl) ?_
      refine xr_aload_n (pc := 156) (i := 0) (hI := d_M_seekNear_156) (hi := rfl) (hl := rfl) ?_
      refine xg_getf (pc := 157) (ci := 11) (k := 13) (N := 38) (v9 := 2) (v := 62) (T := xF11) (hI := d_M_seekNear_157) (hw := w_1600) rfl xi11 (Or.inl rfl) (Nat.le_of_ble_eq_true rfl) (Nat.le_of_ble_eq_true rfl) rfl (ft_53 F) (fp_53_13 F) (fun f3_ => ?_)
      clear f3_
      refine xr_iload_n (pc := 160) (i := 2) (hI := d_M_seekNear_160) (hi := rfl) (hl := rfl) ?_
      refine xr_iload (pc := 161) (i := 6) (hI := d_M_seekNear_161) (hl := rfl) ?_
      obtain ⟨c9, hyp⟩ := hyp
      refine xr_iadd (pc := 163) (hI := d_M_seekNear_163) (hr := c9) ?_
      obtain ⟨c4_, hyp⟩ := hyp
      obtain ⟨c5_, hyp⟩ := hyp
      refine xg_laload (pc := 164) (v := (xpl h 62 (x2 + x6))) (hI := d_M_seekNear_164) (ft_62 F) c4_ (xlt_of (fl_62 F) c5_) rfl (fun f6_ => ?_)
      replace f6_ : -9223372036854775808 ≤ (xpl h 62 (x2 + x6)) ∧ (xpl h 62 (x2 + x6)) ≤ 9223372036854775807 := f6_
      exact xq_callV (pc := 165) (index := 341) (K := m_M_inPhrase) (As := [xI x1, xL (xpl h 62 (x2 + x6))]) (S := [xR 53]) (L0 := [xR 53, xI x1, xL (xpl h 62 (x2 + x6)), xZ, xZ, xZ]) (hI := d_M_seekNear_165) (hK := k_M_inPhrase) (hlk := w_2389) (hnoM := rfl) (hS8 := Nat.le_of_ble_eq_true rfl) (ci := 11) (N := 38) (C := "BeaconIndexModel") (T := xF11) (hc := rfl) (hci := Nat.le_of_ble_eq_true rfl) (htb := (ft_53 F)) (hinst := w_2391) (hsel := sel_M_inPhrase) (hlen := Nat.le_of_ble_eq_true rfl) (hst := rfl) (hL0 := rfl)  hyp
theorem d_M_seekNear_168 : decode prog_14_method_61_code 168 = .ok (.iconst 1, 1) := by decide +kernel
theorem d_M_seekNear_169 : decode prog_14_method_61_code 169 = .ok (.invokevirtual 345, 3) := by decide +kernel
theorem k_M_turn : xCal m_M_turn 2 := ⟨List.mem_append_right _ (List.mem_of_getElem? (i := 2396) (by decide +kernel)), w_15, Nat.le_of_ble_eq_true rfl, ⟨by decide +kernel, by decide +kernel⟩, by decide +kernel, by decide +kernel, rfl⟩
theorem w_2393 : Cond.methodLink "BeaconIndexModel" 345 ⟨"BeaconIndexModel", "turn", "(II)V"⟩ ∈ lw_tbl := List.mem_append_right _ (List.mem_of_getElem? (i := 2393) (by decide +kernel))
theorem w_2395 : Cond.instanceMethod ⟨"BeaconIndexModel", "turn", "(II)V"⟩ ∈ lw_tbl := List.mem_append_right _ (List.mem_of_getElem? (i := 2395) (by decide +kernel))
theorem sel_M_turn : Cond.selects "BeaconIndexModel" ⟨"BeaconIndexModel", "turn", "(II)V"⟩ ⟨"BeaconIndexModel", "turn", "(II)V"⟩ ∈ lw_tbl := List.mem_append_left _ (by decide +kernel)
theorem v_M_seekNear_168 {G : XG} {d : Nat} {h : XH} {Q : XV → XH → Prop} {X : Nat → XH → Prop} {x1 x2 x3 x4 x5 x6 x7 x8 s0 s1 : Int} (F : xFix h) (hyp : xtg h s1 = 11 ∧ (xwp G m_M_turn (d + 1) 0 [xR s1, xI s0, xI 1] [] h (fun v9 h9 => xwp G m_M_seekNear (d + 2) 172 [xR 53, xI x1, xI x2, xI x3, xI x4, xI x5, xI x6, xI x7, xI x8, xZ] (xpush v9 []) h9 Q X) X)) : xwp G m_M_seekNear (d + 2) 168 [xR 53, xI x1, xI x2, xI x3, xI x4, xI x5, xI x6, xI x7, xI x8, xZ] [xI s0, xR s1] h Q X := by
  have hnx9 : (93 : Int) ≤ xnx h := F.2.2
  refine xr_okL (fun hl9 => ?_)
  have r_x1 : -2147483648 ≤ x1 ∧ x1 ≤ 2147483647 := hl9 (xI x1) (.tail _ (.head _)) (Nat.le_of_ble_eq_true rfl)
  have r_x2 : -2147483648 ≤ x2 ∧ x2 ≤ 2147483647 := hl9 (xI x2) (.tail _ (.tail _ (.head _))) (Nat.le_of_ble_eq_true rfl)
  have r_x3 : -2147483648 ≤ x3 ∧ x3 ≤ 2147483647 := hl9 (xI x3) (.tail _ (.tail _ (.tail _ (.head _)))) (Nat.le_of_ble_eq_true rfl)
  have r_x4 : -2147483648 ≤ x4 ∧ x4 ≤ 2147483647 := hl9 (xI x4) (.tail _ (.tail _ (.tail _ (.tail _ (.head _))))) (Nat.le_of_ble_eq_true rfl)
  have r_x5 : -2147483648 ≤ x5 ∧ x5 ≤ 2147483647 := hl9 (xI x5) (.tail _ (.tail _ (.tail _ (.tail _ (.tail _ (.head _)))))) (Nat.le_of_ble_eq_true rfl)
  have r_x6 : -2147483648 ≤ x6 ∧ x6 ≤ 2147483647 := hl9 (xI x6) (.tail _ (.tail _ (.tail _ (.tail _ (.tail _ (.tail _ (.head _))))))) (Nat.le_of_ble_eq_true rfl)
  have r_x7 : -2147483648 ≤ x7 ∧ x7 ≤ 2147483647 := hl9 (xI x7) (.tail _ (.tail _ (.tail _ (.tail _ (.tail _ (.tail _ (.tail _ (.head _)))))))) (Nat.le_of_ble_eq_true rfl)
  have r_x8 : -2147483648 ≤ x8 ∧ x8 ≤ 2147483647 := hl9 (xI x8) (.tail _ (.tail _ (.tail _ (.tail _ (.tail _ (.tail _ (.tail _ (.tail _ (.head _))))))))) (Nat.le_of_ble_eq_true rfl)
  refine xr_okS (fun hs9 => ?_)
  have r_s0 : -2147483648 ≤ s0 ∧ s0 ≤ 2147483647 := hs9 (xI s0) (.head _)
  refine xr_iconst (pc := 168) (hI := d_M_seekNear_168) (hr := by decide) ?_
  obtain ⟨c9, hyp⟩ := hyp
  have t1_ := c9
  clear c9
  exact xq_callV (pc := 169) (index := 345) (K := m_M_turn) (As := [xI s0, xI 1]) (S := []) (L0 := [xR s1, xI s0, xI 1]) (hI := d_M_seekNear_169) (hK := k_M_turn) (hlk := w_2393) (hnoM := rfl) (hS8 := Nat.le_of_ble_eq_true rfl) (ci := 11) (N := 38) (C := "BeaconIndexModel") (T := xF11) (hc := rfl) (hci := Nat.le_of_ble_eq_true rfl) (htb := t1_) (hinst := w_2395) (hsel := sel_M_turn) (hlen := Nat.le_of_ble_eq_true rfl) (hst := rfl) (hL0 := rfl)  hyp
theorem d_M_seekNear_172 : decode prog_14_method_61_code 172 = .ok (.iinc 6 1, 3) := by decide +kernel
theorem d_M_seekNear_175 : decode prog_14_method_61_code 175 = .ok (.goto (-38), 3) := by decide +kernel
theorem v_M_seekNear_172 {G : XG} {d : Nat} {h : XH} {Q : XV → XH → Prop} {X : Nat → XH → Prop} {x1 x2 x3 x4 x5 x6 x7 x8 : Int} (F : xFix h) (hyp : xiR (x6 + 1) ∧ (xwp G m_M_seekNear (d + 2) 137 [xR 53, xI x1, xI x2, xI x3, xI x4, xI x5, xI (x6 + 1), xI x7, xI x8, xZ] [] h Q X)) : xwp G m_M_seekNear (d + 2) 172 [xR 53, xI x1, xI x2, xI x3, xI x4, xI x5, xI x6, xI x7, xI x8, xZ] [] h Q X := by
  have hnx9 : (93 : Int) ≤ xnx h := F.2.2
  refine xr_okL (fun hl9 => ?_)
  have r_x1 : -2147483648 ≤ x1 ∧ x1 ≤ 2147483647 := hl9 (xI x1) (.tail _ (.head _)) (Nat.le_of_ble_eq_true rfl)
  have r_x2 : -2147483648 ≤ x2 ∧ x2 ≤ 2147483647 := hl9 (xI x2) (.tail _ (.tail _ (.head _))) (Nat.le_of_ble_eq_true rfl)
  have r_x3 : -2147483648 ≤ x3 ∧ x3 ≤ 2147483647 := hl9 (xI x3) (.tail _ (.tail _ (.tail _ (.head _)))) (Nat.le_of_ble_eq_true rfl)
  have r_x4 : -2147483648 ≤ x4 ∧ x4 ≤ 2147483647 := hl9 (xI x4) (.tail _ (.tail _ (.tail _ (.tail _ (.head _))))) (Nat.le_of_ble_eq_true rfl)
  have r_x5 : -2147483648 ≤ x5 ∧ x5 ≤ 2147483647 := hl9 (xI x5) (.tail _ (.tail _ (.tail _ (.tail _ (.tail _ (.head _)))))) (Nat.le_of_ble_eq_true rfl)
  have r_x6 : -2147483648 ≤ x6 ∧ x6 ≤ 2147483647 := hl9 (xI x6) (.tail _ (.tail _ (.tail _ (.tail _ (.tail _ (.tail _ (.head _))))))) (Nat.le_of_ble_eq_true rfl)
  have r_x7 : -2147483648 ≤ x7 ∧ x7 ≤ 2147483647 := hl9 (xI x7) (.tail _ (.tail _ (.tail _ (.tail _ (.tail _ (.tail _ (.tail _ (.head _)))))))) (Nat.le_of_ble_eq_true rfl)
  have r_x8 : -2147483648 ≤ x8 ∧ x8 ≤ 2147483647 := hl9 (xI x8) (.tail _ (.tail _ (.tail _ (.tail _ (.tail _ (.tail _ (.tail _ (.tail _ (.head _))))))))) (Nat.le_of_ble_eq_true rfl)
  obtain ⟨c9, hyp⟩ := hyp
  refine xr_iinc (pc := 172) (i := 6) (L9 := [xR 53, xI x1, xI x2, xI x3, xI x4, xI x5, xI (x6 + 1), xI x7, xI x8, xZ]) (hI := d_M_seekNear_172) (hl := rfl) (hn := Nat.le_of_ble_eq_true rfl) (hr := c9) (hL9 := rfl) ?_
  refine xr_goto (pc := 175) (tgt := 137) (hI := d_M_seekNear_175) (ht := by decide) ?_
  exact hyp
theorem d_M_seekNear_178 : decode prog_14_method_61_code 178 = .ok (.aload_n 0, 1) := by decide +kernel
theorem d_M_seekNear_179 : decode prog_14_method_61_code 179 = .ok (.getfield 338, 3) := by decide +kernel
theorem d_M_seekNear_182 : decode prog_14_method_61_code 182 = .ok (.ifCond .ne 7, 3) := by decide +kernel
theorem d_M_seekNear_185 : decode prog_14_method_61_code 185 = .ok (.iload 8, 2) := by decide +kernel
theorem d_M_seekNear_187 : decode prog_14_method_61_code 187 = .ok (.istore 7, 2) := by decide +kernel
theorem v_M_seekNear_178 {G : XG} {d : Nat} {h : XH} {Q : XV → XH → Prop} {X : Nat → XH → Prop} {x1 x2 x3 x4 x5 x6 x7 x8 : Int} (F : xFix h) (hyp : (((xpl h 53 35) = 0 → (xwp G m_M_seekNear (d + 2) 189 [xR 53, xI x1, xI x2, xI x3, xI x4, xI x5, xI x6, xI x8, xI x8, xZ] [] h Q X)) ∧ (¬ (xpl h 53 35) = 0 → (xwp G m_M_seekNear (d + 2) 189 [xR 53, xI x1, xI x2, xI x3, xI x4, xI x5, xI x6, xI x7, xI x8, xZ] [] h Q X)))) : xwp G m_M_seekNear (d + 2) 178 [xR 53, xI x1, xI x2, xI x3, xI x4, xI x5, xI x6, xI x7, xI x8, xZ] [] h Q X := by
  have hnx9 : (93 : Int) ≤ xnx h := F.2.2
  refine xr_okL (fun hl9 => ?_)
  have r_x1 : -2147483648 ≤ x1 ∧ x1 ≤ 2147483647 := hl9 (xI x1) (.tail _ (.head _)) (Nat.le_of_ble_eq_true rfl)
  have r_x2 : -2147483648 ≤ x2 ∧ x2 ≤ 2147483647 := hl9 (xI x2) (.tail _ (.tail _ (.head _))) (Nat.le_of_ble_eq_true rfl)
  have r_x3 : -2147483648 ≤ x3 ∧ x3 ≤ 2147483647 := hl9 (xI x3) (.tail _ (.tail _ (.tail _ (.head _)))) (Nat.le_of_ble_eq_true rfl)
  have r_x4 : -2147483648 ≤ x4 ∧ x4 ≤ 2147483647 := hl9 (xI x4) (.tail _ (.tail _ (.tail _ (.tail _ (.head _))))) (Nat.le_of_ble_eq_true rfl)
  have r_x5 : -2147483648 ≤ x5 ∧ x5 ≤ 2147483647 := hl9 (xI x5) (.tail _ (.tail _ (.tail _ (.tail _ (.tail _ (.head _)))))) (Nat.le_of_ble_eq_true rfl)
  have r_x6 : -2147483648 ≤ x6 ∧ x6 ≤ 2147483647 := hl9 (xI x6) (.tail _ (.tail _ (.tail _ (.tail _ (.tail _ (.tail _ (.head _))))))) (Nat.le_of_ble_eq_true rfl)
  have r_x7 : -2147483648 ≤ x7 ∧ x7 ≤ 2147483647 := hl9 (xI x7) (.tail _ (.tail _ (.tail _ (.tail _ (.tail _ (.tail _ (.tail _ (.head _)))))))) (Nat.le_of_ble_eq_true rfl)
  have r_x8 : -2147483648 ≤ x8 ∧ x8 ≤ 2147483647 := hl9 (xI x8) (.tail _ (.tail _ (.tail _ (.tail _ (.tail _ (.tail _ (.tail _ (.tail _ (.head _))))))))) (Nat.le_of_ble_eq_true rfl)
  refine xr_aload_n (pc := 178) (i := 0) (hI := d_M_seekNear_178) (hi := rfl) (hl := rfl) ?_
  refine xg_getf (pc := 179) (ci := 11) (k := 35) (N := 38) (v9 := 0) (v := (xpl h 53 35)) (T := xF11) (hI := d_M_seekNear_179) (hw := w_1622) rfl xi11 (Or.inl rfl) (Nat.le_of_ble_eq_true rfl) (Nat.le_of_ble_eq_true rfl) rfl (ft_53 F) rfl (fun f1_ => ?_)
  replace f1_ : -2147483648 ≤ (xpl h 53 35) ∧ (xpl h 53 35) ≤ 2147483647 := f1_
  refine xr_if_ne (pc := 182) (tgt := 189) (hI := d_M_seekNear_182) (ht := by decide) (fun q9 => ?_) (fun q9 => ?_)
  · replace hyp := hyp.2 q9
    have q2_ := q9
    clear q9
    exact hyp
  · replace hyp := hyp.1 q9
    have q2_ := q9
    clear q9
    refine xr_iload (pc := 185) (i := 8) (hI := d_M_seekNear_185) (hl := rfl) ?_
    refine xr_istore (pc := 187) (i := 7) (L9 := [xR 53, xI x1, xI x2, xI x3, xI x4, xI x5, xI x6, xI x8, xI x8, xZ]) (hI := d_M_seekNear_187) (hn := Nat.le_of_ble_eq_true rfl) (hL9 := rfl) ?_
    exact hyp
theorem d_M_seekNear_189 : decode prog_14_method_61_code 189 = .ok (.aload_n 0, 1) := by decide +kernel
theorem d_M_seekNear_190 : decode prog_14_method_61_code 190 = .ok (.iload_n 1, 1) := by decide +kernel
theorem d_M_seekNear_191 : decode prog_14_method_61_code 191 = .ok (.aload_n 0, 1) := by decide +kernel
theorem d_M_seekNear_192 : decode prog_14_method_61_code 192 = .ok (.getfield 35, 3) := by decide +kernel
theorem d_M_seekNear_195 : decode prog_14_method_61_code 195 = .ok (.iload_n 2, 1) := by decide +kernel
theorem d_M_seekNear_196 : decode prog_14_method_61_code 196 = .ok (.iload 8, 2) := by decide +kernel
theorem d_M_seekNear_198 : decode prog_14_method_61_code 198 = .ok (.iadd, 1) := by decide +kernel
theorem d_M_seekNear_199 : decode prog_14_method_61_code 199 = .ok (.laload, 1) := by decide +kernel
theorem d_M_seekNear_200 : decode prog_14_method_61_code 200 = .ok (.invokevirtual 341, 3) := by decide +kernel
theorem v_M_seekNear_189 {G : XG} {d : Nat} {h : XH} {Q : XV → XH → Prop} {X : Nat → XH → Prop} {x1 x2 x3 x4 x5 x6 x7 x8 : Int} (F : xFix h) (hyp : xiR (x2 + x8) ∧ 0 ≤ (x2 + x8) ∧ (x2 + x8) < 12000 ∧ (xwp G m_M_inPhrase (d + 1) 0 [xR 53, xI x1, xL (xpl h 62 (x2 + x8)), xZ, xZ, xZ] [] h (fun v9 h9 => xwp G m_M_seekNear (d + 2) 203 [xR 53, xI x1, xI x2, xI x3, xI x4, xI x5, xI x6, xI x7, xI x8, xZ] (xpush v9 []) h9 Q X) X)) : xwp G m_M_seekNear (d + 2) 189 [xR 53, xI x1, xI x2, xI x3, xI x4, xI x5, xI x6, xI x7, xI x8, xZ] [] h Q X := by
  have hnx9 : (93 : Int) ≤ xnx h := F.2.2
  refine xr_okL (fun hl9 => ?_)
  have r_x1 : -2147483648 ≤ x1 ∧ x1 ≤ 2147483647 := hl9 (xI x1) (.tail _ (.head _)) (Nat.le_of_ble_eq_true rfl)
  have r_x2 : -2147483648 ≤ x2 ∧ x2 ≤ 2147483647 := hl9 (xI x2) (.tail _ (.tail _ (.head _))) (Nat.le_of_ble_eq_true rfl)
  have r_x3 : -2147483648 ≤ x3 ∧ x3 ≤ 2147483647 := hl9 (xI x3) (.tail _ (.tail _ (.tail _ (.head _)))) (Nat.le_of_ble_eq_true rfl)
  have r_x4 : -2147483648 ≤ x4 ∧ x4 ≤ 2147483647 := hl9 (xI x4) (.tail _ (.tail _ (.tail _ (.tail _ (.head _))))) (Nat.le_of_ble_eq_true rfl)
  have r_x5 : -2147483648 ≤ x5 ∧ x5 ≤ 2147483647 := hl9 (xI x5) (.tail _ (.tail _ (.tail _ (.tail _ (.tail _ (.head _)))))) (Nat.le_of_ble_eq_true rfl)
  have r_x6 : -2147483648 ≤ x6 ∧ x6 ≤ 2147483647 := hl9 (xI x6) (.tail _ (.tail _ (.tail _ (.tail _ (.tail _ (.tail _ (.head _))))))) (Nat.le_of_ble_eq_true rfl)
  have r_x7 : -2147483648 ≤ x7 ∧ x7 ≤ 2147483647 := hl9 (xI x7) (.tail _ (.tail _ (.tail _ (.tail _ (.tail _ (.tail _ (.tail _ (.head _)))))))) (Nat.le_of_ble_eq_true rfl)
  have r_x8 : -2147483648 ≤ x8 ∧ x8 ≤ 2147483647 := hl9 (xI x8) (.tail _ (.tail _ (.tail _ (.tail _ (.tail _ (.tail _ (.tail _ (.tail _ (.head _))))))))) (Nat.le_of_ble_eq_true rfl)
  refine xr_aload_n (pc := 189) (i := 0) (hI := d_M_seekNear_189) (hi := rfl) (hl := rfl) ?_
  refine xr_iload_n (pc := 190) (i := 1) (hI := d_M_seekNear_190) (hi := rfl) (hl := rfl) ?_
  refine xr_aload_n (pc := 191) (i := 0) (hI := d_M_seekNear_191) (hi := rfl) (hl := rfl) ?_
  refine xg_getf (pc := 192) (ci := 11) (k := 13) (N := 38) (v9 := 2) (v := 62) (T := xF11) (hI := d_M_seekNear_192) (hw := w_1600) rfl xi11 (Or.inl rfl) (Nat.le_of_ble_eq_true rfl) (Nat.le_of_ble_eq_true rfl) rfl (ft_53 F) (fp_53_13 F) (fun f1_ => ?_)
  clear f1_
  refine xr_iload_n (pc := 195) (i := 2) (hI := d_M_seekNear_195) (hi := rfl) (hl := rfl) ?_
  refine xr_iload (pc := 196) (i := 8) (hI := d_M_seekNear_196) (hl := rfl) ?_
  obtain ⟨c9, hyp⟩ := hyp
  refine xr_iadd (pc := 198) (hI := d_M_seekNear_198) (hr := c9) ?_
  obtain ⟨c2_, hyp⟩ := hyp
  obtain ⟨c3_, hyp⟩ := hyp
  refine xg_laload (pc := 199) (v := (xpl h 62 (x2 + x8))) (hI := d_M_seekNear_199) (ft_62 F) c2_ (xlt_of (fl_62 F) c3_) rfl (fun f4_ => ?_)
  replace f4_ : -9223372036854775808 ≤ (xpl h 62 (x2 + x8)) ∧ (xpl h 62 (x2 + x8)) ≤ 9223372036854775807 := f4_
  exact xq_callV (pc := 200) (index := 341) (K := m_M_inPhrase) (As := [xI x1, xL (xpl h 62 (x2 + x8))]) (S := []) (L0 := [xR 53, xI x1, xL (xpl h 62 (x2 + x8)), xZ, xZ, xZ]) (hI := d_M_seekNear_200) (hK := k_M_inPhrase) (hlk := w_2389) (hnoM := rfl) (hS8 := Nat.le_of_ble_eq_true rfl) (ci := 11) (N := 38) (C := "BeaconIndexModel") (T := xF11) (hc := rfl) (hci := Nat.le_of_ble_eq_true rfl) (htb := (ft_53 F)) (hinst := w_2391) (hsel := sel_M_inPhrase) (hlen := Nat.le_of_ble_eq_true rfl) (hst := rfl) (hL0 := rfl)  hyp
theorem d_M_seekNear_203 : decode prog_14_method_61_code 203 = .ok (.istore 9, 2) := by decide +kernel
theorem d_M_seekNear_205 : decode prog_14_method_61_code 205 = .ok (.iload 9, 2) := by decide +kernel
theorem d_M_seekNear_207 : decode prog_14_method_61_code 207 = .ok (.ifCond .ne 27, 3) := by decide +kernel
theorem d_M_seekNear_210 : decode prog_14_method_61_code 210 = .ok (.iload 7, 2) := by decide +kernel
theorem d_M_seekNear_212 : decode prog_14_method_61_code 212 = .ok (.iconst (-1), 1) := by decide +kernel
theorem d_M_seekNear_213 : decode prog_14_method_61_code 213 = .ok (.if_icmp .eq 21, 3) := by decide +kernel
theorem d_M_seekNear_216 : decode prog_14_method_61_code 216 = .ok (.iload 8, 2) := by decide +kernel
theorem d_M_seekNear_218 : decode prog_14_method_61_code 218 = .ok (.iload 7, 2) := by decide +kernel
theorem d_M_seekNear_220 : decode prog_14_method_61_code 220 = .ok (.isub, 1) := by decide +kernel
theorem d_M_seekNear_221 : decode prog_14_method_61_code 221 = .ok (.iload 5, 2) := by decide +kernel
theorem d_M_seekNear_223 : decode prog_14_method_61_code 223 = .ok (.if_icmp .gt 11, 3) := by decide +kernel
theorem d_M_seekNear_226 : decode prog_14_method_61_code 226 = .ok (.aload_n 0, 1) := by decide +kernel
theorem d_M_seekNear_227 : decode prog_14_method_61_code 227 = .ok (.iload 4, 2) := by decide +kernel
theorem d_M_seekNear_229 : decode prog_14_method_61_code 229 = .ok (.iload 8, 2) := by decide +kernel
theorem d_M_seekNear_231 : decode prog_14_method_61_code 231 = .ok (.invokevirtual 349, 3) := by decide +kernel
theorem k_M_note : xCal m_M_note 2 := ⟨List.mem_append_right _ (List.mem_of_getElem? (i := 2400) (by decide +kernel)), w_15, Nat.le_of_ble_eq_true rfl, ⟨by decide +kernel, by decide +kernel⟩, by decide +kernel, by decide +kernel, rfl⟩
theorem w_2397 : Cond.methodLink "BeaconIndexModel" 349 ⟨"BeaconIndexModel", "note", "(II)V"⟩ ∈ lw_tbl := List.mem_append_right _ (List.mem_of_getElem? (i := 2397) (by decide +kernel))
theorem w_2399 : Cond.instanceMethod ⟨"BeaconIndexModel", "note", "(II)V"⟩ ∈ lw_tbl := List.mem_append_right _ (List.mem_of_getElem? (i := 2399) (by decide +kernel))
theorem sel_M_note : Cond.selects "BeaconIndexModel" ⟨"BeaconIndexModel", "note", "(II)V"⟩ ⟨"BeaconIndexModel", "note", "(II)V"⟩ ∈ lw_tbl := List.mem_append_left _ (by decide +kernel)
theorem v_M_seekNear_203 {G : XG} {d : Nat} {h : XH} {Q : XV → XH → Prop} {X : Nat → XH → Prop} {x1 x2 x3 x4 x5 x6 x7 x8 s0 : Int} (F : xFix h) (hyp : ((s0 = 0 → ((x7 = (-1) → (xwp G m_M_seekNear (d + 2) 234 [xR 53, xI x1, xI x2, xI x3, xI x4, xI x5, xI x6, xI x7, xI x8, xI s0] [] h Q X)) ∧ (¬ x7 = (-1) → xiR (x8 - x7) ∧ ((x5 < (x8 - x7) → (xwp G m_M_seekNear (d + 2) 234 [xR 53, xI x1, xI x2, xI x3, xI x4, xI x5, xI x6, xI x7, xI x8, xI s0] [] h Q X)) ∧ (¬ x5 < (x8 - x7) → (xwp G m_M_note (d + 1) 0 [xR 53, xI x4, xI x8] [] h (fun v9 h9 => xwp G m_M_seekNear (d + 2) 234 [xR 53, xI x1, xI x2, xI x3, xI x4, xI x5, xI x6, xI x7, xI x8, xI s0] (xpush v9 []) h9 Q X) X)))))) ∧ (¬ s0 = 0 → (xwp G m_M_seekNear (d + 2) 234 [xR 53, xI x1, xI x2, xI x3, xI x4, xI x5, xI x6, xI x7, xI x8, xI s0] [] h Q X)))) : xwp G m_M_seekNear (d + 2) 203 [xR 53, xI x1, xI x2, xI x3, xI x4, xI x5, xI x6, xI x7, xI x8, xZ] [xI s0] h Q X := by
  have hnx9 : (93 : Int) ≤ xnx h := F.2.2
  refine xr_okL (fun hl9 => ?_)
  have r_x1 : -2147483648 ≤ x1 ∧ x1 ≤ 2147483647 := hl9 (xI x1) (.tail _ (.head _)) (Nat.le_of_ble_eq_true rfl)
  have r_x2 : -2147483648 ≤ x2 ∧ x2 ≤ 2147483647 := hl9 (xI x2) (.tail _ (.tail _ (.head _))) (Nat.le_of_ble_eq_true rfl)
  have r_x3 : -2147483648 ≤ x3 ∧ x3 ≤ 2147483647 := hl9 (xI x3) (.tail _ (.tail _ (.tail _ (.head _)))) (Nat.le_of_ble_eq_true rfl)
  have r_x4 : -2147483648 ≤ x4 ∧ x4 ≤ 2147483647 := hl9 (xI x4) (.tail _ (.tail _ (.tail _ (.tail _ (.head _))))) (Nat.le_of_ble_eq_true rfl)
  have r_x5 : -2147483648 ≤ x5 ∧ x5 ≤ 2147483647 := hl9 (xI x5) (.tail _ (.tail _ (.tail _ (.tail _ (.tail _ (.head _)))))) (Nat.le_of_ble_eq_true rfl)
  have r_x6 : -2147483648 ≤ x6 ∧ x6 ≤ 2147483647 := hl9 (xI x6) (.tail _ (.tail _ (.tail _ (.tail _ (.tail _ (.tail _ (.head _))))))) (Nat.le_of_ble_eq_true rfl)
  have r_x7 : -2147483648 ≤ x7 ∧ x7 ≤ 2147483647 := hl9 (xI x7) (.tail _ (.tail _ (.tail _ (.tail _ (.tail _ (.tail _ (.tail _ (.head _)))))))) (Nat.le_of_ble_eq_true rfl)
  have r_x8 : -2147483648 ≤ x8 ∧ x8 ≤ 2147483647 := hl9 (xI x8) (.tail _ (.tail _ (.tail _ (.tail _ (.tail _ (.tail _ (.tail _ (.tail _ (.head _))))))))) (Nat.le_of_ble_eq_true rfl)
  refine xr_okS (fun hs9 => ?_)
  have r_s0 : -2147483648 ≤ s0 ∧ s0 ≤ 2147483647 := hs9 (xI s0) (.head _)
  refine xr_istore (pc := 203) (i := 9) (L9 := [xR 53, xI x1, xI x2, xI x3, xI x4, xI x5, xI x6, xI x7, xI x8, xI s0]) (hI := d_M_seekNear_203) (hn := Nat.le_of_ble_eq_true rfl) (hL9 := rfl) ?_
  refine xr_iload (pc := 205) (i := 9) (hI := d_M_seekNear_205) (hl := rfl) ?_
  refine xr_if_ne (pc := 207) (tgt := 234) (hI := d_M_seekNear_207) (ht := by decide) (fun q9 => ?_) (fun q9 => ?_)
  · replace hyp := hyp.2 q9
    have q1_ := q9
    clear q9
    exact hyp
  · replace hyp := hyp.1 q9
    have q1_ := q9
    clear q9
    refine xr_iload (pc := 210) (i := 7) (hI := d_M_seekNear_210) (hl := rfl) ?_
    refine xr_iconst (pc := 212) (hI := d_M_seekNear_212) (hr := by decide) ?_
    refine xr_icmp_eq (pc := 213) (tgt := 234) (hI := d_M_seekNear_213) (ht := by decide) (fun q9 => ?_) (fun q9 => ?_)
    · replace hyp := hyp.1 q9
      have q2_ := q9
      clear q9
      exact hyp
    · replace hyp := hyp.2 q9
      have q2_ := q9
      clear q9
      refine xr_iload (pc := 216) (i := 8) (hI := d_M_seekNear_216) (hl := rfl) ?_
      refine xr_iload (pc := 218) (i := 7) (hI := d_M_seekNear_218) (hl := rfl) ?_
      obtain ⟨c9, hyp⟩ := hyp
      refine xr_isub (pc := 220) (hI := d_M_seekNear_220) (hr := c9) ?_
      refine xr_iload (pc := 221) (i := 5) (hI := d_M_seekNear_221) (hl := rfl) ?_
      refine xr_icmp_gt (pc := 223) (tgt := 234) (hI := d_M_seekNear_223) (ht := by decide) (fun q9 => ?_) (fun q9 => ?_)
      · replace hyp := hyp.1 q9
        have q3_ := q9
        clear q9
        exact hyp
      · replace hyp := hyp.2 q9
        have q3_ := q9
        clear q9
        refine xr_aload_n (pc := 226) (i := 0) (hI := d_M_seekNear_226) (hi := rfl) (hl := rfl) ?_
        refine xr_iload (pc := 227) (i := 4) (hI := d_M_seekNear_227) (hl := rfl) ?_
        refine xr_iload (pc := 229) (i := 8) (hI := d_M_seekNear_229) (hl := rfl) ?_
        exact xq_callV (pc := 231) (index := 349) (K := m_M_note) (As := [xI x4, xI x8]) (S := []) (L0 := [xR 53, xI x4, xI x8]) (hI := d_M_seekNear_231) (hK := k_M_note) (hlk := w_2397) (hnoM := rfl) (hS8 := Nat.le_of_ble_eq_true rfl) (ci := 11) (N := 38) (C := "BeaconIndexModel") (T := xF11) (hc := rfl) (hci := Nat.le_of_ble_eq_true rfl) (htb := (ft_53 F)) (hinst := w_2399) (hsel := sel_M_note) (hlen := Nat.le_of_ble_eq_true rfl) (hst := rfl) (hL0 := rfl)  hyp
theorem d_M_seekNear_234 : decode prog_14_method_61_code 234 = .ok (.aload_n 0, 1) := by decide +kernel
theorem d_M_seekNear_235 : decode prog_14_method_61_code 235 = .ok (.iload 9, 2) := by decide +kernel
theorem d_M_seekNear_237 : decode prog_14_method_61_code 237 = .ok (.iconst (-1), 1) := by decide +kernel
theorem d_M_seekNear_238 : decode prog_14_method_61_code 238 = .ok (.invokevirtual 345, 3) := by decide +kernel
theorem v_M_seekNear_234 {G : XG} {d : Nat} {h : XH} {Q : XV → XH → Prop} {X : Nat → XH → Prop} {x1 x2 x3 x4 x5 x6 x7 x8 x9 : Int} (F : xFix h) (hyp : (xwp G m_M_turn (d + 1) 0 [xR 53, xI x9, xI (-1)] [] h (fun v9 h9 => xwp G m_M_seekNear (d + 2) 241 [xR 53, xI x1, xI x2, xI x3, xI x4, xI x5, xI x6, xI x7, xI x8, xZ] (xpush v9 []) h9 Q X) X)) : xwp G m_M_seekNear (d + 2) 234 [xR 53, xI x1, xI x2, xI x3, xI x4, xI x5, xI x6, xI x7, xI x8, xI x9] [] h Q X := by
  have hnx9 : (93 : Int) ≤ xnx h := F.2.2
  refine xr_okL (fun hl9 => ?_)
  have r_x1 : -2147483648 ≤ x1 ∧ x1 ≤ 2147483647 := hl9 (xI x1) (.tail _ (.head _)) (Nat.le_of_ble_eq_true rfl)
  have r_x2 : -2147483648 ≤ x2 ∧ x2 ≤ 2147483647 := hl9 (xI x2) (.tail _ (.tail _ (.head _))) (Nat.le_of_ble_eq_true rfl)
  have r_x3 : -2147483648 ≤ x3 ∧ x3 ≤ 2147483647 := hl9 (xI x3) (.tail _ (.tail _ (.tail _ (.head _)))) (Nat.le_of_ble_eq_true rfl)
  have r_x4 : -2147483648 ≤ x4 ∧ x4 ≤ 2147483647 := hl9 (xI x4) (.tail _ (.tail _ (.tail _ (.tail _ (.head _))))) (Nat.le_of_ble_eq_true rfl)
  have r_x5 : -2147483648 ≤ x5 ∧ x5 ≤ 2147483647 := hl9 (xI x5) (.tail _ (.tail _ (.tail _ (.tail _ (.tail _ (.head _)))))) (Nat.le_of_ble_eq_true rfl)
  have r_x6 : -2147483648 ≤ x6 ∧ x6 ≤ 2147483647 := hl9 (xI x6) (.tail _ (.tail _ (.tail _ (.tail _ (.tail _ (.tail _ (.head _))))))) (Nat.le_of_ble_eq_true rfl)
  have r_x7 : -2147483648 ≤ x7 ∧ x7 ≤ 2147483647 := hl9 (xI x7) (.tail _ (.tail _ (.tail _ (.tail _ (.tail _ (.tail _ (.tail _ (.head _)))))))) (Nat.le_of_ble_eq_true rfl)
  have r_x8 : -2147483648 ≤ x8 ∧ x8 ≤ 2147483647 := hl9 (xI x8) (.tail _ (.tail _ (.tail _ (.tail _ (.tail _ (.tail _ (.tail _ (.tail _ (.head _))))))))) (Nat.le_of_ble_eq_true rfl)
  have r_x9 : -2147483648 ≤ x9 ∧ x9 ≤ 2147483647 := hl9 (xI x9) (.tail _ (.tail _ (.tail _ (.tail _ (.tail _ (.tail _ (.tail _ (.tail _ (.tail _ (.head _)))))))))) (Nat.le_of_ble_eq_true rfl)
  refine xr_aload_n (pc := 234) (i := 0) (hI := d_M_seekNear_234) (hi := rfl) (hl := rfl) ?_
  refine xr_iload (pc := 235) (i := 9) (hI := d_M_seekNear_235) (hl := rfl) ?_
  refine xr_iconst (pc := 237) (hI := d_M_seekNear_237) (hr := by decide) ?_
  exact xq_callV (pc := 238) (index := 345) (K := m_M_turn) (As := [xI x9, xI (-1)]) (S := []) (L0 := [xR 53, xI x9, xI (-1)]) (hI := d_M_seekNear_238) (hK := k_M_turn) (hlk := w_2393) (hnoM := rfl) (hS8 := Nat.le_of_ble_eq_true rfl) (ci := 11) (N := 38) (C := "BeaconIndexModel") (T := xF11) (hc := rfl) (hci := Nat.le_of_ble_eq_true rfl) (htb := (ft_53 F)) (hinst := w_2395) (hsel := sel_M_turn) (hlen := Nat.le_of_ble_eq_true rfl) (hst := rfl) (hL0 := rfl)  (xwp_mono hyp (fun v9 h9 q9 => xr_drop (L9 := [xR 53, xI x1, xI x2, xI x3, xI x4, xI x5, xI x6, xI x7, xI x8, xZ]) (xdrs (xdrs (xdrs (xdrs (xdrs (xdrs (xdrs (xdrs (xdrs (xdrz xdr0)))))))))) q9) (fun _ _ z9 => z9))
theorem d_M_seekNear_241 : decode prog_14_method_61_code 241 = .ok (.iinc 8 1, 3) := by decide +kernel
theorem d_M_seekNear_244 : decode prog_14_method_61_code 244 = .ok (.goto (-113), 3) := by decide +kernel
theorem v_M_seekNear_241 {G : XG} {d : Nat} {h : XH} {Q : XV → XH → Prop} {X : Nat → XH → Prop} {x1 x2 x3 x4 x5 x6 x7 x8 : Int} (F : xFix h) (hyp : xiR (x8 + 1) ∧ (xwp G m_M_seekNear (d + 2) 131 [xR 53, xI x1, xI x2, xI x3, xI x4, xI x5, xI x6, xI x7, xI (x8 + 1), xZ] [] h Q X)) : xwp G m_M_seekNear (d + 2) 241 [xR 53, xI x1, xI x2, xI x3, xI x4, xI x5, xI x6, xI x7, xI x8, xZ] [] h Q X := by
  have hnx9 : (93 : Int) ≤ xnx h := F.2.2
  refine xr_okL (fun hl9 => ?_)
  have r_x1 : -2147483648 ≤ x1 ∧ x1 ≤ 2147483647 := hl9 (xI x1) (.tail _ (.head _)) (Nat.le_of_ble_eq_true rfl)
  have r_x2 : -2147483648 ≤ x2 ∧ x2 ≤ 2147483647 := hl9 (xI x2) (.tail _ (.tail _ (.head _))) (Nat.le_of_ble_eq_true rfl)
  have r_x3 : -2147483648 ≤ x3 ∧ x3 ≤ 2147483647 := hl9 (xI x3) (.tail _ (.tail _ (.tail _ (.head _)))) (Nat.le_of_ble_eq_true rfl)
  have r_x4 : -2147483648 ≤ x4 ∧ x4 ≤ 2147483647 := hl9 (xI x4) (.tail _ (.tail _ (.tail _ (.tail _ (.head _))))) (Nat.le_of_ble_eq_true rfl)
  have r_x5 : -2147483648 ≤ x5 ∧ x5 ≤ 2147483647 := hl9 (xI x5) (.tail _ (.tail _ (.tail _ (.tail _ (.tail _ (.head _)))))) (Nat.le_of_ble_eq_true rfl)
  have r_x6 : -2147483648 ≤ x6 ∧ x6 ≤ 2147483647 := hl9 (xI x6) (.tail _ (.tail _ (.tail _ (.tail _ (.tail _ (.tail _ (.head _))))))) (Nat.le_of_ble_eq_true rfl)
  have r_x7 : -2147483648 ≤ x7 ∧ x7 ≤ 2147483647 := hl9 (xI x7) (.tail _ (.tail _ (.tail _ (.tail _ (.tail _ (.tail _ (.tail _ (.head _)))))))) (Nat.le_of_ble_eq_true rfl)
  have r_x8 : -2147483648 ≤ x8 ∧ x8 ≤ 2147483647 := hl9 (xI x8) (.tail _ (.tail _ (.tail _ (.tail _ (.tail _ (.tail _ (.tail _ (.tail _ (.head _))))))))) (Nat.le_of_ble_eq_true rfl)
  obtain ⟨c9, hyp⟩ := hyp
  refine xr_iinc (pc := 241) (i := 8) (L9 := [xR 53, xI x1, xI x2, xI x3, xI x4, xI x5, xI x6, xI x7, xI (x8 + 1), xZ]) (hI := d_M_seekNear_241) (hl := rfl) (hn := Nat.le_of_ble_eq_true rfl) (hr := c9) (hL9 := rfl) ?_
  refine xr_goto (pc := 244) (tgt := 131) (hI := d_M_seekNear_244) (ht := by decide) ?_
  exact hyp
abbrev m_M_seek : XM := (⟨"BeaconIndexModel", "seek", "(III)V"⟩, prog_14_method_62_code, 8, none, [])
theorem d_M_seek_0 : decode prog_14_method_62_code 0 = .ok (.aload_n 0, 1) := by decide +kernel
theorem d_M_seek_1 : decode prog_14_method_62_code 1 = .ok (.iload_n 1, 1) := by decide +kernel
theorem d_M_seek_2 : decode prog_14_method_62_code 2 = .ok (.iload_n 2, 1) := by decide +kernel
theorem d_M_seek_3 : decode prog_14_method_62_code 3 = .ok (.iload_n 3, 1) := by decide +kernel
theorem d_M_seek_4 : decode prog_14_method_62_code 4 = .ok (.invokevirtual 352, 3) := by decide +kernel
theorem k_M_cellOf : xCal m_M_cellOf 3 := ⟨List.mem_append_right _ (List.mem_of_getElem? (i := 2384) (by decide +kernel)), w_15, Nat.le_of_ble_eq_true rfl, ⟨by decide +kernel, by decide +kernel⟩, by decide +kernel, by decide +kernel, rfl⟩
theorem w_2381 : Cond.methodLink "BeaconIndexModel" 352 ⟨"BeaconIndexModel", "cellOf", "(III)I"⟩ ∈ lw_tbl := List.mem_append_right _ (List.mem_of_getElem? (i := 2381) (by decide +kernel))
theorem w_2383 : Cond.instanceMethod ⟨"BeaconIndexModel", "cellOf", "(III)I"⟩ ∈ lw_tbl := List.mem_append_right _ (List.mem_of_getElem? (i := 2383) (by decide +kernel))
theorem sel_M_cellOf : Cond.selects "BeaconIndexModel" ⟨"BeaconIndexModel", "cellOf", "(III)I"⟩ ⟨"BeaconIndexModel", "cellOf", "(III)I"⟩ ∈ lw_tbl := List.mem_append_left _ (by decide +kernel)
theorem v_M_seek_0 {G : XG} {d : Nat} {h : XH} {Q : XV → XH → Prop} {X : Nat → XH → Prop} {x1 x2 x3 : Int} (F : xFix h) (hyp : (xwp G m_M_cellOf (d + 2) 0 [xR 53, xI x1, xI x2, xI x3] [] h (fun v9 h9 => xwp G m_M_seek (d + 3) 7 [xR 53, xI x1, xI x2, xI x3, xZ, xZ, xZ, xZ] (xpush v9 []) h9 Q X) X)) : xwp G m_M_seek (d + 3) 0 [xR 53, xI x1, xI x2, xI x3, xZ, xZ, xZ, xZ] [] h Q X := by
  have hnx9 : (93 : Int) ≤ xnx h := F.2.2
  refine xr_okL (fun hl9 => ?_)
  have r_x1 : -2147483648 ≤ x1 ∧ x1 ≤ 2147483647 := hl9 (xI x1) (.tail _ (.head _)) (Nat.le_of_ble_eq_true rfl)
  have r_x2 : -2147483648 ≤ x2 ∧ x2 ≤ 2147483647 := hl9 (xI x2) (.tail _ (.tail _ (.head _))) (Nat.le_of_ble_eq_true rfl)
  have r_x3 : -2147483648 ≤ x3 ∧ x3 ≤ 2147483647 := hl9 (xI x3) (.tail _ (.tail _ (.tail _ (.head _)))) (Nat.le_of_ble_eq_true rfl)
  refine xr_aload_n (pc := 0) (i := 0) (hI := d_M_seek_0) (hi := rfl) (hl := rfl) ?_
  refine xr_iload_n (pc := 1) (i := 1) (hI := d_M_seek_1) (hi := rfl) (hl := rfl) ?_
  refine xr_iload_n (pc := 2) (i := 2) (hI := d_M_seek_2) (hi := rfl) (hl := rfl) ?_
  refine xr_iload_n (pc := 3) (i := 3) (hI := d_M_seek_3) (hi := rfl) (hl := rfl) ?_
  exact xq_callV (pc := 4) (index := 352) (K := m_M_cellOf) (As := [xI x1, xI x2, xI x3]) (S := []) (L0 := [xR 53, xI x1, xI x2, xI x3]) (hI := d_M_seek_4) (hK := k_M_cellOf) (hlk := w_2381) (hnoM := rfl) (hS8 := Nat.le_of_ble_eq_true rfl) (ci := 11) (N := 38) (C := "BeaconIndexModel") (T := xF11) (hc := rfl) (hci := Nat.le_of_ble_eq_true rfl) (htb := (ft_53 F)) (hinst := w_2383) (hsel := sel_M_cellOf) (hlen := Nat.le_of_ble_eq_true rfl) (hst := rfl) (hL0 := rfl)  hyp
theorem d_M_seek_7 : decode prog_14_method_62_code 7 = .ok (.istore 4, 2) := by decide +kernel
theorem d_M_seek_9 : decode prog_14_method_62_code 9 = .ok (.aload_n 0, 1) := by decide +kernel
theorem d_M_seek_10 : decode prog_14_method_62_code 10 = .ok (.getfield 67, 3) := by decide +kernel
theorem d_M_seek_13 : decode prog_14_method_62_code 13 = .ok (.iload 4, 2) := by decide +kernel
theorem d_M_seek_15 : decode prog_14_method_62_code 15 = .ok (.iconst 0, 1) := by decide +kernel
theorem d_M_seek_16 : decode prog_14_method_62_code 16 = .ok (.iastore, 1) := by decide +kernel
theorem d_M_seek_17 : decode prog_14_method_62_code 17 = .ok (.aload_n 0, 1) := by decide +kernel
theorem d_M_seek_18 : decode prog_14_method_62_code 18 = .ok (.getfield 70, 3) := by decide +kernel
theorem d_M_seek_21 : decode prog_14_method_62_code 21 = .ok (.iload 4, 2) := by decide +kernel
theorem d_M_seek_23 : decode prog_14_method_62_code 23 = .ok (.iconst (-1), 1) := by decide +kernel
theorem d_M_seek_24 : decode prog_14_method_62_code 24 = .ok (.iastore, 1) := by decide +kernel
theorem d_M_seek_25 : decode prog_14_method_62_code 25 = .ok (.aload_n 0, 1) := by decide +kernel
theorem d_M_seek_26 : decode prog_14_method_62_code 26 = .ok (.getfield 51, 3) := by decide +kernel
theorem d_M_seek_29 : decode prog_14_method_62_code 29 = .ok (.getfield 279, 3) := by decide +kernel
theorem d_M_seek_32 : decode prog_14_method_62_code 32 = .ok (.iload_n 1, 1) := by decide +kernel
theorem d_M_seek_33 : decode prog_14_method_62_code 33 = .ok (.iaload, 1) := by decide +kernel
theorem d_M_seek_34 : decode prog_14_method_62_code 34 = .ok (.iconst 1, 1) := by decide +kernel
theorem d_M_seek_35 : decode prog_14_method_62_code 35 = .ok (.iload_n 3, 1) := by decide +kernel
theorem d_M_seek_36 : decode prog_14_method_62_code 36 = .ok (.isub, 1) := by decide +kernel
theorem d_M_seek_37 : decode prog_14_method_62_code 37 = .ok (.if_icmp .eq 16, 3) := by decide +kernel
theorem d_M_seek_53 : decode prog_14_method_62_code 53 = .ok (.return_, 1) := by decide +kernel
theorem d_M_seek_40 : decode prog_14_method_62_code 40 = .ok (.aload_n 0, 1) := by decide +kernel
theorem d_M_seek_41 : decode prog_14_method_62_code 41 = .ok (.getfield 51, 3) := by decide +kernel
theorem d_M_seek_44 : decode prog_14_method_62_code 44 = .ok (.getfield 304, 3) := by decide +kernel
theorem d_M_seek_47 : decode prog_14_method_62_code 47 = .ok (.iload_n 1, 1) := by decide +kernel
theorem d_M_seek_48 : decode prog_14_method_62_code 48 = .ok (.iaload, 1) := by decide +kernel
theorem d_M_seek_49 : decode prog_14_method_62_code 49 = .ok (.iconst 2, 1) := by decide +kernel
theorem d_M_seek_50 : decode prog_14_method_62_code 50 = .ok (.if_icmp .ne 4, 3) := by decide +kernel
theorem d_M_seek_54 : decode prog_14_method_62_code 54 = .ok (.aload_n 0, 1) := by decide +kernel
theorem d_M_seek_55 : decode prog_14_method_62_code 55 = .ok (.aload_n 0, 1) := by decide +kernel
theorem d_M_seek_56 : decode prog_14_method_62_code 56 = .ok (.getfield 13, 3) := by decide +kernel
theorem d_M_seek_59 : decode prog_14_method_62_code 59 = .ok (.iload_n 2, 1) := by decide +kernel
theorem d_M_seek_60 : decode prog_14_method_62_code 60 = .ok (.iaload, 1) := by decide +kernel
theorem d_M_seek_61 : decode prog_14_method_62_code 61 = .ok (.iload_n 3, 1) := by decide +kernel
theorem d_M_seek_62 : decode prog_14_method_62_code 62 = .ok (.invokevirtual 214, 3) := by decide +kernel
theorem v_M_seek_7 {G : XG} {d : Nat} {h : XH} {Q : XV → XH → Prop} {X : Nat → XH → Prop} {x1 x2 x3 s0 : Int} (F : xFix h) (hyp : 0 ≤ s0 ∧ s0 < 4920 ∧ xtg h (xpl h 53 19) = 12 ∧ xtg h (xpl h (xpl h 53 19) 4) = 100 ∧ 0 ≤ x1 ∧ x1 < (xln h (xpl h (xpl h 53 19) 4)) ∧ xiR (1 - x3) ∧ (((xpl (xst (xst h 81 s0 0) 82 s0 (-1)) (xpl h (xpl h 53 19) 4) x1) = (1 - x3) → (xFix (xst (xst h 81 s0 0) 82 s0 (-1)) → Q xN (xst (xst h 81 s0 0) 82 s0 (-1)))) ∧ (¬ (xpl (xst (xst h 81 s0 0) 82 s0 (-1)) (xpl h (xpl h 53 19) 4) x1) = (1 - x3) → xtg h (xpl h (xpl h 53 19) 5) = 100 ∧ x1 < (xln h (xpl h (xpl h 53 19) 5)) ∧ (((xpl (xst (xst h 81 s0 0) 82 s0 (-1)) (xpl h (xpl h 53 19) 5) x1) = 2 → (xFix (xst (xst h 81 s0 0) 82 s0 (-1)) → Q xN (xst (xst h 81 s0 0) 82 s0 (-1)))) ∧ (¬ (xpl (xst (xst h 81 s0 0) 82 s0 (-1)) (xpl h (xpl h 53 19) 5) x1) = 2 → 0 ≤ x2 ∧ x2 < 60 ∧ (xFix (xst (xst h 81 s0 0) 82 s0 (-1)) → xwp G m_M_base (d + 2) 0 [xR 53, xI (xpl h 55 x2), xI x3] [] (xst (xst h 81 s0 0) 82 s0 (-1)) (fun v9 h9 => xwp G m_M_seek (d + 3) 65 [xR 53, xI x1, xI x2, xI x3, xI s0, xZ, xZ, xZ] (xpush v9 []) h9 Q X) X)))))) : xwp G m_M_seek (d + 3) 7 [xR 53, xI x1, xI x2, xI x3, xZ, xZ, xZ, xZ] [xI s0] h Q X := by
  have hnx9 : (93 : Int) ≤ xnx h := F.2.2
  refine xr_okL (fun hl9 => ?_)
  have r_x1 : -2147483648 ≤ x1 ∧ x1 ≤ 2147483647 := hl9 (xI x1) (.tail _ (.head _)) (Nat.le_of_ble_eq_true rfl)
  have r_x2 : -2147483648 ≤ x2 ∧ x2 ≤ 2147483647 := hl9 (xI x2) (.tail _ (.tail _ (.head _))) (Nat.le_of_ble_eq_true rfl)
  have r_x3 : -2147483648 ≤ x3 ∧ x3 ≤ 2147483647 := hl9 (xI x3) (.tail _ (.tail _ (.tail _ (.head _)))) (Nat.le_of_ble_eq_true rfl)
  refine xr_okS (fun hs9 => ?_)
  have r_s0 : -2147483648 ≤ s0 ∧ s0 ≤ 2147483647 := hs9 (xI s0) (.head _)
  refine xr_istore (pc := 7) (i := 4) (L9 := [xR 53, xI x1, xI x2, xI x3, xI s0, xZ, xZ, xZ]) (hI := d_M_seek_7) (hn := Nat.le_of_ble_eq_true rfl) (hL9 := rfl) ?_
  refine xr_aload_n (pc := 9) (i := 0) (hI := d_M_seek_9) (hi := rfl) (hl := rfl) ?_
  refine xg_getf (pc := 10) (ci := 11) (k := 27) (N := 38) (v9 := 2) (v := 81) (T := xF11) (hI := d_M_seek_10) (hw := w_1614) rfl xi11 (Or.inl rfl) (Nat.le_of_ble_eq_true rfl) (Nat.le_of_ble_eq_true rfl) rfl (ft_53 F) (fp_53_27 F) (fun f1_ => ?_)
  clear f1_
  refine xr_iload (pc := 13) (i := 4) (hI := d_M_seek_13) (hl := rfl) ?_
  refine xr_iconst (pc := 15) (hI := d_M_seek_15) (hr := by decide) ?_
  obtain ⟨c2_, hyp⟩ := hyp
  obtain ⟨c3_, hyp⟩ := hyp
  refine xr_iastore (pc := 16) (hI := d_M_seek_16) (ft_81 F) (by decide) c2_ (xlt_of (fl_81 F) c3_) ?_
  have F4_ : xFix (xst h 81 s0 0) := F.stA xfa_81
  refine xr_aload_n (pc := 17) (i := 0) (hI := d_M_seek_17) (hi := rfl) (hl := rfl) ?_
  refine xg_getf (pc := 18) (ci := 11) (k := 28) (N := 38) (v9 := 2) (v := 82) (T := xF11) (hI := d_M_seek_18) (hw := w_1615) rfl xi11 (Or.inl rfl) (Nat.le_of_ble_eq_true rfl) (Nat.le_of_ble_eq_true rfl) rfl (ft_53 F4_) (fp_53_28 F4_) (fun f5_ => ?_)
  clear f5_
  refine xr_iload (pc := 21) (i := 4) (hI := d_M_seek_21) (hl := rfl) ?_
  refine xr_iconst (pc := 23) (hI := d_M_seek_23) (hr := by decide) ?_
  refine xr_iastore (pc := 24) (hI := d_M_seek_24) (ft_82 F4_) (by decide) (by clear hyp; omega) (xlt_of (fl_82 F4_) (by clear hyp; omega)) ?_
  have F6_ : xFix (xst (xst h 81 s0 0) 82 s0 (-1)) := F4_.stA xfa_82
  refine xr_aload_n (pc := 25) (i := 0) (hI := d_M_seek_25) (hi := rfl) (hl := rfl) ?_
  refine xg_getf (pc := 26) (ci := 11) (k := 19) (N := 38) (v9 := 2) (v := (xpl h 53 19)) (T := xF11) (hI := d_M_seek_26) (hw := w_1606) rfl xi11 (Or.inl rfl) (Nat.le_of_ble_eq_true rfl) (Nat.le_of_ble_eq_true rfl) rfl (ft_53 F6_) (Eq.trans (xpl_oa (by decide)) (xpl_oa (by decide))) (fun f7_ => ?_)
  clear f7_
  obtain ⟨c9, hyp⟩ := hyp
  have t8_ := c9
  clear c9
  refine xg_getfN (pc := 29) (ci := 12) (k := 4) (N := 13) (v9 := 2) (v := (xpl h (xpl h 53 19) 4)) (T := xF12) (hI := d_M_seek_29) (hw := w_1544) rfl xi12 (Or.inl rfl) (Nat.le_of_ble_eq_true rfl) (Nat.le_of_ble_eq_true rfl) rfl t8_ (Eq.trans (xpl_oa (xne_tag t8_ (have z9 := (ft_82 F6_); z9) (by decide))) (xpl_oa (xne_tag t8_ (have z9 := (ft_81 F6_); z9) (by decide)))) (fun f9_ => ?_)
  clear f9_
  refine xr_iload_n (pc := 32) (i := 1) (hI := d_M_seek_32) (hi := rfl) (hl := rfl) ?_
  obtain ⟨c9, hyp⟩ := hyp
  have t10_ := c9
  clear c9
  obtain ⟨c11_, hyp⟩ := hyp
  obtain ⟨c12_, hyp⟩ := hyp
  refine xg_iaload (pc := 33) (v := (xpl (xst (xst h 81 s0 0) 82 s0 (-1)) (xpl h (xpl h 53 19) 4) x1)) (hI := d_M_seek_33) t10_ c11_ (xlt_of (show xln (xst (xst h 81 s0 0) 82 s0 (-1)) (xpl h (xpl h 53 19) 4) = xln h (xpl h (xpl h 53 19) 4) from rfl) c12_) rfl (fun f13_ => ?_)
  replace f13_ : -2147483648 ≤ (xpl (xst (xst h 81 s0 0) 82 s0 (-1)) (xpl h (xpl h 53 19) 4) x1) ∧ (xpl (xst (xst h 81 s0 0) 82 s0 (-1)) (xpl h (xpl h 53 19) 4) x1) ≤ 2147483647 := f13_
  refine xr_iconst (pc := 34) (hI := d_M_seek_34) (hr := by decide) ?_
  refine xr_iload_n (pc := 35) (i := 3) (hI := d_M_seek_35) (hi := rfl) (hl := rfl) ?_
  obtain ⟨c9, hyp⟩ := hyp
  refine xr_isub (pc := 36) (hI := d_M_seek_36) (hr := c9) ?_
  refine xr_icmp_eq (pc := 37) (tgt := 53) (hI := d_M_seek_37) (ht := by decide) (fun q9 => ?_) (fun q9 => ?_)
  · replace hyp := hyp.1 q9
    have q14_ := q9
    clear q9
    refine xr_return (S := []) (pc := 53) (hI := d_M_seek_53) (hr := rfl) ?_
    exact hyp F6_
  · replace hyp := hyp.2 q9
    have q14_ := q9
    clear q9
    refine xr_aload_n (pc := 40) (i := 0) (hI := d_M_seek_40) (hi := rfl) (hl := rfl) ?_
    refine xg_getf (pc := 41) (ci := 11) (k := 19) (N := 38) (v9 := 2) (v := (xpl h 53 19)) (T := xF11) (hI := d_M_seek_41) (hw := w_1606) rfl xi11 (Or.inl rfl) (Nat.le_of_ble_eq_true rfl) (Nat.le_of_ble_eq_true rfl) rfl (ft_53 F6_) (Eq.trans (xpl_oa (by decide)) (xpl_oa (by decide))) (fun f15_ => ?_)
    clear f15_
    refine xg_getfN (pc := 44) (ci := 12) (k := 5) (N := 13) (v9 := 2) (v := (xpl h (xpl h 53 19) 5)) (T := xF12) (hI := d_M_seek_44) (hw := w_1546) rfl xi12 (Or.inl rfl) (Nat.le_of_ble_eq_true rfl) (Nat.le_of_ble_eq_true rfl) rfl t8_ (Eq.trans (xpl_oa (xne_tag t8_ (have z9 := (ft_82 F6_); z9) (by decide))) (xpl_oa (xne_tag t8_ (have z9 := (ft_81 F6_); z9) (by decide)))) (fun f16_ => ?_)
    clear f16_
    refine xr_iload_n (pc := 47) (i := 1) (hI := d_M_seek_47) (hi := rfl) (hl := rfl) ?_
    obtain ⟨c9, hyp⟩ := hyp
    have t17_ := c9
    clear c9
    obtain ⟨c18_, hyp⟩ := hyp
    refine xg_iaload (pc := 48) (v := (xpl (xst (xst h 81 s0 0) 82 s0 (-1)) (xpl h (xpl h 53 19) 5) x1)) (hI := d_M_seek_48) t17_ (by clear hyp; omega) (xlt_of (show xln (xst (xst h 81 s0 0) 82 s0 (-1)) (xpl h (xpl h 53 19) 5) = xln h (xpl h (xpl h 53 19) 5) from rfl) c18_) rfl (fun f19_ => ?_)
    replace f19_ : -2147483648 ≤ (xpl (xst (xst h 81 s0 0) 82 s0 (-1)) (xpl h (xpl h 53 19) 5) x1) ∧ (xpl (xst (xst h 81 s0 0) 82 s0 (-1)) (xpl h (xpl h 53 19) 5) x1) ≤ 2147483647 := f19_
    refine xr_iconst (pc := 49) (hI := d_M_seek_49) (hr := by decide) ?_
    refine xr_icmp_ne (pc := 50) (tgt := 54) (hI := d_M_seek_50) (ht := by decide) (fun q9 => ?_) (fun q9 => ?_)
    · replace hyp := hyp.2 q9
      have q20_ := q9
      clear q9
      refine xr_aload_n (pc := 54) (i := 0) (hI := d_M_seek_54) (hi := rfl) (hl := rfl) ?_
      refine xr_aload_n (pc := 55) (i := 0) (hI := d_M_seek_55) (hi := rfl) (hl := rfl) ?_
      refine xg_getf (pc := 56) (ci := 11) (k := 3) (N := 38) (v9 := 2) (v := 55) (T := xF11) (hI := d_M_seek_56) (hw := w_1590) rfl xi11 (Or.inl rfl) (Nat.le_of_ble_eq_true rfl) (Nat.le_of_ble_eq_true rfl) rfl (ft_53 F6_) (fp_53_3 F6_) (fun f21_ => ?_)
      clear f21_
      refine xr_iload_n (pc := 59) (i := 2) (hI := d_M_seek_59) (hi := rfl) (hl := rfl) ?_
      obtain ⟨c22_, hyp⟩ := hyp
      obtain ⟨c23_, hyp⟩ := hyp
      refine xg_iaload (pc := 60) (v := (xpl h 55 x2)) (hI := d_M_seek_60) (ft_55 F6_) c22_ (xlt_of (fl_55 F6_) c23_) (Eq.trans (xpl_oa (by decide)) (xpl_oa (by decide))) (fun f24_ => ?_)
      replace f24_ : -2147483648 ≤ (xpl h 55 x2) ∧ (xpl h 55 x2) ≤ 2147483647 := f24_
      refine xr_iload_n (pc := 61) (i := 3) (hI := d_M_seek_61) (hi := rfl) (hl := rfl) ?_
      exact xq_callV (pc := 62) (index := 214) (K := m_M_base) (As := [xI (xpl h 55 x2), xI x3]) (S := []) (L0 := [xR 53, xI (xpl h 55 x2), xI x3]) (hI := d_M_seek_62) (hK := k_M_base) (hlk := w_1885) (hnoM := rfl) (hS8 := Nat.le_of_ble_eq_true rfl) (ci := 11) (N := 38) (C := "BeaconIndexModel") (T := xF11) (hc := rfl) (hci := Nat.le_of_ble_eq_true rfl) (htb := (ft_53 F6_)) (hinst := w_1887) (hsel := sel_M_base) (hlen := Nat.le_of_ble_eq_true rfl) (hst := rfl) (hL0 := rfl)  (hyp F6_)
    · replace hyp := hyp.1 q9
      have q20_ := q9
      clear q9
      refine xr_return (S := []) (pc := 53) (hI := d_M_seek_53) (hr := rfl) ?_
      exact hyp F6_
theorem d_M_seek_65 : decode prog_14_method_62_code 65 = .ok (.istore 5, 2) := by decide +kernel
theorem d_M_seek_67 : decode prog_14_method_62_code 67 = .ok (.aload_n 0, 1) := by decide +kernel
theorem d_M_seek_68 : decode prog_14_method_62_code 68 = .ok (.getfield 32, 3) := by decide +kernel
theorem d_M_seek_71 : decode prog_14_method_62_code 71 = .ok (.iconst 2, 1) := by decide +kernel
theorem d_M_seek_72 : decode prog_14_method_62_code 72 = .ok (.aload_n 0, 1) := by decide +kernel
theorem d_M_seek_73 : decode prog_14_method_62_code 73 = .ok (.getfield 13, 3) := by decide +kernel
theorem d_M_seek_76 : decode prog_14_method_62_code 76 = .ok (.iload_n 2, 1) := by decide +kernel
theorem d_M_seek_77 : decode prog_14_method_62_code 77 = .ok (.iaload, 1) := by decide +kernel
theorem d_M_seek_78 : decode prog_14_method_62_code 78 = .ok (.imul, 1) := by decide +kernel
theorem d_M_seek_79 : decode prog_14_method_62_code 79 = .ok (.iload_n 3, 1) := by decide +kernel
theorem d_M_seek_80 : decode prog_14_method_62_code 80 = .ok (.iadd, 1) := by decide +kernel
theorem d_M_seek_81 : decode prog_14_method_62_code 81 = .ok (.iaload, 1) := by decide +kernel
theorem d_M_seek_82 : decode prog_14_method_62_code 82 = .ok (.istore 6, 2) := by decide +kernel
theorem d_M_seek_84 : decode prog_14_method_62_code 84 = .ok (.aload_n 0, 1) := by decide +kernel
theorem d_M_seek_85 : decode prog_14_method_62_code 85 = .ok (.getfield 51, 3) := by decide +kernel
theorem d_M_seek_88 : decode prog_14_method_62_code 88 = .ok (.getfield 313, 3) := by decide +kernel
theorem d_M_seek_91 : decode prog_14_method_62_code 91 = .ok (.iload_n 1, 1) := by decide +kernel
theorem d_M_seek_92 : decode prog_14_method_62_code 92 = .ok (.iaload, 1) := by decide +kernel
theorem d_M_seek_93 : decode prog_14_method_62_code 93 = .ok (.ifCond .le 30, 3) := by decide +kernel
theorem d_M_seek_123 : decode prog_14_method_62_code 123 = .ok (.iconst 0, 1) := by decide +kernel
theorem d_M_seek_124 : decode prog_14_method_62_code 124 = .ok (.istore 7, 2) := by decide +kernel
theorem d_M_seek_96 : decode prog_14_method_62_code 96 = .ok (.aload_n 0, 1) := by decide +kernel
theorem d_M_seek_97 : decode prog_14_method_62_code 97 = .ok (.getfield 51, 3) := by decide +kernel
theorem d_M_seek_100 : decode prog_14_method_62_code 100 = .ok (.getfield 337, 3) := by decide +kernel
theorem d_M_seek_103 : decode prog_14_method_62_code 103 = .ok (.iload_n 1, 1) := by decide +kernel
theorem d_M_seek_104 : decode prog_14_method_62_code 104 = .ok (.iaload, 1) := by decide +kernel
theorem d_M_seek_105 : decode prog_14_method_62_code 105 = .ok (.iconst 1, 1) := by decide +kernel
theorem d_M_seek_106 : decode prog_14_method_62_code 106 = .ok (.if_icmp .le 17, 3) := by decide +kernel
theorem d_M_seek_109 : decode prog_14_method_62_code 109 = .ok (.aload_n 0, 1) := by decide +kernel
theorem d_M_seek_110 : decode prog_14_method_62_code 110 = .ok (.iload_n 1, 1) := by decide +kernel
theorem d_M_seek_111 : decode prog_14_method_62_code 111 = .ok (.iload 5, 2) := by decide +kernel
theorem d_M_seek_113 : decode prog_14_method_62_code 113 = .ok (.iload 6, 2) := by decide +kernel
theorem d_M_seek_115 : decode prog_14_method_62_code 115 = .ok (.iload 4, 2) := by decide +kernel
theorem d_M_seek_117 : decode prog_14_method_62_code 117 = .ok (.invokevirtual 355, 3) := by decide +kernel
theorem k_M_seekNear : xCal m_M_seekNear 4 := ⟨List.mem_append_right _ (List.mem_of_getElem? (i := 2388) (by decide +kernel)), w_15, Nat.le_of_ble_eq_true rfl, ⟨by decide +kernel, by decide +kernel⟩, by decide +kernel, by decide +kernel, rfl⟩
theorem w_2385 : Cond.methodLink "BeaconIndexModel" 355 ⟨"BeaconIndexModel", "seekNear", "(IIII)V"⟩ ∈ lw_tbl := List.mem_append_right _ (List.mem_of_getElem? (i := 2385) (by decide +kernel))
theorem w_2387 : Cond.instanceMethod ⟨"BeaconIndexModel", "seekNear", "(IIII)V"⟩ ∈ lw_tbl := List.mem_append_right _ (List.mem_of_getElem? (i := 2387) (by decide +kernel))
theorem sel_M_seekNear : Cond.selects "BeaconIndexModel" ⟨"BeaconIndexModel", "seekNear", "(IIII)V"⟩ ⟨"BeaconIndexModel", "seekNear", "(IIII)V"⟩ ∈ lw_tbl := List.mem_append_left _ (by decide +kernel)
theorem v_M_seek_65 {G : XG} {d : Nat} {h : XH} {Q : XV → XH → Prop} {X : Nat → XH → Prop} {x1 x2 x3 x4 s0 : Int} (F : xFix h) (hyp : 0 ≤ x2 ∧ x2 < 60 ∧ xiR (2 * (xpl h 55 x2)) ∧ xiR ((2 * (xpl h 55 x2)) + x3) ∧ 0 ≤ ((2 * (xpl h 55 x2)) + x3) ∧ ((2 * (xpl h 55 x2)) + x3) < 120 ∧ xtg h (xpl h 53 19) = 12 ∧ xtg h (xpl h (xpl h 53 19) 9) = 100 ∧ 0 ≤ x1 ∧ x1 < (xln h (xpl h (xpl h 53 19) 9)) ∧ (((xpl h (xpl h (xpl h 53 19) 9) x1) ≤ 0 → (xwp G m_M_seek (d + 3) 126 [xR 53, xI x1, xZ, xZ, xI x4, xI s0, xI (xpl h 61 ((2 * (xpl h 55 x2)) + x3)), xI 0] [] h Q X)) ∧ (¬ (xpl h (xpl h (xpl h 53 19) 9) x1) ≤ 0 → xtg h (xpl h (xpl h 53 19) 7) = 100 ∧ x1 < (xln h (xpl h (xpl h 53 19) 7)) ∧ (((xpl h (xpl h (xpl h 53 19) 7) x1) ≤ 1 → (xwp G m_M_seek (d + 3) 126 [xR 53, xI x1, xZ, xZ, xI x4, xI s0, xI (xpl h 61 ((2 * (xpl h 55 x2)) + x3)), xI 0] [] h Q X)) ∧ (¬ (xpl h (xpl h (xpl h 53 19) 7) x1) ≤ 1 → (xwp G m_M_seekNear (d + 2) 0 [xR 53, xI x1, xI s0, xI (xpl h 61 ((2 * (xpl h 55 x2)) + x3)), xI x4, xZ, xZ, xZ, xZ, xZ] [] h (fun v9 h9 => xwp G m_M_seek (d + 3) 120 [xZ, xZ, xZ, xZ, xZ, xZ, xZ, xZ] (xpush v9 []) h9 Q X) X)))))) : xwp G m_M_seek (d + 3) 65 [xR 53, xI x1, xI x2, xI x3, xI x4, xZ, xZ, xZ] [xI s0] h Q X := by
  have hnx9 : (93 : Int) ≤ xnx h := F.2.2
  refine xr_okL (fun hl9 => ?_)
  have r_x1 : -2147483648 ≤ x1 ∧ x1 ≤ 2147483647 := hl9 (xI x1) (.tail _ (.head _)) (Nat.le_of_ble_eq_true rfl)
  have r_x2 : -2147483648 ≤ x2 ∧ x2 ≤ 2147483647 := hl9 (xI x2) (.tail _ (.tail _ (.head _))) (Nat.le_of_ble_eq_true rfl)
  have r_x3 : -2147483648 ≤ x3 ∧ x3 ≤ 2147483647 := hl9 (xI x3) (.tail _ (.tail _ (.tail _ (.head _)))) (Nat.le_of_ble_eq_true rfl)
  have r_x4 : -2147483648 ≤ x4 ∧ x4 ≤ 2147483647 := hl9 (xI x4) (.tail _ (.tail _ (.tail _ (.tail _ (.head _))))) (Nat.le_of_ble_eq_true rfl)
  refine xr_okS (fun hs9 => ?_)
  have r_s0 : -2147483648 ≤ s0 ∧ s0 ≤ 2147483647 := hs9 (xI s0) (.head _)
  refine xr_istore (pc := 65) (i := 5) (L9 := [xR 53, xI x1, xI x2, xI x3, xI x4, xI s0, xZ, xZ]) (hI := d_M_seek_65) (hn := Nat.le_of_ble_eq_true rfl) (hL9 := rfl) ?_
  refine xr_aload_n (pc := 67) (i := 0) (hI := d_M_seek_67) (hi := rfl) (hl := rfl) ?_
  refine xg_getf (pc := 68) (ci := 11) (k := 12) (N := 38) (v9 := 2) (v := 61) (T := xF11) (hI := d_M_seek_68) (hw := w_1599) rfl xi11 (Or.inl rfl) (Nat.le_of_ble_eq_true rfl) (Nat.le_of_ble_eq_true rfl) rfl (ft_53 F) (fp_53_12 F) (fun f1_ => ?_)
  clear f1_
  refine xr_iconst (pc := 71) (hI := d_M_seek_71) (hr := by decide) ?_
  refine xr_aload_n (pc := 72) (i := 0) (hI := d_M_seek_72) (hi := rfl) (hl := rfl) ?_
  refine xg_getf (pc := 73) (ci := 11) (k := 3) (N := 38) (v9 := 2) (v := 55) (T := xF11) (hI := d_M_seek_73) (hw := w_1590) rfl xi11 (Or.inl rfl) (Nat.le_of_ble_eq_true rfl) (Nat.le_of_ble_eq_true rfl) rfl (ft_53 F) (fp_53_3 F) (fun f2_ => ?_)
  clear f2_
  refine xr_iload_n (pc := 76) (i := 2) (hI := d_M_seek_76) (hi := rfl) (hl := rfl) ?_
  obtain ⟨c3_, hyp⟩ := hyp
  obtain ⟨c4_, hyp⟩ := hyp
  refine xg_iaload (pc := 77) (v := (xpl h 55 x2)) (hI := d_M_seek_77) (ft_55 F) c3_ (xlt_of (fl_55 F) c4_) rfl (fun f5_ => ?_)
  replace f5_ : -2147483648 ≤ (xpl h 55 x2) ∧ (xpl h 55 x2) ≤ 2147483647 := f5_
  obtain ⟨c9, hyp⟩ := hyp
  refine xr_imul (pc := 78) (hI := d_M_seek_78) (hr := c9) ?_
  refine xr_iload_n (pc := 79) (i := 3) (hI := d_M_seek_79) (hi := rfl) (hl := rfl) ?_
  obtain ⟨c9, hyp⟩ := hyp
  refine xr_iadd (pc := 80) (hI := d_M_seek_80) (hr := c9) ?_
  obtain ⟨c6_, hyp⟩ := hyp
  obtain ⟨c7_, hyp⟩ := hyp
  refine xg_iaload (pc := 81) (v := (xpl h 61 ((2 * (xpl h 55 x2)) + x3))) (hI := d_M_seek_81) (ft_61 F) c6_ (xlt_of (fl_61 F) c7_) rfl (fun f8_ => ?_)
  replace f8_ : -2147483648 ≤ (xpl h 61 ((2 * (xpl h 55 x2)) + x3)) ∧ (xpl h 61 ((2 * (xpl h 55 x2)) + x3)) ≤ 2147483647 := f8_
  refine xr_istore (pc := 82) (i := 6) (L9 := [xR 53, xI x1, xI x2, xI x3, xI x4, xI s0, xI (xpl h 61 ((2 * (xpl h 55 x2)) + x3)), xZ]) (hI := d_M_seek_82) (hn := Nat.le_of_ble_eq_true rfl) (hL9 := rfl) ?_
  refine xr_aload_n (pc := 84) (i := 0) (hI := d_M_seek_84) (hi := rfl) (hl := rfl) ?_
  refine xg_getf (pc := 85) (ci := 11) (k := 19) (N := 38) (v9 := 2) (v := (xpl h 53 19)) (T := xF11) (hI := d_M_seek_85) (hw := w_1606) rfl xi11 (Or.inl rfl) (Nat.le_of_ble_eq_true rfl) (Nat.le_of_ble_eq_true rfl) rfl (ft_53 F) rfl (fun f9_ => ?_)
  clear f9_
  obtain ⟨c9, hyp⟩ := hyp
  have t10_ := c9
  clear c9
  refine xg_getfN (pc := 88) (ci := 12) (k := 9) (N := 13) (v9 := 2) (v := (xpl h (xpl h 53 19) 9)) (T := xF12) (hI := d_M_seek_88) (hw := w_1554) rfl xi12 (Or.inl rfl) (Nat.le_of_ble_eq_true rfl) (Nat.le_of_ble_eq_true rfl) rfl t10_ rfl (fun f11_ => ?_)
  clear f11_
  refine xr_iload_n (pc := 91) (i := 1) (hI := d_M_seek_91) (hi := rfl) (hl := rfl) ?_
  obtain ⟨c9, hyp⟩ := hyp
  have t12_ := c9
  clear c9
  obtain ⟨c13_, hyp⟩ := hyp
  obtain ⟨c14_, hyp⟩ := hyp
  refine xg_iaload (pc := 92) (v := (xpl h (xpl h (xpl h 53 19) 9) x1)) (hI := d_M_seek_92) t12_ c13_ (xlt_of rfl c14_) rfl (fun f15_ => ?_)
  replace f15_ : -2147483648 ≤ (xpl h (xpl h (xpl h 53 19) 9) x1) ∧ (xpl h (xpl h (xpl h 53 19) 9) x1) ≤ 2147483647 := f15_
  refine xr_if_le (pc := 93) (tgt := 123) (hI := d_M_seek_93) (ht := by decide) (fun q9 => ?_) (fun q9 => ?_)
  · replace hyp := hyp.1 q9
    have q16_ := q9
    clear q9
    refine xr_iconst (pc := 123) (hI := d_M_seek_123) (hr := by decide) ?_
    refine xr_istore (pc := 124) (i := 7) (L9 := [xR 53, xI x1, xI x2, xI x3, xI x4, xI s0, xI (xpl h 61 ((2 * (xpl h 55 x2)) + x3)), xI 0]) (hI := d_M_seek_124) (hn := Nat.le_of_ble_eq_true rfl) (hL9 := rfl) ?_
    exact xr_drop (L9 := [xR 53, xI x1, xZ, xZ, xI x4, xI s0, xI (xpl h 61 ((2 * (xpl h 55 x2)) + x3)), xI 0]) (xdrs (xdrs (xdrz (xdrz (xdrs (xdrs (xdrs (xdrs xdr0)))))))) hyp
  · replace hyp := hyp.2 q9
    have q16_ := q9
    clear q9
    refine xr_aload_n (pc := 96) (i := 0) (hI := d_M_seek_96) (hi := rfl) (hl := rfl) ?_
    refine xg_getf (pc := 97) (ci := 11) (k := 19) (N := 38) (v9 := 2) (v := (xpl h 53 19)) (T := xF11) (hI := d_M_seek_97) (hw := w_1606) rfl xi11 (Or.inl rfl) (Nat.le_of_ble_eq_true rfl) (Nat.le_of_ble_eq_true rfl) rfl (ft_53 F) rfl (fun f17_ => ?_)
    clear f17_
    refine xg_getfN (pc := 100) (ci := 12) (k := 7) (N := 13) (v9 := 2) (v := (xpl h (xpl h 53 19) 7)) (T := xF12) (hI := d_M_seek_100) (hw := w_1550) rfl xi12 (Or.inl rfl) (Nat.le_of_ble_eq_true rfl) (Nat.le_of_ble_eq_true rfl) rfl t10_ rfl (fun f18_ => ?_)
    clear f18_
    refine xr_iload_n (pc := 103) (i := 1) (hI := d_M_seek_103) (hi := rfl) (hl := rfl) ?_
    obtain ⟨c9, hyp⟩ := hyp
    have t19_ := c9
    clear c9
    obtain ⟨c20_, hyp⟩ := hyp
    refine xg_iaload (pc := 104) (v := (xpl h (xpl h (xpl h 53 19) 7) x1)) (hI := d_M_seek_104) t19_ (by clear hyp; omega) (xlt_of rfl c20_) rfl (fun f21_ => ?_)
    replace f21_ : -2147483648 ≤ (xpl h (xpl h (xpl h 53 19) 7) x1) ∧ (xpl h (xpl h (xpl h 53 19) 7) x1) ≤ 2147483647 := f21_
    refine xr_iconst (pc := 105) (hI := d_M_seek_105) (hr := by decide) ?_
    refine xr_icmp_le (pc := 106) (tgt := 123) (hI := d_M_seek_106) (ht := by decide) (fun q9 => ?_) (fun q9 => ?_)
    · replace hyp := hyp.1 q9
      have q22_ := q9
      clear q9
      refine xr_iconst (pc := 123) (hI := d_M_seek_123) (hr := by decide) ?_
      refine xr_istore (pc := 124) (i := 7) (L9 := [xR 53, xI x1, xI x2, xI x3, xI x4, xI s0, xI (xpl h 61 ((2 * (xpl h 55 x2)) + x3)), xI 0]) (hI := d_M_seek_124) (hn := Nat.le_of_ble_eq_true rfl) (hL9 := rfl) ?_
      exact xr_drop (L9 := [xR 53, xI x1, xZ, xZ, xI x4, xI s0, xI (xpl h 61 ((2 * (xpl h 55 x2)) + x3)), xI 0]) (xdrs (xdrs (xdrz (xdrz (xdrs (xdrs (xdrs (xdrs xdr0)))))))) hyp
    · replace hyp := hyp.2 q9
      have q22_ := q9
      clear q9
      refine xr_aload_n (pc := 109) (i := 0) (hI := d_M_seek_109) (hi := rfl) (hl := rfl) ?_
      refine xr_iload_n (pc := 110) (i := 1) (hI := d_M_seek_110) (hi := rfl) (hl := rfl) ?_
      refine xr_iload (pc := 111) (i := 5) (hI := d_M_seek_111) (hl := rfl) ?_
      refine xr_iload (pc := 113) (i := 6) (hI := d_M_seek_113) (hl := rfl) ?_
      refine xr_iload (pc := 115) (i := 4) (hI := d_M_seek_115) (hl := rfl) ?_
      exact xq_callV (pc := 117) (index := 355) (K := m_M_seekNear) (As := [xI x1, xI s0, xI (xpl h 61 ((2 * (xpl h 55 x2)) + x3)), xI x4]) (S := []) (L0 := [xR 53, xI x1, xI s0, xI (xpl h 61 ((2 * (xpl h 55 x2)) + x3)), xI x4, xZ, xZ, xZ, xZ, xZ]) (hI := d_M_seek_117) (hK := k_M_seekNear) (hlk := w_2385) (hnoM := rfl) (hS8 := Nat.le_of_ble_eq_true rfl) (ci := 11) (N := 38) (C := "BeaconIndexModel") (T := xF11) (hc := rfl) (hci := Nat.le_of_ble_eq_true rfl) (htb := (ft_53 F)) (hinst := w_2387) (hsel := sel_M_seekNear) (hlen := Nat.le_of_ble_eq_true rfl) (hst := rfl) (hL0 := rfl)  (xwp_mono hyp (fun v9 h9 q9 => xr_drop (L9 := [xZ, xZ, xZ, xZ, xZ, xZ, xZ, xZ]) (xdrz (xdrz (xdrz (xdrz (xdrz (xdrz (xdrz (xdrs xdr0)))))))) q9) (fun _ _ z9 => z9))
theorem d_M_seek_120 : decode prog_14_method_62_code 120 = .ok (.goto 41, 3) := by decide +kernel
theorem d_M_seek_161 : decode prog_14_method_62_code 161 = .ok (.return_, 1) := by decide +kernel
theorem v_M_seek_120 {G : XG} {d : Nat} {h : XH} {Q : XV → XH → Prop} {X : Nat → XH → Prop} (F : xFix h) (hyp : (Q xN h)) : xwp G m_M_seek (d + 3) 120 [xZ, xZ, xZ, xZ, xZ, xZ, xZ, xZ] [] h Q X := by
  have hnx9 : (93 : Int) ≤ xnx h := F.2.2
  refine xr_goto (pc := 120) (tgt := 161) (hI := d_M_seek_120) (ht := by decide) ?_
  refine xr_return (S := []) (pc := 161) (hI := d_M_seek_161) (hr := rfl) ?_
  exact hyp
theorem d_M_seek_126 : decode prog_14_method_62_code 126 = .ok (.iload 7, 2) := by decide +kernel
theorem d_M_seek_128 : decode prog_14_method_62_code 128 = .ok (.iload 6, 2) := by decide +kernel
theorem d_M_seek_130 : decode prog_14_method_62_code 130 = .ok (.if_icmp .ge 31, 3) := by decide +kernel
theorem d_M_seek_133 : decode prog_14_method_62_code 133 = .ok (.aload_n 0, 1) := by decide +kernel
theorem d_M_seek_134 : decode prog_14_method_62_code 134 = .ok (.iload_n 1, 1) := by decide +kernel
theorem d_M_seek_135 : decode prog_14_method_62_code 135 = .ok (.iload 5, 2) := by decide +kernel
theorem d_M_seek_137 : decode prog_14_method_62_code 137 = .ok (.iload 6, 2) := by decide +kernel
theorem d_M_seek_139 : decode prog_14_method_62_code 139 = .ok (.iload 7, 2) := by decide +kernel
theorem d_M_seek_141 : decode prog_14_method_62_code 141 = .ok (.invokevirtual 359, 3) := by decide +kernel
theorem k_M_doesFit : xCal m_M_doesFit 4 := ⟨List.mem_append_right _ (List.mem_of_getElem? (i := 2404) (by decide +kernel)), w_15, Nat.le_of_ble_eq_true rfl, ⟨by decide +kernel, by decide +kernel⟩, by decide +kernel, by decide +kernel, rfl⟩
theorem w_2401 : Cond.methodLink "BeaconIndexModel" 359 ⟨"BeaconIndexModel", "doesFit", "(IIII)Z"⟩ ∈ lw_tbl := List.mem_append_right _ (List.mem_of_getElem? (i := 2401) (by decide +kernel))
theorem w_2403 : Cond.instanceMethod ⟨"BeaconIndexModel", "doesFit", "(IIII)Z"⟩ ∈ lw_tbl := List.mem_append_right _ (List.mem_of_getElem? (i := 2403) (by decide +kernel))
theorem sel_M_doesFit : Cond.selects "BeaconIndexModel" ⟨"BeaconIndexModel", "doesFit", "(IIII)Z"⟩ ⟨"BeaconIndexModel", "doesFit", "(IIII)Z"⟩ ∈ lw_tbl := List.mem_append_left _ (by decide +kernel)
theorem v_M_seek_126 {G : XG} {d : Nat} {h : XH} {Q : XV → XH → Prop} {X : Nat → XH → Prop} {x1 x4 x5 x6 x7 : Int} (F : xFix h) (hyp : ((x6 ≤ x7 → (Q xN h)) ∧ (¬ x6 ≤ x7 → (xwp G m_M_doesFit (d + 2) 0 [xR 53, xI x1, xI x5, xI x6, xI x7, xZ, xZ, xZ, xZ, xZ] [] h (fun v9 h9 => xwp G m_M_seek (d + 3) 144 [xR 53, xI x1, xZ, xZ, xI x4, xI x5, xI x6, xI x7] (xpush v9 []) h9 Q X) X)))) : xwp G m_M_seek (d + 3) 126 [xR 53, xI x1, xZ, xZ, xI x4, xI x5, xI x6, xI x7] [] h Q X := by
  have hnx9 : (93 : Int) ≤ xnx h := F.2.2
  refine xr_okL (fun hl9 => ?_)
  have r_x1 : -2147483648 ≤ x1 ∧ x1 ≤ 2147483647 := hl9 (xI x1) (.tail _ (.head _)) (Nat.le_of_ble_eq_true rfl)
  have r_x4 : -2147483648 ≤ x4 ∧ x4 ≤ 2147483647 := hl9 (xI x4) (.tail _ (.tail _ (.tail _ (.tail _ (.head _))))) (Nat.le_of_ble_eq_true rfl)
  have r_x5 : -2147483648 ≤ x5 ∧ x5 ≤ 2147483647 := hl9 (xI x5) (.tail _ (.tail _ (.tail _ (.tail _ (.tail _ (.head _)))))) (Nat.le_of_ble_eq_true rfl)
  have r_x6 : -2147483648 ≤ x6 ∧ x6 ≤ 2147483647 := hl9 (xI x6) (.tail _ (.tail _ (.tail _ (.tail _ (.tail _ (.tail _ (.head _))))))) (Nat.le_of_ble_eq_true rfl)
  have r_x7 : -2147483648 ≤ x7 ∧ x7 ≤ 2147483647 := hl9 (xI x7) (.tail _ (.tail _ (.tail _ (.tail _ (.tail _ (.tail _ (.tail _ (.head _)))))))) (Nat.le_of_ble_eq_true rfl)
  refine xr_iload (pc := 126) (i := 7) (hI := d_M_seek_126) (hl := rfl) ?_
  refine xr_iload (pc := 128) (i := 6) (hI := d_M_seek_128) (hl := rfl) ?_
  refine xr_icmp_ge (pc := 130) (tgt := 161) (hI := d_M_seek_130) (ht := by decide) (fun q9 => ?_) (fun q9 => ?_)
  · replace hyp := hyp.1 q9
    have q1_ := q9
    clear q9
    refine xr_return (S := []) (pc := 161) (hI := d_M_seek_161) (hr := rfl) ?_
    exact hyp
  · replace hyp := hyp.2 q9
    have q1_ := q9
    clear q9
    refine xr_aload_n (pc := 133) (i := 0) (hI := d_M_seek_133) (hi := rfl) (hl := rfl) ?_
    refine xr_iload_n (pc := 134) (i := 1) (hI := d_M_seek_134) (hi := rfl) (hl := rfl) ?_
    refine xr_iload (pc := 135) (i := 5) (hI := d_M_seek_135) (hl := rfl) ?_
    refine xr_iload (pc := 137) (i := 6) (hI := d_M_seek_137) (hl := rfl) ?_
    refine xr_iload (pc := 139) (i := 7) (hI := d_M_seek_139) (hl := rfl) ?_
    exact xq_callV (pc := 141) (index := 359) (K := m_M_doesFit) (As := [xI x1, xI x5, xI x6, xI x7]) (S := []) (L0 := [xR 53, xI x1, xI x5, xI x6, xI x7, xZ, xZ, xZ, xZ, xZ]) (hI := d_M_seek_141) (hK := k_M_doesFit) (hlk := w_2401) (hnoM := rfl) (hS8 := Nat.le_of_ble_eq_true rfl) (ci := 11) (N := 38) (C := "BeaconIndexModel") (T := xF11) (hc := rfl) (hci := Nat.le_of_ble_eq_true rfl) (htb := (ft_53 F)) (hinst := w_2403) (hsel := sel_M_doesFit) (hlen := Nat.le_of_ble_eq_true rfl) (hst := rfl) (hL0 := rfl)  hyp
theorem d_M_seek_144 : decode prog_14_method_62_code 144 = .ok (.ifCond .eq 11, 3) := by decide +kernel
theorem d_M_seek_147 : decode prog_14_method_62_code 147 = .ok (.aload_n 0, 1) := by decide +kernel
theorem d_M_seek_148 : decode prog_14_method_62_code 148 = .ok (.iload 4, 2) := by decide +kernel
theorem d_M_seek_150 : decode prog_14_method_62_code 150 = .ok (.iload 7, 2) := by decide +kernel
theorem d_M_seek_152 : decode prog_14_method_62_code 152 = .ok (.invokevirtual 349, 3) := by decide +kernel
theorem v_M_seek_144 {G : XG} {d : Nat} {h : XH} {Q : XV → XH → Prop} {X : Nat → XH → Prop} {x1 x4 x5 x6 x7 s0 : Int} (F : xFix h) (hyp : ((s0 = 0 → (xwp G m_M_seek (d + 3) 155 [xR 53, xI x1, xZ, xZ, xI x4, xI x5, xI x6, xI x7] [] h Q X)) ∧ (¬ s0 = 0 → (xwp G m_M_note (d + 2) 0 [xR 53, xI x4, xI x7] [] h (fun v9 h9 => xwp G m_M_seek (d + 3) 155 [xR 53, xI x1, xZ, xZ, xI x4, xI x5, xI x6, xI x7] (xpush v9 []) h9 Q X) X)))) : xwp G m_M_seek (d + 3) 144 [xR 53, xI x1, xZ, xZ, xI x4, xI x5, xI x6, xI x7] [xI s0] h Q X := by
  have hnx9 : (93 : Int) ≤ xnx h := F.2.2
  refine xr_okL (fun hl9 => ?_)
  have r_x1 : -2147483648 ≤ x1 ∧ x1 ≤ 2147483647 := hl9 (xI x1) (.tail _ (.head _)) (Nat.le_of_ble_eq_true rfl)
  have r_x4 : -2147483648 ≤ x4 ∧ x4 ≤ 2147483647 := hl9 (xI x4) (.tail _ (.tail _ (.tail _ (.tail _ (.head _))))) (Nat.le_of_ble_eq_true rfl)
  have r_x5 : -2147483648 ≤ x5 ∧ x5 ≤ 2147483647 := hl9 (xI x5) (.tail _ (.tail _ (.tail _ (.tail _ (.tail _ (.head _)))))) (Nat.le_of_ble_eq_true rfl)
  have r_x6 : -2147483648 ≤ x6 ∧ x6 ≤ 2147483647 := hl9 (xI x6) (.tail _ (.tail _ (.tail _ (.tail _ (.tail _ (.tail _ (.head _))))))) (Nat.le_of_ble_eq_true rfl)
  have r_x7 : -2147483648 ≤ x7 ∧ x7 ≤ 2147483647 := hl9 (xI x7) (.tail _ (.tail _ (.tail _ (.tail _ (.tail _ (.tail _ (.tail _ (.head _)))))))) (Nat.le_of_ble_eq_true rfl)
  refine xr_okS (fun hs9 => ?_)
  have r_s0 : -2147483648 ≤ s0 ∧ s0 ≤ 2147483647 := hs9 (xI s0) (.head _)
  refine xr_if_eq (pc := 144) (tgt := 155) (hI := d_M_seek_144) (ht := by decide) (fun q9 => ?_) (fun q9 => ?_)
  · replace hyp := hyp.1 q9
    have q1_ := q9
    clear q9
    exact hyp
  · replace hyp := hyp.2 q9
    have q1_ := q9
    clear q9
    refine xr_aload_n (pc := 147) (i := 0) (hI := d_M_seek_147) (hi := rfl) (hl := rfl) ?_
    refine xr_iload (pc := 148) (i := 4) (hI := d_M_seek_148) (hl := rfl) ?_
    refine xr_iload (pc := 150) (i := 7) (hI := d_M_seek_150) (hl := rfl) ?_
    exact xq_callV (pc := 152) (index := 349) (K := m_M_note) (As := [xI x4, xI x7]) (S := []) (L0 := [xR 53, xI x4, xI x7]) (hI := d_M_seek_152) (hK := k_M_note) (hlk := w_2397) (hnoM := rfl) (hS8 := Nat.le_of_ble_eq_true rfl) (ci := 11) (N := 38) (C := "BeaconIndexModel") (T := xF11) (hc := rfl) (hci := Nat.le_of_ble_eq_true rfl) (htb := (ft_53 F)) (hinst := w_2399) (hsel := sel_M_note) (hlen := Nat.le_of_ble_eq_true rfl) (hst := rfl) (hL0 := rfl)  hyp
theorem d_M_seek_155 : decode prog_14_method_62_code 155 = .ok (.iinc 7 1, 3) := by decide +kernel
theorem d_M_seek_158 : decode prog_14_method_62_code 158 = .ok (.goto (-32), 3) := by decide +kernel
theorem v_M_seek_155 {G : XG} {d : Nat} {h : XH} {Q : XV → XH → Prop} {X : Nat → XH → Prop} {x1 x4 x5 x6 x7 : Int} (F : xFix h) (hyp : xiR (x7 + 1) ∧ (xwp G m_M_seek (d + 3) 126 [xR 53, xI x1, xZ, xZ, xI x4, xI x5, xI x6, xI (x7 + 1)] [] h Q X)) : xwp G m_M_seek (d + 3) 155 [xR 53, xI x1, xZ, xZ, xI x4, xI x5, xI x6, xI x7] [] h Q X := by
  have hnx9 : (93 : Int) ≤ xnx h := F.2.2
  refine xr_okL (fun hl9 => ?_)
  have r_x1 : -2147483648 ≤ x1 ∧ x1 ≤ 2147483647 := hl9 (xI x1) (.tail _ (.head _)) (Nat.le_of_ble_eq_true rfl)
  have r_x4 : -2147483648 ≤ x4 ∧ x4 ≤ 2147483647 := hl9 (xI x4) (.tail _ (.tail _ (.tail _ (.tail _ (.head _))))) (Nat.le_of_ble_eq_true rfl)
  have r_x5 : -2147483648 ≤ x5 ∧ x5 ≤ 2147483647 := hl9 (xI x5) (.tail _ (.tail _ (.tail _ (.tail _ (.tail _ (.head _)))))) (Nat.le_of_ble_eq_true rfl)
  have r_x6 : -2147483648 ≤ x6 ∧ x6 ≤ 2147483647 := hl9 (xI x6) (.tail _ (.tail _ (.tail _ (.tail _ (.tail _ (.tail _ (.head _))))))) (Nat.le_of_ble_eq_true rfl)
  have r_x7 : -2147483648 ≤ x7 ∧ x7 ≤ 2147483647 := hl9 (xI x7) (.tail _ (.tail _ (.tail _ (.tail _ (.tail _ (.tail _ (.tail _ (.head _)))))))) (Nat.le_of_ble_eq_true rfl)
  obtain ⟨c9, hyp⟩ := hyp
  refine xr_iinc (pc := 155) (i := 7) (L9 := [xR 53, xI x1, xZ, xZ, xI x4, xI x5, xI x6, xI (x7 + 1)]) (hI := d_M_seek_155) (hl := rfl) (hn := Nat.le_of_ble_eq_true rfl) (hr := c9) (hL9 := rfl) ?_
  refine xr_goto (pc := 158) (tgt := 126) (hI := d_M_seek_158) (ht := by decide) ?_
  exact hyp

end
