/-! ===== match2 ===== -/
section
abbrev m_Match_want : XM := (⟨"BeaconIndex$Match", "want", "(J)V"⟩, prog_4_method_11_code, 4, none, [])
theorem d_Match_want_0 : decode prog_4_method_11_code 0 = .ok (.aload_n 0, 1) := by decide +kernel
theorem d_Match_want_1 : decode prog_4_method_11_code 1 = .ok (.lload_n 1, 1) := by decide +kernel
theorem d_Match_want_2 : decode prog_4_method_11_code 2 = .ok (.invokevirtual 101, 3) := by decide +kernel
theorem k_Match_wantedPlace : xCal m_Match_wantedPlace 1 := ⟨List.mem_append_right _ (List.mem_of_getElem? (i := 675) (by decide +kernel)), w_14, Nat.le_of_ble_eq_true rfl, ⟨by decide +kernel, by decide +kernel⟩, by decide +kernel, by decide +kernel, rfl⟩
theorem w_672 : Cond.methodLink "BeaconIndex$Match" 101 ⟨"BeaconIndex$Match", "wantedPlace", "(J)I"⟩ ∈ lw_tbl := List.mem_append_right _ (List.mem_of_getElem? (i := 672) (by decide +kernel))
theorem w_674 : Cond.instanceMethod ⟨"BeaconIndex$Match", "wantedPlace", "(J)I"⟩ ∈ lw_tbl := List.mem_append_right _ (List.mem_of_getElem? (i := 674) (by decide +kernel))
theorem sel_Match_wantedPlace : Cond.selects "BeaconIndex$Match" ⟨"BeaconIndex$Match", "wantedPlace", "(J)I"⟩ ⟨"BeaconIndex$Match", "wantedPlace", "(J)I"⟩ ∈ lw_tbl := List.mem_append_left _ (by decide +kernel)
theorem v_Match_want_0 {G : XG} {d : Nat} {h : XH} {Q : XV → XH → Prop} {X : Nat → XH → Prop} {x1 : Int} (F : xFix h) (hyp : (xwp G m_Match_wantedPlace (d + 1) 0 [xR 45, xL x1, xZ, xZ] [] h (fun v9 h9 => xwp G m_Match_want (d + 2) 5 [xR 45, xL x1, xZ, xZ] (xpush v9 []) h9 Q X) X)) : xwp G m_Match_want (d + 2) 0 [xR 45, xL x1, xZ, xZ] [] h Q X := by
  have hnx9 : (93 : Int) ≤ xnx h := F.2.2
  refine xr_okL (fun hl9 => ?_)
  have r_x1 : -9223372036854775808 ≤ x1 ∧ x1 ≤ 9223372036854775807 := hl9 (xL x1) (.tail _ (.head _)) (Nat.le_of_ble_eq_true rfl)
  refine xr_aload_n (pc := 0) (i := 0) (hI := d_Match_want_0) (hi := rfl) (hl := rfl) ?_
  refine xr_lload_n (pc := 1) (i := 1) (hI := d_Match_want_1) (hi := rfl) (hl := rfl) ?_
  exact xq_callV (pc := 2) (index := 101) (K := m_Match_wantedPlace) (As := [xL x1]) (S := []) (L0 := [xR 45, xL x1, xZ, xZ]) (hI := d_Match_want_2) (hK := k_Match_wantedPlace) (hlk := w_672) (hnoM := rfl) (hS8 := Nat.le_of_ble_eq_true rfl) (ci := 3) (N := 6) (C := "BeaconIndex$Match") (T := xF3) (hc := rfl) (hci := Nat.le_of_ble_eq_true rfl) (htb := (ft_45 F)) (hinst := w_674) (hsel := sel_Match_wantedPlace) (hlen := Nat.le_of_ble_eq_true rfl) (hst := rfl) (hL0 := rfl)  hyp
theorem d_Match_want_5 : decode prog_4_method_11_code 5 = .ok (.istore_n 3, 1) := by decide +kernel
theorem d_Match_want_6 : decode prog_4_method_11_code 6 = .ok (.iload_n 3, 1) := by decide +kernel
theorem d_Match_want_7 : decode prog_4_method_11_code 7 = .ok (.iconst (-1), 1) := by decide +kernel
theorem d_Match_want_8 : decode prog_4_method_11_code 8 = .ok (.if_icmp .ne 54, 3) := by decide +kernel
theorem d_Match_want_11 : decode prog_4_method_11_code 11 = .ok (.aload_n 0, 1) := by decide +kernel
theorem d_Match_want_12 : decode prog_4_method_11_code 12 = .ok (.getfield 19, 3) := by decide +kernel
theorem d_Match_want_15 : decode prog_4_method_11_code 15 = .ok (.aload_n 0, 1) := by decide +kernel
theorem d_Match_want_16 : decode prog_4_method_11_code 16 = .ok (.getfield 9, 3) := by decide +kernel
theorem d_Match_want_19 : decode prog_4_method_11_code 19 = .ok (.arraylength, 1) := by decide +kernel
theorem d_Match_want_20 : decode prog_4_method_11_code 20 = .ok (.if_icmp .ge 42, 3) := by decide +kernel
theorem d_Match_want_23 : decode prog_4_method_11_code 23 = .ok (.aload_n 0, 1) := by decide +kernel
theorem d_Match_want_24 : decode prog_4_method_11_code 24 = .ok (.getfield 19, 3) := by decide +kernel
theorem d_Match_want_27 : decode prog_4_method_11_code 27 = .ok (.istore_n 3, 1) := by decide +kernel
theorem d_Match_want_28 : decode prog_4_method_11_code 28 = .ok (.aload_n 0, 1) := by decide +kernel
theorem d_Match_want_29 : decode prog_4_method_11_code 29 = .ok (.getfield 9, 3) := by decide +kernel
theorem d_Match_want_32 : decode prog_4_method_11_code 32 = .ok (.iload_n 3, 1) := by decide +kernel
theorem d_Match_want_33 : decode prog_4_method_11_code 33 = .ok (.lload_n 1, 1) := by decide +kernel
theorem d_Match_want_34 : decode prog_4_method_11_code 34 = .ok (.lastore, 1) := by decide +kernel
theorem xfa_46 : xfreeA 46 = true := by decide +kernel
theorem d_Match_want_35 : decode prog_4_method_11_code 35 = .ok (.aload_n 0, 1) := by decide +kernel
theorem d_Match_want_36 : decode prog_4_method_11_code 36 = .ok (.getfield 15, 3) := by decide +kernel
theorem w_373 : Cond.fieldLink "BeaconIndex$Match" 15 "BeaconIndex$Match" "lacking" "[I" ∈ lw_tbl := List.mem_append_right _ (List.mem_of_getElem? (i := 373) (by decide +kernel))
theorem d_Match_want_39 : decode prog_4_method_11_code 39 = .ok (.iload_n 3, 1) := by decide +kernel
theorem d_Match_want_40 : decode prog_4_method_11_code 40 = .ok (.iconst 0, 1) := by decide +kernel
theorem d_Match_want_41 : decode prog_4_method_11_code 41 = .ok (.iastore, 1) := by decide +kernel
theorem xfa_47 : xfreeA 47 = true := by decide +kernel
theorem d_Match_want_42 : decode prog_4_method_11_code 42 = .ok (.aload_n 0, 1) := by decide +kernel
theorem d_Match_want_43 : decode prog_4_method_11_code 43 = .ok (.dup, 1) := by decide +kernel
theorem d_Match_want_44 : decode prog_4_method_11_code 44 = .ok (.getfield 19, 3) := by decide +kernel
theorem d_Match_want_47 : decode prog_4_method_11_code 47 = .ok (.iconst 1, 1) := by decide +kernel
theorem d_Match_want_48 : decode prog_4_method_11_code 48 = .ok (.iadd, 1) := by decide +kernel
theorem d_Match_want_49 : decode prog_4_method_11_code 49 = .ok (.putfield 19, 3) := by decide +kernel
theorem xfk_45_2 : xfree 45 2 = true := by decide +kernel
theorem d_Match_want_52 : decode prog_4_method_11_code 52 = .ok (.aload_n 0, 1) := by decide +kernel
theorem d_Match_want_53 : decode prog_4_method_11_code 53 = .ok (.dup, 1) := by decide +kernel
theorem d_Match_want_54 : decode prog_4_method_11_code 54 = .ok (.getfield 23, 3) := by decide +kernel
theorem w_375 : Cond.fieldLink "BeaconIndex$Match" 23 "BeaconIndex$Match" "unmet" "I" ∈ lw_tbl := List.mem_append_right _ (List.mem_of_getElem? (i := 375) (by decide +kernel))
theorem d_Match_want_57 : decode prog_4_method_11_code 57 = .ok (.iconst 1, 1) := by decide +kernel
theorem d_Match_want_58 : decode prog_4_method_11_code 58 = .ok (.iadd, 1) := by decide +kernel
theorem d_Match_want_59 : decode prog_4_method_11_code 59 = .ok (.putfield 23, 3) := by decide +kernel
theorem xfk_45_3 : xfree 45 3 = true := by decide +kernel
theorem v_Match_want_5 {G : XG} {d : Nat} {h : XH} {Q : XV → XH → Prop} {X : Nat → XH → Prop} {x1 s0 : Int} (F : xFix h) (hyp : ((s0 = (-1) → (((40 : Int) ≤ (xpl h 45 2) → (xwp G m_Match_want (d + 2) 62 [xR 45, xZ, xZ, xI s0] [] h Q X)) ∧ (¬ (40 : Int) ≤ (xpl h 45 2) → 0 ≤ (xpl h 45 2) ∧ xiR ((xpl h 45 3) + 1) ∧ (xFix (xst (xst (xst (xst h 46 (xpl h 45 2) x1) 47 (xpl h 45 2) 0) 45 2 ((xpl h 45 2) + 1)) 45 3 ((xpl h 45 3) + 1)) → xwp G m_Match_want (d + 2) 62 [xR 45, xZ, xZ, xI (xpl h 45 2)] [] (xst (xst (xst (xst h 46 (xpl h 45 2) x1) 47 (xpl h 45 2) 0) 45 2 ((xpl h 45 2) + 1)) 45 3 ((xpl h 45 3) + 1)) Q X)))) ∧ (¬ s0 = (-1) → (xwp G m_Match_want (d + 2) 62 [xR 45, xZ, xZ, xI s0] [] h Q X)))) : xwp G m_Match_want (d + 2) 5 [xR 45, xL x1, xZ, xZ] [xI s0] h Q X := by
  have hnx9 : (93 : Int) ≤ xnx h := F.2.2
  refine xr_okL (fun hl9 => ?_)
  have r_x1 : -9223372036854775808 ≤ x1 ∧ x1 ≤ 9223372036854775807 := hl9 (xL x1) (.tail _ (.head _)) (Nat.le_of_ble_eq_true rfl)
  refine xr_okS (fun hs9 => ?_)
  have r_s0 : -2147483648 ≤ s0 ∧ s0 ≤ 2147483647 := hs9 (xI s0) (.head _)
  refine xr_istore_n (pc := 5) (i := 3) (L9 := [xR 45, xL x1, xZ, xI s0]) (hI := d_Match_want_5) (hi := rfl) (hn := Nat.le_of_ble_eq_true rfl) (hL9 := rfl) ?_
  refine xr_iload_n (pc := 6) (i := 3) (hI := d_Match_want_6) (hi := rfl) (hl := rfl) ?_
  refine xr_iconst (pc := 7) (hI := d_Match_want_7) (hr := by decide) ?_
  refine xr_icmp_ne (pc := 8) (tgt := 62) (hI := d_Match_want_8) (ht := by decide) (fun q9 => ?_) (fun q9 => ?_)
  · replace hyp := hyp.2 q9
    have q1_ := q9
    clear q9
    exact xr_drop (L9 := [xR 45, xZ, xZ, xI s0]) (xdrs (xdrz (xdrs (xdrs xdr0)))) hyp
  · replace hyp := hyp.1 q9
    have q1_ := q9
    clear q9
    refine xr_aload_n (pc := 11) (i := 0) (hI := d_Match_want_11) (hi := rfl) (hl := rfl) ?_
    refine xg_getf (pc := 12) (ci := 3) (k := 2) (N := 6) (v9 := 0) (v := (xpl h 45 2)) (T := xF3) (hI := d_Match_want_12) (hw := w_374) rfl xi3 (Or.inl rfl) (Nat.le_of_ble_eq_true rfl) (Nat.le_of_ble_eq_true rfl) rfl (ft_45 F) rfl (fun f2_ => ?_)
    replace f2_ : -2147483648 ≤ (xpl h 45 2) ∧ (xpl h 45 2) ≤ 2147483647 := f2_
    refine xr_aload_n (pc := 15) (i := 0) (hI := d_Match_want_15) (hi := rfl) (hl := rfl) ?_
    refine xg_getf (pc := 16) (ci := 3) (k := 0) (N := 6) (v9 := 2) (v := 46) (T := xF3) (hI := d_Match_want_16) (hw := w_372) rfl xi3 (Or.inl rfl) (Nat.le_of_ble_eq_true rfl) (Nat.le_of_ble_eq_true rfl) rfl (ft_45 F) (fp_45_0 F) (fun f3_ => ?_)
    clear f3_
    refine xg_alen (pc := 19) (t := 101) (v := 40) (hI := d_Match_want_19) (ft_46 F) (Nat.le_of_ble_eq_true rfl) (Nat.le_of_ble_eq_true rfl) rfl (fl_46 F) (fun f4_ f5_ => ?_)
    clear f4_ f5_
    refine xr_icmp_ge (pc := 20) (tgt := 62) (hI := d_Match_want_20) (ht := by decide) (fun q9 => ?_) (fun q9 => ?_)
    · replace hyp := hyp.1 q9
      have q6_ := q9
      clear q9
      exact xr_drop (L9 := [xR 45, xZ, xZ, xI s0]) (xdrs (xdrz (xdrs (xdrs xdr0)))) hyp
    · replace hyp := hyp.2 q9
      have q6_ := q9
      clear q9
      refine xr_aload_n (pc := 23) (i := 0) (hI := d_Match_want_23) (hi := rfl) (hl := rfl) ?_
      refine xg_getf (pc := 24) (ci := 3) (k := 2) (N := 6) (v9 := 0) (v := (xpl h 45 2)) (T := xF3) (hI := d_Match_want_24) (hw := w_374) rfl xi3 (Or.inl rfl) (Nat.le_of_ble_eq_true rfl) (Nat.le_of_ble_eq_true rfl) rfl (ft_45 F) rfl (fun f7_ => ?_)
      replace f7_ : -2147483648 ≤ (xpl h 45 2) ∧ (xpl h 45 2) ≤ 2147483647 := f7_
      refine xr_istore_n (pc := 27) (i := 3) (L9 := [xR 45, xL x1, xZ, xI (xpl h 45 2)]) (hI := d_Match_want_27) (hi := rfl) (hn := Nat.le_of_ble_eq_true rfl) (hL9 := rfl) ?_
      refine xr_aload_n (pc := 28) (i := 0) (hI := d_Match_want_28) (hi := rfl) (hl := rfl) ?_
      refine xg_getf (pc := 29) (ci := 3) (k := 0) (N := 6) (v9 := 2) (v := 46) (T := xF3) (hI := d_Match_want_29) (hw := w_372) rfl xi3 (Or.inl rfl) (Nat.le_of_ble_eq_true rfl) (Nat.le_of_ble_eq_true rfl) rfl (ft_45 F) (fp_45_0 F) (fun f8_ => ?_)
      clear f8_
      refine xr_iload_n (pc := 32) (i := 3) (hI := d_Match_want_32) (hi := rfl) (hl := rfl) ?_
      refine xr_lload_n (pc := 33) (i := 1) (hI := d_Match_want_33) (hi := rfl) (hl := rfl) ?_
      obtain ⟨c9_, hyp⟩ := hyp
      refine xr_lastore (pc := 34) (hI := d_Match_want_34) (ft_46 F) (by decide) c9_ (xlt_of (fl_46 F) (by clear hyp; omega)) ?_
      have F10_ : xFix (xst h 46 (xpl h 45 2) x1) := F.stA xfa_46
      refine xr_aload_n (pc := 35) (i := 0) (hI := d_Match_want_35) (hi := rfl) (hl := rfl) ?_
      refine xg_getf (pc := 36) (ci := 3) (k := 1) (N := 6) (v9 := 2) (v := 47) (T := xF3) (hI := d_Match_want_36) (hw := w_373) rfl xi3 (Or.inl rfl) (Nat.le_of_ble_eq_true rfl) (Nat.le_of_ble_eq_true rfl) rfl (ft_45 F10_) (fp_45_1 F10_) (fun f11_ => ?_)
      clear f11_
      refine xr_iload_n (pc := 39) (i := 3) (hI := d_Match_want_39) (hi := rfl) (hl := rfl) ?_
      refine xr_iconst (pc := 40) (hI := d_Match_want_40) (hr := by decide) ?_
      refine xr_iastore (pc := 41) (hI := d_Match_want_41) (ft_47 F10_) (by decide) (by clear hyp; omega) (xlt_of (fl_47 F10_) (by clear hyp; omega)) ?_
      have F12_ : xFix (xst (xst h 46 (xpl h 45 2) x1) 47 (xpl h 45 2) 0) := F10_.stA xfa_47
      refine xr_aload_n (pc := 42) (i := 0) (hI := d_Match_want_42) (hi := rfl) (hl := rfl) ?_
      refine xr_dup (pc := 43) (hI := d_Match_want_43) (hv := rfl) ?_
      refine xg_getf (pc := 44) (ci := 3) (k := 2) (N := 6) (v9 := 0) (v := (xpl h 45 2)) (T := xF3) (hI := d_Match_want_44) (hw := w_374) rfl xi3 (Or.inl rfl) (Nat.le_of_ble_eq_true rfl) (Nat.le_of_ble_eq_true rfl) rfl (ft_45 F12_) (Eq.trans (xpl_oa (by decide)) (xpl_oa (by decide))) (fun f13_ => ?_)
      replace f13_ : -2147483648 ≤ (xpl h 45 2) ∧ (xpl h 45 2) ≤ 2147483647 := f13_
      refine xr_iconst (pc := 47) (hI := d_Match_want_47) (hr := by decide) ?_
      refine xr_iadd (pc := 48) (hI := d_Match_want_48) (hr := ⟨by clear hyp; omega, by clear hyp; omega⟩) ?_
      refine xr_putf (pc := 49) (ci := 3) (k := 2) (N := 6) (v9 := 0) (T := xF3) (tF := xT3) (hI := d_Match_want_49) (hw := w_374) rfl xi3 xt3 xn3 (Or.inl rfl) (Nat.le_of_ble_eq_true rfl) (Nat.le_of_ble_eq_true rfl) rfl xfit_i rfl (ft_45 F12_) (by decide) (fun z => z) ?_
      have F14_ : xFix (xst (xst (xst h 46 (xpl h 45 2) x1) 47 (xpl h 45 2) 0) 45 2 ((xpl h 45 2) + 1)) := F12_.stL xfk_45_2
      refine xr_aload_n (pc := 52) (i := 0) (hI := d_Match_want_52) (hi := rfl) (hl := rfl) ?_
      refine xr_dup (pc := 53) (hI := d_Match_want_53) (hv := rfl) ?_
      refine xg_getf (pc := 54) (ci := 3) (k := 3) (N := 6) (v9 := 0) (v := (xpl h 45 3)) (T := xF3) (hI := d_Match_want_54) (hw := w_375) rfl xi3 (Or.inl rfl) (Nat.le_of_ble_eq_true rfl) (Nat.le_of_ble_eq_true rfl) rfl (ft_45 F14_) (Eq.trans (xpl_ok (by decide)) (Eq.trans (xpl_oa (by decide)) (xpl_oa (by decide)))) (fun f15_ => ?_)
      replace f15_ : -2147483648 ≤ (xpl h 45 3) ∧ (xpl h 45 3) ≤ 2147483647 := f15_
      refine xr_iconst (pc := 57) (hI := d_Match_want_57) (hr := by decide) ?_
      obtain ⟨c9, hyp⟩ := hyp
      refine xr_iadd (pc := 58) (hI := d_Match_want_58) (hr := c9) ?_
      refine xr_putf (pc := 59) (ci := 3) (k := 3) (N := 6) (v9 := 0) (T := xF3) (tF := xT3) (hI := d_Match_want_59) (hw := w_375) rfl xi3 xt3 xn3 (Or.inl rfl) (Nat.le_of_ble_eq_true rfl) (Nat.le_of_ble_eq_true rfl) rfl xfit_i rfl (ft_45 F14_) (by decide) (fun z => z) ?_
      have F16_ : xFix (xst (xst (xst (xst h 46 (xpl h 45 2) x1) 47 (xpl h 45 2) 0) 45 2 ((xpl h 45 2) + 1)) 45 3 ((xpl h 45 3) + 1)) := F14_.stL xfk_45_3
      exact xr_drop (L9 := [xR 45, xZ, xZ, xI (xpl h 45 2)]) (xdrs (xdrz (xdrs (xdrs xdr0)))) (hyp F16_)
theorem d_Match_want_62 : decode prog_4_method_11_code 62 = .ok (.iload_n 3, 1) := by decide +kernel
theorem d_Match_want_63 : decode prog_4_method_11_code 63 = .ok (.iconst (-1), 1) := by decide +kernel
theorem d_Match_want_64 : decode prog_4_method_11_code 64 = .ok (.if_icmp .eq 13, 3) := by decide +kernel
theorem d_Match_want_77 : decode prog_4_method_11_code 77 = .ok (.return_, 1) := by decide +kernel
theorem d_Match_want_67 : decode prog_4_method_11_code 67 = .ok (.aload_n 0, 1) := by decide +kernel
theorem d_Match_want_68 : decode prog_4_method_11_code 68 = .ok (.getfield 15, 3) := by decide +kernel
theorem d_Match_want_71 : decode prog_4_method_11_code 71 = .ok (.iload_n 3, 1) := by decide +kernel
theorem d_Match_want_72 : decode prog_4_method_11_code 72 = .ok (.dup2, 1) := by decide +kernel
theorem d_Match_want_73 : decode prog_4_method_11_code 73 = .ok (.iaload, 1) := by decide +kernel
theorem d_Match_want_74 : decode prog_4_method_11_code 74 = .ok (.iconst 1, 1) := by decide +kernel
theorem d_Match_want_75 : decode prog_4_method_11_code 75 = .ok (.iadd, 1) := by decide +kernel
theorem d_Match_want_76 : decode prog_4_method_11_code 76 = .ok (.iastore, 1) := by decide +kernel
theorem v_Match_want_62 {G : XG} {d : Nat} {h : XH} {Q : XV → XH → Prop} {X : Nat → XH → Prop} {x3 : Int} (F : xFix h) (hyp : ((x3 = (-1) → (Q xN h)) ∧ (¬ x3 = (-1) → 0 ≤ x3 ∧ x3 < 40 ∧ xiR ((xpl h 47 x3) + 1) ∧ (xFix (xst h 47 x3 ((xpl h 47 x3) + 1)) → Q xN (xst h 47 x3 ((xpl h 47 x3) + 1)))))) : xwp G m_Match_want (d + 2) 62 [xR 45, xZ, xZ, xI x3] [] h Q X := by
  have hnx9 : (93 : Int) ≤ xnx h := F.2.2
  refine xr_okL (fun hl9 => ?_)
  have r_x3 : -2147483648 ≤ x3 ∧ x3 ≤ 2147483647 := hl9 (xI x3) (.tail _ (.tail _ (.tail _ (.head _)))) (Nat.le_of_ble_eq_true rfl)
  refine xr_iload_n (pc := 62) (i := 3) (hI := d_Match_want_62) (hi := rfl) (hl := rfl) ?_
  refine xr_iconst (pc := 63) (hI := d_Match_want_63) (hr := by decide) ?_
  refine xr_icmp_eq (pc := 64) (tgt := 77) (hI := d_Match_want_64) (ht := by decide) (fun q9 => ?_) (fun q9 => ?_)
  · replace hyp := hyp.1 q9
    have q1_ := q9
    clear q9
    refine xr_return (S := []) (pc := 77) (hI := d_Match_want_77) (hr := rfl) ?_
    exact hyp
  · replace hyp := hyp.2 q9
    have q1_ := q9
    clear q9
    refine xr_aload_n (pc := 67) (i := 0) (hI := d_Match_want_67) (hi := rfl) (hl := rfl) ?_
    refine xg_getf (pc := 68) (ci := 3) (k := 1) (N := 6) (v9 := 2) (v := 47) (T := xF3) (hI := d_Match_want_68) (hw := w_373) rfl xi3 (Or.inl rfl) (Nat.le_of_ble_eq_true rfl) (Nat.le_of_ble_eq_true rfl) rfl (ft_45 F) (fp_45_1 F) (fun f2_ => ?_)
    clear f2_
    refine xr_iload_n (pc := 71) (i := 3) (hI := d_Match_want_71) (hi := rfl) (hl := rfl) ?_
    refine xr_dup2 (pc := 72) (hI := d_Match_want_72) (hv := rfl) (hw := rfl) ?_
    obtain ⟨c3_, hyp⟩ := hyp
    obtain ⟨c4_, hyp⟩ := hyp
    refine xg_iaload (pc := 73) (v := (xpl h 47 x3)) (hI := d_Match_want_73) (ft_47 F) c3_ (xlt_of (fl_47 F) c4_) rfl (fun f5_ => ?_)
    replace f5_ : -2147483648 ≤ (xpl h 47 x3) ∧ (xpl h 47 x3) ≤ 2147483647 := f5_
    refine xr_iconst (pc := 74) (hI := d_Match_want_74) (hr := by decide) ?_
    obtain ⟨c9, hyp⟩ := hyp
    refine xr_iadd (pc := 75) (hI := d_Match_want_75) (hr := c9) ?_
    refine xr_iastore (pc := 76) (hI := d_Match_want_76) (ft_47 F) (by decide) (by clear hyp; omega) (xlt_of (fl_47 F) (by clear hyp; omega)) ?_
    have F6_ : xFix (xst h 47 x3 ((xpl h 47 x3) + 1)) := F.stA xfa_47
    refine xr_return (S := []) (pc := 77) (hI := d_Match_want_77) (hr := rfl) ?_
    exact hyp F6_
abbrev m_Match_wantAll : XM := (⟨"BeaconIndex$Match", "wantAll", "([J)V"⟩, prog_4_method_10_code, 3, none, [])
theorem d_Match_wantAll_0 : decode prog_4_method_10_code 0 = .ok (.aload_n 0, 1) := by decide +kernel
theorem d_Match_wantAll_1 : decode prog_4_method_10_code 1 = .ok (.iconst 0, 1) := by decide +kernel
theorem d_Match_wantAll_2 : decode prog_4_method_10_code 2 = .ok (.putfield 19, 3) := by decide +kernel
theorem d_Match_wantAll_5 : decode prog_4_method_10_code 5 = .ok (.aload_n 0, 1) := by decide +kernel
theorem d_Match_wantAll_6 : decode prog_4_method_10_code 6 = .ok (.iconst 0, 1) := by decide +kernel
theorem d_Match_wantAll_7 : decode prog_4_method_10_code 7 = .ok (.putfield 23, 3) := by decide +kernel
theorem d_Match_wantAll_10 : decode prog_4_method_10_code 10 = .ok (.iconst 0, 1) := by decide +kernel
theorem d_Match_wantAll_11 : decode prog_4_method_10_code 11 = .ok (.istore_n 2, 1) := by decide +kernel
theorem v_Match_wantAll_0 {G : XG} {d : Nat} {h : XH} {Q : XV → XH → Prop} {X : Nat → XH → Prop} {x1 : Int} (F : xFix h) (hyp : (xFix (xst (xst h 45 2 0) 45 3 0) → xwp G m_Match_wantAll (d + 3) 12 [xR 45, xR x1, xI 0] [] (xst (xst h 45 2 0) 45 3 0) Q X)) : xwp G m_Match_wantAll (d + 3) 0 [xR 45, xR x1, xZ] [] h Q X := by
  have hnx9 : (93 : Int) ≤ xnx h := F.2.2
  refine xr_aload_n (pc := 0) (i := 0) (hI := d_Match_wantAll_0) (hi := rfl) (hl := rfl) ?_
  refine xr_iconst (pc := 1) (hI := d_Match_wantAll_1) (hr := by decide) ?_
  refine xr_putf (pc := 2) (ci := 3) (k := 2) (N := 6) (v9 := 0) (T := xF3) (tF := xT3) (hI := d_Match_wantAll_2) (hw := w_374) rfl xi3 xt3 xn3 (Or.inl rfl) (Nat.le_of_ble_eq_true rfl) (Nat.le_of_ble_eq_true rfl) rfl xfit_i rfl (ft_45 F) (by decide) (fun z => z) ?_
  have F1_ : xFix (xst h 45 2 0) := F.stL xfk_45_2
  refine xr_aload_n (pc := 5) (i := 0) (hI := d_Match_wantAll_5) (hi := rfl) (hl := rfl) ?_
  refine xr_iconst (pc := 6) (hI := d_Match_wantAll_6) (hr := by decide) ?_
  refine xr_putf (pc := 7) (ci := 3) (k := 3) (N := 6) (v9 := 0) (T := xF3) (tF := xT3) (hI := d_Match_wantAll_7) (hw := w_375) rfl xi3 xt3 xn3 (Or.inl rfl) (Nat.le_of_ble_eq_true rfl) (Nat.le_of_ble_eq_true rfl) rfl xfit_i rfl (ft_45 F1_) (by decide) (fun z => z) ?_
  have F2_ : xFix (xst (xst h 45 2 0) 45 3 0) := F1_.stL xfk_45_3
  refine xr_iconst (pc := 10) (hI := d_Match_wantAll_10) (hr := by decide) ?_
  refine xr_istore_n (pc := 11) (i := 2) (L9 := [xR 45, xR x1, xI 0]) (hI := d_Match_wantAll_11) (hi := rfl) (hn := Nat.le_of_ble_eq_true rfl) (hL9 := rfl) ?_
  exact (hyp F2_)
theorem d_Match_wantAll_12 : decode prog_4_method_10_code 12 = .ok (.iload_n 2, 1) := by decide +kernel
theorem d_Match_wantAll_13 : decode prog_4_method_10_code 13 = .ok (.aload_n 1, 1) := by decide +kernel
theorem d_Match_wantAll_14 : decode prog_4_method_10_code 14 = .ok (.arraylength, 1) := by decide +kernel
theorem d_Match_wantAll_15 : decode prog_4_method_10_code 15 = .ok (.if_icmp .ge 24, 3) := by decide +kernel
theorem d_Match_wantAll_39 : decode prog_4_method_10_code 39 = .ok (.return_, 1) := by decide +kernel
theorem d_Match_wantAll_18 : decode prog_4_method_10_code 18 = .ok (.aload_n 1, 1) := by decide +kernel
theorem d_Match_wantAll_19 : decode prog_4_method_10_code 19 = .ok (.iload_n 2, 1) := by decide +kernel
theorem d_Match_wantAll_20 : decode prog_4_method_10_code 20 = .ok (.laload, 1) := by decide +kernel
theorem d_Match_wantAll_21 : decode prog_4_method_10_code 21 = .ok (.lconst 0, 1) := by decide +kernel
theorem d_Match_wantAll_22 : decode prog_4_method_10_code 22 = .ok (.lcmp, 1) := by decide +kernel
theorem d_Match_wantAll_23 : decode prog_4_method_10_code 23 = .ok (.ifCond .eq 10, 3) := by decide +kernel
theorem d_Match_wantAll_26 : decode prog_4_method_10_code 26 = .ok (.aload_n 0, 1) := by decide +kernel
theorem d_Match_wantAll_27 : decode prog_4_method_10_code 27 = .ok (.aload_n 1, 1) := by decide +kernel
theorem d_Match_wantAll_28 : decode prog_4_method_10_code 28 = .ok (.iload_n 2, 1) := by decide +kernel
theorem d_Match_wantAll_29 : decode prog_4_method_10_code 29 = .ok (.laload, 1) := by decide +kernel
theorem d_Match_wantAll_30 : decode prog_4_method_10_code 30 = .ok (.invokevirtual 97, 3) := by decide +kernel
theorem k_Match_want : xCal m_Match_want 1 := ⟨List.mem_append_right _ (List.mem_of_getElem? (i := 671) (by decide +kernel)), w_14, Nat.le_of_ble_eq_true rfl, ⟨by decide +kernel, by decide +kernel⟩, by decide +kernel, by decide +kernel, rfl⟩
theorem w_668 : Cond.methodLink "BeaconIndex$Match" 97 ⟨"BeaconIndex$Match", "want", "(J)V"⟩ ∈ lw_tbl := List.mem_append_right _ (List.mem_of_getElem? (i := 668) (by decide +kernel))
theorem w_670 : Cond.instanceMethod ⟨"BeaconIndex$Match", "want", "(J)V"⟩ ∈ lw_tbl := List.mem_append_right _ (List.mem_of_getElem? (i := 670) (by decide +kernel))
theorem sel_Match_want : Cond.selects "BeaconIndex$Match" ⟨"BeaconIndex$Match", "want", "(J)V"⟩ ⟨"BeaconIndex$Match", "want", "(J)V"⟩ ∈ lw_tbl := List.mem_append_left _ (by decide +kernel)
theorem v_Match_wantAll_12 {G : XG} {d : Nat} {h : XH} {Q : XV → XH → Prop} {X : Nat → XH → Prop} {x1 x2 : Int} (F : xFix h) (hyp : xtg h x1 = 101 ∧ (((xln h x1) ≤ x2 → (Q xN h)) ∧ (¬ (xln h x1) ≤ x2 → 0 ≤ x2 ∧ (((xpl h x1 x2) = 0 → (xwp G m_Match_wantAll (d + 3) 33 [xR 45, xR x1, xI x2] [] h Q X)) ∧ (¬ (xpl h x1 x2) = 0 → (xwp G m_Match_want (d + 2) 0 [xR 45, xL (xpl h x1 x2), xZ, xZ] [] h (fun v9 h9 => xwp G m_Match_wantAll (d + 3) 33 [xR 45, xR x1, xI x2] (xpush v9 []) h9 Q X) X)))))) : xwp G m_Match_wantAll (d + 3) 12 [xR 45, xR x1, xI x2] [] h Q X := by
  have hnx9 : (93 : Int) ≤ xnx h := F.2.2
  refine xr_okL (fun hl9 => ?_)
  have r_x2 : -2147483648 ≤ x2 ∧ x2 ≤ 2147483647 := hl9 (xI x2) (.tail _ (.tail _ (.head _))) (Nat.le_of_ble_eq_true rfl)
  refine xr_iload_n (pc := 12) (i := 2) (hI := d_Match_wantAll_12) (hi := rfl) (hl := rfl) ?_
  refine xr_aload_n (pc := 13) (i := 1) (hI := d_Match_wantAll_13) (hi := rfl) (hl := rfl) ?_
  obtain ⟨c9, hyp⟩ := hyp
  have t1_ := c9
  clear c9
  refine xg_alen (pc := 14) (t := 101) (v := (xln h x1)) (hI := d_Match_wantAll_14) t1_ (Nat.le_of_ble_eq_true rfl) (Nat.le_of_ble_eq_true rfl) rfl rfl (fun f2_ f3_ => ?_)
  refine xr_icmp_ge (pc := 15) (tgt := 39) (hI := d_Match_wantAll_15) (ht := by decide) (fun q9 => ?_) (fun q9 => ?_)
  · replace hyp := hyp.1 q9
    have q4_ := q9
    clear q9
    refine xr_return (S := []) (pc := 39) (hI := d_Match_wantAll_39) (hr := rfl) ?_
    exact hyp
  · replace hyp := hyp.2 q9
    have q4_ := q9
    clear q9
    refine xr_aload_n (pc := 18) (i := 1) (hI := d_Match_wantAll_18) (hi := rfl) (hl := rfl) ?_
    refine xr_iload_n (pc := 19) (i := 2) (hI := d_Match_wantAll_19) (hi := rfl) (hl := rfl) ?_
    obtain ⟨c5_, hyp⟩ := hyp
    refine xg_laload (pc := 20) (v := (xpl h x1 x2)) (hI := d_Match_wantAll_20) t1_ c5_ (xlt_of rfl (by clear hyp; omega)) rfl (fun f6_ => ?_)
    replace f6_ : -9223372036854775808 ≤ (xpl h x1 x2) ∧ (xpl h x1 x2) ≤ 9223372036854775807 := f6_
    refine xr_lconst (pc := 21) (z := 0) (hI := d_Match_wantAll_21) (hr := by decide) (hv := by decide) ?_
    refine xr_lcmp (pc := 22) (hI := d_Match_wantAll_22) ?_
    refine xg_lif_eq (pc := 23) (tgt := 33) (hI := d_Match_wantAll_23) (ht := by decide) (fun q9 => ?_) (fun q9 => ?_)
    · replace hyp := hyp.1 q9
      have q7_ := q9
      clear q9
      exact hyp
    · replace hyp := hyp.2 q9
      have q7_ := q9
      clear q9
      refine xr_aload_n (pc := 26) (i := 0) (hI := d_Match_wantAll_26) (hi := rfl) (hl := rfl) ?_
      refine xr_aload_n (pc := 27) (i := 1) (hI := d_Match_wantAll_27) (hi := rfl) (hl := rfl) ?_
      refine xr_iload_n (pc := 28) (i := 2) (hI := d_Match_wantAll_28) (hi := rfl) (hl := rfl) ?_
      refine xg_laload (pc := 29) (v := (xpl h x1 x2)) (hI := d_Match_wantAll_29) t1_ (by clear hyp; omega) (xlt_of rfl (by clear hyp; omega)) rfl (fun f8_ => ?_)
      replace f8_ : -9223372036854775808 ≤ (xpl h x1 x2) ∧ (xpl h x1 x2) ≤ 9223372036854775807 := f8_
      exact xq_callV (pc := 30) (index := 97) (K := m_Match_want) (As := [xL (xpl h x1 x2)]) (S := []) (L0 := [xR 45, xL (xpl h x1 x2), xZ, xZ]) (hI := d_Match_wantAll_30) (hK := k_Match_want) (hlk := w_668) (hnoM := rfl) (hS8 := Nat.le_of_ble_eq_true rfl) (ci := 3) (N := 6) (C := "BeaconIndex$Match") (T := xF3) (hc := rfl) (hci := Nat.le_of_ble_eq_true rfl) (htb := (ft_45 F)) (hinst := w_670) (hsel := sel_Match_want) (hlen := Nat.le_of_ble_eq_true rfl) (hst := rfl) (hL0 := rfl)  hyp
theorem d_Match_wantAll_33 : decode prog_4_method_10_code 33 = .ok (.iinc 2 1, 3) := by decide +kernel
theorem d_Match_wantAll_36 : decode prog_4_method_10_code 36 = .ok (.goto (-24), 3) := by decide +kernel
theorem v_Match_wantAll_33 {G : XG} {d : Nat} {h : XH} {Q : XV → XH → Prop} {X : Nat → XH → Prop} {x1 x2 : Int} (F : xFix h) (hyp : xiR (x2 + 1) ∧ (xwp G m_Match_wantAll (d + 3) 12 [xR 45, xR x1, xI (x2 + 1)] [] h Q X)) : xwp G m_Match_wantAll (d + 3) 33 [xR 45, xR x1, xI x2] [] h Q X := by
  have hnx9 : (93 : Int) ≤ xnx h := F.2.2
  refine xr_okL (fun hl9 => ?_)
  have r_x2 : -2147483648 ≤ x2 ∧ x2 ≤ 2147483647 := hl9 (xI x2) (.tail _ (.tail _ (.head _))) (Nat.le_of_ble_eq_true rfl)
  obtain ⟨c9, hyp⟩ := hyp
  refine xr_iinc (pc := 33) (i := 2) (L9 := [xR 45, xR x1, xI (x2 + 1)]) (hI := d_Match_wantAll_33) (hl := rfl) (hn := Nat.le_of_ble_eq_true rfl) (hr := c9) (hL9 := rfl) ?_
  refine xr_goto (pc := 36) (tgt := 12) (hI := d_Match_wantAll_36) (ht := by decide) ?_
  exact hyp
abbrev m_Match_count : XM := (⟨"BeaconIndex$Match", "count", "(JI)V"⟩, prog_4_method_13_code, 7, none, [])
theorem d_Match_count_0 : decode prog_4_method_13_code 0 = .ok (.aload_n 0, 1) := by decide +kernel
theorem d_Match_count_1 : decode prog_4_method_13_code 1 = .ok (.lload_n 1, 1) := by decide +kernel
theorem d_Match_count_2 : decode prog_4_method_13_code 2 = .ok (.invokevirtual 101, 3) := by decide +kernel
theorem v_Match_count_0 {G : XG} {d : Nat} {h : XH} {Q : XV → XH → Prop} {X : Nat → XH → Prop} {x1 x3 : Int} (F : xFix h) (hyp : (xwp G m_Match_wantedPlace (d + 1) 0 [xR 45, xL x1, xZ, xZ] [] h (fun v9 h9 => xwp G m_Match_count (d + 2) 5 [xR 45, xZ, xZ, xI x3, xZ, xZ, xZ] (xpush v9 []) h9 Q X) X)) : xwp G m_Match_count (d + 2) 0 [xR 45, xL x1, xZ, xI x3, xZ, xZ, xZ] [] h Q X := by
  have hnx9 : (93 : Int) ≤ xnx h := F.2.2
  refine xr_okL (fun hl9 => ?_)
  have r_x1 : -9223372036854775808 ≤ x1 ∧ x1 ≤ 9223372036854775807 := hl9 (xL x1) (.tail _ (.head _)) (Nat.le_of_ble_eq_true rfl)
  have r_x3 : -2147483648 ≤ x3 ∧ x3 ≤ 2147483647 := hl9 (xI x3) (.tail _ (.tail _ (.tail _ (.head _)))) (Nat.le_of_ble_eq_true rfl)
  refine xr_aload_n (pc := 0) (i := 0) (hI := d_Match_count_0) (hi := rfl) (hl := rfl) ?_
  refine xr_lload_n (pc := 1) (i := 1) (hI := d_Match_count_1) (hi := rfl) (hl := rfl) ?_
  exact xq_callV (pc := 2) (index := 101) (K := m_Match_wantedPlace) (As := [xL x1]) (S := []) (L0 := [xR 45, xL x1, xZ, xZ]) (hI := d_Match_count_2) (hK := k_Match_wantedPlace) (hlk := w_672) (hnoM := rfl) (hS8 := Nat.le_of_ble_eq_true rfl) (ci := 3) (N := 6) (C := "BeaconIndex$Match") (T := xF3) (hc := rfl) (hci := Nat.le_of_ble_eq_true rfl) (htb := (ft_45 F)) (hinst := w_674) (hsel := sel_Match_wantedPlace) (hlen := Nat.le_of_ble_eq_true rfl) (hst := rfl) (hL0 := rfl)  (xwp_mono hyp (fun v9 h9 q9 => xr_drop (L9 := [xR 45, xZ, xZ, xI x3, xZ, xZ, xZ]) (xdrs (xdrz (xdrs (xdrs (xdrs (xdrs (xdrs xdr0))))))) q9) (fun _ _ z9 => z9))
theorem d_Match_count_5 : decode prog_4_method_13_code 5 = .ok (.istore 4, 2) := by decide +kernel
theorem d_Match_count_7 : decode prog_4_method_13_code 7 = .ok (.iload 4, 2) := by decide +kernel
theorem d_Match_count_9 : decode prog_4_method_13_code 9 = .ok (.iconst (-1), 1) := by decide +kernel
theorem d_Match_count_10 : decode prog_4_method_13_code 10 = .ok (.if_icmp .ne 4, 3) := by decide +kernel
theorem d_Match_count_14 : decode prog_4_method_13_code 14 = .ok (.aload_n 0, 1) := by decide +kernel
theorem d_Match_count_15 : decode prog_4_method_13_code 15 = .ok (.getfield 15, 3) := by decide +kernel
theorem d_Match_count_18 : decode prog_4_method_13_code 18 = .ok (.iload 4, 2) := by decide +kernel
theorem d_Match_count_20 : decode prog_4_method_13_code 20 = .ok (.iaload, 1) := by decide +kernel
theorem d_Match_count_21 : decode prog_4_method_13_code 21 = .ok (.ifCond .gt 7, 3) := by decide +kernel
theorem d_Match_count_28 : decode prog_4_method_13_code 28 = .ok (.iconst 0, 1) := by decide +kernel
theorem d_Match_count_24 : decode prog_4_method_13_code 24 = .ok (.iconst 1, 1) := by decide +kernel
theorem d_Match_count_25 : decode prog_4_method_13_code 25 = .ok (.goto 4, 3) := by decide +kernel
theorem d_Match_count_13 : decode prog_4_method_13_code 13 = .ok (.return_, 1) := by decide +kernel
theorem v_Match_count_5 {G : XG} {d : Nat} {h : XH} {Q : XV → XH → Prop} {X : Nat → XH → Prop} {x3 s0 : Int} (F : xFix h) (hyp : ((s0 = (-1) → (Q xN h)) ∧ (¬ s0 = (-1) → 0 ≤ s0 ∧ s0 < 40 ∧ (((0 : Int) < (xpl h 47 s0) → (xwp G m_Match_count (d + 2) 29 [xR 45, xZ, xZ, xI x3, xI s0, xZ, xZ] [xI 0] h Q X)) ∧ (¬ (0 : Int) < (xpl h 47 s0) → (xwp G m_Match_count (d + 2) 29 [xR 45, xZ, xZ, xI x3, xI s0, xZ, xZ] [xI 1] h Q X)))))) : xwp G m_Match_count (d + 2) 5 [xR 45, xZ, xZ, xI x3, xZ, xZ, xZ] [xI s0] h Q X := by
  have hnx9 : (93 : Int) ≤ xnx h := F.2.2
  refine xr_okL (fun hl9 => ?_)
  have r_x3 : -2147483648 ≤ x3 ∧ x3 ≤ 2147483647 := hl9 (xI x3) (.tail _ (.tail _ (.tail _ (.head _)))) (Nat.le_of_ble_eq_true rfl)
  refine xr_okS (fun hs9 => ?_)
  have r_s0 : -2147483648 ≤ s0 ∧ s0 ≤ 2147483647 := hs9 (xI s0) (.head _)
  refine xr_istore (pc := 5) (i := 4) (L9 := [xR 45, xZ, xZ, xI x3, xI s0, xZ, xZ]) (hI := d_Match_count_5) (hn := Nat.le_of_ble_eq_true rfl) (hL9 := rfl) ?_
  refine xr_iload (pc := 7) (i := 4) (hI := d_Match_count_7) (hl := rfl) ?_
  refine xr_iconst (pc := 9) (hI := d_Match_count_9) (hr := by decide) ?_
  refine xr_icmp_ne (pc := 10) (tgt := 14) (hI := d_Match_count_10) (ht := by decide) (fun q9 => ?_) (fun q9 => ?_)
  · replace hyp := hyp.2 q9
    have q1_ := q9
    clear q9
    refine xr_aload_n (pc := 14) (i := 0) (hI := d_Match_count_14) (hi := rfl) (hl := rfl) ?_
    refine xg_getf (pc := 15) (ci := 3) (k := 1) (N := 6) (v9 := 2) (v := 47) (T := xF3) (hI := d_Match_count_15) (hw := w_373) rfl xi3 (Or.inl rfl) (Nat.le_of_ble_eq_true rfl) (Nat.le_of_ble_eq_true rfl) rfl (ft_45 F) (fp_45_1 F) (fun f2_ => ?_)
    clear f2_
    refine xr_iload (pc := 18) (i := 4) (hI := d_Match_count_18) (hl := rfl) ?_
    obtain ⟨c3_, hyp⟩ := hyp
    obtain ⟨c4_, hyp⟩ := hyp
    refine xg_iaload (pc := 20) (v := (xpl h 47 s0)) (hI := d_Match_count_20) (ft_47 F) c3_ (xlt_of (fl_47 F) c4_) rfl (fun f5_ => ?_)
    replace f5_ : -2147483648 ≤ (xpl h 47 s0) ∧ (xpl h 47 s0) ≤ 2147483647 := f5_
    refine xr_if_gt (pc := 21) (tgt := 28) (hI := d_Match_count_21) (ht := by decide) (fun q9 => ?_) (fun q9 => ?_)
    · replace hyp := hyp.1 q9
      have q6_ := q9
      clear q9
      refine xr_iconst (pc := 28) (hI := d_Match_count_28) (hr := by decide) ?_
      exact hyp
    · replace hyp := hyp.2 q9
      have q6_ := q9
      clear q9
      refine xr_iconst (pc := 24) (hI := d_Match_count_24) (hr := by decide) ?_
      refine xr_goto (pc := 25) (tgt := 29) (hI := d_Match_count_25) (ht := by decide) ?_
      exact hyp
  · replace hyp := hyp.1 q9
    have q1_ := q9
    clear q9
    refine xr_return (S := []) (pc := 13) (hI := d_Match_count_13) (hr := rfl) ?_
    exact hyp
theorem d_Match_count_29 : decode prog_4_method_13_code 29 = .ok (.istore 5, 2) := by decide +kernel
theorem d_Match_count_31 : decode prog_4_method_13_code 31 = .ok (.aload_n 0, 1) := by decide +kernel
theorem d_Match_count_32 : decode prog_4_method_13_code 32 = .ok (.getfield 15, 3) := by decide +kernel
theorem d_Match_count_35 : decode prog_4_method_13_code 35 = .ok (.iload 4, 2) := by decide +kernel
theorem d_Match_count_37 : decode prog_4_method_13_code 37 = .ok (.dup2, 1) := by decide +kernel
theorem d_Match_count_38 : decode prog_4_method_13_code 38 = .ok (.iaload, 1) := by decide +kernel
theorem d_Match_count_39 : decode prog_4_method_13_code 39 = .ok (.iload_n 3, 1) := by decide +kernel
theorem d_Match_count_40 : decode prog_4_method_13_code 40 = .ok (.iadd, 1) := by decide +kernel
theorem d_Match_count_41 : decode prog_4_method_13_code 41 = .ok (.iastore, 1) := by decide +kernel
theorem d_Match_count_42 : decode prog_4_method_13_code 42 = .ok (.aload_n 0, 1) := by decide +kernel
theorem d_Match_count_43 : decode prog_4_method_13_code 43 = .ok (.getfield 15, 3) := by decide +kernel
theorem d_Match_count_46 : decode prog_4_method_13_code 46 = .ok (.iload 4, 2) := by decide +kernel
theorem d_Match_count_48 : decode prog_4_method_13_code 48 = .ok (.iaload, 1) := by decide +kernel
theorem d_Match_count_49 : decode prog_4_method_13_code 49 = .ok (.ifCond .gt 7, 3) := by decide +kernel
theorem d_Match_count_56 : decode prog_4_method_13_code 56 = .ok (.iconst 0, 1) := by decide +kernel
theorem d_Match_count_52 : decode prog_4_method_13_code 52 = .ok (.iconst 1, 1) := by decide +kernel
theorem d_Match_count_53 : decode prog_4_method_13_code 53 = .ok (.goto 4, 3) := by decide +kernel
theorem v_Match_count_29 {G : XG} {d : Nat} {h : XH} {Q : XV → XH → Prop} {X : Nat → XH → Prop} {x3 x4 s0 : Int} (F : xFix h) (hyp : 0 ≤ x4 ∧ x4 < 40 ∧ xiR ((xpl h 47 x4) + x3) ∧ (((0 : Int) < ((xpl h 47 x4) + x3) → (xFix (xst h 47 x4 ((xpl h 47 x4) + x3)) → xwp G m_Match_count (d + 2) 57 [xR 45, xZ, xZ, xZ, xZ, xI s0, xZ] [xI 0] (xst h 47 x4 ((xpl h 47 x4) + x3)) Q X)) ∧ (¬ (0 : Int) < ((xpl h 47 x4) + x3) → (xFix (xst h 47 x4 ((xpl h 47 x4) + x3)) → xwp G m_Match_count (d + 2) 57 [xR 45, xZ, xZ, xZ, xZ, xI s0, xZ] [xI 1] (xst h 47 x4 ((xpl h 47 x4) + x3)) Q X)))) : xwp G m_Match_count (d + 2) 29 [xR 45, xZ, xZ, xI x3, xI x4, xZ, xZ] [xI s0] h Q X := by
  have hnx9 : (93 : Int) ≤ xnx h := F.2.2
  refine xr_okL (fun hl9 => ?_)
  have r_x3 : -2147483648 ≤ x3 ∧ x3 ≤ 2147483647 := hl9 (xI x3) (.tail _ (.tail _ (.tail _ (.head _)))) (Nat.le_of_ble_eq_true rfl)
  have r_x4 : -2147483648 ≤ x4 ∧ x4 ≤ 2147483647 := hl9 (xI x4) (.tail _ (.tail _ (.tail _ (.tail _ (.head _))))) (Nat.le_of_ble_eq_true rfl)
  refine xr_okS (fun hs9 => ?_)
  have r_s0 : -2147483648 ≤ s0 ∧ s0 ≤ 2147483647 := hs9 (xI s0) (.head _)
  refine xr_istore (pc := 29) (i := 5) (L9 := [xR 45, xZ, xZ, xI x3, xI x4, xI s0, xZ]) (hI := d_Match_count_29) (hn := Nat.le_of_ble_eq_true rfl) (hL9 := rfl) ?_
  refine xr_aload_n (pc := 31) (i := 0) (hI := d_Match_count_31) (hi := rfl) (hl := rfl) ?_
  refine xg_getf (pc := 32) (ci := 3) (k := 1) (N := 6) (v9 := 2) (v := 47) (T := xF3) (hI := d_Match_count_32) (hw := w_373) rfl xi3 (Or.inl rfl) (Nat.le_of_ble_eq_true rfl) (Nat.le_of_ble_eq_true rfl) rfl (ft_45 F) (fp_45_1 F) (fun f1_ => ?_)
  clear f1_
  refine xr_iload (pc := 35) (i := 4) (hI := d_Match_count_35) (hl := rfl) ?_
  refine xr_dup2 (pc := 37) (hI := d_Match_count_37) (hv := rfl) (hw := rfl) ?_
  obtain ⟨c2_, hyp⟩ := hyp
  obtain ⟨c3_, hyp⟩ := hyp
  refine xg_iaload (pc := 38) (v := (xpl h 47 x4)) (hI := d_Match_count_38) (ft_47 F) c2_ (xlt_of (fl_47 F) c3_) rfl (fun f4_ => ?_)
  replace f4_ : -2147483648 ≤ (xpl h 47 x4) ∧ (xpl h 47 x4) ≤ 2147483647 := f4_
  refine xr_iload_n (pc := 39) (i := 3) (hI := d_Match_count_39) (hi := rfl) (hl := rfl) ?_
  obtain ⟨c9, hyp⟩ := hyp
  refine xr_iadd (pc := 40) (hI := d_Match_count_40) (hr := c9) ?_
  refine xr_iastore (pc := 41) (hI := d_Match_count_41) (ft_47 F) (by decide) (by clear hyp; omega) (xlt_of (fl_47 F) (by clear hyp; omega)) ?_
  have F5_ : xFix (xst h 47 x4 ((xpl h 47 x4) + x3)) := F.stA xfa_47
  refine xr_aload_n (pc := 42) (i := 0) (hI := d_Match_count_42) (hi := rfl) (hl := rfl) ?_
  refine xg_getf (pc := 43) (ci := 3) (k := 1) (N := 6) (v9 := 2) (v := 47) (T := xF3) (hI := d_Match_count_43) (hw := w_373) rfl xi3 (Or.inl rfl) (Nat.le_of_ble_eq_true rfl) (Nat.le_of_ble_eq_true rfl) rfl (ft_45 F5_) (fp_45_1 F5_) (fun f6_ => ?_)
  clear f6_
  refine xr_iload (pc := 46) (i := 4) (hI := d_Match_count_46) (hl := rfl) ?_
  refine xg_iaload (pc := 48) (v := ((xpl h 47 x4) + x3)) (hI := d_Match_count_48) (ft_47 F5_) (by clear hyp; omega) (xlt_of (fl_47 F5_) (by clear hyp; omega)) (xpl_hit _ _ _ _) (fun f7_ => ?_)
  replace f7_ : -2147483648 ≤ ((xpl h 47 x4) + x3) ∧ ((xpl h 47 x4) + x3) ≤ 2147483647 := f7_
  refine xr_if_gt (pc := 49) (tgt := 56) (hI := d_Match_count_49) (ht := by decide) (fun q9 => ?_) (fun q9 => ?_)
  · replace hyp := hyp.1 q9
    have q8_ := q9
    clear q9
    refine xr_iconst (pc := 56) (hI := d_Match_count_56) (hr := by decide) ?_
    exact xr_drop (L9 := [xR 45, xZ, xZ, xZ, xZ, xI s0, xZ]) (xdrs (xdrs (xdrs (xdrz (xdrz (xdrs (xdrs xdr0))))))) (hyp F5_)
  · replace hyp := hyp.2 q9
    have q8_ := q9
    clear q9
    refine xr_iconst (pc := 52) (hI := d_Match_count_52) (hr := by decide) ?_
    refine xr_goto (pc := 53) (tgt := 57) (hI := d_Match_count_53) (ht := by decide) ?_
    exact xr_drop (L9 := [xR 45, xZ, xZ, xZ, xZ, xI s0, xZ]) (xdrs (xdrs (xdrs (xdrz (xdrz (xdrs (xdrs xdr0))))))) (hyp F5_)
theorem d_Match_count_57 : decode prog_4_method_13_code 57 = .ok (.istore 6, 2) := by decide +kernel
theorem d_Match_count_59 : decode prog_4_method_13_code 59 = .ok (.iload 5, 2) := by decide +kernel
theorem d_Match_count_61 : decode prog_4_method_13_code 61 = .ok (.ifCond .eq 21, 3) := by decide +kernel
theorem d_Match_count_64 : decode prog_4_method_13_code 64 = .ok (.iload 6, 2) := by decide +kernel
theorem d_Match_count_66 : decode prog_4_method_13_code 66 = .ok (.ifCond .ne 16, 3) := by decide +kernel
theorem d_Match_count_69 : decode prog_4_method_13_code 69 = .ok (.aload_n 0, 1) := by decide +kernel
theorem d_Match_count_70 : decode prog_4_method_13_code 70 = .ok (.dup, 1) := by decide +kernel
theorem d_Match_count_71 : decode prog_4_method_13_code 71 = .ok (.getfield 23, 3) := by decide +kernel
theorem d_Match_count_74 : decode prog_4_method_13_code 74 = .ok (.iconst 1, 1) := by decide +kernel
theorem d_Match_count_75 : decode prog_4_method_13_code 75 = .ok (.iadd, 1) := by decide +kernel
theorem d_Match_count_76 : decode prog_4_method_13_code 76 = .ok (.putfield 23, 3) := by decide +kernel
theorem d_Match_count_79 : decode prog_4_method_13_code 79 = .ok (.goto 23, 3) := by decide +kernel
theorem d_Match_count_102 : decode prog_4_method_13_code 102 = .ok (.return_, 1) := by decide +kernel
theorem v_Match_count_57 {G : XG} {d : Nat} {h : XH} {Q : XV → XH → Prop} {X : Nat → XH → Prop} {x5 s0 : Int} (F : xFix h) (hyp : ((x5 = 0 → (xwp G m_Match_count (d + 2) 82 [xR 45, xZ, xZ, xZ, xZ, xI x5, xI s0] [] h Q X)) ∧ (¬ x5 = 0 → ((s0 = 0 → xiR ((xpl h 45 3) + 1) ∧ (xFix (xst h 45 3 ((xpl h 45 3) + 1)) → Q xN (xst h 45 3 ((xpl h 45 3) + 1)))) ∧ (¬ s0 = 0 → (xwp G m_Match_count (d + 2) 82 [xR 45, xZ, xZ, xZ, xZ, xI x5, xI s0] [] h Q X)))))) : xwp G m_Match_count (d + 2) 57 [xR 45, xZ, xZ, xZ, xZ, xI x5, xZ] [xI s0] h Q X := by
  have hnx9 : (93 : Int) ≤ xnx h := F.2.2
  refine xr_okL (fun hl9 => ?_)
  have r_x5 : -2147483648 ≤ x5 ∧ x5 ≤ 2147483647 := hl9 (xI x5) (.tail _ (.tail _ (.tail _ (.tail _ (.tail _ (.head _)))))) (Nat.le_of_ble_eq_true rfl)
  refine xr_okS (fun hs9 => ?_)
  have r_s0 : -2147483648 ≤ s0 ∧ s0 ≤ 2147483647 := hs9 (xI s0) (.head _)
  refine xr_istore (pc := 57) (i := 6) (L9 := [xR 45, xZ, xZ, xZ, xZ, xI x5, xI s0]) (hI := d_Match_count_57) (hn := Nat.le_of_ble_eq_true rfl) (hL9 := rfl) ?_
  refine xr_iload (pc := 59) (i := 5) (hI := d_Match_count_59) (hl := rfl) ?_
  refine xr_if_eq (pc := 61) (tgt := 82) (hI := d_Match_count_61) (ht := by decide) (fun q9 => ?_) (fun q9 => ?_)
  · replace hyp := hyp.1 q9
    have q1_ := q9
    clear q9
    exact hyp
  · replace hyp := hyp.2 q9
    have q1_ := q9
    clear q9
    refine xr_iload (pc := 64) (i := 6) (hI := d_Match_count_64) (hl := rfl) ?_
    refine xr_if_ne (pc := 66) (tgt := 82) (hI := d_Match_count_66) (ht := by decide) (fun q9 => ?_) (fun q9 => ?_)
    · replace hyp := hyp.2 q9
      have q2_ := q9
      clear q9
      exact hyp
    · replace hyp := hyp.1 q9
      have q2_ := q9
      clear q9
      refine xr_aload_n (pc := 69) (i := 0) (hI := d_Match_count_69) (hi := rfl) (hl := rfl) ?_
      refine xr_dup (pc := 70) (hI := d_Match_count_70) (hv := rfl) ?_
      refine xg_getf (pc := 71) (ci := 3) (k := 3) (N := 6) (v9 := 0) (v := (xpl h 45 3)) (T := xF3) (hI := d_Match_count_71) (hw := w_375) rfl xi3 (Or.inl rfl) (Nat.le_of_ble_eq_true rfl) (Nat.le_of_ble_eq_true rfl) rfl (ft_45 F) rfl (fun f3_ => ?_)
      replace f3_ : -2147483648 ≤ (xpl h 45 3) ∧ (xpl h 45 3) ≤ 2147483647 := f3_
      refine xr_iconst (pc := 74) (hI := d_Match_count_74) (hr := by decide) ?_
      obtain ⟨c9, hyp⟩ := hyp
      refine xr_iadd (pc := 75) (hI := d_Match_count_75) (hr := c9) ?_
      refine xr_putf (pc := 76) (ci := 3) (k := 3) (N := 6) (v9 := 0) (T := xF3) (tF := xT3) (hI := d_Match_count_76) (hw := w_375) rfl xi3 xt3 xn3 (Or.inl rfl) (Nat.le_of_ble_eq_true rfl) (Nat.le_of_ble_eq_true rfl) rfl xfit_i rfl (ft_45 F) (by decide) (fun z => z) ?_
      have F4_ : xFix (xst h 45 3 ((xpl h 45 3) + 1)) := F.stL xfk_45_3
      refine xr_goto (pc := 79) (tgt := 102) (hI := d_Match_count_79) (ht := by decide) ?_
      refine xr_return (S := []) (pc := 102) (hI := d_Match_count_102) (hr := rfl) ?_
      exact hyp F4_
theorem d_Match_count_82 : decode prog_4_method_13_code 82 = .ok (.iload 5, 2) := by decide +kernel
theorem d_Match_count_84 : decode prog_4_method_13_code 84 = .ok (.ifCond .ne 18, 3) := by decide +kernel
theorem d_Match_count_87 : decode prog_4_method_13_code 87 = .ok (.iload 6, 2) := by decide +kernel
theorem d_Match_count_89 : decode prog_4_method_13_code 89 = .ok (.ifCond .eq 13, 3) := by decide +kernel
theorem d_Match_count_92 : decode prog_4_method_13_code 92 = .ok (.aload_n 0, 1) := by decide +kernel
theorem d_Match_count_93 : decode prog_4_method_13_code 93 = .ok (.dup, 1) := by decide +kernel
theorem d_Match_count_94 : decode prog_4_method_13_code 94 = .ok (.getfield 23, 3) := by decide +kernel
theorem d_Match_count_97 : decode prog_4_method_13_code 97 = .ok (.iconst 1, 1) := by decide +kernel
theorem d_Match_count_98 : decode prog_4_method_13_code 98 = .ok (.isub, 1) := by decide +kernel
theorem d_Match_count_99 : decode prog_4_method_13_code 99 = .ok (.putfield 23, 3) := by decide +kernel
theorem v_Match_count_82 {G : XG} {d : Nat} {h : XH} {Q : XV → XH → Prop} {X : Nat → XH → Prop} {x5 x6 : Int} (F : xFix h) (hyp : ((x5 = 0 → ((x6 = 0 → (Q xN h)) ∧ (¬ x6 = 0 → xiR ((xpl h 45 3) - 1) ∧ (xFix (xst h 45 3 ((xpl h 45 3) - 1)) → Q xN (xst h 45 3 ((xpl h 45 3) - 1)))))) ∧ (¬ x5 = 0 → (Q xN h)))) : xwp G m_Match_count (d + 2) 82 [xR 45, xZ, xZ, xZ, xZ, xI x5, xI x6] [] h Q X := by
  have hnx9 : (93 : Int) ≤ xnx h := F.2.2
  refine xr_okL (fun hl9 => ?_)
  have r_x5 : -2147483648 ≤ x5 ∧ x5 ≤ 2147483647 := hl9 (xI x5) (.tail _ (.tail _ (.tail _ (.tail _ (.tail _ (.head _)))))) (Nat.le_of_ble_eq_true rfl)
  have r_x6 : -2147483648 ≤ x6 ∧ x6 ≤ 2147483647 := hl9 (xI x6) (.tail _ (.tail _ (.tail _ (.tail _ (.tail _ (.tail _ (.head _))))))) (Nat.le_of_ble_eq_true rfl)
  refine xr_iload (pc := 82) (i := 5) (hI := d_Match_count_82) (hl := rfl) ?_
  refine xr_if_ne (pc := 84) (tgt := 102) (hI := d_Match_count_84) (ht := by decide) (fun q9 => ?_) (fun q9 => ?_)
  · replace hyp := hyp.2 q9
    have q1_ := q9
    clear q9
    refine xr_return (S := []) (pc := 102) (hI := d_Match_count_102) (hr := rfl) ?_
    exact hyp
  · replace hyp := hyp.1 q9
    have q1_ := q9
    clear q9
    refine xr_iload (pc := 87) (i := 6) (hI := d_Match_count_87) (hl := rfl) ?_
    refine xr_if_eq (pc := 89) (tgt := 102) (hI := d_Match_count_89) (ht := by decide) (fun q9 => ?_) (fun q9 => ?_)
    · replace hyp := hyp.1 q9
      have q2_ := q9
      clear q9
      refine xr_return (S := []) (pc := 102) (hI := d_Match_count_102) (hr := rfl) ?_
      exact hyp
    · replace hyp := hyp.2 q9
      have q2_ := q9
      clear q9
      refine xr_aload_n (pc := 92) (i := 0) (hI := d_Match_count_92) (hi := rfl) (hl := rfl) ?_
      refine xr_dup (pc := 93) (hI := d_Match_count_93) (hv := rfl) ?_
      refine xg_getf (pc := 94) (ci := 3) (k := 3) (N := 6) (v9 := 0) (v := (xpl h 45 3)) (T := xF3) (hI := d_Match_count_94) (hw := w_375) rfl xi3 (Or.inl rfl) (Nat.le_of_ble_eq_true rfl) (Nat.le_of_ble_eq_true rfl) rfl (ft_45 F) rfl (fun f3_ => ?_)
      replace f3_ : -2147483648 ≤ (xpl h 45 3) ∧ (xpl h 45 3) ≤ 2147483647 := f3_
      refine xr_iconst (pc := 97) (hI := d_Match_count_97) (hr := by decide) ?_
      obtain ⟨c9, hyp⟩ := hyp
      refine xr_isub (pc := 98) (hI := d_Match_count_98) (hr := c9) ?_
      refine xr_putf (pc := 99) (ci := 3) (k := 3) (N := 6) (v9 := 0) (T := xF3) (tF := xT3) (hI := d_Match_count_99) (hw := w_375) rfl xi3 xt3 xn3 (Or.inl rfl) (Nat.le_of_ble_eq_true rfl) (Nat.le_of_ble_eq_true rfl) rfl xfit_i rfl (ft_45 F) (by decide) (fun z => z) ?_
      have F4_ : xFix (xst h 45 3 ((xpl h 45 3) - 1)) := F.stL xfk_45_3
      refine xr_return (S := []) (pc := 102) (hI := d_Match_count_102) (hr := rfl) ?_
      exact hyp F4_
def MTW : Int → Prop := fun c => 45 ≤ c ∧ c ≤ 47
theorem RowOK.f47 {h h' : XH} {r : Int} {ws : List Int} (R : RowOK h r ws) (e : xsm MTW h h') : RowOK h' r ws := R.frame e (fun _ _ a b => by have b : 45 ≤ r ∧ r ≤ 47 := b; omega)
theorem PartR.f47 {h h' : XH} {p : Int} {t : PT} (R : PartR h p t) (e : xsm MTW h h') : PartR h' p t := R.frame e (fun k _ _ => e.pl R.1.2.1 (fun w => by have w : 45 ≤ p ∧ p ≤ 47 := w; have := R.1.1; omega) k) (fun r _ _ a b => by have b : 45 ≤ r ∧ r ≤ 47 := b; omega)
theorem xsm.t47 {h h' : XH} (e : xsm (fun c => c = 45) h h') : xsm MTW h h' := e.mono (fun c _ w => by have w : c = 45 := w; exact ⟨by omega, by omega⟩)
def fup (g : Int → Int) (w v : Int) : Int → Int := fun x => if x = w then v else g x
/-- how many words still lack -/
def unm (g : Int → Int) : List Int → Int
  | [] => 0
  | w :: r => (if 0 < g w then 1 else 0) + unm g r
theorem unm_rng (g : Int → Int) : ∀ W : List Int, 0 ≤ unm g W ∧ unm g W ≤ W.length := by
  intro W
  induction W with
  | nil => exact ⟨Int.le_refl 0, Int.le_refl 0⟩
  | cons a W ih =>
    have e : unm g (a :: W) = (if 0 < g a then 1 else 0) + unm g W := rfl
    rw [e, List.length_cons]
    split <;> omega
theorem unm_cong {g g' : Int → Int} : ∀ {W : List Int}, (∀ w ∈ W, g w = g' w) → unm g W = unm g' W := by
  intro W
  induction W with
  | nil => exact fun _ => rfl
  | cons a W ih =>
    intro h
    have e : unm g (a :: W) = (if 0 < g a then 1 else 0) + unm g W := rfl
    have e' : unm g' (a :: W) = (if 0 < g' a then 1 else 0) + unm g' W := rfl
    rw [e, e', h a (by simp), ih (fun w hw => h w (by simp [hw]))]
theorem unm_fup {g : Int → Int} {w v : Int} : ∀ {W : List Int}, W.Nodup → w ∈ W → unm (fup g w v) W = unm g W - (if 0 < g w then 1 else 0) + (if 0 < v then 1 else 0) := by
  intro W
  induction W with
  | nil => exact fun _ h => absurd h (by simp)
  | cons a W ih =>
    intro hn hw
    obtain ⟨n1, n2⟩ := List.nodup_cons.mp hn
    have e : unm g (a :: W) = (if 0 < g a then 1 else 0) + unm g W := rfl
    have e' : unm (fup g w v) (a :: W) = (if 0 < fup g w v a then 1 else 0) + unm (fup g w v) W := rfl
    rw [e, e']
    by_cases z : a = w
    · subst z
      rw [unm_cong (g := fup g a v) (g' := g) (fun x hx => by unfold fup; rw [if_neg (fun y => n1 (by rw [← y]; exact hx))])]
      have : fup g a v a = v := by unfold fup; rw [if_pos rfl]
      rw [this]; omega
    · have hw2 : w ∈ W := by
        rcases List.mem_cons.mp hw with y | y
        · exact absurd y.symm z
        · exact y
      rw [ih n2 hw2]
      have : fup g w v a = g a := by unfold fup; rw [if_neg z]
      rw [this]; omega
theorem unm_app {g : Int → Int} {w : Int} : ∀ {W : List Int}, unm g (W ++ [w]) = unm g W + (if 0 < g w then 1 else 0) := by
  intro W
  induction W with
  | nil => show (if 0 < g w then 1 else 0) + (0 : Int) = 0 + (if 0 < g w then 1 else 0); omega
  | cons a W ih =>
    have e : unm g (a :: W) = (if 0 < g a then 1 else 0) + unm g W := rfl
    have e' : unm g ((a :: W) ++ [w]) = (if 0 < g a then 1 else 0) + unm g (W ++ [w]) := rfl
    rw [e, e', ih]; omega
theorem unm_0 {g : Int → Int} : ∀ {W : List Int}, unm g W = 0 ↔ ∀ w ∈ W, g w ≤ 0 := by
  intro W
  induction W with
  | nil => exact ⟨fun _ w hw => absurd hw (by simp), fun _ => rfl⟩
  | cons a W ih =>
    have e : unm g (a :: W) = (if 0 < g a then 1 else 0) + unm g W := rfl
    have r := unm_rng g W
    rw [e]
    constructor
    · intro h w hw
      have h2 : ¬ 0 < g a := fun y => by rw [if_pos y] at h; omega
      rw [if_neg h2] at h
      rcases List.mem_cons.mp hw with y | y
      · rw [y]; omega
      · exact ih.mp (by omega) w y
    · intro h
      have := h a (by simp)
      rw [if_neg (by omega), ih.mpr (fun w hw => h w (by simp [hw]))]; rfl
/-- the words that a phrase wants, and how many of each still lack -/
def MatR (h : XH) (W : List Int) (g : Int → Int) : Prop := xpl h 45 2 = W.length ∧ W.length ≤ 40 ∧ W.Nodup ∧ (∀ (i : Nat) w, W[i]? = some w → xpl h 46 i = w ∧ xpl h 47 i = g w) ∧ xpl h 45 3 = unm g W
theorem p_Match_wantedPlace {G : XG} {d : Nat} {h : XH} {Q : XV → XH → Prop} {X : Nat → XH → Prop} {w : Int} {W : List Int} {g : Int → Int} (F : xFix h) (M : MatR h W g) (h1 : ∀ i : Nat, W[i]? = some w → Q (xI i) h) (h2 : w ∉ W → Q (xI (-1)) h) : xwp G m_Match_wantedPlace (d + 1) 0 [xR 45, xL w, xZ, xZ] [] h Q X := by
  obtain ⟨m1, m2, m3, m4, m5⟩ := M
  have loop : ∀ (m k : Nat), k + m = W.length → (∀ i : Nat, i < k → W[i]? ≠ some w) → xwp G m_Match_wantedPlace (d + 1) 2 [xR 45, xL w, xZ, xI k] [] h Q X := by
    intro m
    induction m with
    | zero =>
      intro k e hn
      have fin : Q (xI (-1)) h := h2 (fun hm => by
        obtain ⟨i, hi, he⟩ := List.getElem_of_mem hm
        exact hn i (by omega) (by rw [List.getElem?_eq_getElem hi, he]))
      refine v_Match_wantedPlace_2 F ?_
      refine ⟨fun q1 => ?_, fun q1 => ?_⟩
      · exact fin
      · refine ⟨fun q2 => ?_, fun q2 => ?_⟩
        · exact fin
        · refine ⟨?_, ?_⟩
          · omega
          · refine ⟨fun q3 => ?_, fun q3 => ?_⟩
            · omega
            · omega
    | succ m ih =>
      intro k e hn
      have hk : W[k]? = some (W[k]'(by omega)) := List.getElem?_eq_getElem (by omega)
      have hx := m4 k _ hk
      refine v_Match_wantedPlace_2 F ?_
      refine ⟨fun q1 => ?_, fun q1 => ?_⟩
      · omega
      · refine ⟨fun q2 => ?_, fun q2 => ?_⟩
        · omega
        · refine ⟨?_, ?_⟩
          · omega
          · refine ⟨fun q3 => ?_, fun q3 => ?_⟩
            · exact h1 k (by rw [hk, ← hx.1, q3])
            · exact ih (k + 1) (by omega) (fun i hi => by
                by_cases z : i = k
                · subst z
                  rw [hk]
                  exact fun y => q3 (by rw [hx.1]; exact Option.some.inj y)
                · exact hn i (by omega))
  refine v_Match_wantedPlace_0 F ?_
  exact loop W.length 0 (by omega) (fun i hi => absurd hi (Nat.not_lt_zero i))
theorem xs1 {h : XH} {C : Int → Prop} {q v : Int} {k : Nat} (hq : C q) : xsm C h (xst h q k v) := (xsm.refl h).st (by omega) (Or.inl hq)
theorem s_Match_want {G : XG} {d : Nat} {h : XH} {Q : XV → XH → Prop} {X : Nat → XH → Prop} {w : Int} {W : List Int} {g : Int → Int} (F : xFix h) (M : MatR h W g) (hg : ∀ x ∈ W, 1 ≤ g x ∧ g x ≤ 1000) (hl : W.length < 40)
    (hq : ∀ h' W' g', xFix h' → xsm MTW h h' → MatR h' W' g' → W' = (if w ∈ W then W else W ++ [w]) → (∀ x, g' x = if x = w then (if w ∈ W then g w + 1 else 1) else g x) → (∀ k, k ≠ 2 → k ≠ 3 → xpl h' 45 k = xpl h 45 k) → xnx h' = xnx h → xsl h' = xsl h → Q xN h') : xwp G m_Match_want (d + 2) 0 [xR 45, xL w, xZ, xZ] [] h Q X := by
  refine v_Match_want_0 F ?_
  refine p_Match_wantedPlace F M (fun i hi => ?_) (fun hn => ?_)
  · obtain ⟨m1, m2, m3, m4, m5⟩ := M
    obtain ⟨a1, a2⟩ := List.getElem?_eq_some_iff.mp hi
    have hm : w ∈ W := List.mem_of_getElem? hi
    have hx := m4 i w hi
    have hb := hg w hm
    refine v_Match_want_5 F ?_
    refine ⟨fun q1 => ?_, fun q1 => ?_⟩
    · refine ⟨fun q2 => ?_, fun q2 => ?_⟩
      · omega
      · refine ⟨?_, ?_⟩
        · first | omega | assumption | exact ⟨by omega, by omega⟩ | (simp only [*]; done) | grind
        · refine ⟨?_, ?_⟩
          · first | omega | assumption | exact ⟨by omega, by omega⟩ | (simp only [*]; done) | grind
          · intro F9
            omega
    · refine v_Match_want_62 F ?_
      refine ⟨fun q1 => ?_, fun q1 => ?_⟩
      · omega
      · refine ⟨?_, ?_⟩
        · first | exact ⟨by omega, by omega⟩ | omega
        · refine ⟨?_, ?_⟩
          · first | exact ⟨by omega, by omega⟩ | omega
          · refine ⟨?_, ?_⟩
            · first | exact ⟨by omega, by omega⟩ | omega
            · intro F9
              rw [hx.2] at F9 ⊢
              refine hq _ W (fup g w (g w + 1)) F9 (xs1 ⟨by decide, by decide⟩) ⟨?_, m2, m3, fun j x hj => ⟨?_, ?_⟩, ?_⟩ (by rw [if_pos hm]) (fun x => ?_) (fun k k2 k3 => by rw [xpl_st, if_neg (by omega)]) rfl rfl
              · rw [xpl_st, if_neg (by omega)]; exact m1
              · rw [xpl_st, if_neg (by omega)]; exact (m4 j x hj).1
              · rw [xpl_st]
                by_cases z : j = i
                · subst z
                  rw [hi] at hj
                  cases hj
                  rw [if_pos ⟨rfl, rfl⟩]; unfold fup; rw [if_pos rfl]
                · rw [if_neg (by omega)]
                  have : x ≠ w := fun y => z (nodup_at m3 hj (by rw [y]; exact hi))
                  unfold fup; rw [if_neg this]; exact (m4 j x hj).2
              · rw [xpl_st, if_neg (by omega), unm_fup m3 hm, if_pos (by omega), if_pos (by omega)]; omega
              · unfold fup; rw [if_pos hm]
  · obtain ⟨m1, m2, m3, m4, m5⟩ := M
    have ur := unm_rng g W
    refine v_Match_want_5 F ?_
    refine ⟨fun q1 => ?_, fun q1 => ?_⟩
    · refine ⟨fun q2 => ?_, fun q2 => ?_⟩
      · omega
      · refine ⟨?_, ?_⟩
        · first | exact ⟨by omega, by omega⟩ | omega
        · refine ⟨?_, ?_⟩
          · first | exact ⟨by omega, by omega⟩ | omega
          · intro F9
            rw [m1, m5] at F9 ⊢
            refine v_Match_want_62 F9 ?_
            refine ⟨fun q1 => ?_, fun q1 => ?_⟩
            · omega
            · refine ⟨?_, ?_⟩
              · first | exact ⟨by omega, by omega⟩ | omega | (rw [xpl_st, if_neg (by omega), xpl_st, if_neg (by omega), xpl_st, if_pos ⟨rfl, rfl⟩]; exact ⟨by decide, by decide⟩)
              · refine ⟨?_, ?_⟩
                · first | exact ⟨by omega, by omega⟩ | omega | (rw [xpl_st, if_neg (by omega), xpl_st, if_neg (by omega), xpl_st, if_pos ⟨rfl, rfl⟩]; exact ⟨by decide, by decide⟩)
                · refine ⟨?_, ?_⟩
                  · first | exact ⟨by omega, by omega⟩ | omega | (rw [xpl_st, if_neg (by omega), xpl_st, if_neg (by omega), xpl_st, if_pos ⟨rfl, rfl⟩]; exact ⟨by decide, by decide⟩)
                  · intro F9
                    have e47 : xpl (xst (xst (xst (xst h 46 W.length w) 47 W.length 0) 45 2 (W.length + 1)) 45 3 (unm g W + 1)) 47 W.length = 0 := by
                      rw [xpl_st, if_neg (by omega), xpl_st, if_neg (by omega), xpl_st, if_pos ⟨rfl, rfl⟩]
                    rw [e47] at F9 ⊢
                    refine hq _ (W ++ [w]) (fup g w 1) F9 ?_ ⟨?_, ?_, ?_, fun j x hj => ?_, ?_⟩ (by rw [if_neg hn]) (fun x => ?_) (fun k k2 k3 => ?_) rfl rfl
                    · exact xsm.trans (xsm.trans (xsm.trans (xsm.trans (xs1 ⟨by decide, by decide⟩) (xs1 ⟨by decide, by decide⟩)) (xs1 (k := 2) ⟨by decide, by decide⟩)) (xs1 (k := 3) ⟨by decide, by decide⟩)) (xs1 ⟨by decide, by decide⟩)
                    · rw [xpl_st, if_neg (by omega), xpl_st, if_neg (by omega), xpl_st, if_pos ⟨rfl, rfl⟩, List.length_append]; rfl
                    · rw [List.length_append]; exact hl
                    · rw [List.nodup_append]
                      exact ⟨m3, List.nodup_cons.mpr ⟨by simp, List.nodup_nil⟩, fun a ha b hb y => hn (by rw [← List.mem_singleton.mp hb, ← y]; exact ha)⟩
                    · by_cases z : j < W.length
                      · rw [List.getElem?_append_left z] at hj
                        have hxw : x ≠ w := fun y => hn (by rw [← y]; exact List.mem_of_getElem? hj)
                        refine ⟨?_, ?_⟩
                        · rw [xpl_st, if_neg (by omega), xpl_st, if_neg (by omega), xpl_st, if_neg (by omega), xpl_st, if_neg (by omega), xpl_st, if_neg (by omega)]
                          exact (m4 j x hj).1
                        · rw [xpl_st, if_neg (by omega), xpl_st, if_neg (by omega), xpl_st, if_neg (by omega), xpl_st, if_neg (by omega), xpl_st, if_neg (by omega)]
                          unfold fup; rw [if_neg hxw]
                          exact (m4 j x hj).2
                      · have hj2 := (List.getElem?_eq_some_iff.mp hj).1
                        rw [List.length_append] at hj2
                        have hj3 : j = W.length := by have : j < W.length + 1 := hj2; omega
                        subst hj3
                        rw [List.getElem?_append_right (Nat.le_refl _), Nat.sub_self] at hj
                        cases hj
                        refine ⟨?_, ?_⟩
                        · rw [xpl_st, if_neg (by omega), xpl_st, if_neg (by omega), xpl_st, if_neg (by omega), xpl_st, if_neg (by omega), xpl_st, if_pos ⟨rfl, rfl⟩]
                        · rw [xpl_st, if_pos ⟨rfl, rfl⟩]; unfold fup; rw [if_pos rfl]; rfl
                    · rw [xpl_st, if_neg (by omega), xpl_st, if_pos ⟨rfl, rfl⟩, unm_app, unm_cong (g := fup g w 1) (g' := g) (fun x hx => by unfold fup; rw [if_neg (fun y => hn (by rw [← y]; exact hx))])]
                      have : fup g w 1 w = 1 := by unfold fup; rw [if_pos rfl]
                      rw [this]; rfl
                    · unfold fup; rw [if_neg hn]
                    · rw [xpl_st, if_neg (by omega), xpl_st, if_neg (by omega), xpl_st, if_neg (by omega), xpl_st, if_neg (by omega), xpl_st, if_neg (by omega)]
    · omega
theorem s_Match_wantAll {G : XG} {d : Nat} {h : XH} {Q : XV → XH → Prop} {X : Nat → XH → Prop} {p : Int} {ws : List Int} (F : xFix h) (P : RowOK h p ws) (hl : ws.length ≤ 40)
    (hq : ∀ h' W g, xFix h' → xsm MTW h h' → MatR h' W g → (∀ x, x ∈ W ↔ x ≠ 0 ∧ x ∈ ws) → (∀ x ∈ W, g x = ws.count x) → (∀ k, k ≠ 2 → k ≠ 3 → xpl h' 45 k = xpl h 45 k) → xnx h' = xnx h → xsl h' = xsl h → Q xN h') : xwp G m_Match_wantAll (d + 3) 0 [xR 45, xR p, xZ] [] h Q X := by
  have loop : ∀ (m i : Nat) (h2 : XH) (W : List Int) (g : Int → Int), i + m = ws.length → xFix h2 → xsm MTW h h2 → MatR h2 W g → W.length ≤ i → (∀ x, x ∈ W ↔ x ≠ 0 ∧ x ∈ ws.take i) → (∀ x ∈ W, g x = (ws.take i).count x) → (∀ k, k ≠ 2 → k ≠ 3 → xpl h2 45 k = xpl h 45 k) → xnx h2 = xnx h → xsl h2 = xsl h → xwp G m_Match_wantAll (d + 3) 12 [xR 45, xR p, xI i] [] h2 Q X := by
    intro m
    induction m with
    | zero =>
      intro i h2 W g e F2 S2 M2 wl w1 w2 f2 n2 l2
      have P2 := P.f47 S2
      have hw := P2.2.2.2.1
      have lw := hw.2.1
      rw [List.take_of_length_le (by omega)] at w1 w2
      refine v_Match_wantAll_12 F2 ?_
      refine ⟨?_, ?_⟩
      · first | exact hw.1 | omega
      · refine ⟨fun q1 => ?_, fun q1 => ?_⟩
        · exact hq h2 W g F2 S2 M2 w1 w2 f2 n2 l2
        · refine ⟨?_, ?_⟩
          · first | exact hw.1 | omega
          · refine ⟨fun q2 => ?_, fun q2 => ?_⟩
            · omega
            · omega
    | succ m ih =>
      intro i h2 W g e F2 S2 M2 wl w1 w2 f2 n2 l2
      have P2 := P.f47 S2
      have hw := P2.2.2.2.1
      have lw := hw.2.1
      have hat := hw.2.2 i (by omega)
      obtain ⟨w, hwd⟩ : ∃ w, w = xpl h2 p i := ⟨_, rfl⟩
      rw [← hwd] at hat
      have htk : ws.take (i + 1) = ws.take i ++ [w] := by
        obtain ⟨a1, a2⟩ := List.getElem?_eq_some_iff.mp hat
        rw [List.take_succ, hat]; rfl
      have hcl : ∀ x, (ws.take i).count x ≤ 40 := fun x => Nat.le_trans List.count_le_length (by rw [List.length_take]; omega)
      refine v_Match_wantAll_12 F2 ?_
      refine ⟨?_, ?_⟩
      · first | exact hw.1 | omega
      · refine ⟨fun q1 => ?_, fun q1 => ?_⟩
        · omega
        · refine ⟨?_, ?_⟩
          · first | exact hw.1 | omega
          · refine ⟨fun q2 => ?_, fun q2 => ?_⟩
            · refine v_Match_wantAll_33 F2 ?_
              refine ⟨?_, ?_⟩
              · exact ⟨by omega, by omega⟩
              · refine ih (i + 1) h2 W g (by omega) F2 S2 M2 (by omega) (fun x => ?_) (fun x hx => ?_) f2 n2 l2
                · rw [htk, List.mem_append, List.mem_singleton, w1]
                  constructor
                  · exact fun y => ⟨y.1, Or.inl y.2⟩
                  · rintro ⟨y, y2 | y2⟩
                    · exact ⟨y, y2⟩
                    · exact absurd (y2.trans (hwd.trans q2)) y
                · have hx0 := ((w1 x).mp hx).1
                  rw [htk, List.count_append, w2 x hx, List.count_singleton, if_neg (by simp; omega)]; rfl
            · rw [← hwd] at q2 ⊢
              refine s_Match_want F2 M2 (fun x hx => ?_) (by omega) (fun h3 W3 g3 F3 S3 M3 e1 e2 f3 n3 l3 => ?_)
              · have := w2 x hx
                have h1 := hcl x
                have h3 : 0 < (ws.take i).count x := List.count_pos_iff.mpr ((w1 x).mp hx).2
                omega
              · refine v_Match_wantAll_33 F3 ?_
                refine ⟨?_, ?_⟩
                · exact ⟨by omega, by omega⟩
                · refine ih (i + 1) h3 W3 g3 (by omega) F3 (S2.trans S3) M3 ?_ (fun x => ?_) (fun x hx => ?_) (fun k k2 k3 => (f3 k k2 k3).trans (f2 k k2 k3)) (n3.trans n2) (l3.trans l2)
                  · rw [e1]
                    split
                    · omega
                    · rw [List.length_append]; have : [w].length = 1 := rfl; omega
                  · rw [e1, htk, List.mem_append, List.mem_singleton]
                    by_cases z : w ∈ W
                    · rw [if_pos z, w1]
                      constructor
                      · exact fun y => ⟨y.1, Or.inl y.2⟩
                      · rintro ⟨y, y2 | y2⟩
                        · exact ⟨y, y2⟩
                        · rw [y2]; exact (w1 w).mp z
                    · rw [if_neg z, List.mem_append, List.mem_singleton, w1]
                      constructor
                      · rintro (y | y)
                        · exact ⟨y.1, Or.inl y.2⟩
                        · exact ⟨by rw [y]; exact q2, Or.inr y⟩
                      · rintro ⟨y, y2 | y2⟩
                        · exact Or.inl ⟨y, y2⟩
                        · exact Or.inr y2
                  · rw [e2, htk, List.count_append, List.count_singleton]
                    by_cases y : x = w
                    · subst y
                      rw [if_pos rfl]
                      by_cases z : x ∈ W
                      · rw [if_pos z, w2 x z, if_pos (BEq.rfl)]; omega
                      · rw [if_neg z, List.count_eq_zero.mpr (fun y9 => z ((w1 x).mpr ⟨q2, y9⟩)), if_pos (BEq.rfl)]; rfl
                    · rw [if_neg y, if_neg (by simp; exact fun y9 => y y9.symm)]
                      have hxW : x ∈ W := by
                        rw [e1] at hx
                        by_cases z : w ∈ W
                        · rw [if_pos z] at hx; exact hx
                        · rw [if_neg z, List.mem_append, List.mem_singleton] at hx
                          rcases hx with hx | hx
                          · exact hx
                          · exact absurd hx y
                      rw [w2 x hxW]; omega
  refine v_Match_wantAll_0 F ?_
  intro F9
  refine loop ws.length 0 _ [] (fun _ => 0) (by omega) F9 (xsm.trans (xs1 (k := 2) ⟨by decide, by decide⟩) (xs1 (k := 3) ⟨by decide, by decide⟩)) ⟨?_, by decide, List.nodup_nil, fun i w hw => ?_, ?_⟩ (Nat.le_refl _) (fun x => ?_) (fun x hx => ?_) (fun k k2 k3 => ?_) rfl rfl
  · rw [xpl_st, if_neg (by omega), xpl_st, if_pos ⟨rfl, rfl⟩]; rfl
  · simp at hw
  · rw [xpl_st, if_pos ⟨rfl, rfl⟩]; rfl
  · simp
  · simp at hx
  · rw [xpl_st, if_neg (by omega), xpl_st, if_neg (by omega)]
theorem s_Match_count {G : XG} {d : Nat} {h : XH} {Q : XV → XH → Prop} {X : Nat → XH → Prop} {w c : Int} {W : List Int} {g : Int → Int} (F : xFix h) (M : MatR h W g) (hg : ∀ x ∈ W, -1000 ≤ g x ∧ g x ≤ 1000) (hc : -1 ≤ c ∧ c ≤ 1)
    (hq : ∀ h', xFix h' → xsm MTW h h' → MatR h' W (fup g w (g w + c)) → (∀ k, k ≠ 2 → k ≠ 3 → xpl h' 45 k = xpl h 45 k) → xnx h' = xnx h → xsl h' = xsl h → Q xN h') : xwp G m_Match_count (d + 2) 0 [xR 45, xL w, xZ, xI c, xZ, xZ, xZ] [] h Q X := by
  refine v_Match_count_0 F ?_
  refine p_Match_wantedPlace F M (fun i hi => ?_) (fun hn => ?_)
  · obtain ⟨m1, m2, m3, m4, m5⟩ := M
    obtain ⟨a1, a2⟩ := List.getElem?_eq_some_iff.mp hi
    have hm : w ∈ W := List.mem_of_getElem? hi
    have hx := m4 i w hi
    have hb := hg w hm
    have ur := unm_rng g W
    have uf := unm_fup (g := g) (v := g w + c) m3 hm
    obtain ⟨g2, hg2⟩ : ∃ g2, g2 = fup g w (g w + c) := ⟨_, rfl⟩
    rw [← hg2] at hq uf
    have hgw : g2 w = g w + c := by rw [hg2]; unfold fup; rw [if_pos rfl]
    -- the lacking is written: what is left is the count of those unmet
    have M1 : ∀ h2, xpl h2 45 2 = W.length → (∀ (j : Nat) x, W[j]? = some x → xpl h2 46 j = x ∧ xpl h2 47 j = g2 x) → xpl h2 45 3 = unm g2 W → MatR h2 W g2 := fun h2 b1 b2 b3 => ⟨b1, m2, m3, b2, b3⟩
    have at2 : ∀ (j : Nat) x, W[j]? = some x → xpl (xst h 47 i (g w + c)) 46 j = x ∧ xpl (xst h 47 i (g w + c)) 47 j = g2 x := by
      intro j x hj
      refine ⟨by rw [xpl_st, if_neg (by omega)]; exact (m4 j x hj).1, ?_⟩
      rw [xpl_st]
      by_cases z : j = i
      · subst z
        rw [hi] at hj
        cases hj
        rw [if_pos ⟨rfl, rfl⟩, hgw]
      · rw [if_neg (by omega)]
        have : x ≠ w := fun y => z (nodup_at m3 hj (by rw [y]; exact hi))
        rw [hg2]; unfold fup; rw [if_neg this]; exact (m4 j x hj).2
    have tail : ∀ (b1 b2 : Bool), b1 = decide (¬ 0 < g w) → b2 = decide (¬ 0 < g w + c) → xFix (xst h 47 i (g w + c)) → xwp G m_Match_count (d + 2) 57 [xR 45, xZ, xZ, xZ, xZ, xI (b2i b1), xZ] [xI (b2i b2)] (xst h 47 i (g w + c)) Q X := by
      intro b1 b2 h1 h2 F2
      have e453 : xpl (xst h 47 i (g w + c)) 45 3 = unm g W := by rw [xpl_st, if_neg (by omega)]; exact m5
      have e452 : xpl (xst h 47 i (g w + c)) 45 2 = W.length := by rw [xpl_st, if_neg (by omega)]; exact m1
      have S2 : xsm MTW h (xst h 47 i (g w + c)) := xs1 ⟨by decide, by decide⟩
      have fin0 : unm g2 W = unm g W → Q xN (xst h 47 i (g w + c)) := fun e => hq _ F2 S2 (M1 _ e452 at2 (e453.trans e.symm)) (fun k k2 k3 => by rw [xpl_st, if_neg (by omega)]) rfl rfl
      have fin1 : ∀ v, unm g2 W = v → xFix (xst (xst h 47 i (g w + c)) 45 3 v) → Q xN (xst (xst h 47 i (g w + c)) 45 3 v) := fun v e F3 => by
        refine hq _ F3 (S2.trans (xs1 (k := 3) ⟨by decide, by decide⟩)) (M1 _ ?_ (fun j x hj => ?_) ?_) (fun k k2 k3 => ?_) rfl rfl
        · rw [xpl_st, if_neg (by omega)]; exact e452
        · rw [xpl_st, if_neg (by omega), xpl_st, if_neg (by omega)]; exact at2 j x hj
        · rw [xpl_st, if_pos ⟨rfl, rfl⟩]; exact e.symm
        · rw [xpl_st, if_neg (by omega), xpl_st, if_neg (by omega)]
      have p82 : ¬ (b1 = true ∧ b2 = false) → xwp G m_Match_count (d + 2) 82 [xR 45, xZ, xZ, xZ, xZ, xI (b2i b1), xI (b2i b2)] [] (xst h 47 i (g w + c)) Q X := by
        intro hne
        refine v_Match_count_82 F2 ?_
        refine ⟨fun q1 => ?_, fun q1 => ?_⟩
        · refine ⟨fun q2 => ?_, fun q2 => ?_⟩
          · have d1 := of_decide_eq_false (h1.symm.trans (bz0 q1))
            have d2 := of_decide_eq_false (h2.symm.trans (bz0 q2))
            rw [if_pos (by omega), if_pos (by omega)] at uf
            exact fin0 (by omega)
          · refine ⟨?_, ?_⟩
            · exact ⟨by omega, by omega⟩
            · intro F9
              have d1 := of_decide_eq_false (h1.symm.trans (bz0 q1))
              have d2 := of_decide_eq_true (h2.symm.trans (bz1 q2))
              rw [if_pos (by omega), if_neg (by omega)] at uf
              rw [e453] at F9 ⊢
              exact fin1 _ (by omega) F9
        · have d1 := of_decide_eq_true (h1.symm.trans (bz1 q1))
          have b2t : b2 = true := by
            cases b2
            · exact absurd ⟨bz1 q1, rfl⟩ hne
            · rfl
          have d2 := of_decide_eq_true (h2.symm.trans b2t)
          rw [if_neg (by omega), if_neg (by omega)] at uf
          exact fin0 (by omega)
      refine v_Match_count_57 F2 ?_
      refine ⟨fun q1 => ?_, fun q1 => ?_⟩
      · exact p82 (fun y => by rw [y.1] at q1; cases q1)
      · refine ⟨fun q2 => ?_, fun q2 => ?_⟩
        · refine ⟨?_, ?_⟩
          · exact ⟨by omega, by omega⟩
          · intro F9
            have d1 := of_decide_eq_true (h1.symm.trans (bz1 q1))
            have d2 := of_decide_eq_false (h2.symm.trans (bz0 q2))
            rw [if_neg (by omega), if_pos (by omega)] at uf
            rw [e453] at F9 ⊢
            exact fin1 _ (by omega) F9
        · exact p82 (fun y => q2 (by rw [y.2]; rfl))
    have p29 : ∀ b1 : Bool, b1 = decide (¬ 0 < g w) → xwp G m_Match_count (d + 2) 29 [xR 45, xZ, xZ, xI c, xI i, xZ, xZ] [xI (b2i b1)] h Q X := by
      intro b1 h1
      refine v_Match_count_29 F ?_
      refine ⟨?_, ?_⟩
      · first | exact ⟨by omega, by omega⟩ | omega
      · refine ⟨?_, ?_⟩
        · first | exact ⟨by omega, by omega⟩ | omega
        · refine ⟨?_, ?_⟩
          · first | exact ⟨by omega, by omega⟩ | omega
          · refine ⟨fun q1 => ?_, fun q1 => ?_⟩
            · intro F9
              rw [hx.2] at F9 q1 ⊢
              exact tail b1 false h1 (decide_eq_false (by omega)).symm F9
            · intro F9
              rw [hx.2] at F9 q1 ⊢
              exact tail b1 true h1 (decide_eq_true (by omega)).symm F9
    refine v_Match_count_5 F ?_
    refine ⟨fun q1 => ?_, fun q1 => ?_⟩
    · omega
    · refine ⟨?_, ?_⟩
      · omega
      · refine ⟨?_, ?_⟩
        · omega
        · refine ⟨fun q2 => ?_, fun q2 => ?_⟩
          · exact p29 false (decide_eq_false (by omega)).symm
          · exact p29 true (decide_eq_true (by omega)).symm
  · obtain ⟨m1, m2, m3, m4, m5⟩ := M
    have hx : ∀ x ∈ W, fup g w (g w + c) x = g x := fun x hx => by unfold fup; rw [if_neg (fun y => hn (by rw [← y]; exact hx))]
    refine v_Match_count_5 F ?_
    refine ⟨fun q1 => ?_, fun q1 => ?_⟩
    · exact hq h F (xsm.refl h) ⟨m1, m2, m3, fun i x hi => by rw [hx x (List.mem_of_getElem? hi)]; exact m4 i x hi, by rw [unm_cong hx]; exact m5⟩ (fun _ _ _ => rfl) rfl rfl
    · refine ⟨?_, ?_⟩
      · omega
      · refine ⟨?_, ?_⟩
        · omega
        · refine ⟨fun q2 => ?_, fun q2 => ?_⟩
          · omega
          · omega

end
