/-! ===== bivc ===== -/
section
abbrev m_B_feed : XM := (⟨"BeaconIndex", "feed", "(IIIII)I"⟩, prog_1_method_2_code, 6, (some .int), [])
theorem d_B_feed_0 : decode prog_1_method_2_code 0 = .ok (.aload_n 0, 1) := by decide +kernel
theorem d_B_feed_1 : decode prog_1_method_2_code 1 = .ok (.getfield 10, 3) := by decide +kernel
theorem w_430 : Cond.fieldLink "BeaconIndex" 10 "BeaconIndex" "tape" "LBeaconIndex$Tape;" ∈ lw_tbl := List.mem_append_right _ (List.mem_of_getElem? (i := 430) (by decide +kernel))
theorem d_B_feed_4 : decode prog_1_method_2_code 4 = .ok (.getfield 55, 3) := by decide +kernel
theorem w_58 : Cond.fieldLink "BeaconIndex" 55 "BeaconIndex$Tape" "length" "I" ∈ lw_tbl := List.mem_append_right _ (List.mem_of_getElem? (i := 58) (by decide +kernel))
theorem d_B_feed_7 : decode prog_1_method_2_code 7 = .ok (.bipush 20, 2) := by decide +kernel
theorem d_B_feed_9 : decode prog_1_method_2_code 9 = .ok (.iadd, 1) := by decide +kernel
theorem d_B_feed_10 : decode prog_1_method_2_code 10 = .ok (.sipush 400, 3) := by decide +kernel
theorem d_B_feed_13 : decode prog_1_method_2_code 13 = .ok (.if_icmp .le 11, 3) := by decide +kernel
theorem d_B_feed_24 : decode prog_1_method_2_code 24 = .ok (.aload_n 0, 1) := by decide +kernel
theorem d_B_feed_25 : decode prog_1_method_2_code 25 = .ok (.getfield 10, 3) := by decide +kernel
theorem d_B_feed_28 : decode prog_1_method_2_code 28 = .ok (.iload_n 1, 1) := by decide +kernel
theorem d_B_feed_29 : decode prog_1_method_2_code 29 = .ok (.invokevirtual 62, 3) := by decide +kernel
theorem k_Tape_append : xCal m_Tape_append 1 := ⟨List.mem_append_right _ (List.mem_of_getElem? (i := 1349) (by decide +kernel)), w_2, Nat.le_of_ble_eq_true rfl, ⟨by decide +kernel, by decide +kernel⟩, by decide +kernel, by decide +kernel, rfl⟩
theorem w_1346 : Cond.methodLink "BeaconIndex" 62 ⟨"BeaconIndex$Tape", "append", "(I)V"⟩ ∈ lw_tbl := List.mem_append_right _ (List.mem_of_getElem? (i := 1346) (by decide +kernel))
theorem w_1347 : Cond.instanceMethod ⟨"BeaconIndex$Tape", "append", "(I)V"⟩ ∈ lw_tbl := List.mem_append_right _ (List.mem_of_getElem? (i := 1347) (by decide +kernel))
theorem w_1348 : Cond.selects "BeaconIndex$Tape" ⟨"BeaconIndex$Tape", "append", "(I)V"⟩ ⟨"BeaconIndex$Tape", "append", "(I)V"⟩ ∈ lw_tbl := List.mem_append_right _ (List.mem_of_getElem? (i := 1348) (by decide +kernel))
theorem d_B_feed_16 : decode prog_1_method_2_code 16 = .ok (.new 59, 3) := by decide +kernel
theorem d_B_feed_19 : decode prog_1_method_2_code 19 = .ok (.dup, 1) := by decide +kernel
theorem d_B_feed_20 : decode prog_1_method_2_code 20 = .ok (.invokespecial 61, 3) := by decide +kernel
theorem d_B_feed_23 : decode prog_1_method_2_code 23 = .ok (.athrow, 1) := by decide +kernel
theorem w_1242 : Cond.classLink "BeaconIndex" 59 "java/lang/IllegalStateException" ∈ lw_tbl := List.mem_append_right _ (List.mem_of_getElem? (i := 1242) (by decide +kernel))
theorem w_20 : Cond.initialized "java/lang/IllegalStateException" ∈ lw_tbl := List.mem_append_right _ (List.mem_of_getElem? (i := 20) (by decide +kernel))
theorem thr_B_61 : (∀ w ∈ vx_at0 "BeaconIndex" 61 (xex 1) ["java/lang/RuntimeException", "java/lang/Exception"], w ∈ lw_tbl) ∧ (∀ w ∈ vx_at0 "BeaconIndex" 61 (xex 1) ["java/lang/RuntimeException", "java/lang/Exception"], xgw w = true) := by decide +kernel
theorem v_B_feed_0 {G : XG} {d : Nat} {h : XH} {Q : XV → XH → Prop} {X : Nat → XH → Prop} {x1 x2 x3 x4 x5 : Int} (F : xFix h) (hyp : xiR ((xpl h 1 3) + 20) ∧ ((((xpl h 1 3) + 20) ≤ 400 → (xwp G m_Tape_append (d + 6) 0 [xR 1, xI x1, xZ] [] h (fun v9 h9 => xwp G m_B_feed (d + 7) 32 [xR 0, xZ, xI x2, xI x3, xI x4, xI x5] (xpush v9 []) h9 Q X) X)) ∧ (¬ ((xpl h 1 3) + 20) ≤ 400 → xnx h + 1 ≤ xKC ∧ xsl h + 6 ≤ xKS ∧ (xFix (xmk h 300 6 (fun _ => 0)) → X 1 (xmk h 300 6 (fun _ => 0)))))) : xwp G m_B_feed (d + 7) 0 [xR 0, xI x1, xI x2, xI x3, xI x4, xI x5] [] h Q X := by
  have hnx9 : (93 : Int) ≤ xnx h := F.2.2
  refine xr_okL (fun hl9 => ?_)
  have r_x1 : -2147483648 ≤ x1 ∧ x1 ≤ 2147483647 := hl9 (xI x1) (.tail _ (.head _)) (Nat.le_of_ble_eq_true rfl)
  have r_x2 : -2147483648 ≤ x2 ∧ x2 ≤ 2147483647 := hl9 (xI x2) (.tail _ (.tail _ (.head _))) (Nat.le_of_ble_eq_true rfl)
  have r_x3 : -2147483648 ≤ x3 ∧ x3 ≤ 2147483647 := hl9 (xI x3) (.tail _ (.tail _ (.tail _ (.head _)))) (Nat.le_of_ble_eq_true rfl)
  have r_x4 : -2147483648 ≤ x4 ∧ x4 ≤ 2147483647 := hl9 (xI x4) (.tail _ (.tail _ (.tail _ (.tail _ (.head _))))) (Nat.le_of_ble_eq_true rfl)
  have r_x5 : -2147483648 ≤ x5 ∧ x5 ≤ 2147483647 := hl9 (xI x5) (.tail _ (.tail _ (.tail _ (.tail _ (.tail _ (.head _)))))) (Nat.le_of_ble_eq_true rfl)
  refine xr_aload_n (pc := 0) (i := 0) (hI := d_B_feed_0) (hi := rfl) (hl := rfl) ?_
  refine xg_getf (pc := 1) (ci := 0) (k := 0) (N := 7) (v9 := 2) (v := 1) (T := xF0) (hI := d_B_feed_1) (hw := w_430) rfl xi0 (Or.inl rfl) (Nat.le_of_ble_eq_true rfl) (Nat.le_of_ble_eq_true rfl) rfl (ft_0 F) (fp_0_0 F) (fun f1_ => ?_)
  clear f1_
  refine xg_getf (pc := 4) (ci := 8) (k := 3) (N := 7) (v9 := 0) (v := (xpl h 1 3)) (T := xF8) (hI := d_B_feed_4) (hw := w_58) rfl xi8 (Or.inl rfl) (Nat.le_of_ble_eq_true rfl) (Nat.le_of_ble_eq_true rfl) rfl (ft_1 F) rfl (fun f2_ => ?_)
  replace f2_ : -2147483648 ≤ (xpl h 1 3) ∧ (xpl h 1 3) ≤ 2147483647 := f2_
  refine xr_bipush (pc := 7) (hI := d_B_feed_7) (hr := by decide) (hv := by decide) ?_
  obtain ⟨c9, hyp⟩ := hyp
  refine xr_iadd (pc := 9) (hI := d_B_feed_9) (hr := c9) ?_
  refine xr_sipush (pc := 10) (hI := d_B_feed_10) (hr := by decide) (hv := by decide) ?_
  refine xr_icmp_le (pc := 13) (tgt := 24) (hI := d_B_feed_13) (ht := by decide) (fun q9 => ?_) (fun q9 => ?_)
  · replace hyp := hyp.1 q9
    have q3_ := q9
    clear q9
    refine xr_aload_n (pc := 24) (i := 0) (hI := d_B_feed_24) (hi := rfl) (hl := rfl) ?_
    refine xg_getf (pc := 25) (ci := 0) (k := 0) (N := 7) (v9 := 2) (v := 1) (T := xF0) (hI := d_B_feed_25) (hw := w_430) rfl xi0 (Or.inl rfl) (Nat.le_of_ble_eq_true rfl) (Nat.le_of_ble_eq_true rfl) rfl (ft_0 F) (fp_0_0 F) (fun f4_ => ?_)
    clear f4_
    refine xr_iload_n (pc := 28) (i := 1) (hI := d_B_feed_28) (hi := rfl) (hl := rfl) ?_
    exact xq_callV (pc := 29) (index := 62) (K := m_Tape_append) (As := [xI x1]) (S := []) (L0 := [xR 1, xI x1, xZ]) (hI := d_B_feed_29) (hK := k_Tape_append) (hlk := w_1346) (hnoM := rfl) (hS8 := Nat.le_of_ble_eq_true rfl) (ci := 8) (N := 7) (C := "BeaconIndex$Tape") (T := xF8) (hc := rfl) (hci := Nat.le_of_ble_eq_true rfl) (htb := (ft_1 F)) (hinst := w_1347) (hsel := w_1348) (hlen := Nat.le_of_ble_eq_true rfl) (hst := rfl) (hL0 := rfl)  (xwp_mono hyp (fun v9 h9 q9 => xr_drop (L9 := [xR 0, xZ, xI x2, xI x3, xI x4, xI x5]) (xdrs (xdrz (xdrs (xdrs (xdrs (xdrs xdr0)))))) q9) (fun _ _ z9 => z9))
  · replace hyp := hyp.2 q9
    have q3_ := q9
    clear q9
    obtain ⟨c7, c8, hyp⟩ := hyp
    exact xr_throw (pc := 16) (k := 1) (ik := 59) (ic := 61) (names := ["java/lang/RuntimeException", "java/lang/Exception"]) (by decide +kernel) (by decide +kernel) (by decide) w_1242 w_20 thr_B_61.1 thr_B_61.2 d_B_feed_16 d_B_feed_19 d_B_feed_20 d_B_feed_23 rfl (Nat.le_of_ble_eq_true rfl) (Nat.le_add_left_of_le (by decide)) (Nat.le_of_ble_eq_true rfl) c7 c8 (hyp (xFix.mk F))
theorem d_B_feed_32 : decode prog_1_method_2_code 32 = .ok (.aload_n 0, 1) := by decide +kernel
theorem d_B_feed_33 : decode prog_1_method_2_code 33 = .ok (.getfield 10, 3) := by decide +kernel
theorem d_B_feed_36 : decode prog_1_method_2_code 36 = .ok (.iload_n 2, 1) := by decide +kernel
theorem d_B_feed_37 : decode prog_1_method_2_code 37 = .ok (.invokevirtual 62, 3) := by decide +kernel
theorem v_B_feed_32 {G : XG} {d : Nat} {h : XH} {Q : XV → XH → Prop} {X : Nat → XH → Prop} {x2 x3 x4 x5 : Int} (F : xFix h) (hyp : (xwp G m_Tape_append (d + 6) 0 [xR 1, xI x2, xZ] [] h (fun v9 h9 => xwp G m_B_feed (d + 7) 40 [xR 0, xZ, xZ, xI x3, xI x4, xI x5] (xpush v9 []) h9 Q X) X)) : xwp G m_B_feed (d + 7) 32 [xR 0, xZ, xI x2, xI x3, xI x4, xI x5] [] h Q X := by
  have hnx9 : (93 : Int) ≤ xnx h := F.2.2
  refine xr_okL (fun hl9 => ?_)
  have r_x2 : -2147483648 ≤ x2 ∧ x2 ≤ 2147483647 := hl9 (xI x2) (.tail _ (.tail _ (.head _))) (Nat.le_of_ble_eq_true rfl)
  have r_x3 : -2147483648 ≤ x3 ∧ x3 ≤ 2147483647 := hl9 (xI x3) (.tail _ (.tail _ (.tail _ (.head _)))) (Nat.le_of_ble_eq_true rfl)
  have r_x4 : -2147483648 ≤ x4 ∧ x4 ≤ 2147483647 := hl9 (xI x4) (.tail _ (.tail _ (.tail _ (.tail _ (.head _))))) (Nat.le_of_ble_eq_true rfl)
  have r_x5 : -2147483648 ≤ x5 ∧ x5 ≤ 2147483647 := hl9 (xI x5) (.tail _ (.tail _ (.tail _ (.tail _ (.tail _ (.head _)))))) (Nat.le_of_ble_eq_true rfl)
  refine xr_aload_n (pc := 32) (i := 0) (hI := d_B_feed_32) (hi := rfl) (hl := rfl) ?_
  refine xg_getf (pc := 33) (ci := 0) (k := 0) (N := 7) (v9 := 2) (v := 1) (T := xF0) (hI := d_B_feed_33) (hw := w_430) rfl xi0 (Or.inl rfl) (Nat.le_of_ble_eq_true rfl) (Nat.le_of_ble_eq_true rfl) rfl (ft_0 F) (fp_0_0 F) (fun f1_ => ?_)
  clear f1_
  refine xr_iload_n (pc := 36) (i := 2) (hI := d_B_feed_36) (hi := rfl) (hl := rfl) ?_
  exact xq_callV (pc := 37) (index := 62) (K := m_Tape_append) (As := [xI x2]) (S := []) (L0 := [xR 1, xI x2, xZ]) (hI := d_B_feed_37) (hK := k_Tape_append) (hlk := w_1346) (hnoM := rfl) (hS8 := Nat.le_of_ble_eq_true rfl) (ci := 8) (N := 7) (C := "BeaconIndex$Tape") (T := xF8) (hc := rfl) (hci := Nat.le_of_ble_eq_true rfl) (htb := (ft_1 F)) (hinst := w_1347) (hsel := w_1348) (hlen := Nat.le_of_ble_eq_true rfl) (hst := rfl) (hL0 := rfl)  (xwp_mono hyp (fun v9 h9 q9 => xr_drop (L9 := [xR 0, xZ, xZ, xI x3, xI x4, xI x5]) (xdrs (xdrs (xdrz (xdrs (xdrs (xdrs xdr0)))))) q9) (fun _ _ z9 => z9))
theorem d_B_feed_40 : decode prog_1_method_2_code 40 = .ok (.aload_n 0, 1) := by decide +kernel
theorem d_B_feed_41 : decode prog_1_method_2_code 41 = .ok (.getfield 10, 3) := by decide +kernel
theorem d_B_feed_44 : decode prog_1_method_2_code 44 = .ok (.iload_n 3, 1) := by decide +kernel
theorem d_B_feed_45 : decode prog_1_method_2_code 45 = .ok (.invokevirtual 62, 3) := by decide +kernel
theorem v_B_feed_40 {G : XG} {d : Nat} {h : XH} {Q : XV → XH → Prop} {X : Nat → XH → Prop} {x3 x4 x5 : Int} (F : xFix h) (hyp : (xwp G m_Tape_append (d + 6) 0 [xR 1, xI x3, xZ] [] h (fun v9 h9 => xwp G m_B_feed (d + 7) 48 [xR 0, xZ, xZ, xZ, xI x4, xI x5] (xpush v9 []) h9 Q X) X)) : xwp G m_B_feed (d + 7) 40 [xR 0, xZ, xZ, xI x3, xI x4, xI x5] [] h Q X := by
  have hnx9 : (93 : Int) ≤ xnx h := F.2.2
  refine xr_okL (fun hl9 => ?_)
  have r_x3 : -2147483648 ≤ x3 ∧ x3 ≤ 2147483647 := hl9 (xI x3) (.tail _ (.tail _ (.tail _ (.head _)))) (Nat.le_of_ble_eq_true rfl)
  have r_x4 : -2147483648 ≤ x4 ∧ x4 ≤ 2147483647 := hl9 (xI x4) (.tail _ (.tail _ (.tail _ (.tail _ (.head _))))) (Nat.le_of_ble_eq_true rfl)
  have r_x5 : -2147483648 ≤ x5 ∧ x5 ≤ 2147483647 := hl9 (xI x5) (.tail _ (.tail _ (.tail _ (.tail _ (.tail _ (.head _)))))) (Nat.le_of_ble_eq_true rfl)
  refine xr_aload_n (pc := 40) (i := 0) (hI := d_B_feed_40) (hi := rfl) (hl := rfl) ?_
  refine xg_getf (pc := 41) (ci := 0) (k := 0) (N := 7) (v9 := 2) (v := 1) (T := xF0) (hI := d_B_feed_41) (hw := w_430) rfl xi0 (Or.inl rfl) (Nat.le_of_ble_eq_true rfl) (Nat.le_of_ble_eq_true rfl) rfl (ft_0 F) (fp_0_0 F) (fun f1_ => ?_)
  clear f1_
  refine xr_iload_n (pc := 44) (i := 3) (hI := d_B_feed_44) (hi := rfl) (hl := rfl) ?_
  exact xq_callV (pc := 45) (index := 62) (K := m_Tape_append) (As := [xI x3]) (S := []) (L0 := [xR 1, xI x3, xZ]) (hI := d_B_feed_45) (hK := k_Tape_append) (hlk := w_1346) (hnoM := rfl) (hS8 := Nat.le_of_ble_eq_true rfl) (ci := 8) (N := 7) (C := "BeaconIndex$Tape") (T := xF8) (hc := rfl) (hci := Nat.le_of_ble_eq_true rfl) (htb := (ft_1 F)) (hinst := w_1347) (hsel := w_1348) (hlen := Nat.le_of_ble_eq_true rfl) (hst := rfl) (hL0 := rfl)  (xwp_mono hyp (fun v9 h9 q9 => xr_drop (L9 := [xR 0, xZ, xZ, xZ, xI x4, xI x5]) (xdrs (xdrs (xdrs (xdrz (xdrs (xdrs xdr0)))))) q9) (fun _ _ z9 => z9))
theorem d_B_feed_48 : decode prog_1_method_2_code 48 = .ok (.aload_n 0, 1) := by decide +kernel
theorem d_B_feed_49 : decode prog_1_method_2_code 49 = .ok (.getfield 10, 3) := by decide +kernel
theorem d_B_feed_52 : decode prog_1_method_2_code 52 = .ok (.iload 4, 2) := by decide +kernel
theorem d_B_feed_54 : decode prog_1_method_2_code 54 = .ok (.invokevirtual 62, 3) := by decide +kernel
theorem v_B_feed_48 {G : XG} {d : Nat} {h : XH} {Q : XV → XH → Prop} {X : Nat → XH → Prop} {x4 x5 : Int} (F : xFix h) (hyp : (xwp G m_Tape_append (d + 6) 0 [xR 1, xI x4, xZ] [] h (fun v9 h9 => xwp G m_B_feed (d + 7) 57 [xR 0, xZ, xZ, xZ, xZ, xI x5] (xpush v9 []) h9 Q X) X)) : xwp G m_B_feed (d + 7) 48 [xR 0, xZ, xZ, xZ, xI x4, xI x5] [] h Q X := by
  have hnx9 : (93 : Int) ≤ xnx h := F.2.2
  refine xr_okL (fun hl9 => ?_)
  have r_x4 : -2147483648 ≤ x4 ∧ x4 ≤ 2147483647 := hl9 (xI x4) (.tail _ (.tail _ (.tail _ (.tail _ (.head _))))) (Nat.le_of_ble_eq_true rfl)
  have r_x5 : -2147483648 ≤ x5 ∧ x5 ≤ 2147483647 := hl9 (xI x5) (.tail _ (.tail _ (.tail _ (.tail _ (.tail _ (.head _)))))) (Nat.le_of_ble_eq_true rfl)
  refine xr_aload_n (pc := 48) (i := 0) (hI := d_B_feed_48) (hi := rfl) (hl := rfl) ?_
  refine xg_getf (pc := 49) (ci := 0) (k := 0) (N := 7) (v9 := 2) (v := 1) (T := xF0) (hI := d_B_feed_49) (hw := w_430) rfl xi0 (Or.inl rfl) (Nat.le_of_ble_eq_true rfl) (Nat.le_of_ble_eq_true rfl) rfl (ft_0 F) (fp_0_0 F) (fun f1_ => ?_)
  clear f1_
  refine xr_iload (pc := 52) (i := 4) (hI := d_B_feed_52) (hl := rfl) ?_
  exact xq_callV (pc := 54) (index := 62) (K := m_Tape_append) (As := [xI x4]) (S := []) (L0 := [xR 1, xI x4, xZ]) (hI := d_B_feed_54) (hK := k_Tape_append) (hlk := w_1346) (hnoM := rfl) (hS8 := Nat.le_of_ble_eq_true rfl) (ci := 8) (N := 7) (C := "BeaconIndex$Tape") (T := xF8) (hc := rfl) (hci := Nat.le_of_ble_eq_true rfl) (htb := (ft_1 F)) (hinst := w_1347) (hsel := w_1348) (hlen := Nat.le_of_ble_eq_true rfl) (hst := rfl) (hL0 := rfl)  (xwp_mono hyp (fun v9 h9 q9 => xr_drop (L9 := [xR 0, xZ, xZ, xZ, xZ, xI x5]) (xdrs (xdrs (xdrs (xdrs (xdrz (xdrs xdr0)))))) q9) (fun _ _ z9 => z9))
theorem d_B_feed_57 : decode prog_1_method_2_code 57 = .ok (.aload_n 0, 1) := by decide +kernel
theorem d_B_feed_58 : decode prog_1_method_2_code 58 = .ok (.getfield 10, 3) := by decide +kernel
theorem d_B_feed_61 : decode prog_1_method_2_code 61 = .ok (.iload 5, 2) := by decide +kernel
theorem d_B_feed_63 : decode prog_1_method_2_code 63 = .ok (.invokevirtual 62, 3) := by decide +kernel
theorem v_B_feed_57 {G : XG} {d : Nat} {h : XH} {Q : XV → XH → Prop} {X : Nat → XH → Prop} {x5 : Int} (F : xFix h) (hyp : (xwp G m_Tape_append (d + 6) 0 [xR 1, xI x5, xZ] [] h (fun v9 h9 => xwp G m_B_feed (d + 7) 66 [xR 0, xZ, xZ, xZ, xZ, xZ] (xpush v9 []) h9 Q X) X)) : xwp G m_B_feed (d + 7) 57 [xR 0, xZ, xZ, xZ, xZ, xI x5] [] h Q X := by
  have hnx9 : (93 : Int) ≤ xnx h := F.2.2
  refine xr_okL (fun hl9 => ?_)
  have r_x5 : -2147483648 ≤ x5 ∧ x5 ≤ 2147483647 := hl9 (xI x5) (.tail _ (.tail _ (.tail _ (.tail _ (.tail _ (.head _)))))) (Nat.le_of_ble_eq_true rfl)
  refine xr_aload_n (pc := 57) (i := 0) (hI := d_B_feed_57) (hi := rfl) (hl := rfl) ?_
  refine xg_getf (pc := 58) (ci := 0) (k := 0) (N := 7) (v9 := 2) (v := 1) (T := xF0) (hI := d_B_feed_58) (hw := w_430) rfl xi0 (Or.inl rfl) (Nat.le_of_ble_eq_true rfl) (Nat.le_of_ble_eq_true rfl) rfl (ft_0 F) (fp_0_0 F) (fun f1_ => ?_)
  clear f1_
  refine xr_iload (pc := 61) (i := 5) (hI := d_B_feed_61) (hl := rfl) ?_
  exact xq_callV (pc := 63) (index := 62) (K := m_Tape_append) (As := [xI x5]) (S := []) (L0 := [xR 1, xI x5, xZ]) (hI := d_B_feed_63) (hK := k_Tape_append) (hlk := w_1346) (hnoM := rfl) (hS8 := Nat.le_of_ble_eq_true rfl) (ci := 8) (N := 7) (C := "BeaconIndex$Tape") (T := xF8) (hc := rfl) (hci := Nat.le_of_ble_eq_true rfl) (htb := (ft_1 F)) (hinst := w_1347) (hsel := w_1348) (hlen := Nat.le_of_ble_eq_true rfl) (hst := rfl) (hL0 := rfl)  (xwp_mono hyp (fun v9 h9 q9 => xr_drop (L9 := [xR 0, xZ, xZ, xZ, xZ, xZ]) (xdrs (xdrs (xdrs (xdrs (xdrs (xdrz xdr0)))))) q9) (fun _ _ z9 => z9))
theorem d_B_feed_66 : decode prog_1_method_2_code 66 = .ok (.aload_n 0, 1) := by decide +kernel
theorem d_B_feed_67 : decode prog_1_method_2_code 67 = .ok (.getfield 10, 3) := by decide +kernel
theorem d_B_feed_70 : decode prog_1_method_2_code 70 = .ok (.getfield 55, 3) := by decide +kernel
theorem d_B_feed_73 : decode prog_1_method_2_code 73 = .ok (.ireturn, 1) := by decide +kernel
theorem v_B_feed_66 {G : XG} {d : Nat} {h : XH} {Q : XV → XH → Prop} {X : Nat → XH → Prop} (F : xFix h) (hyp : (Q (xI (xpl h 1 3)) h)) : xwp G m_B_feed (d + 7) 66 [xR 0, xZ, xZ, xZ, xZ, xZ] [] h Q X := by
  have hnx9 : (93 : Int) ≤ xnx h := F.2.2
  refine xr_aload_n (pc := 66) (i := 0) (hI := d_B_feed_66) (hi := rfl) (hl := rfl) ?_
  refine xg_getf (pc := 67) (ci := 0) (k := 0) (N := 7) (v9 := 2) (v := 1) (T := xF0) (hI := d_B_feed_67) (hw := w_430) rfl xi0 (Or.inl rfl) (Nat.le_of_ble_eq_true rfl) (Nat.le_of_ble_eq_true rfl) rfl (ft_0 F) (fp_0_0 F) (fun f1_ => ?_)
  clear f1_
  refine xg_getf (pc := 70) (ci := 8) (k := 3) (N := 7) (v9 := 0) (v := (xpl h 1 3)) (T := xF8) (hI := d_B_feed_70) (hw := w_58) rfl xi8 (Or.inl rfl) (Nat.le_of_ble_eq_true rfl) (Nat.le_of_ble_eq_true rfl) rfl (ft_1 F) rfl (fun f2_ => ?_)
  replace f2_ : -2147483648 ≤ (xpl h 1 3) ∧ (xpl h 1 3) ≤ 2147483647 := f2_
  refine xr_ireturn (S := []) (pc := 73) (hI := d_B_feed_73) (hr := rfl) ?_
  exact hyp
abbrev m_B_trim : XM := (⟨"BeaconIndex", "trim", "(I)I"⟩, prog_1_method_3_code, 2, (some .int), [])
theorem d_B_trim_0 : decode prog_1_method_3_code 0 = .ok (.iload_n 1, 1) := by decide +kernel
theorem d_B_trim_1 : decode prog_1_method_3_code 1 = .ok (.ifCond .lt 14, 3) := by decide +kernel
theorem d_B_trim_15 : decode prog_1_method_3_code 15 = .ok (.new 66, 3) := by decide +kernel
theorem d_B_trim_18 : decode prog_1_method_3_code 18 = .ok (.dup, 1) := by decide +kernel
theorem d_B_trim_19 : decode prog_1_method_3_code 19 = .ok (.invokespecial 68, 3) := by decide +kernel
theorem d_B_trim_22 : decode prog_1_method_3_code 22 = .ok (.athrow, 1) := by decide +kernel
theorem w_1295 : Cond.classLink "BeaconIndex" 66 "java/lang/IllegalArgumentException" ∈ lw_tbl := List.mem_append_right _ (List.mem_of_getElem? (i := 1295) (by decide +kernel))
theorem w_21 : Cond.initialized "java/lang/IllegalArgumentException" ∈ lw_tbl := List.mem_append_right _ (List.mem_of_getElem? (i := 21) (by decide +kernel))
theorem thr_B_68 : (∀ w ∈ vx_at0 "BeaconIndex" 68 (xex 0) ["java/lang/RuntimeException", "java/lang/Exception"], w ∈ lw_tbl) ∧ (∀ w ∈ vx_at0 "BeaconIndex" 68 (xex 0) ["java/lang/RuntimeException", "java/lang/Exception"], xgw w = true) := by decide +kernel
theorem d_B_trim_4 : decode prog_1_method_3_code 4 = .ok (.iload_n 1, 1) := by decide +kernel
theorem d_B_trim_5 : decode prog_1_method_3_code 5 = .ok (.aload_n 0, 1) := by decide +kernel
theorem d_B_trim_6 : decode prog_1_method_3_code 6 = .ok (.getfield 10, 3) := by decide +kernel
theorem d_B_trim_9 : decode prog_1_method_3_code 9 = .ok (.getfield 55, 3) := by decide +kernel
theorem d_B_trim_12 : decode prog_1_method_3_code 12 = .ok (.if_icmp .le 11, 3) := by decide +kernel
theorem d_B_trim_23 : decode prog_1_method_3_code 23 = .ok (.aload_n 0, 1) := by decide +kernel
theorem d_B_trim_24 : decode prog_1_method_3_code 24 = .ok (.getfield 10, 3) := by decide +kernel
theorem d_B_trim_27 : decode prog_1_method_3_code 27 = .ok (.iload_n 1, 1) := by decide +kernel
theorem d_B_trim_28 : decode prog_1_method_3_code 28 = .ok (.putfield 55, 3) := by decide +kernel
theorem d_B_trim_31 : decode prog_1_method_3_code 31 = .ok (.iload_n 1, 1) := by decide +kernel
theorem d_B_trim_32 : decode prog_1_method_3_code 32 = .ok (.ireturn, 1) := by decide +kernel
theorem v_B_trim_0 {G : XG} {d : Nat} {h : XH} {Q : XV → XH → Prop} {X : Nat → XH → Prop} {x1 : Int} (F : xFix h) (hyp : ((x1 < 0 → xnx h + 1 ≤ xKC ∧ xsl h + 6 ≤ xKS ∧ (xFix (xmk h 300 6 (fun _ => 0)) → X 0 (xmk h 300 6 (fun _ => 0)))) ∧ (¬ x1 < 0 → ((x1 ≤ (xpl h 1 3) → (xFix (xst h 1 3 x1) → Q (xI x1) (xst h 1 3 x1))) ∧ (¬ x1 ≤ (xpl h 1 3) → xnx h + 1 ≤ xKC ∧ xsl h + 6 ≤ xKS ∧ (xFix (xmk h 300 6 (fun _ => 0)) → X 0 (xmk h 300 6 (fun _ => 0)))))))) : xwp G m_B_trim (d + 7) 0 [xR 0, xI x1] [] h Q X := by
  have hnx9 : (93 : Int) ≤ xnx h := F.2.2
  refine xr_okL (fun hl9 => ?_)
  have r_x1 : -2147483648 ≤ x1 ∧ x1 ≤ 2147483647 := hl9 (xI x1) (.tail _ (.head _)) (Nat.le_of_ble_eq_true rfl)
  refine xr_iload_n (pc := 0) (i := 1) (hI := d_B_trim_0) (hi := rfl) (hl := rfl) ?_
  refine xr_if_lt (pc := 1) (tgt := 15) (hI := d_B_trim_1) (ht := by decide) (fun q9 => ?_) (fun q9 => ?_)
  · replace hyp := hyp.1 q9
    have q1_ := q9
    clear q9
    obtain ⟨c7, c8, hyp⟩ := hyp
    exact xr_throw (pc := 15) (k := 0) (ik := 66) (ic := 68) (names := ["java/lang/RuntimeException", "java/lang/Exception"]) (by decide +kernel) (by decide +kernel) (by decide) w_1295 w_21 thr_B_68.1 thr_B_68.2 d_B_trim_15 d_B_trim_18 d_B_trim_19 d_B_trim_22 rfl (Nat.le_of_ble_eq_true rfl) (Nat.le_add_left_of_le (by decide)) (Nat.le_of_ble_eq_true rfl) c7 c8 (hyp (xFix.mk F))
  · replace hyp := hyp.2 q9
    have q1_ := q9
    clear q9
    refine xr_iload_n (pc := 4) (i := 1) (hI := d_B_trim_4) (hi := rfl) (hl := rfl) ?_
    refine xr_aload_n (pc := 5) (i := 0) (hI := d_B_trim_5) (hi := rfl) (hl := rfl) ?_
    refine xg_getf (pc := 6) (ci := 0) (k := 0) (N := 7) (v9 := 2) (v := 1) (T := xF0) (hI := d_B_trim_6) (hw := w_430) rfl xi0 (Or.inl rfl) (Nat.le_of_ble_eq_true rfl) (Nat.le_of_ble_eq_true rfl) rfl (ft_0 F) (fp_0_0 F) (fun f2_ => ?_)
    clear f2_
    refine xg_getf (pc := 9) (ci := 8) (k := 3) (N := 7) (v9 := 0) (v := (xpl h 1 3)) (T := xF8) (hI := d_B_trim_9) (hw := w_58) rfl xi8 (Or.inl rfl) (Nat.le_of_ble_eq_true rfl) (Nat.le_of_ble_eq_true rfl) rfl (ft_1 F) rfl (fun f3_ => ?_)
    replace f3_ : -2147483648 ≤ (xpl h 1 3) ∧ (xpl h 1 3) ≤ 2147483647 := f3_
    refine xr_icmp_le (pc := 12) (tgt := 23) (hI := d_B_trim_12) (ht := by decide) (fun q9 => ?_) (fun q9 => ?_)
    · replace hyp := hyp.1 q9
      have q4_ := q9
      clear q9
      refine xr_aload_n (pc := 23) (i := 0) (hI := d_B_trim_23) (hi := rfl) (hl := rfl) ?_
      refine xg_getf (pc := 24) (ci := 0) (k := 0) (N := 7) (v9 := 2) (v := 1) (T := xF0) (hI := d_B_trim_24) (hw := w_430) rfl xi0 (Or.inl rfl) (Nat.le_of_ble_eq_true rfl) (Nat.le_of_ble_eq_true rfl) rfl (ft_0 F) (fp_0_0 F) (fun f5_ => ?_)
      clear f5_
      refine xr_iload_n (pc := 27) (i := 1) (hI := d_B_trim_27) (hi := rfl) (hl := rfl) ?_
      refine xr_putf (pc := 28) (ci := 8) (k := 3) (N := 7) (v9 := 0) (T := xF8) (tF := xT8) (hI := d_B_trim_28) (hw := w_58) rfl xi8 xt8 xn8 (Or.inl rfl) (Nat.le_of_ble_eq_true rfl) (Nat.le_of_ble_eq_true rfl) rfl xfit_i rfl (ft_1 F) (by decide) (fun z => z) ?_
      have F6_ : xFix (xst h 1 3 x1) := F.stL xfk_1_3
      refine xr_iload_n (pc := 31) (i := 1) (hI := d_B_trim_31) (hi := rfl) (hl := rfl) ?_
      refine xr_ireturn (S := []) (pc := 32) (hI := d_B_trim_32) (hr := rfl) ?_
      exact hyp F6_
    · replace hyp := hyp.2 q9
      have q4_ := q9
      clear q9
      obtain ⟨c7, c8, hyp⟩ := hyp
      exact xr_throw (pc := 15) (k := 0) (ik := 66) (ic := 68) (names := ["java/lang/RuntimeException", "java/lang/Exception"]) (by decide +kernel) (by decide +kernel) (by decide) w_1295 w_21 thr_B_68.1 thr_B_68.2 d_B_trim_15 d_B_trim_18 d_B_trim_19 d_B_trim_22 rfl (Nat.le_of_ble_eq_true rfl) (Nat.le_add_left_of_le (by decide)) (Nat.le_of_ble_eq_true rfl) c7 c8 (hyp (xFix.mk F))
abbrev m_B_add : XM := (⟨"BeaconIndex", "add", "(III)I"⟩, prog_1_method_4_code, 7, (some .int), [])
theorem d_B_add_0 : decode prog_1_method_4_code 0 = .ok (.iload_n 1, 1) := by decide +kernel
theorem d_B_add_1 : decode prog_1_method_4_code 1 = .ok (.invokestatic 69, 3) := by decide +kernel
abbrev m_B_checkKey : XM := (⟨"BeaconIndex", "checkKey", "(I)V"⟩, prog_1_method_43_code, 1, none, [])
theorem w_1 : Cond.initialized "BeaconIndex" ∈ lw_tbl := List.mem_append_right _ (List.mem_of_getElem? (i := 1) (by decide +kernel))
theorem k_B_checkKey : xCal m_B_checkKey 1 := ⟨List.mem_append_right _ (List.mem_of_getElem? (i := 1294) (by decide +kernel)), w_1, Nat.le_of_ble_eq_true rfl, ⟨by decide +kernel, by decide +kernel⟩, by decide +kernel, by decide +kernel, rfl⟩
theorem w_1292 : Cond.methodLink "BeaconIndex" 69 ⟨"BeaconIndex", "checkKey", "(I)V"⟩ ∈ lw_tbl := List.mem_append_right _ (List.mem_of_getElem? (i := 1292) (by decide +kernel))
theorem w_1293 : Cond.static ⟨"BeaconIndex", "checkKey", "(I)V"⟩ ∈ lw_tbl := List.mem_append_right _ (List.mem_of_getElem? (i := 1293) (by decide +kernel))
theorem d_B_checkKey_0 : decode prog_1_method_43_code 0 = .ok (.iload_n 0, 1) := by decide +kernel
theorem d_B_checkKey_1 : decode prog_1_method_43_code 1 = .ok (.ifCond .lt 9, 3) := by decide +kernel
theorem d_B_checkKey_10 : decode prog_1_method_43_code 10 = .ok (.new 66, 3) := by decide +kernel
theorem d_B_checkKey_13 : decode prog_1_method_43_code 13 = .ok (.dup, 1) := by decide +kernel
theorem d_B_checkKey_14 : decode prog_1_method_43_code 14 = .ok (.invokespecial 68, 3) := by decide +kernel
theorem d_B_checkKey_17 : decode prog_1_method_43_code 17 = .ok (.athrow, 1) := by decide +kernel
theorem d_B_checkKey_4 : decode prog_1_method_43_code 4 = .ok (.iload_n 0, 1) := by decide +kernel
theorem d_B_checkKey_5 : decode prog_1_method_43_code 5 = .ok (.bipush 100, 2) := by decide +kernel
theorem d_B_checkKey_7 : decode prog_1_method_43_code 7 = .ok (.if_icmp .lt 11, 3) := by decide +kernel
theorem d_B_checkKey_18 : decode prog_1_method_43_code 18 = .ok (.return_, 1) := by decide +kernel
theorem d_B_add_4 : decode prog_1_method_4_code 4 = .ok (.iload_n 2, 1) := by decide +kernel
theorem d_B_add_5 : decode prog_1_method_4_code 5 = .ok (.ifCond .lt 20, 3) := by decide +kernel
theorem d_B_add_25 : decode prog_1_method_4_code 25 = .ok (.new 66, 3) := by decide +kernel
theorem d_B_add_28 : decode prog_1_method_4_code 28 = .ok (.dup, 1) := by decide +kernel
theorem d_B_add_29 : decode prog_1_method_4_code 29 = .ok (.invokespecial 68, 3) := by decide +kernel
theorem d_B_add_32 : decode prog_1_method_4_code 32 = .ok (.athrow, 1) := by decide +kernel
theorem d_B_add_8 : decode prog_1_method_4_code 8 = .ok (.iload_n 2, 1) := by decide +kernel
theorem d_B_add_9 : decode prog_1_method_4_code 9 = .ok (.bipush 8, 2) := by decide +kernel
theorem d_B_add_11 : decode prog_1_method_4_code 11 = .ok (.if_icmp .ge 14, 3) := by decide +kernel
theorem d_B_add_14 : decode prog_1_method_4_code 14 = .ok (.iload_n 3, 1) := by decide +kernel
theorem d_B_add_15 : decode prog_1_method_4_code 15 = .ok (.ifCond .lt 10, 3) := by decide +kernel
theorem d_B_add_18 : decode prog_1_method_4_code 18 = .ok (.iload_n 3, 1) := by decide +kernel
theorem d_B_add_19 : decode prog_1_method_4_code 19 = .ok (.sipush 1000, 3) := by decide +kernel
theorem d_B_add_22 : decode prog_1_method_4_code 22 = .ok (.if_icmp .lt 11, 3) := by decide +kernel
theorem d_B_add_33 : decode prog_1_method_4_code 33 = .ok (.aload_n 0, 1) := by decide +kernel
theorem d_B_add_34 : decode prog_1_method_4_code 34 = .ok (.getfield 19, 3) := by decide +kernel
theorem w_431 : Cond.fieldLink "BeaconIndex" 19 "BeaconIndex" "store" "LBeaconIndex$Store;" ∈ lw_tbl := List.mem_append_right _ (List.mem_of_getElem? (i := 431) (by decide +kernel))
theorem d_B_add_37 : decode prog_1_method_4_code 37 = .ok (.iload_n 1, 1) := by decide +kernel
theorem d_B_add_38 : decode prog_1_method_4_code 38 = .ok (.invokevirtual 72, 3) := by decide +kernel
theorem w_1365 : Cond.methodLink "BeaconIndex" 72 ⟨"BeaconIndex$Store", "placeInBuffer", "(I)I"⟩ ∈ lw_tbl := List.mem_append_right _ (List.mem_of_getElem? (i := 1365) (by decide +kernel))
theorem d_B_add_41 : decode prog_1_method_4_code 41 = .ok (.iconst (-1), 1) := by decide +kernel
theorem d_B_add_42 : decode prog_1_method_4_code 42 = .ok (.if_icmp .eq 7, 3) := by decide +kernel
theorem d_B_add_49 : decode prog_1_method_4_code 49 = .ok (.iconst 0, 1) := by decide +kernel
theorem d_B_add_45 : decode prog_1_method_4_code 45 = .ok (.iconst 1, 1) := by decide +kernel
theorem d_B_add_46 : decode prog_1_method_4_code 46 = .ok (.goto 4, 3) := by decide +kernel
theorem v_B_add_0 {G : XG} {d : Nat} {h : XH} {Q : XV → XH → Prop} {X : Nat → XH → Prop} {x1 x2 x3 : Int} (F : xFix h) (hyp : ((x1 < 0 → xnx h + 1 ≤ xKC ∧ xsl h + 6 ≤ xKS ∧ (xFix (xmk h 300 6 (fun _ => 0)) → X 0 (xmk h 300 6 (fun _ => 0)))) ∧ (¬ x1 < 0 → ((x1 < 100 → ((x2 < 0 → xnx h + 1 ≤ xKC ∧ xsl h + 6 ≤ xKS ∧ (xFix (xmk h 300 6 (fun _ => 0)) → X 0 (xmk h 300 6 (fun _ => 0)))) ∧ (¬ x2 < 0 → (((8 : Int) ≤ x2 → xnx h + 1 ≤ xKC ∧ xsl h + 6 ≤ xKS ∧ (xFix (xmk h 300 6 (fun _ => 0)) → X 0 (xmk h 300 6 (fun _ => 0)))) ∧ (¬ (8 : Int) ≤ x2 → ((x3 < 0 → xnx h + 1 ≤ xKC ∧ xsl h + 6 ≤ xKS ∧ (xFix (xmk h 300 6 (fun _ => 0)) → X 0 (xmk h 300 6 (fun _ => 0)))) ∧ (¬ x3 < 0 → ((x3 < 1000 → stok h ∧ (((kidx (bufL h) x1) = (-1) → (xwp G m_B_add (d + 10) 50 [xR 0, xI x1, xI x2, xI x3, xZ, xZ, xZ] [xI 0] h Q X)) ∧ (¬ (kidx (bufL h) x1) = (-1) → (xwp G m_B_add (d + 10) 50 [xR 0, xI x1, xI x2, xI x3, xZ, xZ, xZ] [xI 1] h Q X)))) ∧ (¬ x3 < 1000 → xnx h + 1 ≤ xKC ∧ xsl h + 6 ≤ xKS ∧ (xFix (xmk h 300 6 (fun _ => 0)) → X 0 (xmk h 300 6 (fun _ => 0)))))))))))) ∧ (¬ x1 < 100 → xnx h + 1 ≤ xKC ∧ xsl h + 6 ≤ xKS ∧ (xFix (xmk h 300 6 (fun _ => 0)) → X 0 (xmk h 300 6 (fun _ => 0)))))))) : xwp G m_B_add (d + 10) 0 [xR 0, xI x1, xI x2, xI x3, xZ, xZ, xZ] [] h Q X := by
  have hnx9 : (93 : Int) ≤ xnx h := F.2.2
  refine xr_okL (fun hl9 => ?_)
  have r_x1 : -2147483648 ≤ x1 ∧ x1 ≤ 2147483647 := hl9 (xI x1) (.tail _ (.head _)) (Nat.le_of_ble_eq_true rfl)
  have r_x2 : -2147483648 ≤ x2 ∧ x2 ≤ 2147483647 := hl9 (xI x2) (.tail _ (.tail _ (.head _))) (Nat.le_of_ble_eq_true rfl)
  have r_x3 : -2147483648 ≤ x3 ∧ x3 ≤ 2147483647 := hl9 (xI x3) (.tail _ (.tail _ (.tail _ (.head _)))) (Nat.le_of_ble_eq_true rfl)
  refine xr_iload_n (pc := 0) (i := 1) (hI := d_B_add_0) (hi := rfl) (hl := rfl) ?_
  refine xq_callS (pc := 1) (index := 69) (K := m_B_checkKey) (As := [xI x1]) (S := []) (L0 := [xI x1]) (hI := d_B_add_1) (hK := k_B_checkKey) (hlk := w_1292) (hnoM := rfl) (hS8 := Nat.le_of_ble_eq_true rfl) (hstat := w_1293) (hlen := Nat.le_of_ble_eq_true rfl) (hst := rfl) (hL0 := rfl)  ?_
  refine xr_iload_n (pc := 0) (i := 0) (hI := d_B_checkKey_0) (hi := rfl) (hl := rfl) ?_
  refine xr_if_lt (pc := 1) (tgt := 10) (hI := d_B_checkKey_1) (ht := by decide) (fun q9 => ?_) (fun q9 => ?_)
  · replace hyp := hyp.1 q9
    have q1_ := q9
    clear q9
    obtain ⟨c7, c8, hyp⟩ := hyp
    exact xr_throw (pc := 10) (k := 0) (ik := 66) (ic := 68) (names := ["java/lang/RuntimeException", "java/lang/Exception"]) (by decide +kernel) (by decide +kernel) (by decide) w_1295 w_21 thr_B_68.1 thr_B_68.2 d_B_checkKey_10 d_B_checkKey_13 d_B_checkKey_14 d_B_checkKey_17 rfl (Nat.le_of_ble_eq_true rfl) (Nat.le_add_left_of_le (by decide)) (Nat.le_of_ble_eq_true rfl) c7 c8 (hyp (xFix.mk F))
  · replace hyp := hyp.2 q9
    have q1_ := q9
    clear q9
    refine xr_iload_n (pc := 4) (i := 0) (hI := d_B_checkKey_4) (hi := rfl) (hl := rfl) ?_
    refine xr_bipush (pc := 5) (hI := d_B_checkKey_5) (hr := by decide) (hv := by decide) ?_
    refine xr_icmp_lt (pc := 7) (tgt := 18) (hI := d_B_checkKey_7) (ht := by decide) (fun q9 => ?_) (fun q9 => ?_)
    · replace hyp := hyp.1 q9
      have q2_ := q9
      clear q9
      refine xr_return (S := []) (pc := 18) (hI := d_B_checkKey_18) (hr := rfl) ?_
      show xwp G m_B_add (d + 10) 4 [xR 0, xI x1, xI x2, xI x3, xZ, xZ, xZ] [] _ _ _
      refine xr_iload_n (pc := 4) (i := 2) (hI := d_B_add_4) (hi := rfl) (hl := rfl) ?_
      refine xr_if_lt (pc := 5) (tgt := 25) (hI := d_B_add_5) (ht := by decide) (fun q9 => ?_) (fun q9 => ?_)
      · replace hyp := hyp.1 q9
        have q3_ := q9
        clear q9
        obtain ⟨c7, c8, hyp⟩ := hyp
        exact xr_throw (pc := 25) (k := 0) (ik := 66) (ic := 68) (names := ["java/lang/RuntimeException", "java/lang/Exception"]) (by decide +kernel) (by decide +kernel) (by decide) w_1295 w_21 thr_B_68.1 thr_B_68.2 d_B_add_25 d_B_add_28 d_B_add_29 d_B_add_32 rfl (Nat.le_of_ble_eq_true rfl) (Nat.le_add_left_of_le (by decide)) (Nat.le_of_ble_eq_true rfl) c7 c8 (hyp (xFix.mk F))
      · replace hyp := hyp.2 q9
        have q3_ := q9
        clear q9
        refine xr_iload_n (pc := 8) (i := 2) (hI := d_B_add_8) (hi := rfl) (hl := rfl) ?_
        refine xr_bipush (pc := 9) (hI := d_B_add_9) (hr := by decide) (hv := by decide) ?_
        refine xr_icmp_ge (pc := 11) (tgt := 25) (hI := d_B_add_11) (ht := by decide) (fun q9 => ?_) (fun q9 => ?_)
        · replace hyp := hyp.1 q9
          have q4_ := q9
          clear q9
          obtain ⟨c7, c8, hyp⟩ := hyp
          exact xr_throw (pc := 25) (k := 0) (ik := 66) (ic := 68) (names := ["java/lang/RuntimeException", "java/lang/Exception"]) (by decide +kernel) (by decide +kernel) (by decide) w_1295 w_21 thr_B_68.1 thr_B_68.2 d_B_add_25 d_B_add_28 d_B_add_29 d_B_add_32 rfl (Nat.le_of_ble_eq_true rfl) (Nat.le_add_left_of_le (by decide)) (Nat.le_of_ble_eq_true rfl) c7 c8 (hyp (xFix.mk F))
        · replace hyp := hyp.2 q9
          have q4_ := q9
          clear q9
          refine xr_iload_n (pc := 14) (i := 3) (hI := d_B_add_14) (hi := rfl) (hl := rfl) ?_
          refine xr_if_lt (pc := 15) (tgt := 25) (hI := d_B_add_15) (ht := by decide) (fun q9 => ?_) (fun q9 => ?_)
          · replace hyp := hyp.1 q9
            have q5_ := q9
            clear q9
            obtain ⟨c7, c8, hyp⟩ := hyp
            exact xr_throw (pc := 25) (k := 0) (ik := 66) (ic := 68) (names := ["java/lang/RuntimeException", "java/lang/Exception"]) (by decide +kernel) (by decide +kernel) (by decide) w_1295 w_21 thr_B_68.1 thr_B_68.2 d_B_add_25 d_B_add_28 d_B_add_29 d_B_add_32 rfl (Nat.le_of_ble_eq_true rfl) (Nat.le_add_left_of_le (by decide)) (Nat.le_of_ble_eq_true rfl) c7 c8 (hyp (xFix.mk F))
          · replace hyp := hyp.2 q9
            have q5_ := q9
            clear q9
            refine xr_iload_n (pc := 18) (i := 3) (hI := d_B_add_18) (hi := rfl) (hl := rfl) ?_
            refine xr_sipush (pc := 19) (hI := d_B_add_19) (hr := by decide) (hv := by decide) ?_
            refine xr_icmp_lt (pc := 22) (tgt := 33) (hI := d_B_add_22) (ht := by decide) (fun q9 => ?_) (fun q9 => ?_)
            · replace hyp := hyp.1 q9
              have q6_ := q9
              clear q9
              refine xr_aload_n (pc := 33) (i := 0) (hI := d_B_add_33) (hi := rfl) (hl := rfl) ?_
              refine xg_getf (pc := 34) (ci := 0) (k := 1) (N := 7) (v9 := 2) (v := 5) (T := xF0) (hI := d_B_add_34) (hw := w_431) rfl xi0 (Or.inl rfl) (Nat.le_of_ble_eq_true rfl) (Nat.le_of_ble_eq_true rfl) rfl (ft_0 F) (fp_0_1 F) (fun f7_ => ?_)
              clear f7_
              refine xr_iload_n (pc := 37) (i := 1) (hI := d_B_add_37) (hi := rfl) (hl := rfl) ?_
              obtain ⟨c8_, hyp⟩ := hyp
              refine xq_callV (pc := 38) (index := 72) (K := m_Store_placeInBuffer) (As := [xI x1]) (S := []) (L0 := [xR 5, xI x1, xZ]) (hI := d_B_add_38) (hK := k_Store_placeInBuffer) (hlk := w_1365) (hnoM := rfl) (hS8 := Nat.le_of_ble_eq_true rfl) (ci := 7) (N := 6) (C := "BeaconIndex$Store") (T := xF7) (hc := rfl) (hci := Nat.le_of_ble_eq_true rfl) (htb := (ft_5 F)) (hinst := w_1366) (hsel := w_1367) (hlen := Nat.le_of_ble_eq_true rfl) (hst := rfl) (hL0 := rfl)  (p_Store_placeInBuffer F c8_ ?_)
              show xwp G m_B_add (d + 10) 41 [xR 0, xI x1, xI x2, xI x3, xZ, xZ, xZ] [xI (kidx (bufL h) x1)] _ _ _
              have f9_ : -1 ≤ (kidx (bufL h) x1) := (idxI_rng _ _).1
              have f10_ : (kidx (bufL h) x1) < als h 6 := kidx_lt c8_ _
              refine xr_iconst (pc := 41) (hI := d_B_add_41) (hr := by decide) ?_
              refine xr_icmp_eq (pc := 42) (tgt := 49) (hI := d_B_add_42) (ht := by decide) (fun q9 => ?_) (fun q9 => ?_)
              · replace hyp := hyp.1 q9
                have q11_ := q9
                clear q9
                refine xr_iconst (pc := 49) (hI := d_B_add_49) (hr := by decide) ?_
                exact hyp
              · replace hyp := hyp.2 q9
                have q11_ := q9
                clear q9
                refine xr_iconst (pc := 45) (hI := d_B_add_45) (hr := by decide) ?_
                refine xr_goto (pc := 46) (tgt := 50) (hI := d_B_add_46) (ht := by decide) ?_
                exact hyp
            · replace hyp := hyp.2 q9
              have q6_ := q9
              clear q9
              obtain ⟨c7, c8, hyp⟩ := hyp
              exact xr_throw (pc := 25) (k := 0) (ik := 66) (ic := 68) (names := ["java/lang/RuntimeException", "java/lang/Exception"]) (by decide +kernel) (by decide +kernel) (by decide) w_1295 w_21 thr_B_68.1 thr_B_68.2 d_B_add_25 d_B_add_28 d_B_add_29 d_B_add_32 rfl (Nat.le_of_ble_eq_true rfl) (Nat.le_add_left_of_le (by decide)) (Nat.le_of_ble_eq_true rfl) c7 c8 (hyp (xFix.mk F))
    · replace hyp := hyp.2 q9
      have q2_ := q9
      clear q9
      obtain ⟨c7, c8, hyp⟩ := hyp
      exact xr_throw (pc := 10) (k := 0) (ik := 66) (ic := 68) (names := ["java/lang/RuntimeException", "java/lang/Exception"]) (by decide +kernel) (by decide +kernel) (by decide) w_1295 w_21 thr_B_68.1 thr_B_68.2 d_B_checkKey_10 d_B_checkKey_13 d_B_checkKey_14 d_B_checkKey_17 rfl (Nat.le_of_ble_eq_true rfl) (Nat.le_add_left_of_le (by decide)) (Nat.le_of_ble_eq_true rfl) c7 c8 (hyp (xFix.mk F))
theorem d_B_add_50 : decode prog_1_method_4_code 50 = .ok (.istore 4, 2) := by decide +kernel
theorem d_B_add_52 : decode prog_1_method_4_code 52 = .ok (.aload_n 0, 1) := by decide +kernel
theorem d_B_add_53 : decode prog_1_method_4_code 53 = .ok (.getfield 19, 3) := by decide +kernel
theorem d_B_add_56 : decode prog_1_method_4_code 56 = .ok (.invokevirtual 76, 3) := by decide +kernel
theorem k_Store_textCount : xCal m_Store_textCount 0 := ⟨List.mem_append_right _ (List.mem_of_getElem? (i := 769) (by decide +kernel)), w_3, Nat.le_of_ble_eq_true rfl, ⟨by decide +kernel, by decide +kernel⟩, by decide +kernel, by decide +kernel, rfl⟩
theorem w_766 : Cond.methodLink "BeaconIndex" 76 ⟨"BeaconIndex$Store", "textCount", "()I"⟩ ∈ lw_tbl := List.mem_append_right _ (List.mem_of_getElem? (i := 766) (by decide +kernel))
theorem w_767 : Cond.instanceMethod ⟨"BeaconIndex$Store", "textCount", "()I"⟩ ∈ lw_tbl := List.mem_append_right _ (List.mem_of_getElem? (i := 767) (by decide +kernel))
theorem w_768 : Cond.selects "BeaconIndex$Store" ⟨"BeaconIndex$Store", "textCount", "()I"⟩ ⟨"BeaconIndex$Store", "textCount", "()I"⟩ ∈ lw_tbl := List.mem_append_right _ (List.mem_of_getElem? (i := 768) (by decide +kernel))
theorem d_B_add_59 : decode prog_1_method_4_code 59 = .ok (.bipush 60, 2) := by decide +kernel
theorem d_B_add_61 : decode prog_1_method_4_code 61 = .ok (.if_icmp .lt 16, 3) := by decide +kernel
theorem d_B_add_77 : decode prog_1_method_4_code 77 = .ok (.aload_n 0, 1) := by decide +kernel
theorem d_B_add_78 : decode prog_1_method_4_code 78 = .ok (.getfield 10, 3) := by decide +kernel
theorem d_B_add_81 : decode prog_1_method_4_code 81 = .ok (.bipush 124, 2) := by decide +kernel
theorem d_B_add_83 : decode prog_1_method_4_code 83 = .ok (.invokevirtual 80, 3) := by decide +kernel
theorem k_Tape_firstPlaceOf : xCal m_Tape_firstPlaceOf 1 := ⟨List.mem_append_right _ (List.mem_of_getElem? (i := 1372) (by decide +kernel)), w_2, Nat.le_of_ble_eq_true rfl, ⟨by decide +kernel, by decide +kernel⟩, by decide +kernel, by decide +kernel, rfl⟩
theorem w_1369 : Cond.methodLink "BeaconIndex" 80 ⟨"BeaconIndex$Tape", "firstPlaceOf", "(I)I"⟩ ∈ lw_tbl := List.mem_append_right _ (List.mem_of_getElem? (i := 1369) (by decide +kernel))
theorem w_1370 : Cond.instanceMethod ⟨"BeaconIndex$Tape", "firstPlaceOf", "(I)I"⟩ ∈ lw_tbl := List.mem_append_right _ (List.mem_of_getElem? (i := 1370) (by decide +kernel))
theorem w_1371 : Cond.selects "BeaconIndex$Tape" ⟨"BeaconIndex$Tape", "firstPlaceOf", "(I)I"⟩ ⟨"BeaconIndex$Tape", "firstPlaceOf", "(I)I"⟩ ∈ lw_tbl := List.mem_append_right _ (List.mem_of_getElem? (i := 1371) (by decide +kernel))
theorem d_B_add_64 : decode prog_1_method_4_code 64 = .ok (.iload 4, 2) := by decide +kernel
theorem d_B_add_66 : decode prog_1_method_4_code 66 = .ok (.ifCond .ne 11, 3) := by decide +kernel
theorem d_B_add_69 : decode prog_1_method_4_code 69 = .ok (.new 59, 3) := by decide +kernel
theorem d_B_add_72 : decode prog_1_method_4_code 72 = .ok (.dup, 1) := by decide +kernel
theorem d_B_add_73 : decode prog_1_method_4_code 73 = .ok (.invokespecial 61, 3) := by decide +kernel
theorem d_B_add_76 : decode prog_1_method_4_code 76 = .ok (.athrow, 1) := by decide +kernel
theorem v_B_add_50 {G : XG} {d : Nat} {h : XH} {Q : XV → XH → Prop} {X : Nat → XH → Prop} {x1 x2 x3 s0 : Int} (F : xFix h) (hyp : stok h ∧ ((((als h 6) + (als h 7)) < 60 → (xwp G m_Tape_firstPlaceOf (d + 9) 0 [xR 1, xI 124, xZ] [] h (fun v9 h9 => xwp G m_B_add (d + 10) 86 [xR 0, xI x1, xI x2, xI x3, xZ, xZ, xZ] (xpush v9 []) h9 Q X) X)) ∧ (¬ ((als h 6) + (als h 7)) < 60 → ((s0 = 0 → xnx h + 1 ≤ xKC ∧ xsl h + 6 ≤ xKS ∧ (xFix (xmk h 300 6 (fun _ => 0)) → X 1 (xmk h 300 6 (fun _ => 0)))) ∧ (¬ s0 = 0 → (xwp G m_Tape_firstPlaceOf (d + 9) 0 [xR 1, xI 124, xZ] [] h (fun v9 h9 => xwp G m_B_add (d + 10) 86 [xR 0, xI x1, xI x2, xI x3, xZ, xZ, xZ] (xpush v9 []) h9 Q X) X)))))) : xwp G m_B_add (d + 10) 50 [xR 0, xI x1, xI x2, xI x3, xZ, xZ, xZ] [xI s0] h Q X := by
  have hnx9 : (93 : Int) ≤ xnx h := F.2.2
  refine xr_okL (fun hl9 => ?_)
  have r_x1 : -2147483648 ≤ x1 ∧ x1 ≤ 2147483647 := hl9 (xI x1) (.tail _ (.head _)) (Nat.le_of_ble_eq_true rfl)
  have r_x2 : -2147483648 ≤ x2 ∧ x2 ≤ 2147483647 := hl9 (xI x2) (.tail _ (.tail _ (.head _))) (Nat.le_of_ble_eq_true rfl)
  have r_x3 : -2147483648 ≤ x3 ∧ x3 ≤ 2147483647 := hl9 (xI x3) (.tail _ (.tail _ (.tail _ (.head _)))) (Nat.le_of_ble_eq_true rfl)
  refine xr_okS (fun hs9 => ?_)
  have r_s0 : -2147483648 ≤ s0 ∧ s0 ≤ 2147483647 := hs9 (xI s0) (.head _)
  refine xr_istore (pc := 50) (i := 4) (L9 := [xR 0, xI x1, xI x2, xI x3, xI s0, xZ, xZ]) (hI := d_B_add_50) (hn := Nat.le_of_ble_eq_true rfl) (hL9 := rfl) ?_
  refine xr_aload_n (pc := 52) (i := 0) (hI := d_B_add_52) (hi := rfl) (hl := rfl) ?_
  refine xg_getf (pc := 53) (ci := 0) (k := 1) (N := 7) (v9 := 2) (v := 5) (T := xF0) (hI := d_B_add_53) (hw := w_431) rfl xi0 (Or.inl rfl) (Nat.le_of_ble_eq_true rfl) (Nat.le_of_ble_eq_true rfl) rfl (ft_0 F) (fp_0_1 F) (fun f1_ => ?_)
  clear f1_
  obtain ⟨c2_, hyp⟩ := hyp
  refine xq_callV (pc := 56) (index := 76) (K := m_Store_textCount) (As := []) (S := []) (L0 := [xR 5]) (hI := d_B_add_56) (hK := k_Store_textCount) (hlk := w_766) (hnoM := rfl) (hS8 := Nat.le_of_ble_eq_true rfl) (ci := 7) (N := 6) (C := "BeaconIndex$Store") (T := xF7) (hc := rfl) (hci := Nat.le_of_ble_eq_true rfl) (htb := (ft_5 F)) (hinst := w_767) (hsel := w_768) (hlen := Nat.le_of_ble_eq_true rfl) (hst := rfl) (hL0 := rfl)  (p_Store_textCount F c2_ ?_)
  show xwp G m_B_add (d + 10) 59 [xR 0, xI x1, xI x2, xI x3, xI s0, xZ, xZ] [xI ((als h 6) + (als h 7))] _ _ _
  have f3_ : 0 ≤ (als h 6) ∧ (als h 6) ≤ 60 := ⟨c2_.1.2.2.1, c2_.2.2.2.2.2.2.1⟩
  have f4_ : 0 ≤ (als h 7) ∧ (als h 7) ≤ 60 := ⟨c2_.2.1.2.2.1, c2_.2.2.2.2.2.2.2⟩
  refine xr_bipush (pc := 59) (hI := d_B_add_59) (hr := by decide) (hv := by decide) ?_
  refine xr_icmp_lt (pc := 61) (tgt := 77) (hI := d_B_add_61) (ht := by decide) (fun q9 => ?_) (fun q9 => ?_)
  · replace hyp := hyp.1 q9
    have q5_ := q9
    clear q9
    refine xr_aload_n (pc := 77) (i := 0) (hI := d_B_add_77) (hi := rfl) (hl := rfl) ?_
    refine xg_getf (pc := 78) (ci := 0) (k := 0) (N := 7) (v9 := 2) (v := 1) (T := xF0) (hI := d_B_add_78) (hw := w_430) rfl xi0 (Or.inl rfl) (Nat.le_of_ble_eq_true rfl) (Nat.le_of_ble_eq_true rfl) rfl (ft_0 F) (fp_0_0 F) (fun f6_ => ?_)
    clear f6_
    refine xr_bipush (pc := 81) (hI := d_B_add_81) (hr := by decide) (hv := by decide) ?_
    exact xq_callV (pc := 83) (index := 80) (K := m_Tape_firstPlaceOf) (As := [xI 124]) (S := []) (L0 := [xR 1, xI 124, xZ]) (hI := d_B_add_83) (hK := k_Tape_firstPlaceOf) (hlk := w_1369) (hnoM := rfl) (hS8 := Nat.le_of_ble_eq_true rfl) (ci := 8) (N := 7) (C := "BeaconIndex$Tape") (T := xF8) (hc := rfl) (hci := Nat.le_of_ble_eq_true rfl) (htb := (ft_1 F)) (hinst := w_1370) (hsel := w_1371) (hlen := Nat.le_of_ble_eq_true rfl) (hst := rfl) (hL0 := rfl)  (xwp_mono hyp (fun v9 h9 q9 => xr_drop (L9 := [xR 0, xI x1, xI x2, xI x3, xZ, xZ, xZ]) (xdrs (xdrs (xdrs (xdrs (xdrz (xdrs (xdrs xdr0))))))) q9) (fun _ _ z9 => z9))
  · replace hyp := hyp.2 q9
    have q5_ := q9
    clear q9
    refine xr_iload (pc := 64) (i := 4) (hI := d_B_add_64) (hl := rfl) ?_
    refine xr_if_ne (pc := 66) (tgt := 77) (hI := d_B_add_66) (ht := by decide) (fun q9 => ?_) (fun q9 => ?_)
    · replace hyp := hyp.2 q9
      have q7_ := q9
      clear q9
      refine xr_aload_n (pc := 77) (i := 0) (hI := d_B_add_77) (hi := rfl) (hl := rfl) ?_
      refine xg_getf (pc := 78) (ci := 0) (k := 0) (N := 7) (v9 := 2) (v := 1) (T := xF0) (hI := d_B_add_78) (hw := w_430) rfl xi0 (Or.inl rfl) (Nat.le_of_ble_eq_true rfl) (Nat.le_of_ble_eq_true rfl) rfl (ft_0 F) (fp_0_0 F) (fun f8_ => ?_)
      clear f8_
      refine xr_bipush (pc := 81) (hI := d_B_add_81) (hr := by decide) (hv := by decide) ?_
      exact xq_callV (pc := 83) (index := 80) (K := m_Tape_firstPlaceOf) (As := [xI 124]) (S := []) (L0 := [xR 1, xI 124, xZ]) (hI := d_B_add_83) (hK := k_Tape_firstPlaceOf) (hlk := w_1369) (hnoM := rfl) (hS8 := Nat.le_of_ble_eq_true rfl) (ci := 8) (N := 7) (C := "BeaconIndex$Tape") (T := xF8) (hc := rfl) (hci := Nat.le_of_ble_eq_true rfl) (htb := (ft_1 F)) (hinst := w_1370) (hsel := w_1371) (hlen := Nat.le_of_ble_eq_true rfl) (hst := rfl) (hL0 := rfl)  (xwp_mono hyp (fun v9 h9 q9 => xr_drop (L9 := [xR 0, xI x1, xI x2, xI x3, xZ, xZ, xZ]) (xdrs (xdrs (xdrs (xdrs (xdrz (xdrs (xdrs xdr0))))))) q9) (fun _ _ z9 => z9))
    · replace hyp := hyp.1 q9
      have q7_ := q9
      clear q9
      obtain ⟨c7, c8, hyp⟩ := hyp
      exact xr_throw (pc := 69) (k := 1) (ik := 59) (ic := 61) (names := ["java/lang/RuntimeException", "java/lang/Exception"]) (by decide +kernel) (by decide +kernel) (by decide) w_1242 w_20 thr_B_61.1 thr_B_61.2 d_B_add_69 d_B_add_72 d_B_add_73 d_B_add_76 rfl (Nat.le_of_ble_eq_true rfl) (Nat.le_add_left_of_le (by decide)) (Nat.le_of_ble_eq_true rfl) c7 c8 (hyp (xFix.mk F))
theorem d_B_add_86 : decode prog_1_method_4_code 86 = .ok (.istore 5, 2) := by decide +kernel
theorem d_B_add_88 : decode prog_1_method_4_code 88 = .ok (.new 83, 3) := by decide +kernel
theorem w_1373 : Cond.classLink "BeaconIndex" 83 "BeaconIndex$Text" ∈ lw_tbl := List.mem_append_right _ (List.mem_of_getElem? (i := 1373) (by decide +kernel))
theorem xdf9 : ∀ (G : XG) (k : Nat), k < 6 → defaultValue (xT9 k) = xcv G (xfty 9 k, xdef 9 (k : Int)) := fun G k hk => by
  match k, hk with
  | 0, _ => rfl
  | 1, _ => rfl
  | 2, _ => rfl
  | 3, _ => rfl
  | 4, _ => rfl
  | 5, _ => rfl
  | n + 6, hk => exact absurd hk (by omega)
theorem xd79 : ∀ k, k < 6 → xfty 9 k < 7 := by decide +kernel
theorem d_B_add_91 : decode prog_1_method_4_code 91 = .ok (.dup, 1) := by decide +kernel
theorem d_B_add_92 : decode prog_1_method_4_code 92 = .ok (.iload_n 1, 1) := by decide +kernel
theorem d_B_add_93 : decode prog_1_method_4_code 93 = .ok (.iload_n 2, 1) := by decide +kernel
theorem d_B_add_94 : decode prog_1_method_4_code 94 = .ok (.iload_n 3, 1) := by decide +kernel
theorem d_B_add_95 : decode prog_1_method_4_code 95 = .ok (.aload_n 0, 1) := by decide +kernel
theorem d_B_add_96 : decode prog_1_method_4_code 96 = .ok (.getfield 10, 3) := by decide +kernel
theorem d_B_add_99 : decode prog_1_method_4_code 99 = .ok (.iconst 0, 1) := by decide +kernel
theorem d_B_add_100 : decode prog_1_method_4_code 100 = .ok (.iload 5, 2) := by decide +kernel
theorem d_B_add_102 : decode prog_1_method_4_code 102 = .ok (.invokevirtual 85, 3) := by decide +kernel
theorem k_Tape_rowOf : xCal m_Tape_rowOf 2 := ⟨List.mem_append_right _ (List.mem_of_getElem? (i := 1377) (by decide +kernel)), w_2, Nat.le_of_ble_eq_true rfl, ⟨by decide +kernel, by decide +kernel⟩, by decide +kernel, by decide +kernel, rfl⟩
theorem w_1374 : Cond.methodLink "BeaconIndex" 85 ⟨"BeaconIndex$Tape", "rowOf", "(II)[J"⟩ ∈ lw_tbl := List.mem_append_right _ (List.mem_of_getElem? (i := 1374) (by decide +kernel))
theorem w_1375 : Cond.instanceMethod ⟨"BeaconIndex$Tape", "rowOf", "(II)[J"⟩ ∈ lw_tbl := List.mem_append_right _ (List.mem_of_getElem? (i := 1375) (by decide +kernel))
theorem w_1376 : Cond.selects "BeaconIndex$Tape" ⟨"BeaconIndex$Tape", "rowOf", "(II)[J"⟩ ⟨"BeaconIndex$Tape", "rowOf", "(II)[J"⟩ ∈ lw_tbl := List.mem_append_right _ (List.mem_of_getElem? (i := 1376) (by decide +kernel))
theorem v_B_add_86 {G : XG} {d : Nat} {h : XH} {Q : XV → XH → Prop} {X : Nat → XH → Prop} {x1 x2 x3 s0 : Int} (F : xFix h) (hyp : xnx h + 1 ≤ xKC ∧ xsl h + 6 ≤ xKS ∧ (xFix (xmk h 9 6 (xdef 9)) → xwp G m_Tape_rowOf (d + 9) 0 [xR 1, xI 0, xI s0, xZ, xZ] [] (xmk h 9 6 (xdef 9)) (fun v9 h9 => xwp G m_B_add (d + 10) 105 [xR 0, xI x1, xZ, xZ, xZ, xI s0, xZ] (xpush v9 [xI x3, xI x2, xI x1, xR (xnx h), xR (xnx h)]) h9 Q X) X)) : xwp G m_B_add (d + 10) 86 [xR 0, xI x1, xI x2, xI x3, xZ, xZ, xZ] [xI s0] h Q X := by
  have hnx9 : (93 : Int) ≤ xnx h := F.2.2
  refine xr_okL (fun hl9 => ?_)
  have r_x1 : -2147483648 ≤ x1 ∧ x1 ≤ 2147483647 := hl9 (xI x1) (.tail _ (.head _)) (Nat.le_of_ble_eq_true rfl)
  have r_x2 : -2147483648 ≤ x2 ∧ x2 ≤ 2147483647 := hl9 (xI x2) (.tail _ (.tail _ (.head _))) (Nat.le_of_ble_eq_true rfl)
  have r_x3 : -2147483648 ≤ x3 ∧ x3 ≤ 2147483647 := hl9 (xI x3) (.tail _ (.tail _ (.tail _ (.head _)))) (Nat.le_of_ble_eq_true rfl)
  refine xr_okS (fun hs9 => ?_)
  have r_s0 : -2147483648 ≤ s0 ∧ s0 ≤ 2147483647 := hs9 (xI s0) (.head _)
  refine xr_istore (pc := 86) (i := 5) (L9 := [xR 0, xI x1, xI x2, xI x3, xZ, xI s0, xZ]) (hI := d_B_add_86) (hn := Nat.le_of_ble_eq_true rfl) (hL9 := rfl) ?_
  obtain ⟨c8, c9, hyp⟩ := hyp
  refine xr_new (pc := 88) (ci := 9) (N := 6) (T := xF9) (tF := xT9) (hI := d_B_add_88) w_1373 xj9 w_7 rfl xi9 xt9 (Nat.le_of_ble_eq_true rfl) xd79 xdf9 c8 c9 ?_
  have F1_ : xFix (xmk h 9 6 (xdef 9)) := F.mk
  have f2_ : (93 : Int) ≤ xnx h := F.nx
  have f3_ : (93 : Int) ≤ xnx (xmk h 9 6 (xdef 9)) := F1_.nx
  have f4_ : xnx (xmk h 9 6 (xdef 9)) = xnx h + 1 := xnx_mk _ _ _ _
  show xwp G m_B_add (d + 10) 91 [xR 0, xI x1, xI x2, xI x3, xZ, xI s0, xZ] [xR (xnx h)] (xmk h 9 6 (xdef 9)) _ _
  refine xr_dup (pc := 91) (hI := d_B_add_91) (hv := rfl) ?_
  refine xr_iload_n (pc := 92) (i := 1) (hI := d_B_add_92) (hi := rfl) (hl := rfl) ?_
  refine xr_iload_n (pc := 93) (i := 2) (hI := d_B_add_93) (hi := rfl) (hl := rfl) ?_
  refine xr_iload_n (pc := 94) (i := 3) (hI := d_B_add_94) (hi := rfl) (hl := rfl) ?_
  refine xr_aload_n (pc := 95) (i := 0) (hI := d_B_add_95) (hi := rfl) (hl := rfl) ?_
  refine xg_getf (pc := 96) (ci := 0) (k := 0) (N := 7) (v9 := 2) (v := 1) (T := xF0) (hI := d_B_add_96) (hw := w_430) rfl xi0 (Or.inl rfl) (Nat.le_of_ble_eq_true rfl) (Nat.le_of_ble_eq_true rfl) rfl (ft_0 F1_) (fp_0_0 F1_) (fun f5_ => ?_)
  clear f5_
  refine xr_iconst (pc := 99) (hI := d_B_add_99) (hr := by decide) ?_
  refine xr_iload (pc := 100) (i := 5) (hI := d_B_add_100) (hl := rfl) ?_
  exact xq_callV (pc := 102) (index := 85) (K := m_Tape_rowOf) (As := [xI 0, xI s0]) (S := [xI x3, xI x2, xI x1, xR (xnx h), xR (xnx h)]) (L0 := [xR 1, xI 0, xI s0, xZ, xZ]) (hI := d_B_add_102) (hK := k_Tape_rowOf) (hlk := w_1374) (hnoM := rfl) (hS8 := Nat.le_of_ble_eq_true rfl) (ci := 8) (N := 7) (C := "BeaconIndex$Tape") (T := xF8) (hc := rfl) (hci := Nat.le_of_ble_eq_true rfl) (htb := (ft_1 F1_)) (hinst := w_1375) (hsel := w_1376) (hlen := Nat.le_of_ble_eq_true rfl) (hst := rfl) (hL0 := rfl)  (xwp_mono (hyp F1_) (fun v9 h9 q9 => xr_drop (L9 := [xR 0, xI x1, xZ, xZ, xZ, xI s0, xZ]) (xdrs (xdrs (xdrz (xdrz (xdrs (xdrs (xdrs xdr0))))))) q9) (fun _ _ z9 => z9))
theorem d_B_add_105 : decode prog_1_method_4_code 105 = .ok (.aload_n 0, 1) := by decide +kernel
theorem d_B_add_106 : decode prog_1_method_4_code 106 = .ok (.getfield 10, 3) := by decide +kernel
theorem d_B_add_109 : decode prog_1_method_4_code 109 = .ok (.iload 5, 2) := by decide +kernel
theorem d_B_add_111 : decode prog_1_method_4_code 111 = .ok (.aload_n 0, 1) := by decide +kernel
theorem d_B_add_112 : decode prog_1_method_4_code 112 = .ok (.getfield 10, 3) := by decide +kernel
theorem d_B_add_115 : decode prog_1_method_4_code 115 = .ok (.getfield 55, 3) := by decide +kernel
theorem d_B_add_118 : decode prog_1_method_4_code 118 = .ok (.invokevirtual 85, 3) := by decide +kernel
theorem v_B_add_105 {G : XG} {d : Nat} {h : XH} {Q : XV → XH → Prop} {X : Nat → XH → Prop} {x1 x5 s0 s1 s2 s3 s4 s5 : Int} (F : xFix h) (hyp : (xwp G m_Tape_rowOf (d + 9) 0 [xR 1, xI x5, xI (xpl h 1 3), xZ, xZ] [] h (fun v9 h9 => xwp G m_B_add (d + 10) 121 [xR 0, xI x1, xZ, xZ, xZ, xZ, xZ] (xpush v9 [xR s0, xI s1, xI s2, xI s3, xR s4, xR s5]) h9 Q X) X)) : xwp G m_B_add (d + 10) 105 [xR 0, xI x1, xZ, xZ, xZ, xI x5, xZ] [xR s0, xI s1, xI s2, xI s3, xR s4, xR s5] h Q X := by
  have hnx9 : (93 : Int) ≤ xnx h := F.2.2
  refine xr_okL (fun hl9 => ?_)
  have r_x1 : -2147483648 ≤ x1 ∧ x1 ≤ 2147483647 := hl9 (xI x1) (.tail _ (.head _)) (Nat.le_of_ble_eq_true rfl)
  have r_x5 : -2147483648 ≤ x5 ∧ x5 ≤ 2147483647 := hl9 (xI x5) (.tail _ (.tail _ (.tail _ (.tail _ (.tail _ (.head _)))))) (Nat.le_of_ble_eq_true rfl)
  refine xr_okS (fun hs9 => ?_)
  have r_s1 : -2147483648 ≤ s1 ∧ s1 ≤ 2147483647 := hs9 (xI s1) (.tail _ (.head _))
  have r_s2 : -2147483648 ≤ s2 ∧ s2 ≤ 2147483647 := hs9 (xI s2) (.tail _ (.tail _ (.head _)))
  have r_s3 : -2147483648 ≤ s3 ∧ s3 ≤ 2147483647 := hs9 (xI s3) (.tail _ (.tail _ (.tail _ (.head _))))
  refine xr_aload_n (pc := 105) (i := 0) (hI := d_B_add_105) (hi := rfl) (hl := rfl) ?_
  refine xg_getf (pc := 106) (ci := 0) (k := 0) (N := 7) (v9 := 2) (v := 1) (T := xF0) (hI := d_B_add_106) (hw := w_430) rfl xi0 (Or.inl rfl) (Nat.le_of_ble_eq_true rfl) (Nat.le_of_ble_eq_true rfl) rfl (ft_0 F) (fp_0_0 F) (fun f1_ => ?_)
  clear f1_
  refine xr_iload (pc := 109) (i := 5) (hI := d_B_add_109) (hl := rfl) ?_
  refine xr_aload_n (pc := 111) (i := 0) (hI := d_B_add_111) (hi := rfl) (hl := rfl) ?_
  refine xg_getf (pc := 112) (ci := 0) (k := 0) (N := 7) (v9 := 2) (v := 1) (T := xF0) (hI := d_B_add_112) (hw := w_430) rfl xi0 (Or.inl rfl) (Nat.le_of_ble_eq_true rfl) (Nat.le_of_ble_eq_true rfl) rfl (ft_0 F) (fp_0_0 F) (fun f2_ => ?_)
  clear f2_
  refine xg_getf (pc := 115) (ci := 8) (k := 3) (N := 7) (v9 := 0) (v := (xpl h 1 3)) (T := xF8) (hI := d_B_add_115) (hw := w_58) rfl xi8 (Or.inl rfl) (Nat.le_of_ble_eq_true rfl) (Nat.le_of_ble_eq_true rfl) rfl (ft_1 F) rfl (fun f3_ => ?_)
  replace f3_ : -2147483648 ≤ (xpl h 1 3) ∧ (xpl h 1 3) ≤ 2147483647 := f3_
  exact xq_callV (pc := 118) (index := 85) (K := m_Tape_rowOf) (As := [xI x5, xI (xpl h 1 3)]) (S := [xR s0, xI s1, xI s2, xI s3, xR s4, xR s5]) (L0 := [xR 1, xI x5, xI (xpl h 1 3), xZ, xZ]) (hI := d_B_add_118) (hK := k_Tape_rowOf) (hlk := w_1374) (hnoM := rfl) (hS8 := Nat.le_of_ble_eq_true rfl) (ci := 8) (N := 7) (C := "BeaconIndex$Tape") (T := xF8) (hc := rfl) (hci := Nat.le_of_ble_eq_true rfl) (htb := (ft_1 F)) (hinst := w_1375) (hsel := w_1376) (hlen := Nat.le_of_ble_eq_true rfl) (hst := rfl) (hL0 := rfl)  (xwp_mono hyp (fun v9 h9 q9 => xr_drop (L9 := [xR 0, xI x1, xZ, xZ, xZ, xZ, xZ]) (xdrs (xdrs (xdrs (xdrs (xdrs (xdrz (xdrs xdr0))))))) q9) (fun _ _ z9 => z9))
theorem d_B_add_121 : decode prog_1_method_4_code 121 = .ok (.invokespecial 89, 3) := by decide +kernel
abbrev m_Text_init : XM := (⟨"BeaconIndex$Text", "<init>", "(III[J[J)V"⟩, prog_10_method_1_code, 6, none, [])
theorem k_Text_init : xCal m_Text_init 5 := ⟨List.mem_append_right _ (List.mem_of_getElem? (i := 117) (by decide +kernel)), w_7, Nat.le_of_ble_eq_true rfl, ⟨by decide +kernel, by decide +kernel⟩, by decide +kernel, by decide +kernel, rfl⟩
theorem w_116 : Cond.instanceMethod ⟨"BeaconIndex$Text", "<init>", "(III[J[J)V"⟩ ∈ lw_tbl := List.mem_append_right _ (List.mem_of_getElem? (i := 116) (by decide +kernel))
theorem w_1383 : Cond.methodLink "BeaconIndex" 89 ⟨"BeaconIndex$Text", "<init>", "(III[J[J)V"⟩ ∈ lw_tbl := List.mem_append_right _ (List.mem_of_getElem? (i := 1383) (by decide +kernel))
theorem d_Text_init_0 : decode prog_10_method_1_code 0 = .ok (.aload_n 0, 1) := by decide +kernel
theorem d_Text_init_1 : decode prog_10_method_1_code 1 = .ok (.invokespecial 3, 3) := by decide +kernel
theorem w_118 : Cond.methodLink "BeaconIndex$Text" 3 ⟨"java/lang/Object", "<init>", "()V"⟩ ∈ lw_tbl := List.mem_append_right _ (List.mem_of_getElem? (i := 118) (by decide +kernel))
theorem d_Text_init_4 : decode prog_10_method_1_code 4 = .ok (.aload_n 0, 1) := by decide +kernel
theorem d_Text_init_5 : decode prog_10_method_1_code 5 = .ok (.iconst 0, 1) := by decide +kernel
theorem d_Text_init_6 : decode prog_10_method_1_code 6 = .ok (.putfield 9, 3) := by decide +kernel
theorem w_131 : Cond.fieldLink "BeaconIndex$Text" 9 "BeaconIndex$Text" "marked" "Z" ∈ lw_tbl := List.mem_append_right _ (List.mem_of_getElem? (i := 131) (by decide +kernel))
theorem d_Text_init_9 : decode prog_10_method_1_code 9 = .ok (.aload_n 0, 1) := by decide +kernel
theorem d_Text_init_10 : decode prog_10_method_1_code 10 = .ok (.iload_n 1, 1) := by decide +kernel
theorem d_Text_init_11 : decode prog_10_method_1_code 11 = .ok (.putfield 15, 3) := by decide +kernel
theorem w_119 : Cond.fieldLink "BeaconIndex$Text" 15 "BeaconIndex$Text" "key" "I" ∈ lw_tbl := List.mem_append_right _ (List.mem_of_getElem? (i := 119) (by decide +kernel))
theorem d_Text_init_14 : decode prog_10_method_1_code 14 = .ok (.aload_n 0, 1) := by decide +kernel
theorem d_Text_init_15 : decode prog_10_method_1_code 15 = .ok (.iload_n 2, 1) := by decide +kernel
theorem d_Text_init_16 : decode prog_10_method_1_code 16 = .ok (.putfield 19, 3) := by decide +kernel
theorem w_123 : Cond.fieldLink "BeaconIndex$Text" 19 "BeaconIndex$Text" "shelf" "I" ∈ lw_tbl := List.mem_append_right _ (List.mem_of_getElem? (i := 123) (by decide +kernel))
theorem d_Text_init_19 : decode prog_10_method_1_code 19 = .ok (.aload_n 0, 1) := by decide +kernel
theorem d_Text_init_20 : decode prog_10_method_1_code 20 = .ok (.iload_n 3, 1) := by decide +kernel
theorem d_Text_init_21 : decode prog_10_method_1_code 21 = .ok (.putfield 22, 3) := by decide +kernel
theorem w_125 : Cond.fieldLink "BeaconIndex$Text" 22 "BeaconIndex$Text" "rank" "I" ∈ lw_tbl := List.mem_append_right _ (List.mem_of_getElem? (i := 125) (by decide +kernel))
theorem d_Text_init_24 : decode prog_10_method_1_code 24 = .ok (.aload_n 0, 1) := by decide +kernel
theorem d_Text_init_25 : decode prog_10_method_1_code 25 = .ok (.aload 4, 2) := by decide +kernel
theorem d_Text_init_27 : decode prog_10_method_1_code 27 = .ok (.putfield 25, 3) := by decide +kernel
theorem d_Text_init_30 : decode prog_10_method_1_code 30 = .ok (.aload_n 0, 1) := by decide +kernel
theorem d_Text_init_31 : decode prog_10_method_1_code 31 = .ok (.aload 5, 2) := by decide +kernel
theorem d_Text_init_33 : decode prog_10_method_1_code 33 = .ok (.putfield 29, 3) := by decide +kernel
theorem d_Text_init_36 : decode prog_10_method_1_code 36 = .ok (.return_, 1) := by decide +kernel
theorem d_B_add_124 : decode prog_1_method_4_code 124 = .ok (.astore 6, 2) := by decide +kernel
theorem d_B_add_126 : decode prog_1_method_4_code 126 = .ok (.aload_n 0, 1) := by decide +kernel
theorem d_B_add_127 : decode prog_1_method_4_code 127 = .ok (.getfield 10, 3) := by decide +kernel
theorem d_B_add_130 : decode prog_1_method_4_code 130 = .ok (.iconst 0, 1) := by decide +kernel
theorem d_B_add_131 : decode prog_1_method_4_code 131 = .ok (.putfield 55, 3) := by decide +kernel
theorem d_B_add_134 : decode prog_1_method_4_code 134 = .ok (.aload_n 0, 1) := by decide +kernel
theorem d_B_add_135 : decode prog_1_method_4_code 135 = .ok (.getfield 19, 3) := by decide +kernel
theorem d_B_add_138 : decode prog_1_method_4_code 138 = .ok (.iload_n 1, 1) := by decide +kernel
theorem d_B_add_139 : decode prog_1_method_4_code 139 = .ok (.invokevirtual 92, 3) := by decide +kernel
theorem k_Store_drop : xCal m_Store_drop 1 := ⟨List.mem_append_right _ (List.mem_of_getElem? (i := 1387) (by decide +kernel)), w_3, Nat.le_of_ble_eq_true rfl, ⟨by decide +kernel, by decide +kernel⟩, by decide +kernel, by decide +kernel, rfl⟩
theorem w_1384 : Cond.methodLink "BeaconIndex" 92 ⟨"BeaconIndex$Store", "drop", "(I)Z"⟩ ∈ lw_tbl := List.mem_append_right _ (List.mem_of_getElem? (i := 1384) (by decide +kernel))
theorem w_1385 : Cond.instanceMethod ⟨"BeaconIndex$Store", "drop", "(I)Z"⟩ ∈ lw_tbl := List.mem_append_right _ (List.mem_of_getElem? (i := 1385) (by decide +kernel))
theorem w_1386 : Cond.selects "BeaconIndex$Store" ⟨"BeaconIndex$Store", "drop", "(I)Z"⟩ ⟨"BeaconIndex$Store", "drop", "(I)Z"⟩ ∈ lw_tbl := List.mem_append_right _ (List.mem_of_getElem? (i := 1386) (by decide +kernel))
theorem v_B_add_121 {G : XG} {d : Nat} {h : XH} {Q : XV → XH → Prop} {X : Nat → XH → Prop} {x1 s0 s1 s2 s3 s4 s5 s6 : Int} (F : xFix h) (p0 : 93 ≤ s5) (hyp : xtg h s5 = 9 ∧ (xFix (xst (xst (xst (xst (xst (xst (xst h s5 5 0) s5 0 s4) s5 1 s3) s5 2 s2) s5 3 s1) s5 4 s0) 1 3 0) → xwp G m_Store_drop (d + 9) 0 [xR 5, xI x1, xZ] [] (xst (xst (xst (xst (xst (xst (xst h s5 5 0) s5 0 s4) s5 1 s3) s5 2 s2) s5 3 s1) s5 4 s0) 1 3 0) (fun v9 h9 => xwp G m_B_add (d + 10) 142 [xR 0, xZ, xZ, xZ, xZ, xZ, xR s6] (xpush v9 []) h9 Q X) X)) : xwp G m_B_add (d + 10) 121 [xR 0, xI x1, xZ, xZ, xZ, xZ, xZ] [xR s0, xR s1, xI s2, xI s3, xI s4, xR s5, xR s6] h Q X := by
  have hnx9 : (93 : Int) ≤ xnx h := F.2.2
  refine xr_okL (fun hl9 => ?_)
  have r_x1 : -2147483648 ≤ x1 ∧ x1 ≤ 2147483647 := hl9 (xI x1) (.tail _ (.head _)) (Nat.le_of_ble_eq_true rfl)
  refine xr_okS (fun hs9 => ?_)
  have r_s2 : -2147483648 ≤ s2 ∧ s2 ≤ 2147483647 := hs9 (xI s2) (.tail _ (.tail _ (.head _)))
  have r_s3 : -2147483648 ≤ s3 ∧ s3 ≤ 2147483647 := hs9 (xI s3) (.tail _ (.tail _ (.tail _ (.head _))))
  have r_s4 : -2147483648 ≤ s4 ∧ s4 ≤ 2147483647 := hs9 (xI s4) (.tail _ (.tail _ (.tail _ (.tail _ (.head _)))))
  refine xq_callI (pc := 121) (index := 89) (K := m_Text_init) (As := [xI s4, xI s3, xI s2, xR s1, xR s0]) (S := [xR s6]) (L0 := [xR s5, xI s4, xI s3, xI s2, xR s1, xR s0]) (hI := d_B_add_121) (hK := k_Text_init) (hlk := w_1383) (hnoM := rfl) (hS8 := Nat.le_of_ble_eq_true rfl) (hb0 := (by clear hyp; omega)) (hinst := w_116) (hname := rfl) (hret := rfl) (hlen := Nat.le_of_ble_eq_true rfl) (hst := rfl) (hL0 := rfl)  ?_
  refine xr_aload_n (pc := 0) (i := 0) (hI := d_Text_init_0) (hi := rfl) (hl := rfl) ?_
  refine xr_objInit (pc := 1) (hI := d_Text_init_1) w_118 w_46 w_objc (by clear hyp; omega) (Nat.le_add_left_of_le (by decide)) (Nat.le_of_ble_eq_true rfl) ?_
  refine xr_aload_n (pc := 4) (i := 0) (hI := d_Text_init_4) (hi := rfl) (hl := rfl) ?_
  refine xr_iconst (pc := 5) (hI := d_Text_init_5) (hr := by decide) ?_
  obtain ⟨c9, hyp⟩ := hyp
  have t1_ := c9
  clear c9
  refine xr_putf (pc := 6) (ci := 9) (k := 5) (N := 6) (v9 := 0) (T := xF9) (tF := xT9) (hI := d_Text_init_6) (hw := w_131) rfl xi9 xt9 xn9 (Or.inl rfl) (Nat.le_of_ble_eq_true rfl) (Nat.le_of_ble_eq_true rfl) rfl xfit_z rfl t1_ (by clear hyp; omega) (fun _ => (by decide : (0 : Int) ≤ 0 ∧ (0 : Int) ≤ 1)) ?_
  have F2_ : xFix (xst h s5 5 0) := F.stD (by clear hyp; omega)
  refine xr_aload_n (pc := 9) (i := 0) (hI := d_Text_init_9) (hi := rfl) (hl := rfl) ?_
  refine xr_iload_n (pc := 10) (i := 1) (hI := d_Text_init_10) (hi := rfl) (hl := rfl) ?_
  refine xr_putfF (pc := 11) (ci := 9) (k := 0) (N := 6) (v9 := 0) (T := xF9) (tF := xT9) (hI := d_Text_init_11) (hw := w_119) rfl xi9 xt9 xn9 (Or.inl rfl) (Nat.le_of_ble_eq_true rfl) (Nat.le_of_ble_eq_true rfl) rfl xfit_i rfl rfl rfl t1_ (by clear hyp; omega) (fun z => z) ?_
  have F3_ : xFix (xst (xst h s5 5 0) s5 0 s4) := F2_.stD (by clear hyp; omega)
  refine xr_aload_n (pc := 14) (i := 0) (hI := d_Text_init_14) (hi := rfl) (hl := rfl) ?_
  refine xr_iload_n (pc := 15) (i := 2) (hI := d_Text_init_15) (hi := rfl) (hl := rfl) ?_
  refine xr_putfF (pc := 16) (ci := 9) (k := 1) (N := 6) (v9 := 0) (T := xF9) (tF := xT9) (hI := d_Text_init_16) (hw := w_123) rfl xi9 xt9 xn9 (Or.inl rfl) (Nat.le_of_ble_eq_true rfl) (Nat.le_of_ble_eq_true rfl) rfl xfit_i rfl rfl rfl t1_ (by clear hyp; omega) (fun z => z) ?_
  have F4_ : xFix (xst (xst (xst h s5 5 0) s5 0 s4) s5 1 s3) := F3_.stD (by clear hyp; omega)
  refine xr_aload_n (pc := 19) (i := 0) (hI := d_Text_init_19) (hi := rfl) (hl := rfl) ?_
  refine xr_iload_n (pc := 20) (i := 3) (hI := d_Text_init_20) (hi := rfl) (hl := rfl) ?_
  refine xr_putfF (pc := 21) (ci := 9) (k := 2) (N := 6) (v9 := 0) (T := xF9) (tF := xT9) (hI := d_Text_init_21) (hw := w_125) rfl xi9 xt9 xn9 (Or.inl rfl) (Nat.le_of_ble_eq_true rfl) (Nat.le_of_ble_eq_true rfl) rfl xfit_i rfl rfl rfl t1_ (by clear hyp; omega) (fun z => z) ?_
  have F5_ : xFix (xst (xst (xst (xst h s5 5 0) s5 0 s4) s5 1 s3) s5 2 s2) := F4_.stD (by clear hyp; omega)
  refine xr_aload_n (pc := 24) (i := 0) (hI := d_Text_init_24) (hi := rfl) (hl := rfl) ?_
  refine xr_aload (pc := 25) (i := 4) (hI := d_Text_init_25) (hl := rfl) ?_
  refine xr_putfF (pc := 27) (ci := 9) (k := 3) (N := 6) (v9 := 2) (T := xF9) (tF := xT9) (hI := d_Text_init_27) (hw := w_127) rfl xi9 xt9 xn9 (Or.inl rfl) (Nat.le_of_ble_eq_true rfl) (Nat.le_of_ble_eq_true rfl) rfl (xfit_a _) rfl rfl rfl t1_ (by clear hyp; omega) (fun z => z) ?_
  have F6_ : xFix (xst (xst (xst (xst (xst h s5 5 0) s5 0 s4) s5 1 s3) s5 2 s2) s5 3 s1) := F5_.stD (by clear hyp; omega)
  refine xr_aload_n (pc := 30) (i := 0) (hI := d_Text_init_30) (hi := rfl) (hl := rfl) ?_
  refine xr_aload (pc := 31) (i := 5) (hI := d_Text_init_31) (hl := rfl) ?_
  refine xr_putfF (pc := 33) (ci := 9) (k := 4) (N := 6) (v9 := 2) (T := xF9) (tF := xT9) (hI := d_Text_init_33) (hw := w_129) rfl xi9 xt9 xn9 (Or.inl rfl) (Nat.le_of_ble_eq_true rfl) (Nat.le_of_ble_eq_true rfl) rfl (xfit_a _) rfl rfl rfl t1_ (by clear hyp; omega) (fun z => z) ?_
  have F7_ : xFix (xst (xst (xst (xst (xst (xst h s5 5 0) s5 0 s4) s5 1 s3) s5 2 s2) s5 3 s1) s5 4 s0) := F6_.stD (by clear hyp; omega)
  refine xr_return (S := []) (pc := 36) (hI := d_Text_init_36) (hr := rfl) ?_
  show xwp G m_B_add (d + 10) 124 [xR 0, xI x1, xZ, xZ, xZ, xZ, xZ] [xR s6] _ _ _
  refine xr_astore (pc := 124) (i := 6) (L9 := [xR 0, xI x1, xZ, xZ, xZ, xZ, xR s6]) (hI := d_B_add_124) (hn := Nat.le_of_ble_eq_true rfl) (hL9 := rfl) ?_
  refine xr_aload_n (pc := 126) (i := 0) (hI := d_B_add_126) (hi := rfl) (hl := rfl) ?_
  refine xg_getf (pc := 127) (ci := 0) (k := 0) (N := 7) (v9 := 2) (v := 1) (T := xF0) (hI := d_B_add_127) (hw := w_430) rfl xi0 (Or.inl rfl) (Nat.le_of_ble_eq_true rfl) (Nat.le_of_ble_eq_true rfl) rfl (ft_0 F7_) (fp_0_0 F7_) (fun f8_ => ?_)
  clear f8_
  refine xr_iconst (pc := 130) (hI := d_B_add_130) (hr := by decide) ?_
  refine xr_putf (pc := 131) (ci := 8) (k := 3) (N := 7) (v9 := 0) (T := xF8) (tF := xT8) (hI := d_B_add_131) (hw := w_58) rfl xi8 xt8 xn8 (Or.inl rfl) (Nat.le_of_ble_eq_true rfl) (Nat.le_of_ble_eq_true rfl) rfl xfit_i rfl (ft_1 F7_) (by decide) (fun z => z) ?_
  have F9_ : xFix (xst (xst (xst (xst (xst (xst (xst h s5 5 0) s5 0 s4) s5 1 s3) s5 2 s2) s5 3 s1) s5 4 s0) 1 3 0) := F7_.stL xfk_1_3
  refine xr_aload_n (pc := 134) (i := 0) (hI := d_B_add_134) (hi := rfl) (hl := rfl) ?_
  refine xg_getf (pc := 135) (ci := 0) (k := 1) (N := 7) (v9 := 2) (v := 5) (T := xF0) (hI := d_B_add_135) (hw := w_431) rfl xi0 (Or.inl rfl) (Nat.le_of_ble_eq_true rfl) (Nat.le_of_ble_eq_true rfl) rfl (ft_0 F9_) (fp_0_1 F9_) (fun f10_ => ?_)
  clear f10_
  refine xr_iload_n (pc := 138) (i := 1) (hI := d_B_add_138) (hi := rfl) (hl := rfl) ?_
  exact xq_callV (pc := 139) (index := 92) (K := m_Store_drop) (As := [xI x1]) (S := []) (L0 := [xR 5, xI x1, xZ]) (hI := d_B_add_139) (hK := k_Store_drop) (hlk := w_1384) (hnoM := rfl) (hS8 := Nat.le_of_ble_eq_true rfl) (ci := 7) (N := 6) (C := "BeaconIndex$Store") (T := xF7) (hc := rfl) (hci := Nat.le_of_ble_eq_true rfl) (htb := (ft_5 F9_)) (hinst := w_1385) (hsel := w_1386) (hlen := Nat.le_of_ble_eq_true rfl) (hst := rfl) (hL0 := rfl)  (xwp_mono (hyp F9_) (fun v9 h9 q9 => xr_drop (L9 := [xR 0, xZ, xZ, xZ, xZ, xZ, xR s6]) (xdrs (xdrz (xdrs (xdrs (xdrs (xdrs (xdrs xdr0))))))) q9) (fun _ _ z9 => z9))
theorem d_B_add_142 : decode prog_1_method_4_code 142 = .ok (.ifCond .eq 21, 3) := by decide +kernel
theorem d_B_add_145 : decode prog_1_method_4_code 145 = .ok (.aload_n 0, 1) := by decide +kernel
theorem d_B_add_146 : decode prog_1_method_4_code 146 = .ok (.getfield 40, 3) := by decide +kernel
theorem w_434 : Cond.fieldLink "BeaconIndex" 40 "BeaconIndex" "findings" "LBeaconIndex$Findings;" ∈ lw_tbl := List.mem_append_right _ (List.mem_of_getElem? (i := 434) (by decide +kernel))
theorem d_B_add_149 : decode prog_1_method_4_code 149 = .ok (.aload_n 0, 1) := by decide +kernel
theorem d_B_add_150 : decode prog_1_method_4_code 150 = .ok (.getfield 51, 3) := by decide +kernel
theorem w_436 : Cond.fieldLink "BeaconIndex" 51 "BeaconIndex" "asked" "Ljava/util/ArrayList;" ∈ lw_tbl := List.mem_append_right _ (List.mem_of_getElem? (i := 436) (by decide +kernel))
theorem d_B_add_153 : decode prog_1_method_4_code 153 = .ok (.aload_n 0, 1) := by decide +kernel
theorem d_B_add_154 : decode prog_1_method_4_code 154 = .ok (.getfield 19, 3) := by decide +kernel
theorem d_B_add_157 : decode prog_1_method_4_code 157 = .ok (.getfield 96, 3) := by decide +kernel
theorem w_151 : Cond.fieldLink "BeaconIndex" 96 "BeaconIndex$Store" "filed" "Ljava/util/ArrayList;" ∈ lw_tbl := List.mem_append_right _ (List.mem_of_getElem? (i := 151) (by decide +kernel))
theorem d_B_add_160 : decode prog_1_method_4_code 160 = .ok (.invokevirtual 99, 3) := by decide +kernel
theorem k_Findings_refresh : xCal m_Findings_refresh 2 := ⟨List.mem_append_right _ (List.mem_of_getElem? (i := 597) (by decide +kernel)), w_12, Nat.le_of_ble_eq_true rfl, ⟨by decide +kernel, by decide +kernel⟩, by decide +kernel, by decide +kernel, rfl⟩
theorem w_594 : Cond.methodLink "BeaconIndex" 99 ⟨"BeaconIndex$Findings", "refresh", "(Ljava/util/ArrayList;Ljava/util/ArrayList;)V"⟩ ∈ lw_tbl := List.mem_append_right _ (List.mem_of_getElem? (i := 594) (by decide +kernel))
theorem w_595 : Cond.instanceMethod ⟨"BeaconIndex$Findings", "refresh", "(Ljava/util/ArrayList;Ljava/util/ArrayList;)V"⟩ ∈ lw_tbl := List.mem_append_right _ (List.mem_of_getElem? (i := 595) (by decide +kernel))
theorem w_596 : Cond.selects "BeaconIndex$Findings" ⟨"BeaconIndex$Findings", "refresh", "(Ljava/util/ArrayList;Ljava/util/ArrayList;)V"⟩ ⟨"BeaconIndex$Findings", "refresh", "(Ljava/util/ArrayList;Ljava/util/ArrayList;)V"⟩ ∈ lw_tbl := List.mem_append_right _ (List.mem_of_getElem? (i := 596) (by decide +kernel))
theorem v_B_add_142 {G : XG} {d : Nat} {h : XH} {Q : XV → XH → Prop} {X : Nat → XH → Prop} {x6 s0 : Int} (F : xFix h) (hyp : ((s0 = 0 → (xwp G m_B_add (d + 10) 163 [xR 0, xZ, xZ, xZ, xZ, xZ, xR x6] [] h Q X)) ∧ (¬ s0 = 0 → (xwp G m_Findings_refresh (d + 9) 0 [xR 40, xR (xpl h 0 6), xR 7, xZ, xZ] [] h (fun v9 h9 => xwp G m_B_add (d + 10) 163 [xR 0, xZ, xZ, xZ, xZ, xZ, xR x6] (xpush v9 []) h9 Q X) X)))) : xwp G m_B_add (d + 10) 142 [xR 0, xZ, xZ, xZ, xZ, xZ, xR x6] [xI s0] h Q X := by
  have hnx9 : (93 : Int) ≤ xnx h := F.2.2
  refine xr_okS (fun hs9 => ?_)
  have r_s0 : -2147483648 ≤ s0 ∧ s0 ≤ 2147483647 := hs9 (xI s0) (.head _)
  refine xr_if_eq (pc := 142) (tgt := 163) (hI := d_B_add_142) (ht := by decide) (fun q9 => ?_) (fun q9 => ?_)
  · replace hyp := hyp.1 q9
    have q1_ := q9
    clear q9
    exact hyp
  · replace hyp := hyp.2 q9
    have q1_ := q9
    clear q9
    refine xr_aload_n (pc := 145) (i := 0) (hI := d_B_add_145) (hi := rfl) (hl := rfl) ?_
    refine xg_getf (pc := 146) (ci := 0) (k := 4) (N := 7) (v9 := 2) (v := 40) (T := xF0) (hI := d_B_add_146) (hw := w_434) rfl xi0 (Or.inl rfl) (Nat.le_of_ble_eq_true rfl) (Nat.le_of_ble_eq_true rfl) rfl (ft_0 F) (fp_0_4 F) (fun f2_ => ?_)
    clear f2_
    refine xr_aload_n (pc := 149) (i := 0) (hI := d_B_add_149) (hi := rfl) (hl := rfl) ?_
    refine xg_getf (pc := 150) (ci := 0) (k := 6) (N := 7) (v9 := 2) (v := (xpl h 0 6)) (T := xF0) (hI := d_B_add_150) (hw := w_436) rfl xi0 (Or.inl rfl) (Nat.le_of_ble_eq_true rfl) (Nat.le_of_ble_eq_true rfl) rfl (ft_0 F) rfl (fun f3_ => ?_)
    clear f3_
    refine xr_aload_n (pc := 153) (i := 0) (hI := d_B_add_153) (hi := rfl) (hl := rfl) ?_
    refine xg_getf (pc := 154) (ci := 0) (k := 1) (N := 7) (v9 := 2) (v := 5) (T := xF0) (hI := d_B_add_154) (hw := w_431) rfl xi0 (Or.inl rfl) (Nat.le_of_ble_eq_true rfl) (Nat.le_of_ble_eq_true rfl) rfl (ft_0 F) (fp_0_1 F) (fun f4_ => ?_)
    clear f4_
    refine xg_getf (pc := 157) (ci := 7) (k := 1) (N := 6) (v9 := 2) (v := 7) (T := xF7) (hI := d_B_add_157) (hw := w_151) rfl xi7 (Or.inl rfl) (Nat.le_of_ble_eq_true rfl) (Nat.le_of_ble_eq_true rfl) rfl (ft_5 F) (fp_5_1 F) (fun f5_ => ?_)
    clear f5_
    exact xq_callV (pc := 160) (index := 99) (K := m_Findings_refresh) (As := [xR (xpl h 0 6), xR 7]) (S := []) (L0 := [xR 40, xR (xpl h 0 6), xR 7, xZ, xZ]) (hI := d_B_add_160) (hK := k_Findings_refresh) (hlk := w_594) (hnoM := rfl) (hS8 := Nat.le_of_ble_eq_true rfl) (ci := 1) (N := 6) (C := "BeaconIndex$Findings") (T := xF1) (hc := rfl) (hci := Nat.le_of_ble_eq_true rfl) (htb := (ft_40 F)) (hinst := w_595) (hsel := w_596) (hlen := Nat.le_of_ble_eq_true rfl) (hst := rfl) (hL0 := rfl)  hyp
theorem d_B_add_163 : decode prog_1_method_4_code 163 = .ok (.aload_n 0, 1) := by decide +kernel
theorem d_B_add_164 : decode prog_1_method_4_code 164 = .ok (.getfield 19, 3) := by decide +kernel
theorem d_B_add_167 : decode prog_1_method_4_code 167 = .ok (.getfield 103, 3) := by decide +kernel
theorem w_149 : Cond.fieldLink "BeaconIndex" 103 "BeaconIndex$Store" "buffer" "Ljava/util/ArrayList;" ∈ lw_tbl := List.mem_append_right _ (List.mem_of_getElem? (i := 149) (by decide +kernel))
theorem d_B_add_170 : decode prog_1_method_4_code 170 = .ok (.aload 6, 2) := by decide +kernel
theorem d_B_add_172 : decode prog_1_method_4_code 172 = .ok (.invokevirtual 106, 3) := by decide +kernel
theorem w_1390 : Cond.methodLink "BeaconIndex" 106 ⟨"java/util/ArrayList", "add", "(Ljava/lang/Object;)Z"⟩ ∈ lw_tbl := List.mem_append_right _ (List.mem_of_getElem? (i := 1390) (by decide +kernel))
theorem v_B_add_163 {G : XG} {d : Nat} {h : XH} {Q : XV → XH → Prop} {X : Nat → XH → Prop} {x6 : Int} (F : xFix h) (hyp : (xwp G m_ArrayList_add_Object (d + 9) 0 [xR 6, xR x6] [] h (fun v9 h9 => xwp G m_B_add (d + 10) 175 [xZ, xZ, xZ, xZ, xZ, xZ, xR x6] (xpush v9 []) h9 Q X) X)) : xwp G m_B_add (d + 10) 163 [xR 0, xZ, xZ, xZ, xZ, xZ, xR x6] [] h Q X := by
  have hnx9 : (93 : Int) ≤ xnx h := F.2.2
  refine xr_aload_n (pc := 163) (i := 0) (hI := d_B_add_163) (hi := rfl) (hl := rfl) ?_
  refine xg_getf (pc := 164) (ci := 0) (k := 1) (N := 7) (v9 := 2) (v := 5) (T := xF0) (hI := d_B_add_164) (hw := w_431) rfl xi0 (Or.inl rfl) (Nat.le_of_ble_eq_true rfl) (Nat.le_of_ble_eq_true rfl) rfl (ft_0 F) (fp_0_1 F) (fun f1_ => ?_)
  clear f1_
  refine xg_getf (pc := 167) (ci := 7) (k := 0) (N := 6) (v9 := 2) (v := 6) (T := xF7) (hI := d_B_add_167) (hw := w_149) rfl xi7 (Or.inl rfl) (Nat.le_of_ble_eq_true rfl) (Nat.le_of_ble_eq_true rfl) rfl (ft_5 F) (fp_5_0 F) (fun f2_ => ?_)
  clear f2_
  refine xr_aload (pc := 170) (i := 6) (hI := d_B_add_170) (hl := rfl) ?_
  exact xq_callV (pc := 172) (index := 106) (K := m_ArrayList_add_Object) (As := [xR x6]) (S := []) (L0 := [xR 6, xR x6]) (hI := d_B_add_172) (hK := k_ArrayList_add_Object) (hlk := w_1390) (hnoM := rfl) (hS8 := Nat.le_of_ble_eq_true rfl) (ci := 13) (N := 3) (C := "java/util/ArrayList") (T := xF13) (hc := rfl) (hci := Nat.le_of_ble_eq_true rfl) (htb := (ft_6 F)) (hinst := w_483) (hsel := w_484) (hlen := Nat.le_of_ble_eq_true rfl) (hst := rfl) (hL0 := rfl)  (xwp_mono hyp (fun v9 h9 q9 => xr_drop (L9 := [xZ, xZ, xZ, xZ, xZ, xZ, xR x6]) (xdrz (xdrs (xdrs (xdrs (xdrs (xdrs (xdrs xdr0))))))) q9) (fun _ _ z9 => z9))
theorem d_B_add_175 : decode prog_1_method_4_code 175 = .ok (.pop, 1) := by decide +kernel
theorem d_B_add_176 : decode prog_1_method_4_code 176 = .ok (.aload 6, 2) := by decide +kernel
theorem d_B_add_178 : decode prog_1_method_4_code 178 = .ok (.invokevirtual 110, 3) := by decide +kernel
theorem k_Text_wordCount : xCal m_Text_wordCount 0 := ⟨List.mem_append_right _ (List.mem_of_getElem? (i := 1394) (by decide +kernel)), w_7, Nat.le_of_ble_eq_true rfl, ⟨by decide +kernel, by decide +kernel⟩, by decide +kernel, by decide +kernel, rfl⟩
theorem w_1391 : Cond.methodLink "BeaconIndex" 110 ⟨"BeaconIndex$Text", "wordCount", "()I"⟩ ∈ lw_tbl := List.mem_append_right _ (List.mem_of_getElem? (i := 1391) (by decide +kernel))
theorem w_1392 : Cond.instanceMethod ⟨"BeaconIndex$Text", "wordCount", "()I"⟩ ∈ lw_tbl := List.mem_append_right _ (List.mem_of_getElem? (i := 1392) (by decide +kernel))
theorem w_1393 : Cond.selects "BeaconIndex$Text" ⟨"BeaconIndex$Text", "wordCount", "()I"⟩ ⟨"BeaconIndex$Text", "wordCount", "()I"⟩ ∈ lw_tbl := List.mem_append_right _ (List.mem_of_getElem? (i := 1393) (by decide +kernel))
theorem v_B_add_175 {G : XG} {d : Nat} {h : XH} {Q : XV → XH → Prop} {X : Nat → XH → Prop} {x6 s0 : Int} (F : xFix h) (hyp : xtg h x6 = 9 ∧ (xwp G m_Text_wordCount (d + 9) 0 [xR x6, xZ] [] h (fun v9 h9 => xwp G m_B_add (d + 10) 181 [xZ, xZ, xZ, xZ, xZ, xZ, xZ] (xpush v9 []) h9 Q X) X)) : xwp G m_B_add (d + 10) 175 [xZ, xZ, xZ, xZ, xZ, xZ, xR x6] [xI s0] h Q X := by
  have hnx9 : (93 : Int) ≤ xnx h := F.2.2
  refine xr_okS (fun hs9 => ?_)
  have r_s0 : -2147483648 ≤ s0 ∧ s0 ≤ 2147483647 := hs9 (xI s0) (.head _)
  refine xr_pop (pc := 175) (hI := d_B_add_175) (hv := rfl) ?_
  refine xr_aload (pc := 176) (i := 6) (hI := d_B_add_176) (hl := rfl) ?_
  obtain ⟨c9, hyp⟩ := hyp
  have t1_ := c9
  clear c9
  exact xq_callV (pc := 178) (index := 110) (K := m_Text_wordCount) (As := []) (S := []) (L0 := [xR x6, xZ]) (hI := d_B_add_178) (hK := k_Text_wordCount) (hlk := w_1391) (hnoM := rfl) (hS8 := Nat.le_of_ble_eq_true rfl) (ci := 9) (N := 6) (C := "BeaconIndex$Text") (T := xF9) (hc := rfl) (hci := Nat.le_of_ble_eq_true rfl) (htb := t1_) (hinst := w_1392) (hsel := w_1393) (hlen := Nat.le_of_ble_eq_true rfl) (hst := rfl) (hL0 := rfl)  (xwp_mono hyp (fun v9 h9 q9 => xr_drop (L9 := [xZ, xZ, xZ, xZ, xZ, xZ, xZ]) (xdrs (xdrs (xdrs (xdrs (xdrs (xdrs (xdrz xdr0))))))) q9) (fun _ _ z9 => z9))
theorem d_B_add_181 : decode prog_1_method_4_code 181 = .ok (.ireturn, 1) := by decide +kernel
theorem v_B_add_181 {G : XG} {d : Nat} {h : XH} {Q : XV → XH → Prop} {X : Nat → XH → Prop} {s0 : Int} (F : xFix h) (hyp : (Q (xI s0) h)) : xwp G m_B_add (d + 10) 181 [xZ, xZ, xZ, xZ, xZ, xZ, xZ] [xI s0] h Q X := by
  have hnx9 : (93 : Int) ≤ xnx h := F.2.2
  refine xr_okS (fun hs9 => ?_)
  have r_s0 : -2147483648 ≤ s0 ∧ s0 ≤ 2147483647 := hs9 (xI s0) (.head _)
  refine xr_ireturn (S := []) (pc := 181) (hI := d_B_add_181) (hr := rfl) ?_
  exact hyp
abbrev m_B_takeOut : XM := (⟨"BeaconIndex", "takeOut", "(I)Z"⟩, prog_1_method_5_code, 3, (some .boolean), [])
theorem d_B_takeOut_0 : decode prog_1_method_5_code 0 = .ok (.iload_n 1, 1) := by decide +kernel
theorem d_B_takeOut_1 : decode prog_1_method_5_code 1 = .ok (.invokestatic 69, 3) := by decide +kernel
theorem d_B_takeOut_4 : decode prog_1_method_5_code 4 = .ok (.aload_n 0, 1) := by decide +kernel
theorem d_B_takeOut_5 : decode prog_1_method_5_code 5 = .ok (.getfield 19, 3) := by decide +kernel
theorem d_B_takeOut_8 : decode prog_1_method_5_code 8 = .ok (.iload_n 1, 1) := by decide +kernel
theorem d_B_takeOut_9 : decode prog_1_method_5_code 9 = .ok (.invokevirtual 72, 3) := by decide +kernel
theorem d_B_takeOut_12 : decode prog_1_method_5_code 12 = .ok (.iconst (-1), 1) := by decide +kernel
theorem d_B_takeOut_13 : decode prog_1_method_5_code 13 = .ok (.if_icmp .eq 7, 3) := by decide +kernel
theorem d_B_takeOut_20 : decode prog_1_method_5_code 20 = .ok (.iconst 0, 1) := by decide +kernel
theorem d_B_takeOut_16 : decode prog_1_method_5_code 16 = .ok (.iconst 1, 1) := by decide +kernel
theorem d_B_takeOut_17 : decode prog_1_method_5_code 17 = .ok (.goto 4, 3) := by decide +kernel
theorem v_B_takeOut_0 {G : XG} {d : Nat} {h : XH} {Q : XV → XH → Prop} {X : Nat → XH → Prop} {x1 : Int} (F : xFix h) (hyp : ((x1 < 0 → xnx h + 1 ≤ xKC ∧ xsl h + 6 ≤ xKS ∧ (xFix (xmk h 300 6 (fun _ => 0)) → X 0 (xmk h 300 6 (fun _ => 0)))) ∧ (¬ x1 < 0 → ((x1 < 100 → stok h ∧ (((kidx (bufL h) x1) = (-1) → (xwp G m_B_takeOut (d + 8) 21 [xR 0, xI x1, xZ] [xI 0] h Q X)) ∧ (¬ (kidx (bufL h) x1) = (-1) → (xwp G m_B_takeOut (d + 8) 21 [xR 0, xI x1, xZ] [xI 1] h Q X)))) ∧ (¬ x1 < 100 → xnx h + 1 ≤ xKC ∧ xsl h + 6 ≤ xKS ∧ (xFix (xmk h 300 6 (fun _ => 0)) → X 0 (xmk h 300 6 (fun _ => 0)))))))) : xwp G m_B_takeOut (d + 8) 0 [xR 0, xI x1, xZ] [] h Q X := by
  have hnx9 : (93 : Int) ≤ xnx h := F.2.2
  refine xr_okL (fun hl9 => ?_)
  have r_x1 : -2147483648 ≤ x1 ∧ x1 ≤ 2147483647 := hl9 (xI x1) (.tail _ (.head _)) (Nat.le_of_ble_eq_true rfl)
  refine xr_iload_n (pc := 0) (i := 1) (hI := d_B_takeOut_0) (hi := rfl) (hl := rfl) ?_
  refine xq_callS (pc := 1) (index := 69) (K := m_B_checkKey) (As := [xI x1]) (S := []) (L0 := [xI x1]) (hI := d_B_takeOut_1) (hK := k_B_checkKey) (hlk := w_1292) (hnoM := rfl) (hS8 := Nat.le_of_ble_eq_true rfl) (hstat := w_1293) (hlen := Nat.le_of_ble_eq_true rfl) (hst := rfl) (hL0 := rfl)  ?_
  refine xr_iload_n (pc := 0) (i := 0) (hI := d_B_checkKey_0) (hi := rfl) (hl := rfl) ?_
  refine xr_if_lt (pc := 1) (tgt := 10) (hI := d_B_checkKey_1) (ht := by decide) (fun q9 => ?_) (fun q9 => ?_)
  · replace hyp := hyp.1 q9
    have q1_ := q9
    clear q9
    obtain ⟨c7, c8, hyp⟩ := hyp
    exact xr_throw (pc := 10) (k := 0) (ik := 66) (ic := 68) (names := ["java/lang/RuntimeException", "java/lang/Exception"]) (by decide +kernel) (by decide +kernel) (by decide) w_1295 w_21 thr_B_68.1 thr_B_68.2 d_B_checkKey_10 d_B_checkKey_13 d_B_checkKey_14 d_B_checkKey_17 rfl (Nat.le_of_ble_eq_true rfl) (Nat.le_add_left_of_le (by decide)) (Nat.le_of_ble_eq_true rfl) c7 c8 (hyp (xFix.mk F))
  · replace hyp := hyp.2 q9
    have q1_ := q9
    clear q9
    refine xr_iload_n (pc := 4) (i := 0) (hI := d_B_checkKey_4) (hi := rfl) (hl := rfl) ?_
    refine xr_bipush (pc := 5) (hI := d_B_checkKey_5) (hr := by decide) (hv := by decide) ?_
    refine xr_icmp_lt (pc := 7) (tgt := 18) (hI := d_B_checkKey_7) (ht := by decide) (fun q9 => ?_) (fun q9 => ?_)
    · replace hyp := hyp.1 q9
      have q2_ := q9
      clear q9
      refine xr_return (S := []) (pc := 18) (hI := d_B_checkKey_18) (hr := rfl) ?_
      show xwp G m_B_takeOut (d + 8) 4 [xR 0, xI x1, xZ] [] _ _ _
      refine xr_aload_n (pc := 4) (i := 0) (hI := d_B_takeOut_4) (hi := rfl) (hl := rfl) ?_
      refine xg_getf (pc := 5) (ci := 0) (k := 1) (N := 7) (v9 := 2) (v := 5) (T := xF0) (hI := d_B_takeOut_5) (hw := w_431) rfl xi0 (Or.inl rfl) (Nat.le_of_ble_eq_true rfl) (Nat.le_of_ble_eq_true rfl) rfl (ft_0 F) (fp_0_1 F) (fun f3_ => ?_)
      clear f3_
      refine xr_iload_n (pc := 8) (i := 1) (hI := d_B_takeOut_8) (hi := rfl) (hl := rfl) ?_
      obtain ⟨c4_, hyp⟩ := hyp
      refine xq_callV (pc := 9) (index := 72) (K := m_Store_placeInBuffer) (As := [xI x1]) (S := []) (L0 := [xR 5, xI x1, xZ]) (hI := d_B_takeOut_9) (hK := k_Store_placeInBuffer) (hlk := w_1365) (hnoM := rfl) (hS8 := Nat.le_of_ble_eq_true rfl) (ci := 7) (N := 6) (C := "BeaconIndex$Store") (T := xF7) (hc := rfl) (hci := Nat.le_of_ble_eq_true rfl) (htb := (ft_5 F)) (hinst := w_1366) (hsel := w_1367) (hlen := Nat.le_of_ble_eq_true rfl) (hst := rfl) (hL0 := rfl)  (p_Store_placeInBuffer F c4_ ?_)
      show xwp G m_B_takeOut (d + 8) 12 [xR 0, xI x1, xZ] [xI (kidx (bufL h) x1)] _ _ _
      have f5_ : -1 ≤ (kidx (bufL h) x1) := (idxI_rng _ _).1
      have f6_ : (kidx (bufL h) x1) < als h 6 := kidx_lt c4_ _
      refine xr_iconst (pc := 12) (hI := d_B_takeOut_12) (hr := by decide) ?_
      refine xr_icmp_eq (pc := 13) (tgt := 20) (hI := d_B_takeOut_13) (ht := by decide) (fun q9 => ?_) (fun q9 => ?_)
      · replace hyp := hyp.1 q9
        have q7_ := q9
        clear q9
        refine xr_iconst (pc := 20) (hI := d_B_takeOut_20) (hr := by decide) ?_
        exact hyp
      · replace hyp := hyp.2 q9
        have q7_ := q9
        clear q9
        refine xr_iconst (pc := 16) (hI := d_B_takeOut_16) (hr := by decide) ?_
        refine xr_goto (pc := 17) (tgt := 21) (hI := d_B_takeOut_17) (ht := by decide) ?_
        exact hyp
    · replace hyp := hyp.2 q9
      have q2_ := q9
      clear q9
      obtain ⟨c7, c8, hyp⟩ := hyp
      exact xr_throw (pc := 10) (k := 0) (ik := 66) (ic := 68) (names := ["java/lang/RuntimeException", "java/lang/Exception"]) (by decide +kernel) (by decide +kernel) (by decide) w_1295 w_21 thr_B_68.1 thr_B_68.2 d_B_checkKey_10 d_B_checkKey_13 d_B_checkKey_14 d_B_checkKey_17 rfl (Nat.le_of_ble_eq_true rfl) (Nat.le_add_left_of_le (by decide)) (Nat.le_of_ble_eq_true rfl) c7 c8 (hyp (xFix.mk F))
theorem d_B_takeOut_21 : decode prog_1_method_5_code 21 = .ok (.istore_n 2, 1) := by decide +kernel
theorem d_B_takeOut_22 : decode prog_1_method_5_code 22 = .ok (.iload_n 2, 1) := by decide +kernel
theorem d_B_takeOut_23 : decode prog_1_method_5_code 23 = .ok (.ifCond .ne 23, 3) := by decide +kernel
theorem d_B_takeOut_46 : decode prog_1_method_5_code 46 = .ok (.aload_n 0, 1) := by decide +kernel
theorem d_B_takeOut_47 : decode prog_1_method_5_code 47 = .ok (.getfield 19, 3) := by decide +kernel
theorem d_B_takeOut_50 : decode prog_1_method_5_code 50 = .ok (.iload_n 1, 1) := by decide +kernel
theorem d_B_takeOut_51 : decode prog_1_method_5_code 51 = .ok (.invokevirtual 92, 3) := by decide +kernel
theorem d_B_takeOut_26 : decode prog_1_method_5_code 26 = .ok (.aload_n 0, 1) := by decide +kernel
theorem d_B_takeOut_27 : decode prog_1_method_5_code 27 = .ok (.getfield 19, 3) := by decide +kernel
theorem d_B_takeOut_30 : decode prog_1_method_5_code 30 = .ok (.iload_n 1, 1) := by decide +kernel
theorem d_B_takeOut_31 : decode prog_1_method_5_code 31 = .ok (.invokevirtual 113, 3) := by decide +kernel
theorem w_1310 : Cond.methodLink "BeaconIndex" 113 ⟨"BeaconIndex$Store", "placeInSegments", "(I)I"⟩ ∈ lw_tbl := List.mem_append_right _ (List.mem_of_getElem? (i := 1310) (by decide +kernel))
theorem d_B_takeOut_34 : decode prog_1_method_5_code 34 = .ok (.iconst (-1), 1) := by decide +kernel
theorem d_B_takeOut_35 : decode prog_1_method_5_code 35 = .ok (.if_icmp .ne 11, 3) := by decide +kernel
theorem d_B_takeOut_38 : decode prog_1_method_5_code 38 = .ok (.new 59, 3) := by decide +kernel
theorem d_B_takeOut_41 : decode prog_1_method_5_code 41 = .ok (.dup, 1) := by decide +kernel
theorem d_B_takeOut_42 : decode prog_1_method_5_code 42 = .ok (.invokespecial 61, 3) := by decide +kernel
theorem d_B_takeOut_45 : decode prog_1_method_5_code 45 = .ok (.athrow, 1) := by decide +kernel
theorem v_B_takeOut_21 {G : XG} {d : Nat} {h : XH} {Q : XV → XH → Prop} {X : Nat → XH → Prop} {x1 s0 : Int} (F : xFix h) (hyp : ((s0 = 0 → stok h ∧ (((sidx (filL h) x1) = (-1) → xnx h + 1 ≤ xKC ∧ xsl h + 6 ≤ xKS ∧ (xFix (xmk h 300 6 (fun _ => 0)) → X 1 (xmk h 300 6 (fun _ => 0)))) ∧ (¬ (sidx (filL h) x1) = (-1) → (xwp G m_Store_drop (d + 7) 0 [xR 5, xI x1, xZ] [] h (fun v9 h9 => xwp G m_B_takeOut (d + 8) 54 [xR 0, xZ, xI s0] (xpush v9 []) h9 Q X) X)))) ∧ (¬ s0 = 0 → (xwp G m_Store_drop (d + 7) 0 [xR 5, xI x1, xZ] [] h (fun v9 h9 => xwp G m_B_takeOut (d + 8) 54 [xR 0, xZ, xI s0] (xpush v9 []) h9 Q X) X)))) : xwp G m_B_takeOut (d + 8) 21 [xR 0, xI x1, xZ] [xI s0] h Q X := by
  have hnx9 : (93 : Int) ≤ xnx h := F.2.2
  refine xr_okL (fun hl9 => ?_)
  have r_x1 : -2147483648 ≤ x1 ∧ x1 ≤ 2147483647 := hl9 (xI x1) (.tail _ (.head _)) (Nat.le_of_ble_eq_true rfl)
  refine xr_okS (fun hs9 => ?_)
  have r_s0 : -2147483648 ≤ s0 ∧ s0 ≤ 2147483647 := hs9 (xI s0) (.head _)
  refine xr_istore_n (pc := 21) (i := 2) (L9 := [xR 0, xI x1, xI s0]) (hI := d_B_takeOut_21) (hi := rfl) (hn := Nat.le_of_ble_eq_true rfl) (hL9 := rfl) ?_
  refine xr_iload_n (pc := 22) (i := 2) (hI := d_B_takeOut_22) (hi := rfl) (hl := rfl) ?_
  refine xr_if_ne (pc := 23) (tgt := 46) (hI := d_B_takeOut_23) (ht := by decide) (fun q9 => ?_) (fun q9 => ?_)
  · replace hyp := hyp.2 q9
    have q1_ := q9
    clear q9
    refine xr_aload_n (pc := 46) (i := 0) (hI := d_B_takeOut_46) (hi := rfl) (hl := rfl) ?_
    refine xg_getf (pc := 47) (ci := 0) (k := 1) (N := 7) (v9 := 2) (v := 5) (T := xF0) (hI := d_B_takeOut_47) (hw := w_431) rfl xi0 (Or.inl rfl) (Nat.le_of_ble_eq_true rfl) (Nat.le_of_ble_eq_true rfl) rfl (ft_0 F) (fp_0_1 F) (fun f2_ => ?_)
    clear f2_
    refine xr_iload_n (pc := 50) (i := 1) (hI := d_B_takeOut_50) (hi := rfl) (hl := rfl) ?_
    exact xq_callV (pc := 51) (index := 92) (K := m_Store_drop) (As := [xI x1]) (S := []) (L0 := [xR 5, xI x1, xZ]) (hI := d_B_takeOut_51) (hK := k_Store_drop) (hlk := w_1384) (hnoM := rfl) (hS8 := Nat.le_of_ble_eq_true rfl) (ci := 7) (N := 6) (C := "BeaconIndex$Store") (T := xF7) (hc := rfl) (hci := Nat.le_of_ble_eq_true rfl) (htb := (ft_5 F)) (hinst := w_1385) (hsel := w_1386) (hlen := Nat.le_of_ble_eq_true rfl) (hst := rfl) (hL0 := rfl)  (xwp_mono hyp (fun v9 h9 q9 => xr_drop (L9 := [xR 0, xZ, xI s0]) (xdrs (xdrz (xdrs xdr0))) q9) (fun _ _ z9 => z9))
  · replace hyp := hyp.1 q9
    have q1_ := q9
    clear q9
    refine xr_aload_n (pc := 26) (i := 0) (hI := d_B_takeOut_26) (hi := rfl) (hl := rfl) ?_
    refine xg_getf (pc := 27) (ci := 0) (k := 1) (N := 7) (v9 := 2) (v := 5) (T := xF0) (hI := d_B_takeOut_27) (hw := w_431) rfl xi0 (Or.inl rfl) (Nat.le_of_ble_eq_true rfl) (Nat.le_of_ble_eq_true rfl) rfl (ft_0 F) (fp_0_1 F) (fun f3_ => ?_)
    clear f3_
    refine xr_iload_n (pc := 30) (i := 1) (hI := d_B_takeOut_30) (hi := rfl) (hl := rfl) ?_
    obtain ⟨c4_, hyp⟩ := hyp
    refine xq_callV (pc := 31) (index := 113) (K := m_Store_placeInSegments) (As := [xI x1]) (S := []) (L0 := [xR 5, xI x1, xZ, xZ]) (hI := d_B_takeOut_31) (hK := k_Store_placeInSegments) (hlk := w_1310) (hnoM := rfl) (hS8 := Nat.le_of_ble_eq_true rfl) (ci := 7) (N := 6) (C := "BeaconIndex$Store") (T := xF7) (hc := rfl) (hci := Nat.le_of_ble_eq_true rfl) (htb := (ft_5 F)) (hinst := w_1311) (hsel := w_1312) (hlen := Nat.le_of_ble_eq_true rfl) (hst := rfl) (hL0 := rfl)  (p_Store_placeInSegments F c4_ ?_)
    show xwp G m_B_takeOut (d + 8) 34 [xR 0, xI x1, xI s0] [xI (sidx (filL h) x1)] _ _ _
    have f5_ : -1 ≤ (sidx (filL h) x1) := (idxI_rng _ _).1
    have f6_ : (sidx (filL h) x1) < als h 7 := sidx_lt c4_ _
    refine xr_iconst (pc := 34) (hI := d_B_takeOut_34) (hr := by decide) ?_
    refine xr_icmp_ne (pc := 35) (tgt := 46) (hI := d_B_takeOut_35) (ht := by decide) (fun q9 => ?_) (fun q9 => ?_)
    · replace hyp := hyp.2 q9
      have q7_ := q9
      clear q9
      refine xr_aload_n (pc := 46) (i := 0) (hI := d_B_takeOut_46) (hi := rfl) (hl := rfl) ?_
      refine xg_getf (pc := 47) (ci := 0) (k := 1) (N := 7) (v9 := 2) (v := 5) (T := xF0) (hI := d_B_takeOut_47) (hw := w_431) rfl xi0 (Or.inl rfl) (Nat.le_of_ble_eq_true rfl) (Nat.le_of_ble_eq_true rfl) rfl (ft_0 F) (fp_0_1 F) (fun f8_ => ?_)
      clear f8_
      refine xr_iload_n (pc := 50) (i := 1) (hI := d_B_takeOut_50) (hi := rfl) (hl := rfl) ?_
      exact xq_callV (pc := 51) (index := 92) (K := m_Store_drop) (As := [xI x1]) (S := []) (L0 := [xR 5, xI x1, xZ]) (hI := d_B_takeOut_51) (hK := k_Store_drop) (hlk := w_1384) (hnoM := rfl) (hS8 := Nat.le_of_ble_eq_true rfl) (ci := 7) (N := 6) (C := "BeaconIndex$Store") (T := xF7) (hc := rfl) (hci := Nat.le_of_ble_eq_true rfl) (htb := (ft_5 F)) (hinst := w_1385) (hsel := w_1386) (hlen := Nat.le_of_ble_eq_true rfl) (hst := rfl) (hL0 := rfl)  (xwp_mono hyp (fun v9 h9 q9 => xr_drop (L9 := [xR 0, xZ, xI s0]) (xdrs (xdrz (xdrs xdr0))) q9) (fun _ _ z9 => z9))
    · replace hyp := hyp.1 q9
      have q7_ := q9
      clear q9
      obtain ⟨c7, c8, hyp⟩ := hyp
      exact xr_throw (pc := 38) (k := 1) (ik := 59) (ic := 61) (names := ["java/lang/RuntimeException", "java/lang/Exception"]) (by decide +kernel) (by decide +kernel) (by decide) w_1242 w_20 thr_B_61.1 thr_B_61.2 d_B_takeOut_38 d_B_takeOut_41 d_B_takeOut_42 d_B_takeOut_45 rfl (Nat.le_of_ble_eq_true rfl) (Nat.le_add_left_of_le (by decide)) (Nat.le_of_ble_eq_true rfl) c7 c8 (hyp (xFix.mk F))
theorem d_B_takeOut_54 : decode prog_1_method_5_code 54 = .ok (.ifCond .eq 21, 3) := by decide +kernel
theorem d_B_takeOut_57 : decode prog_1_method_5_code 57 = .ok (.aload_n 0, 1) := by decide +kernel
theorem d_B_takeOut_58 : decode prog_1_method_5_code 58 = .ok (.getfield 40, 3) := by decide +kernel
theorem d_B_takeOut_61 : decode prog_1_method_5_code 61 = .ok (.aload_n 0, 1) := by decide +kernel
theorem d_B_takeOut_62 : decode prog_1_method_5_code 62 = .ok (.getfield 51, 3) := by decide +kernel
theorem d_B_takeOut_65 : decode prog_1_method_5_code 65 = .ok (.aload_n 0, 1) := by decide +kernel
theorem d_B_takeOut_66 : decode prog_1_method_5_code 66 = .ok (.getfield 19, 3) := by decide +kernel
theorem d_B_takeOut_69 : decode prog_1_method_5_code 69 = .ok (.getfield 96, 3) := by decide +kernel
theorem d_B_takeOut_72 : decode prog_1_method_5_code 72 = .ok (.invokevirtual 99, 3) := by decide +kernel
theorem v_B_takeOut_54 {G : XG} {d : Nat} {h : XH} {Q : XV → XH → Prop} {X : Nat → XH → Prop} {x2 s0 : Int} (F : xFix h) (hyp : ((s0 = 0 → (xwp G m_B_takeOut (d + 8) 75 [xZ, xZ, xI x2] [] h Q X)) ∧ (¬ s0 = 0 → (xwp G m_Findings_refresh (d + 7) 0 [xR 40, xR (xpl h 0 6), xR 7, xZ, xZ] [] h (fun v9 h9 => xwp G m_B_takeOut (d + 8) 75 [xZ, xZ, xI x2] (xpush v9 []) h9 Q X) X)))) : xwp G m_B_takeOut (d + 8) 54 [xR 0, xZ, xI x2] [xI s0] h Q X := by
  have hnx9 : (93 : Int) ≤ xnx h := F.2.2
  refine xr_okL (fun hl9 => ?_)
  have r_x2 : -2147483648 ≤ x2 ∧ x2 ≤ 2147483647 := hl9 (xI x2) (.tail _ (.tail _ (.head _))) (Nat.le_of_ble_eq_true rfl)
  refine xr_okS (fun hs9 => ?_)
  have r_s0 : -2147483648 ≤ s0 ∧ s0 ≤ 2147483647 := hs9 (xI s0) (.head _)
  refine xr_if_eq (pc := 54) (tgt := 75) (hI := d_B_takeOut_54) (ht := by decide) (fun q9 => ?_) (fun q9 => ?_)
  · replace hyp := hyp.1 q9
    have q1_ := q9
    clear q9
    exact xr_drop (L9 := [xZ, xZ, xI x2]) (xdrz (xdrs (xdrs xdr0))) hyp
  · replace hyp := hyp.2 q9
    have q1_ := q9
    clear q9
    refine xr_aload_n (pc := 57) (i := 0) (hI := d_B_takeOut_57) (hi := rfl) (hl := rfl) ?_
    refine xg_getf (pc := 58) (ci := 0) (k := 4) (N := 7) (v9 := 2) (v := 40) (T := xF0) (hI := d_B_takeOut_58) (hw := w_434) rfl xi0 (Or.inl rfl) (Nat.le_of_ble_eq_true rfl) (Nat.le_of_ble_eq_true rfl) rfl (ft_0 F) (fp_0_4 F) (fun f2_ => ?_)
    clear f2_
    refine xr_aload_n (pc := 61) (i := 0) (hI := d_B_takeOut_61) (hi := rfl) (hl := rfl) ?_
    refine xg_getf (pc := 62) (ci := 0) (k := 6) (N := 7) (v9 := 2) (v := (xpl h 0 6)) (T := xF0) (hI := d_B_takeOut_62) (hw := w_436) rfl xi0 (Or.inl rfl) (Nat.le_of_ble_eq_true rfl) (Nat.le_of_ble_eq_true rfl) rfl (ft_0 F) rfl (fun f3_ => ?_)
    clear f3_
    refine xr_aload_n (pc := 65) (i := 0) (hI := d_B_takeOut_65) (hi := rfl) (hl := rfl) ?_
    refine xg_getf (pc := 66) (ci := 0) (k := 1) (N := 7) (v9 := 2) (v := 5) (T := xF0) (hI := d_B_takeOut_66) (hw := w_431) rfl xi0 (Or.inl rfl) (Nat.le_of_ble_eq_true rfl) (Nat.le_of_ble_eq_true rfl) rfl (ft_0 F) (fp_0_1 F) (fun f4_ => ?_)
    clear f4_
    refine xg_getf (pc := 69) (ci := 7) (k := 1) (N := 6) (v9 := 2) (v := 7) (T := xF7) (hI := d_B_takeOut_69) (hw := w_151) rfl xi7 (Or.inl rfl) (Nat.le_of_ble_eq_true rfl) (Nat.le_of_ble_eq_true rfl) rfl (ft_5 F) (fp_5_1 F) (fun f5_ => ?_)
    clear f5_
    exact xq_callV (pc := 72) (index := 99) (K := m_Findings_refresh) (As := [xR (xpl h 0 6), xR 7]) (S := []) (L0 := [xR 40, xR (xpl h 0 6), xR 7, xZ, xZ]) (hI := d_B_takeOut_72) (hK := k_Findings_refresh) (hlk := w_594) (hnoM := rfl) (hS8 := Nat.le_of_ble_eq_true rfl) (ci := 1) (N := 6) (C := "BeaconIndex$Findings") (T := xF1) (hc := rfl) (hci := Nat.le_of_ble_eq_true rfl) (htb := (ft_40 F)) (hinst := w_595) (hsel := w_596) (hlen := Nat.le_of_ble_eq_true rfl) (hst := rfl) (hL0 := rfl)  (xwp_mono hyp (fun v9 h9 q9 => xr_drop (L9 := [xZ, xZ, xI x2]) (xdrz (xdrs (xdrs xdr0))) q9) (fun _ _ z9 => z9))
theorem d_B_takeOut_75 : decode prog_1_method_5_code 75 = .ok (.iload_n 2, 1) := by decide +kernel
theorem d_B_takeOut_76 : decode prog_1_method_5_code 76 = .ok (.ireturn, 1) := by decide +kernel
theorem v_B_takeOut_75 {G : XG} {d : Nat} {h : XH} {Q : XV → XH → Prop} {X : Nat → XH → Prop} {x2 : Int} (F : xFix h) (hyp : (0 ≤ x2 ∧ x2 ≤ 1) ∧ (Q (xI x2) h)) : xwp G m_B_takeOut (d + 8) 75 [xZ, xZ, xI x2] [] h Q X := by
  have hnx9 : (93 : Int) ≤ xnx h := F.2.2
  refine xr_okL (fun hl9 => ?_)
  have r_x2 : -2147483648 ≤ x2 ∧ x2 ≤ 2147483647 := hl9 (xI x2) (.tail _ (.tail _ (.head _))) (Nat.le_of_ble_eq_true rfl)
  refine xr_iload_n (pc := 75) (i := 2) (hI := d_B_takeOut_75) (hi := rfl) (hl := rfl) ?_
  obtain ⟨c9, hyp⟩ := hyp
  refine xr_ireturnT (S := []) (pc := 76) (hI := d_B_takeOut_76) (hr := rfl) (xnar_z c9) ?_
  exact hyp
abbrev m_B_commit : XM := (⟨"BeaconIndex", "commit", "()I"⟩, prog_1_method_6_code, 1, (some .int), [])
theorem d_B_commit_0 : decode prog_1_method_6_code 0 = .ok (.aload_n 0, 1) := by decide +kernel
theorem d_B_commit_1 : decode prog_1_method_6_code 1 = .ok (.getfield 19, 3) := by decide +kernel
theorem d_B_commit_4 : decode prog_1_method_6_code 4 = .ok (.invokevirtual 116, 3) := by decide +kernel
theorem k_Store_fileBuffer : xCal m_Store_fileBuffer 0 := ⟨List.mem_append_right _ (List.mem_of_getElem? (i := 459) (by decide +kernel)), w_3, Nat.le_of_ble_eq_true rfl, ⟨by decide +kernel, by decide +kernel⟩, by decide +kernel, by decide +kernel, rfl⟩
theorem w_456 : Cond.methodLink "BeaconIndex" 116 ⟨"BeaconIndex$Store", "fileBuffer", "()V"⟩ ∈ lw_tbl := List.mem_append_right _ (List.mem_of_getElem? (i := 456) (by decide +kernel))
theorem w_457 : Cond.instanceMethod ⟨"BeaconIndex$Store", "fileBuffer", "()V"⟩ ∈ lw_tbl := List.mem_append_right _ (List.mem_of_getElem? (i := 457) (by decide +kernel))
theorem w_458 : Cond.selects "BeaconIndex$Store" ⟨"BeaconIndex$Store", "fileBuffer", "()V"⟩ ⟨"BeaconIndex$Store", "fileBuffer", "()V"⟩ ∈ lw_tbl := List.mem_append_right _ (List.mem_of_getElem? (i := 458) (by decide +kernel))
theorem v_B_commit_0 {G : XG} {d : Nat} {h : XH} {Q : XV → XH → Prop} {X : Nat → XH → Prop} (F : xFix h) (hyp : (xwp G m_Store_fileBuffer (d + 8) 0 [xR 5, xZ] [] h (fun v9 h9 => xwp G m_B_commit (d + 9) 7 [xR 0] (xpush v9 []) h9 Q X) X)) : xwp G m_B_commit (d + 9) 0 [xR 0] [] h Q X := by
  have hnx9 : (93 : Int) ≤ xnx h := F.2.2
  refine xr_aload_n (pc := 0) (i := 0) (hI := d_B_commit_0) (hi := rfl) (hl := rfl) ?_
  refine xg_getf (pc := 1) (ci := 0) (k := 1) (N := 7) (v9 := 2) (v := 5) (T := xF0) (hI := d_B_commit_1) (hw := w_431) rfl xi0 (Or.inl rfl) (Nat.le_of_ble_eq_true rfl) (Nat.le_of_ble_eq_true rfl) rfl (ft_0 F) (fp_0_1 F) (fun f1_ => ?_)
  clear f1_
  exact xq_callV (pc := 4) (index := 116) (K := m_Store_fileBuffer) (As := []) (S := []) (L0 := [xR 5, xZ]) (hI := d_B_commit_4) (hK := k_Store_fileBuffer) (hlk := w_456) (hnoM := rfl) (hS8 := Nat.le_of_ble_eq_true rfl) (ci := 7) (N := 6) (C := "BeaconIndex$Store") (T := xF7) (hc := rfl) (hci := Nat.le_of_ble_eq_true rfl) (htb := (ft_5 F)) (hinst := w_457) (hsel := w_458) (hlen := Nat.le_of_ble_eq_true rfl) (hst := rfl) (hL0 := rfl)  hyp
theorem d_B_commit_7 : decode prog_1_method_6_code 7 = .ok (.aload_n 0, 1) := by decide +kernel
theorem d_B_commit_8 : decode prog_1_method_6_code 8 = .ok (.getfield 19, 3) := by decide +kernel
theorem d_B_commit_11 : decode prog_1_method_6_code 11 = .ok (.invokevirtual 119, 3) := by decide +kernel
theorem k_Store_mergeWhereDue : xCal m_Store_mergeWhereDue 0 := ⟨List.mem_append_right _ (List.mem_of_getElem? (i := 556) (by decide +kernel)), w_3, Nat.le_of_ble_eq_true rfl, ⟨by decide +kernel, by decide +kernel⟩, by decide +kernel, by decide +kernel, rfl⟩
theorem w_553 : Cond.methodLink "BeaconIndex" 119 ⟨"BeaconIndex$Store", "mergeWhereDue", "()V"⟩ ∈ lw_tbl := List.mem_append_right _ (List.mem_of_getElem? (i := 553) (by decide +kernel))
theorem w_554 : Cond.instanceMethod ⟨"BeaconIndex$Store", "mergeWhereDue", "()V"⟩ ∈ lw_tbl := List.mem_append_right _ (List.mem_of_getElem? (i := 554) (by decide +kernel))
theorem w_555 : Cond.selects "BeaconIndex$Store" ⟨"BeaconIndex$Store", "mergeWhereDue", "()V"⟩ ⟨"BeaconIndex$Store", "mergeWhereDue", "()V"⟩ ∈ lw_tbl := List.mem_append_right _ (List.mem_of_getElem? (i := 555) (by decide +kernel))
theorem v_B_commit_7 {G : XG} {d : Nat} {h : XH} {Q : XV → XH → Prop} {X : Nat → XH → Prop} (F : xFix h) (hyp : (xwp G m_Store_mergeWhereDue (d + 8) 0 [xR 5, xZ, xZ] [] h (fun v9 h9 => xwp G m_B_commit (d + 9) 14 [xR 0] (xpush v9 []) h9 Q X) X)) : xwp G m_B_commit (d + 9) 7 [xR 0] [] h Q X := by
  have hnx9 : (93 : Int) ≤ xnx h := F.2.2
  refine xr_aload_n (pc := 7) (i := 0) (hI := d_B_commit_7) (hi := rfl) (hl := rfl) ?_
  refine xg_getf (pc := 8) (ci := 0) (k := 1) (N := 7) (v9 := 2) (v := 5) (T := xF0) (hI := d_B_commit_8) (hw := w_431) rfl xi0 (Or.inl rfl) (Nat.le_of_ble_eq_true rfl) (Nat.le_of_ble_eq_true rfl) rfl (ft_0 F) (fp_0_1 F) (fun f1_ => ?_)
  clear f1_
  exact xq_callV (pc := 11) (index := 119) (K := m_Store_mergeWhereDue) (As := []) (S := []) (L0 := [xR 5, xZ, xZ]) (hI := d_B_commit_11) (hK := k_Store_mergeWhereDue) (hlk := w_553) (hnoM := rfl) (hS8 := Nat.le_of_ble_eq_true rfl) (ci := 7) (N := 6) (C := "BeaconIndex$Store") (T := xF7) (hc := rfl) (hci := Nat.le_of_ble_eq_true rfl) (htb := (ft_5 F)) (hinst := w_554) (hsel := w_555) (hlen := Nat.le_of_ble_eq_true rfl) (hst := rfl) (hL0 := rfl)  hyp
theorem d_B_commit_14 : decode prog_1_method_6_code 14 = .ok (.aload_n 0, 1) := by decide +kernel
theorem d_B_commit_15 : decode prog_1_method_6_code 15 = .ok (.getfield 40, 3) := by decide +kernel
theorem d_B_commit_18 : decode prog_1_method_6_code 18 = .ok (.aload_n 0, 1) := by decide +kernel
theorem d_B_commit_19 : decode prog_1_method_6_code 19 = .ok (.getfield 51, 3) := by decide +kernel
theorem d_B_commit_22 : decode prog_1_method_6_code 22 = .ok (.aload_n 0, 1) := by decide +kernel
theorem d_B_commit_23 : decode prog_1_method_6_code 23 = .ok (.getfield 19, 3) := by decide +kernel
theorem d_B_commit_26 : decode prog_1_method_6_code 26 = .ok (.getfield 96, 3) := by decide +kernel
theorem d_B_commit_29 : decode prog_1_method_6_code 29 = .ok (.invokevirtual 99, 3) := by decide +kernel
theorem v_B_commit_14 {G : XG} {d : Nat} {h : XH} {Q : XV → XH → Prop} {X : Nat → XH → Prop} (F : xFix h) (hyp : (xwp G m_Findings_refresh (d + 8) 0 [xR 40, xR (xpl h 0 6), xR 7, xZ, xZ] [] h (fun v9 h9 => xwp G m_B_commit (d + 9) 32 [xR 0] (xpush v9 []) h9 Q X) X)) : xwp G m_B_commit (d + 9) 14 [xR 0] [] h Q X := by
  have hnx9 : (93 : Int) ≤ xnx h := F.2.2
  refine xr_aload_n (pc := 14) (i := 0) (hI := d_B_commit_14) (hi := rfl) (hl := rfl) ?_
  refine xg_getf (pc := 15) (ci := 0) (k := 4) (N := 7) (v9 := 2) (v := 40) (T := xF0) (hI := d_B_commit_15) (hw := w_434) rfl xi0 (Or.inl rfl) (Nat.le_of_ble_eq_true rfl) (Nat.le_of_ble_eq_true rfl) rfl (ft_0 F) (fp_0_4 F) (fun f1_ => ?_)
  clear f1_
  refine xr_aload_n (pc := 18) (i := 0) (hI := d_B_commit_18) (hi := rfl) (hl := rfl) ?_
  refine xg_getf (pc := 19) (ci := 0) (k := 6) (N := 7) (v9 := 2) (v := (xpl h 0 6)) (T := xF0) (hI := d_B_commit_19) (hw := w_436) rfl xi0 (Or.inl rfl) (Nat.le_of_ble_eq_true rfl) (Nat.le_of_ble_eq_true rfl) rfl (ft_0 F) rfl (fun f2_ => ?_)
  clear f2_
  refine xr_aload_n (pc := 22) (i := 0) (hI := d_B_commit_22) (hi := rfl) (hl := rfl) ?_
  refine xg_getf (pc := 23) (ci := 0) (k := 1) (N := 7) (v9 := 2) (v := 5) (T := xF0) (hI := d_B_commit_23) (hw := w_431) rfl xi0 (Or.inl rfl) (Nat.le_of_ble_eq_true rfl) (Nat.le_of_ble_eq_true rfl) rfl (ft_0 F) (fp_0_1 F) (fun f3_ => ?_)
  clear f3_
  refine xg_getf (pc := 26) (ci := 7) (k := 1) (N := 6) (v9 := 2) (v := 7) (T := xF7) (hI := d_B_commit_26) (hw := w_151) rfl xi7 (Or.inl rfl) (Nat.le_of_ble_eq_true rfl) (Nat.le_of_ble_eq_true rfl) rfl (ft_5 F) (fp_5_1 F) (fun f4_ => ?_)
  clear f4_
  exact xq_callV (pc := 29) (index := 99) (K := m_Findings_refresh) (As := [xR (xpl h 0 6), xR 7]) (S := []) (L0 := [xR 40, xR (xpl h 0 6), xR 7, xZ, xZ]) (hI := d_B_commit_29) (hK := k_Findings_refresh) (hlk := w_594) (hnoM := rfl) (hS8 := Nat.le_of_ble_eq_true rfl) (ci := 1) (N := 6) (C := "BeaconIndex$Findings") (T := xF1) (hc := rfl) (hci := Nat.le_of_ble_eq_true rfl) (htb := (ft_40 F)) (hinst := w_595) (hsel := w_596) (hlen := Nat.le_of_ble_eq_true rfl) (hst := rfl) (hL0 := rfl)  hyp
theorem d_B_commit_32 : decode prog_1_method_6_code 32 = .ok (.aload_n 0, 1) := by decide +kernel
theorem d_B_commit_33 : decode prog_1_method_6_code 33 = .ok (.getfield 19, 3) := by decide +kernel
theorem d_B_commit_36 : decode prog_1_method_6_code 36 = .ok (.getfield 122, 3) := by decide +kernel
theorem w_155 : Cond.fieldLink "BeaconIndex" 122 "BeaconIndex$Store" "segmentCount" "I" ∈ lw_tbl := List.mem_append_right _ (List.mem_of_getElem? (i := 155) (by decide +kernel))
theorem d_B_commit_39 : decode prog_1_method_6_code 39 = .ok (.ireturn, 1) := by decide +kernel
theorem v_B_commit_32 {G : XG} {d : Nat} {h : XH} {Q : XV → XH → Prop} {X : Nat → XH → Prop} (F : xFix h) (hyp : (Q (xI (xpl h 5 4)) h)) : xwp G m_B_commit (d + 9) 32 [xR 0] [] h Q X := by
  have hnx9 : (93 : Int) ≤ xnx h := F.2.2
  refine xr_aload_n (pc := 32) (i := 0) (hI := d_B_commit_32) (hi := rfl) (hl := rfl) ?_
  refine xg_getf (pc := 33) (ci := 0) (k := 1) (N := 7) (v9 := 2) (v := 5) (T := xF0) (hI := d_B_commit_33) (hw := w_431) rfl xi0 (Or.inl rfl) (Nat.le_of_ble_eq_true rfl) (Nat.le_of_ble_eq_true rfl) rfl (ft_0 F) (fp_0_1 F) (fun f1_ => ?_)
  clear f1_
  refine xg_getf (pc := 36) (ci := 7) (k := 4) (N := 6) (v9 := 0) (v := (xpl h 5 4)) (T := xF7) (hI := d_B_commit_36) (hw := w_155) rfl xi7 (Or.inl rfl) (Nat.le_of_ble_eq_true rfl) (Nat.le_of_ble_eq_true rfl) rfl (ft_5 F) rfl (fun f2_ => ?_)
  replace f2_ : -2147483648 ≤ (xpl h 5 4) ∧ (xpl h 5 4) ≤ 2147483647 := f2_
  refine xr_ireturn (S := []) (pc := 39) (hI := d_B_commit_39) (hr := rfl) ?_
  exact hyp
abbrev m_B_mergeAll : XM := (⟨"BeaconIndex", "mergeAll", "()I"⟩, prog_1_method_7_code, 2, (some .int), [])
theorem d_B_mergeAll_0 : decode prog_1_method_7_code 0 = .ok (.aload_n 0, 1) := by decide +kernel
theorem d_B_mergeAll_1 : decode prog_1_method_7_code 1 = .ok (.getfield 19, 3) := by decide +kernel
theorem d_B_mergeAll_4 : decode prog_1_method_7_code 4 = .ok (.invokevirtual 125, 3) := by decide +kernel
theorem k_Store_mergeEverything : xCal m_Store_mergeEverything 0 := ⟨List.mem_append_right _ (List.mem_of_getElem? (i := 757) (by decide +kernel)), w_3, Nat.le_of_ble_eq_true rfl, ⟨by decide +kernel, by decide +kernel⟩, by decide +kernel, by decide +kernel, rfl⟩
theorem w_754 : Cond.methodLink "BeaconIndex" 125 ⟨"BeaconIndex$Store", "mergeEverything", "()I"⟩ ∈ lw_tbl := List.mem_append_right _ (List.mem_of_getElem? (i := 754) (by decide +kernel))
theorem w_755 : Cond.instanceMethod ⟨"BeaconIndex$Store", "mergeEverything", "()I"⟩ ∈ lw_tbl := List.mem_append_right _ (List.mem_of_getElem? (i := 755) (by decide +kernel))
theorem w_756 : Cond.selects "BeaconIndex$Store" ⟨"BeaconIndex$Store", "mergeEverything", "()I"⟩ ⟨"BeaconIndex$Store", "mergeEverything", "()I"⟩ ∈ lw_tbl := List.mem_append_right _ (List.mem_of_getElem? (i := 756) (by decide +kernel))
theorem v_B_mergeAll_0 {G : XG} {d : Nat} {h : XH} {Q : XV → XH → Prop} {X : Nat → XH → Prop} (F : xFix h) (hyp : (xwp G m_Store_mergeEverything (d + 7) 0 [xR 5] [] h (fun v9 h9 => xwp G m_B_mergeAll (d + 8) 7 [xR 0, xZ] (xpush v9 []) h9 Q X) X)) : xwp G m_B_mergeAll (d + 8) 0 [xR 0, xZ] [] h Q X := by
  have hnx9 : (93 : Int) ≤ xnx h := F.2.2
  refine xr_aload_n (pc := 0) (i := 0) (hI := d_B_mergeAll_0) (hi := rfl) (hl := rfl) ?_
  refine xg_getf (pc := 1) (ci := 0) (k := 1) (N := 7) (v9 := 2) (v := 5) (T := xF0) (hI := d_B_mergeAll_1) (hw := w_431) rfl xi0 (Or.inl rfl) (Nat.le_of_ble_eq_true rfl) (Nat.le_of_ble_eq_true rfl) rfl (ft_0 F) (fp_0_1 F) (fun f1_ => ?_)
  clear f1_
  exact xq_callV (pc := 4) (index := 125) (K := m_Store_mergeEverything) (As := []) (S := []) (L0 := [xR 5]) (hI := d_B_mergeAll_4) (hK := k_Store_mergeEverything) (hlk := w_754) (hnoM := rfl) (hS8 := Nat.le_of_ble_eq_true rfl) (ci := 7) (N := 6) (C := "BeaconIndex$Store") (T := xF7) (hc := rfl) (hci := Nat.le_of_ble_eq_true rfl) (htb := (ft_5 F)) (hinst := w_755) (hsel := w_756) (hlen := Nat.le_of_ble_eq_true rfl) (hst := rfl) (hL0 := rfl)  hyp
theorem d_B_mergeAll_7 : decode prog_1_method_7_code 7 = .ok (.istore_n 1, 1) := by decide +kernel
theorem d_B_mergeAll_8 : decode prog_1_method_7_code 8 = .ok (.aload_n 0, 1) := by decide +kernel
theorem d_B_mergeAll_9 : decode prog_1_method_7_code 9 = .ok (.getfield 40, 3) := by decide +kernel
theorem d_B_mergeAll_12 : decode prog_1_method_7_code 12 = .ok (.aload_n 0, 1) := by decide +kernel
theorem d_B_mergeAll_13 : decode prog_1_method_7_code 13 = .ok (.getfield 51, 3) := by decide +kernel
theorem d_B_mergeAll_16 : decode prog_1_method_7_code 16 = .ok (.aload_n 0, 1) := by decide +kernel
theorem d_B_mergeAll_17 : decode prog_1_method_7_code 17 = .ok (.getfield 19, 3) := by decide +kernel
theorem d_B_mergeAll_20 : decode prog_1_method_7_code 20 = .ok (.getfield 96, 3) := by decide +kernel
theorem d_B_mergeAll_23 : decode prog_1_method_7_code 23 = .ok (.invokevirtual 99, 3) := by decide +kernel
theorem v_B_mergeAll_7 {G : XG} {d : Nat} {h : XH} {Q : XV → XH → Prop} {X : Nat → XH → Prop} {s0 : Int} (F : xFix h) (hyp : (xwp G m_Findings_refresh (d + 7) 0 [xR 40, xR (xpl h 0 6), xR 7, xZ, xZ] [] h (fun v9 h9 => xwp G m_B_mergeAll (d + 8) 26 [xZ, xI s0] (xpush v9 []) h9 Q X) X)) : xwp G m_B_mergeAll (d + 8) 7 [xR 0, xZ] [xI s0] h Q X := by
  have hnx9 : (93 : Int) ≤ xnx h := F.2.2
  refine xr_okS (fun hs9 => ?_)
  have r_s0 : -2147483648 ≤ s0 ∧ s0 ≤ 2147483647 := hs9 (xI s0) (.head _)
  refine xr_istore_n (pc := 7) (i := 1) (L9 := [xR 0, xI s0]) (hI := d_B_mergeAll_7) (hi := rfl) (hn := Nat.le_of_ble_eq_true rfl) (hL9 := rfl) ?_
  refine xr_aload_n (pc := 8) (i := 0) (hI := d_B_mergeAll_8) (hi := rfl) (hl := rfl) ?_
  refine xg_getf (pc := 9) (ci := 0) (k := 4) (N := 7) (v9 := 2) (v := 40) (T := xF0) (hI := d_B_mergeAll_9) (hw := w_434) rfl xi0 (Or.inl rfl) (Nat.le_of_ble_eq_true rfl) (Nat.le_of_ble_eq_true rfl) rfl (ft_0 F) (fp_0_4 F) (fun f1_ => ?_)
  clear f1_
  refine xr_aload_n (pc := 12) (i := 0) (hI := d_B_mergeAll_12) (hi := rfl) (hl := rfl) ?_
  refine xg_getf (pc := 13) (ci := 0) (k := 6) (N := 7) (v9 := 2) (v := (xpl h 0 6)) (T := xF0) (hI := d_B_mergeAll_13) (hw := w_436) rfl xi0 (Or.inl rfl) (Nat.le_of_ble_eq_true rfl) (Nat.le_of_ble_eq_true rfl) rfl (ft_0 F) rfl (fun f2_ => ?_)
  clear f2_
  refine xr_aload_n (pc := 16) (i := 0) (hI := d_B_mergeAll_16) (hi := rfl) (hl := rfl) ?_
  refine xg_getf (pc := 17) (ci := 0) (k := 1) (N := 7) (v9 := 2) (v := 5) (T := xF0) (hI := d_B_mergeAll_17) (hw := w_431) rfl xi0 (Or.inl rfl) (Nat.le_of_ble_eq_true rfl) (Nat.le_of_ble_eq_true rfl) rfl (ft_0 F) (fp_0_1 F) (fun f3_ => ?_)
  clear f3_
  refine xg_getf (pc := 20) (ci := 7) (k := 1) (N := 6) (v9 := 2) (v := 7) (T := xF7) (hI := d_B_mergeAll_20) (hw := w_151) rfl xi7 (Or.inl rfl) (Nat.le_of_ble_eq_true rfl) (Nat.le_of_ble_eq_true rfl) rfl (ft_5 F) (fp_5_1 F) (fun f4_ => ?_)
  clear f4_
  exact xq_callV (pc := 23) (index := 99) (K := m_Findings_refresh) (As := [xR (xpl h 0 6), xR 7]) (S := []) (L0 := [xR 40, xR (xpl h 0 6), xR 7, xZ, xZ]) (hI := d_B_mergeAll_23) (hK := k_Findings_refresh) (hlk := w_594) (hnoM := rfl) (hS8 := Nat.le_of_ble_eq_true rfl) (ci := 1) (N := 6) (C := "BeaconIndex$Findings") (T := xF1) (hc := rfl) (hci := Nat.le_of_ble_eq_true rfl) (htb := (ft_40 F)) (hinst := w_595) (hsel := w_596) (hlen := Nat.le_of_ble_eq_true rfl) (hst := rfl) (hL0 := rfl)  (xwp_mono hyp (fun v9 h9 q9 => xr_drop (L9 := [xZ, xI s0]) (xdrz (xdrs xdr0)) q9) (fun _ _ z9 => z9))
theorem d_B_mergeAll_26 : decode prog_1_method_7_code 26 = .ok (.iload_n 1, 1) := by decide +kernel
theorem d_B_mergeAll_27 : decode prog_1_method_7_code 27 = .ok (.ireturn, 1) := by decide +kernel
theorem v_B_mergeAll_26 {G : XG} {d : Nat} {h : XH} {Q : XV → XH → Prop} {X : Nat → XH → Prop} {x1 : Int} (F : xFix h) (hyp : (Q (xI x1) h)) : xwp G m_B_mergeAll (d + 8) 26 [xZ, xI x1] [] h Q X := by
  have hnx9 : (93 : Int) ≤ xnx h := F.2.2
  refine xr_okL (fun hl9 => ?_)
  have r_x1 : -2147483648 ≤ x1 ∧ x1 ≤ 2147483647 := hl9 (xI x1) (.tail _ (.head _)) (Nat.le_of_ble_eq_true rfl)
  refine xr_iload_n (pc := 26) (i := 1) (hI := d_B_mergeAll_26) (hi := rfl) (hl := rfl) ?_
  refine xr_ireturn (S := []) (pc := 27) (hI := d_B_mergeAll_27) (hr := rfl) ?_
  exact hyp
abbrev m_B_texts : XM := (⟨"BeaconIndex", "texts", "()I"⟩, prog_1_method_8_code, 1, (some .int), [])
theorem d_B_texts_0 : decode prog_1_method_8_code 0 = .ok (.aload_n 0, 1) := by decide +kernel
theorem d_B_texts_1 : decode prog_1_method_8_code 1 = .ok (.getfield 19, 3) := by decide +kernel
theorem d_B_texts_4 : decode prog_1_method_8_code 4 = .ok (.invokevirtual 76, 3) := by decide +kernel
theorem d_B_texts_7 : decode prog_1_method_8_code 7 = .ok (.ireturn, 1) := by decide +kernel
theorem v_B_texts_0 {G : XG} {d : Nat} {h : XH} {Q : XV → XH → Prop} {X : Nat → XH → Prop} (F : xFix h) (hyp : stok h ∧ (Q (xI ((als h 6) + (als h 7))) h)) : xwp G m_B_texts (d + 3) 0 [xR 0] [] h Q X := by
  have hnx9 : (93 : Int) ≤ xnx h := F.2.2
  refine xr_aload_n (pc := 0) (i := 0) (hI := d_B_texts_0) (hi := rfl) (hl := rfl) ?_
  refine xg_getf (pc := 1) (ci := 0) (k := 1) (N := 7) (v9 := 2) (v := 5) (T := xF0) (hI := d_B_texts_1) (hw := w_431) rfl xi0 (Or.inl rfl) (Nat.le_of_ble_eq_true rfl) (Nat.le_of_ble_eq_true rfl) rfl (ft_0 F) (fp_0_1 F) (fun f1_ => ?_)
  clear f1_
  obtain ⟨c2_, hyp⟩ := hyp
  refine xq_callV (pc := 4) (index := 76) (K := m_Store_textCount) (As := []) (S := []) (L0 := [xR 5]) (hI := d_B_texts_4) (hK := k_Store_textCount) (hlk := w_766) (hnoM := rfl) (hS8 := Nat.le_of_ble_eq_true rfl) (ci := 7) (N := 6) (C := "BeaconIndex$Store") (T := xF7) (hc := rfl) (hci := Nat.le_of_ble_eq_true rfl) (htb := (ft_5 F)) (hinst := w_767) (hsel := w_768) (hlen := Nat.le_of_ble_eq_true rfl) (hst := rfl) (hL0 := rfl)  (p_Store_textCount F c2_ ?_)
  show xwp G m_B_texts (d + 3) 7 [xR 0] [xI ((als h 6) + (als h 7))] _ _ _
  have f3_ : 0 ≤ (als h 6) ∧ (als h 6) ≤ 60 := ⟨c2_.1.2.2.1, c2_.2.2.2.2.2.2.1⟩
  have f4_ : 0 ≤ (als h 7) ∧ (als h 7) ≤ 60 := ⟨c2_.2.1.2.2.1, c2_.2.2.2.2.2.2.2⟩
  refine xr_ireturn (S := []) (pc := 7) (hI := d_B_texts_7) (hr := rfl) ?_
  exact hyp
abbrev m_B_buffered : XM := (⟨"BeaconIndex", "buffered", "()I"⟩, prog_1_method_9_code, 1, (some .int), [])
theorem d_B_buffered_0 : decode prog_1_method_9_code 0 = .ok (.aload_n 0, 1) := by decide +kernel
theorem d_B_buffered_1 : decode prog_1_method_9_code 1 = .ok (.getfield 19, 3) := by decide +kernel
theorem d_B_buffered_4 : decode prog_1_method_9_code 4 = .ok (.getfield 103, 3) := by decide +kernel
theorem d_B_buffered_7 : decode prog_1_method_9_code 7 = .ok (.invokevirtual 128, 3) := by decide +kernel
theorem w_774 : Cond.methodLink "BeaconIndex" 128 ⟨"java/util/ArrayList", "size", "()I"⟩ ∈ lw_tbl := List.mem_append_right _ (List.mem_of_getElem? (i := 774) (by decide +kernel))
theorem d_B_buffered_10 : decode prog_1_method_9_code 10 = .ok (.ireturn, 1) := by decide +kernel
theorem v_B_buffered_0 {G : XG} {d : Nat} {h : XH} {Q : XV → XH → Prop} {X : Nat → XH → Prop} (F : xFix h) (hyp : alok h 6 ∧ (Q (xI (als h 6)) h)) : xwp G m_B_buffered (d + 2) 0 [xR 0] [] h Q X := by
  have hnx9 : (93 : Int) ≤ xnx h := F.2.2
  refine xr_aload_n (pc := 0) (i := 0) (hI := d_B_buffered_0) (hi := rfl) (hl := rfl) ?_
  refine xg_getf (pc := 1) (ci := 0) (k := 1) (N := 7) (v9 := 2) (v := 5) (T := xF0) (hI := d_B_buffered_1) (hw := w_431) rfl xi0 (Or.inl rfl) (Nat.le_of_ble_eq_true rfl) (Nat.le_of_ble_eq_true rfl) rfl (ft_0 F) (fp_0_1 F) (fun f1_ => ?_)
  clear f1_
  refine xg_getf (pc := 4) (ci := 7) (k := 0) (N := 6) (v9 := 2) (v := 6) (T := xF7) (hI := d_B_buffered_4) (hw := w_149) rfl xi7 (Or.inl rfl) (Nat.le_of_ble_eq_true rfl) (Nat.le_of_ble_eq_true rfl) rfl (ft_5 F) (fp_5_0 F) (fun f2_ => ?_)
  clear f2_
  obtain ⟨c3_, hyp⟩ := hyp
  refine xq_callV (pc := 7) (index := 128) (K := m_ArrayList_size) (As := []) (S := []) (L0 := [xR 6]) (hI := d_B_buffered_7) (hK := k_ArrayList_size) (hlk := w_774) (hnoM := rfl) (hS8 := Nat.le_of_ble_eq_true rfl) (ci := 13) (N := 3) (C := "java/util/ArrayList") (T := xF13) (hc := rfl) (hci := Nat.le_of_ble_eq_true rfl) (htb := (ft_6 F)) (hinst := w_465) (hsel := w_466) (hlen := Nat.le_of_ble_eq_true rfl) (hst := rfl) (hL0 := rfl)  (p_AL_size F c3_ ?_)
  show xwp G m_B_buffered (d + 2) 10 [xR 0] [xI (als h 6)] _ _ _
  have f4_ : 0 ≤ (als h 6) ∧ (als h 6) ≤ 1000000 := ⟨c3_.2.2.1, c3_.2.2.2.2⟩
  refine xr_ireturn (S := []) (pc := 10) (hI := d_B_buffered_10) (hr := rfl) ?_
  exact hyp
abbrev m_B_segments : XM := (⟨"BeaconIndex", "segments", "()I"⟩, prog_1_method_10_code, 1, (some .int), [])
theorem d_B_segments_0 : decode prog_1_method_10_code 0 = .ok (.aload_n 0, 1) := by decide +kernel
theorem d_B_segments_1 : decode prog_1_method_10_code 1 = .ok (.getfield 19, 3) := by decide +kernel
theorem d_B_segments_4 : decode prog_1_method_10_code 4 = .ok (.getfield 122, 3) := by decide +kernel
theorem d_B_segments_7 : decode prog_1_method_10_code 7 = .ok (.ireturn, 1) := by decide +kernel
theorem v_B_segments_0 {G : XG} {d : Nat} {h : XH} {Q : XV → XH → Prop} {X : Nat → XH → Prop} (F : xFix h) (hyp : (Q (xI (xpl h 5 4)) h)) : xwp G m_B_segments (d + 1) 0 [xR 0] [] h Q X := by
  have hnx9 : (93 : Int) ≤ xnx h := F.2.2
  refine xr_aload_n (pc := 0) (i := 0) (hI := d_B_segments_0) (hi := rfl) (hl := rfl) ?_
  refine xg_getf (pc := 1) (ci := 0) (k := 1) (N := 7) (v9 := 2) (v := 5) (T := xF0) (hI := d_B_segments_1) (hw := w_431) rfl xi0 (Or.inl rfl) (Nat.le_of_ble_eq_true rfl) (Nat.le_of_ble_eq_true rfl) rfl (ft_0 F) (fp_0_1 F) (fun f1_ => ?_)
  clear f1_
  refine xg_getf (pc := 4) (ci := 7) (k := 4) (N := 6) (v9 := 0) (v := (xpl h 5 4)) (T := xF7) (hI := d_B_segments_4) (hw := w_155) rfl xi7 (Or.inl rfl) (Nat.le_of_ble_eq_true rfl) (Nat.le_of_ble_eq_true rfl) rfl (ft_5 F) rfl (fun f2_ => ?_)
  replace f2_ : -2147483648 ≤ (xpl h 5 4) ∧ (xpl h 5 4) ≤ 2147483647 := f2_
  refine xr_ireturn (S := []) (pc := 7) (hI := d_B_segments_7) (hr := rfl) ?_
  exact hyp
abbrev m_B_merges : XM := (⟨"BeaconIndex", "merges", "()I"⟩, prog_1_method_11_code, 1, (some .int), [])
theorem d_B_merges_0 : decode prog_1_method_11_code 0 = .ok (.aload_n 0, 1) := by decide +kernel
theorem d_B_merges_1 : decode prog_1_method_11_code 1 = .ok (.getfield 19, 3) := by decide +kernel
theorem d_B_merges_4 : decode prog_1_method_11_code 4 = .ok (.getfield 131, 3) := by decide +kernel
theorem w_157 : Cond.fieldLink "BeaconIndex" 131 "BeaconIndex$Store" "mergeCount" "I" ∈ lw_tbl := List.mem_append_right _ (List.mem_of_getElem? (i := 157) (by decide +kernel))
theorem d_B_merges_7 : decode prog_1_method_11_code 7 = .ok (.ireturn, 1) := by decide +kernel
theorem v_B_merges_0 {G : XG} {d : Nat} {h : XH} {Q : XV → XH → Prop} {X : Nat → XH → Prop} (F : xFix h) (hyp : (Q (xI (xpl h 5 5)) h)) : xwp G m_B_merges (d + 1) 0 [xR 0] [] h Q X := by
  have hnx9 : (93 : Int) ≤ xnx h := F.2.2
  refine xr_aload_n (pc := 0) (i := 0) (hI := d_B_merges_0) (hi := rfl) (hl := rfl) ?_
  refine xg_getf (pc := 1) (ci := 0) (k := 1) (N := 7) (v9 := 2) (v := 5) (T := xF0) (hI := d_B_merges_1) (hw := w_431) rfl xi0 (Or.inl rfl) (Nat.le_of_ble_eq_true rfl) (Nat.le_of_ble_eq_true rfl) rfl (ft_0 F) (fp_0_1 F) (fun f1_ => ?_)
  clear f1_
  refine xg_getf (pc := 4) (ci := 7) (k := 5) (N := 6) (v9 := 0) (v := (xpl h 5 5)) (T := xF7) (hI := d_B_merges_4) (hw := w_157) rfl xi7 (Or.inl rfl) (Nat.le_of_ble_eq_true rfl) (Nat.le_of_ble_eq_true rfl) rfl (ft_5 F) rfl (fun f2_ => ?_)
  replace f2_ : -2147483648 ≤ (xpl h 5 5) ∧ (xpl h 5 5) ≤ 2147483647 := f2_
  refine xr_ireturn (S := []) (pc := 7) (hI := d_B_merges_7) (hr := rfl) ?_
  exact hyp
abbrev m_B_textsIn : XM := (⟨"BeaconIndex", "textsIn", "(I)I"⟩, prog_1_method_12_code, 2, (some .int), [])
theorem d_B_textsIn_0 : decode prog_1_method_12_code 0 = .ok (.aload_n 0, 1) := by decide +kernel
theorem d_B_textsIn_1 : decode prog_1_method_12_code 1 = .ok (.iload_n 1, 1) := by decide +kernel
theorem d_B_textsIn_2 : decode prog_1_method_12_code 2 = .ok (.invokevirtual 134, 3) := by decide +kernel
abbrev m_B_checkSegment : XM := (⟨"BeaconIndex", "checkSegment", "(I)V"⟩, prog_1_method_45_code, 2, none, [])
theorem k_B_checkSegment : xCal m_B_checkSegment 1 := ⟨List.mem_append_right _ (List.mem_of_getElem? (i := 1100) (by decide +kernel)), w_1, Nat.le_of_ble_eq_true rfl, ⟨by decide +kernel, by decide +kernel⟩, by decide +kernel, by decide +kernel, rfl⟩
theorem w_1097 : Cond.methodLink "BeaconIndex" 134 ⟨"BeaconIndex", "checkSegment", "(I)V"⟩ ∈ lw_tbl := List.mem_append_right _ (List.mem_of_getElem? (i := 1097) (by decide +kernel))
theorem w_1099 : Cond.instanceMethod ⟨"BeaconIndex", "checkSegment", "(I)V"⟩ ∈ lw_tbl := List.mem_append_right _ (List.mem_of_getElem? (i := 1099) (by decide +kernel))
theorem sel_B_checkSegment : Cond.selects "BeaconIndex" ⟨"BeaconIndex", "checkSegment", "(I)V"⟩ ⟨"BeaconIndex", "checkSegment", "(I)V"⟩ ∈ lw_tbl := List.mem_append_left _ (by decide +kernel)
theorem d_B_checkSegment_0 : decode prog_1_method_45_code 0 = .ok (.iload_n 1, 1) := by decide +kernel
theorem d_B_checkSegment_1 : decode prog_1_method_45_code 1 = .ok (.ifCond .lt 14, 3) := by decide +kernel
theorem d_B_checkSegment_15 : decode prog_1_method_45_code 15 = .ok (.new 204, 3) := by decide +kernel
theorem d_B_checkSegment_18 : decode prog_1_method_45_code 18 = .ok (.dup, 1) := by decide +kernel
theorem d_B_checkSegment_19 : decode prog_1_method_45_code 19 = .ok (.invokespecial 206, 3) := by decide +kernel
theorem d_B_checkSegment_22 : decode prog_1_method_45_code 22 = .ok (.athrow, 1) := by decide +kernel
theorem w_1101 : Cond.classLink "BeaconIndex" 204 "java/lang/IndexOutOfBoundsException" ∈ lw_tbl := List.mem_append_right _ (List.mem_of_getElem? (i := 1101) (by decide +kernel))
theorem w_32 : Cond.initialized "java/lang/IndexOutOfBoundsException" ∈ lw_tbl := List.mem_append_right _ (List.mem_of_getElem? (i := 32) (by decide +kernel))
theorem thr_B_206 : (∀ w ∈ vx_at0 "BeaconIndex" 206 (xex 2) ["java/lang/RuntimeException", "java/lang/Exception"], w ∈ lw_tbl) ∧ (∀ w ∈ vx_at0 "BeaconIndex" 206 (xex 2) ["java/lang/RuntimeException", "java/lang/Exception"], xgw w = true) := by decide +kernel
theorem d_B_checkSegment_4 : decode prog_1_method_45_code 4 = .ok (.iload_n 1, 1) := by decide +kernel
theorem d_B_checkSegment_5 : decode prog_1_method_45_code 5 = .ok (.aload_n 0, 1) := by decide +kernel
theorem d_B_checkSegment_6 : decode prog_1_method_45_code 6 = .ok (.getfield 19, 3) := by decide +kernel
theorem d_B_checkSegment_9 : decode prog_1_method_45_code 9 = .ok (.getfield 122, 3) := by decide +kernel
theorem d_B_checkSegment_12 : decode prog_1_method_45_code 12 = .ok (.if_icmp .lt 11, 3) := by decide +kernel
theorem d_B_checkSegment_23 : decode prog_1_method_45_code 23 = .ok (.return_, 1) := by decide +kernel
theorem d_B_textsIn_5 : decode prog_1_method_12_code 5 = .ok (.aload_n 0, 1) := by decide +kernel
theorem d_B_textsIn_6 : decode prog_1_method_12_code 6 = .ok (.getfield 19, 3) := by decide +kernel
theorem d_B_textsIn_9 : decode prog_1_method_12_code 9 = .ok (.iload_n 1, 1) := by decide +kernel
theorem d_B_textsIn_10 : decode prog_1_method_12_code 10 = .ok (.invokevirtual 137, 3) := by decide +kernel
theorem w_1166 : Cond.methodLink "BeaconIndex" 137 ⟨"BeaconIndex$Store", "sizeOf", "(I)I"⟩ ∈ lw_tbl := List.mem_append_right _ (List.mem_of_getElem? (i := 1166) (by decide +kernel))
theorem d_B_textsIn_13 : decode prog_1_method_12_code 13 = .ok (.ireturn, 1) := by decide +kernel
theorem v_B_textsIn_0 {G : XG} {d : Nat} {h : XH} {Q : XV → XH → Prop} {X : Nat → XH → Prop} {x1 : Int} (F : xFix h) (hyp : ((x1 < 0 → xnx h + 1 ≤ xKC ∧ xsl h + 6 ≤ xKS ∧ (xFix (xmk h 300 6 (fun _ => 0)) → X 2 (xmk h 300 6 (fun _ => 0)))) ∧ (¬ x1 < 0 → ((x1 < (xpl h 5 4) → stok h ∧ (Q (xI (szA (szL h) x1)) h)) ∧ (¬ x1 < (xpl h 5 4) → xnx h + 1 ≤ xKC ∧ xsl h + 6 ≤ xKS ∧ (xFix (xmk h 300 6 (fun _ => 0)) → X 2 (xmk h 300 6 (fun _ => 0)))))))) : xwp G m_B_textsIn (d + 8) 0 [xR 0, xI x1] [] h Q X := by
  have hnx9 : (93 : Int) ≤ xnx h := F.2.2
  refine xr_okL (fun hl9 => ?_)
  have r_x1 : -2147483648 ≤ x1 ∧ x1 ≤ 2147483647 := hl9 (xI x1) (.tail _ (.head _)) (Nat.le_of_ble_eq_true rfl)
  refine xr_aload_n (pc := 0) (i := 0) (hI := d_B_textsIn_0) (hi := rfl) (hl := rfl) ?_
  refine xr_iload_n (pc := 1) (i := 1) (hI := d_B_textsIn_1) (hi := rfl) (hl := rfl) ?_
  refine xq_callV (pc := 2) (index := 134) (K := m_B_checkSegment) (As := [xI x1]) (S := []) (L0 := [xR 0, xI x1]) (hI := d_B_textsIn_2) (hK := k_B_checkSegment) (hlk := w_1097) (hnoM := rfl) (hS8 := Nat.le_of_ble_eq_true rfl) (ci := 0) (N := 7) (C := "BeaconIndex") (T := xF0) (hc := rfl) (hci := Nat.le_of_ble_eq_true rfl) (htb := (ft_0 F)) (hinst := w_1099) (hsel := sel_B_checkSegment) (hlen := Nat.le_of_ble_eq_true rfl) (hst := rfl) (hL0 := rfl)  ?_
  refine xr_iload_n (pc := 0) (i := 1) (hI := d_B_checkSegment_0) (hi := rfl) (hl := rfl) ?_
  refine xr_if_lt (pc := 1) (tgt := 15) (hI := d_B_checkSegment_1) (ht := by decide) (fun q9 => ?_) (fun q9 => ?_)
  · replace hyp := hyp.1 q9
    have q1_ := q9
    clear q9
    obtain ⟨c7, c8, hyp⟩ := hyp
    exact xr_throw (pc := 15) (k := 2) (ik := 204) (ic := 206) (names := ["java/lang/RuntimeException", "java/lang/Exception"]) (by decide +kernel) (by decide +kernel) (by decide) w_1101 w_32 thr_B_206.1 thr_B_206.2 d_B_checkSegment_15 d_B_checkSegment_18 d_B_checkSegment_19 d_B_checkSegment_22 rfl (Nat.le_of_ble_eq_true rfl) (Nat.le_add_left_of_le (by decide)) (Nat.le_of_ble_eq_true rfl) c7 c8 (hyp (xFix.mk F))
  · replace hyp := hyp.2 q9
    have q1_ := q9
    clear q9
    refine xr_iload_n (pc := 4) (i := 1) (hI := d_B_checkSegment_4) (hi := rfl) (hl := rfl) ?_
    refine xr_aload_n (pc := 5) (i := 0) (hI := d_B_checkSegment_5) (hi := rfl) (hl := rfl) ?_
    refine xg_getf (pc := 6) (ci := 0) (k := 1) (N := 7) (v9 := 2) (v := 5) (T := xF0) (hI := d_B_checkSegment_6) (hw := w_431) rfl xi0 (Or.inl rfl) (Nat.le_of_ble_eq_true rfl) (Nat.le_of_ble_eq_true rfl) rfl (ft_0 F) (fp_0_1 F) (fun f2_ => ?_)
    clear f2_
    refine xg_getf (pc := 9) (ci := 7) (k := 4) (N := 6) (v9 := 0) (v := (xpl h 5 4)) (T := xF7) (hI := d_B_checkSegment_9) (hw := w_155) rfl xi7 (Or.inl rfl) (Nat.le_of_ble_eq_true rfl) (Nat.le_of_ble_eq_true rfl) rfl (ft_5 F) rfl (fun f3_ => ?_)
    replace f3_ : -2147483648 ≤ (xpl h 5 4) ∧ (xpl h 5 4) ≤ 2147483647 := f3_
    refine xr_icmp_lt (pc := 12) (tgt := 23) (hI := d_B_checkSegment_12) (ht := by decide) (fun q9 => ?_) (fun q9 => ?_)
    · replace hyp := hyp.1 q9
      have q4_ := q9
      clear q9
      refine xr_return (S := []) (pc := 23) (hI := d_B_checkSegment_23) (hr := rfl) ?_
      show xwp G m_B_textsIn (d + 8) 5 [xR 0, xI x1] [] _ _ _
      refine xr_aload_n (pc := 5) (i := 0) (hI := d_B_textsIn_5) (hi := rfl) (hl := rfl) ?_
      refine xg_getf (pc := 6) (ci := 0) (k := 1) (N := 7) (v9 := 2) (v := 5) (T := xF0) (hI := d_B_textsIn_6) (hw := w_431) rfl xi0 (Or.inl rfl) (Nat.le_of_ble_eq_true rfl) (Nat.le_of_ble_eq_true rfl) rfl (ft_0 F) (fp_0_1 F) (fun f5_ => ?_)
      clear f5_
      refine xr_iload_n (pc := 9) (i := 1) (hI := d_B_textsIn_9) (hi := rfl) (hl := rfl) ?_
      obtain ⟨c6_, hyp⟩ := hyp
      refine xq_callV (pc := 10) (index := 137) (K := m_Store_sizeOf) (As := [xI x1]) (S := []) (L0 := [xR 5, xI x1]) (hI := d_B_textsIn_10) (hK := k_Store_sizeOf) (hlk := w_1166) (hnoM := rfl) (hS8 := Nat.le_of_ble_eq_true rfl) (ci := 7) (N := 6) (C := "BeaconIndex$Store") (T := xF7) (hc := rfl) (hci := Nat.le_of_ble_eq_true rfl) (htb := (ft_5 F)) (hinst := w_566) (hsel := w_567) (hlen := Nat.le_of_ble_eq_true rfl) (hst := rfl) (hL0 := rfl)  (p_Store_sizeOf F c6_ ?_)
      show xwp G m_B_textsIn (d + 8) 13 [xR 0, xI x1] [xI (szA (szL h) x1)] _ _ _
      have f7_ : 0 ≤ (szA (szL h) x1) ∧ (szA (szL h) x1) ≤ 60 := szA_rng c6_ _
      refine xr_ireturn (S := []) (pc := 13) (hI := d_B_textsIn_13) (hr := rfl) ?_
      exact hyp
    · replace hyp := hyp.2 q9
      have q4_ := q9
      clear q9
      obtain ⟨c7, c8, hyp⟩ := hyp
      exact xr_throw (pc := 15) (k := 2) (ik := 204) (ic := 206) (names := ["java/lang/RuntimeException", "java/lang/Exception"]) (by decide +kernel) (by decide +kernel) (by decide) w_1101 w_32 thr_B_206.1 thr_B_206.2 d_B_checkSegment_15 d_B_checkSegment_18 d_B_checkSegment_19 d_B_checkSegment_22 rfl (Nat.le_of_ble_eq_true rfl) (Nat.le_add_left_of_le (by decide)) (Nat.le_of_ble_eq_true rfl) c7 c8 (hyp (xFix.mk F))
abbrev m_B_markedIn : XM := (⟨"BeaconIndex", "markedIn", "(I)I"⟩, prog_1_method_13_code, 2, (some .int), [])
theorem d_B_markedIn_0 : decode prog_1_method_13_code 0 = .ok (.aload_n 0, 1) := by decide +kernel
theorem d_B_markedIn_1 : decode prog_1_method_13_code 1 = .ok (.iload_n 1, 1) := by decide +kernel
theorem d_B_markedIn_2 : decode prog_1_method_13_code 2 = .ok (.invokevirtual 134, 3) := by decide +kernel
theorem d_B_markedIn_5 : decode prog_1_method_13_code 5 = .ok (.aload_n 0, 1) := by decide +kernel
theorem d_B_markedIn_6 : decode prog_1_method_13_code 6 = .ok (.getfield 19, 3) := by decide +kernel
theorem d_B_markedIn_9 : decode prog_1_method_13_code 9 = .ok (.iload_n 1, 1) := by decide +kernel
theorem d_B_markedIn_10 : decode prog_1_method_13_code 10 = .ok (.invokevirtual 140, 3) := by decide +kernel
theorem w_1171 : Cond.methodLink "BeaconIndex" 140 ⟨"BeaconIndex$Store", "markedAmong", "(I)I"⟩ ∈ lw_tbl := List.mem_append_right _ (List.mem_of_getElem? (i := 1171) (by decide +kernel))
theorem d_B_markedIn_13 : decode prog_1_method_13_code 13 = .ok (.ireturn, 1) := by decide +kernel
theorem v_B_markedIn_0 {G : XG} {d : Nat} {h : XH} {Q : XV → XH → Prop} {X : Nat → XH → Prop} {x1 : Int} (F : xFix h) (hyp : ((x1 < 0 → xnx h + 1 ≤ xKC ∧ xsl h + 6 ≤ xKS ∧ (xFix (xmk h 300 6 (fun _ => 0)) → X 2 (xmk h 300 6 (fun _ => 0)))) ∧ (¬ x1 < 0 → ((x1 < (xpl h 5 4) → stok h ∧ (Q (xI (mkH h x1)) h)) ∧ (¬ x1 < (xpl h 5 4) → xnx h + 1 ≤ xKC ∧ xsl h + 6 ≤ xKS ∧ (xFix (xmk h 300 6 (fun _ => 0)) → X 2 (xmk h 300 6 (fun _ => 0)))))))) : xwp G m_B_markedIn (d + 8) 0 [xR 0, xI x1] [] h Q X := by
  have hnx9 : (93 : Int) ≤ xnx h := F.2.2
  refine xr_okL (fun hl9 => ?_)
  have r_x1 : -2147483648 ≤ x1 ∧ x1 ≤ 2147483647 := hl9 (xI x1) (.tail _ (.head _)) (Nat.le_of_ble_eq_true rfl)
  refine xr_aload_n (pc := 0) (i := 0) (hI := d_B_markedIn_0) (hi := rfl) (hl := rfl) ?_
  refine xr_iload_n (pc := 1) (i := 1) (hI := d_B_markedIn_1) (hi := rfl) (hl := rfl) ?_
  refine xq_callV (pc := 2) (index := 134) (K := m_B_checkSegment) (As := [xI x1]) (S := []) (L0 := [xR 0, xI x1]) (hI := d_B_markedIn_2) (hK := k_B_checkSegment) (hlk := w_1097) (hnoM := rfl) (hS8 := Nat.le_of_ble_eq_true rfl) (ci := 0) (N := 7) (C := "BeaconIndex") (T := xF0) (hc := rfl) (hci := Nat.le_of_ble_eq_true rfl) (htb := (ft_0 F)) (hinst := w_1099) (hsel := sel_B_checkSegment) (hlen := Nat.le_of_ble_eq_true rfl) (hst := rfl) (hL0 := rfl)  ?_
  refine xr_iload_n (pc := 0) (i := 1) (hI := d_B_checkSegment_0) (hi := rfl) (hl := rfl) ?_
  refine xr_if_lt (pc := 1) (tgt := 15) (hI := d_B_checkSegment_1) (ht := by decide) (fun q9 => ?_) (fun q9 => ?_)
  · replace hyp := hyp.1 q9
    have q1_ := q9
    clear q9
    obtain ⟨c7, c8, hyp⟩ := hyp
    exact xr_throw (pc := 15) (k := 2) (ik := 204) (ic := 206) (names := ["java/lang/RuntimeException", "java/lang/Exception"]) (by decide +kernel) (by decide +kernel) (by decide) w_1101 w_32 thr_B_206.1 thr_B_206.2 d_B_checkSegment_15 d_B_checkSegment_18 d_B_checkSegment_19 d_B_checkSegment_22 rfl (Nat.le_of_ble_eq_true rfl) (Nat.le_add_left_of_le (by decide)) (Nat.le_of_ble_eq_true rfl) c7 c8 (hyp (xFix.mk F))
  · replace hyp := hyp.2 q9
    have q1_ := q9
    clear q9
    refine xr_iload_n (pc := 4) (i := 1) (hI := d_B_checkSegment_4) (hi := rfl) (hl := rfl) ?_
    refine xr_aload_n (pc := 5) (i := 0) (hI := d_B_checkSegment_5) (hi := rfl) (hl := rfl) ?_
    refine xg_getf (pc := 6) (ci := 0) (k := 1) (N := 7) (v9 := 2) (v := 5) (T := xF0) (hI := d_B_checkSegment_6) (hw := w_431) rfl xi0 (Or.inl rfl) (Nat.le_of_ble_eq_true rfl) (Nat.le_of_ble_eq_true rfl) rfl (ft_0 F) (fp_0_1 F) (fun f2_ => ?_)
    clear f2_
    refine xg_getf (pc := 9) (ci := 7) (k := 4) (N := 6) (v9 := 0) (v := (xpl h 5 4)) (T := xF7) (hI := d_B_checkSegment_9) (hw := w_155) rfl xi7 (Or.inl rfl) (Nat.le_of_ble_eq_true rfl) (Nat.le_of_ble_eq_true rfl) rfl (ft_5 F) rfl (fun f3_ => ?_)
    replace f3_ : -2147483648 ≤ (xpl h 5 4) ∧ (xpl h 5 4) ≤ 2147483647 := f3_
    refine xr_icmp_lt (pc := 12) (tgt := 23) (hI := d_B_checkSegment_12) (ht := by decide) (fun q9 => ?_) (fun q9 => ?_)
    · replace hyp := hyp.1 q9
      have q4_ := q9
      clear q9
      refine xr_return (S := []) (pc := 23) (hI := d_B_checkSegment_23) (hr := rfl) ?_
      show xwp G m_B_markedIn (d + 8) 5 [xR 0, xI x1] [] _ _ _
      refine xr_aload_n (pc := 5) (i := 0) (hI := d_B_markedIn_5) (hi := rfl) (hl := rfl) ?_
      refine xg_getf (pc := 6) (ci := 0) (k := 1) (N := 7) (v9 := 2) (v := 5) (T := xF0) (hI := d_B_markedIn_6) (hw := w_431) rfl xi0 (Or.inl rfl) (Nat.le_of_ble_eq_true rfl) (Nat.le_of_ble_eq_true rfl) rfl (ft_0 F) (fp_0_1 F) (fun f5_ => ?_)
      clear f5_
      refine xr_iload_n (pc := 9) (i := 1) (hI := d_B_markedIn_9) (hi := rfl) (hl := rfl) ?_
      obtain ⟨c6_, hyp⟩ := hyp
      refine xq_callV (pc := 10) (index := 140) (K := m_Store_markedAmong) (As := [xI x1]) (S := []) (L0 := [xR 5, xI x1, xZ, xZ, xZ]) (hI := d_B_markedIn_10) (hK := k_Store_markedAmong) (hlk := w_1171) (hnoM := rfl) (hS8 := Nat.le_of_ble_eq_true rfl) (ci := 7) (N := 6) (C := "BeaconIndex$Store") (T := xF7) (hc := rfl) (hci := Nat.le_of_ble_eq_true rfl) (htb := (ft_5 F)) (hinst := w_759) (hsel := w_760) (hlen := Nat.le_of_ble_eq_true rfl) (hst := rfl) (hL0 := rfl)  (p_Store_markedAmong F c6_ ?_)
      show xwp G m_B_markedIn (d + 8) 13 [xR 0, xI x1] [xI (mkH h x1)] _ _ _
      have f7_ : 0 ≤ (mkH h x1) ∧ (mkH h x1) ≤ 60 := mkH_rng c6_ _
      refine xr_ireturn (S := []) (pc := 13) (hI := d_B_markedIn_13) (hr := rfl) ?_
      exact hyp
    · replace hyp := hyp.2 q9
      have q4_ := q9
      clear q9
      obtain ⟨c7, c8, hyp⟩ := hyp
      exact xr_throw (pc := 15) (k := 2) (ik := 204) (ic := 206) (names := ["java/lang/RuntimeException", "java/lang/Exception"]) (by decide +kernel) (by decide +kernel) (by decide) w_1101 w_32 thr_B_206.1 thr_B_206.2 d_B_checkSegment_15 d_B_checkSegment_18 d_B_checkSegment_19 d_B_checkSegment_22 rfl (Nat.le_of_ble_eq_true rfl) (Nat.le_add_left_of_le (by decide)) (Nat.le_of_ble_eq_true rfl) c7 c8 (hyp (xFix.mk F))
abbrev m_B_levelOf : XM := (⟨"BeaconIndex", "levelOf", "(I)I"⟩, prog_1_method_14_code, 2, (some .int), [])
theorem d_B_levelOf_0 : decode prog_1_method_14_code 0 = .ok (.aload_n 0, 1) := by decide +kernel
theorem d_B_levelOf_1 : decode prog_1_method_14_code 1 = .ok (.iload_n 1, 1) := by decide +kernel
theorem d_B_levelOf_2 : decode prog_1_method_14_code 2 = .ok (.invokevirtual 134, 3) := by decide +kernel
theorem d_B_levelOf_5 : decode prog_1_method_14_code 5 = .ok (.aload_n 0, 1) := by decide +kernel
theorem d_B_levelOf_6 : decode prog_1_method_14_code 6 = .ok (.getfield 19, 3) := by decide +kernel
theorem d_B_levelOf_9 : decode prog_1_method_14_code 9 = .ok (.iload_n 1, 1) := by decide +kernel
theorem d_B_levelOf_10 : decode prog_1_method_14_code 10 = .ok (.invokevirtual 143, 3) := by decide +kernel
theorem w_1176 : Cond.methodLink "BeaconIndex" 143 ⟨"BeaconIndex$Store", "levelAt", "(I)I"⟩ ∈ lw_tbl := List.mem_append_right _ (List.mem_of_getElem? (i := 1176) (by decide +kernel))
theorem d_B_levelOf_13 : decode prog_1_method_14_code 13 = .ok (.ireturn, 1) := by decide +kernel
theorem v_B_levelOf_0 {G : XG} {d : Nat} {h : XH} {Q : XV → XH → Prop} {X : Nat → XH → Prop} {x1 : Int} (F : xFix h) (hyp : ((x1 < 0 → xnx h + 1 ≤ xKC ∧ xsl h + 6 ≤ xKS ∧ (xFix (xmk h 300 6 (fun _ => 0)) → X 2 (xmk h 300 6 (fun _ => 0)))) ∧ (¬ x1 < 0 → ((x1 < (xpl h 5 4) → stok h ∧ (Q (xI (lvl (szA (szL h) x1))) h)) ∧ (¬ x1 < (xpl h 5 4) → xnx h + 1 ≤ xKC ∧ xsl h + 6 ≤ xKS ∧ (xFix (xmk h 300 6 (fun _ => 0)) → X 2 (xmk h 300 6 (fun _ => 0)))))))) : xwp G m_B_levelOf (d + 8) 0 [xR 0, xI x1] [] h Q X := by
  have hnx9 : (93 : Int) ≤ xnx h := F.2.2
  refine xr_okL (fun hl9 => ?_)
  have r_x1 : -2147483648 ≤ x1 ∧ x1 ≤ 2147483647 := hl9 (xI x1) (.tail _ (.head _)) (Nat.le_of_ble_eq_true rfl)
  refine xr_aload_n (pc := 0) (i := 0) (hI := d_B_levelOf_0) (hi := rfl) (hl := rfl) ?_
  refine xr_iload_n (pc := 1) (i := 1) (hI := d_B_levelOf_1) (hi := rfl) (hl := rfl) ?_
  refine xq_callV (pc := 2) (index := 134) (K := m_B_checkSegment) (As := [xI x1]) (S := []) (L0 := [xR 0, xI x1]) (hI := d_B_levelOf_2) (hK := k_B_checkSegment) (hlk := w_1097) (hnoM := rfl) (hS8 := Nat.le_of_ble_eq_true rfl) (ci := 0) (N := 7) (C := "BeaconIndex") (T := xF0) (hc := rfl) (hci := Nat.le_of_ble_eq_true rfl) (htb := (ft_0 F)) (hinst := w_1099) (hsel := sel_B_checkSegment) (hlen := Nat.le_of_ble_eq_true rfl) (hst := rfl) (hL0 := rfl)  ?_
  refine xr_iload_n (pc := 0) (i := 1) (hI := d_B_checkSegment_0) (hi := rfl) (hl := rfl) ?_
  refine xr_if_lt (pc := 1) (tgt := 15) (hI := d_B_checkSegment_1) (ht := by decide) (fun q9 => ?_) (fun q9 => ?_)
  · replace hyp := hyp.1 q9
    have q1_ := q9
    clear q9
    obtain ⟨c7, c8, hyp⟩ := hyp
    exact xr_throw (pc := 15) (k := 2) (ik := 204) (ic := 206) (names := ["java/lang/RuntimeException", "java/lang/Exception"]) (by decide +kernel) (by decide +kernel) (by decide) w_1101 w_32 thr_B_206.1 thr_B_206.2 d_B_checkSegment_15 d_B_checkSegment_18 d_B_checkSegment_19 d_B_checkSegment_22 rfl (Nat.le_of_ble_eq_true rfl) (Nat.le_add_left_of_le (by decide)) (Nat.le_of_ble_eq_true rfl) c7 c8 (hyp (xFix.mk F))
  · replace hyp := hyp.2 q9
    have q1_ := q9
    clear q9
    refine xr_iload_n (pc := 4) (i := 1) (hI := d_B_checkSegment_4) (hi := rfl) (hl := rfl) ?_
    refine xr_aload_n (pc := 5) (i := 0) (hI := d_B_checkSegment_5) (hi := rfl) (hl := rfl) ?_
    refine xg_getf (pc := 6) (ci := 0) (k := 1) (N := 7) (v9 := 2) (v := 5) (T := xF0) (hI := d_B_checkSegment_6) (hw := w_431) rfl xi0 (Or.inl rfl) (Nat.le_of_ble_eq_true rfl) (Nat.le_of_ble_eq_true rfl) rfl (ft_0 F) (fp_0_1 F) (fun f2_ => ?_)
    clear f2_
    refine xg_getf (pc := 9) (ci := 7) (k := 4) (N := 6) (v9 := 0) (v := (xpl h 5 4)) (T := xF7) (hI := d_B_checkSegment_9) (hw := w_155) rfl xi7 (Or.inl rfl) (Nat.le_of_ble_eq_true rfl) (Nat.le_of_ble_eq_true rfl) rfl (ft_5 F) rfl (fun f3_ => ?_)
    replace f3_ : -2147483648 ≤ (xpl h 5 4) ∧ (xpl h 5 4) ≤ 2147483647 := f3_
    refine xr_icmp_lt (pc := 12) (tgt := 23) (hI := d_B_checkSegment_12) (ht := by decide) (fun q9 => ?_) (fun q9 => ?_)
    · replace hyp := hyp.1 q9
      have q4_ := q9
      clear q9
      refine xr_return (S := []) (pc := 23) (hI := d_B_checkSegment_23) (hr := rfl) ?_
      show xwp G m_B_levelOf (d + 8) 5 [xR 0, xI x1] [] _ _ _
      refine xr_aload_n (pc := 5) (i := 0) (hI := d_B_levelOf_5) (hi := rfl) (hl := rfl) ?_
      refine xg_getf (pc := 6) (ci := 0) (k := 1) (N := 7) (v9 := 2) (v := 5) (T := xF0) (hI := d_B_levelOf_6) (hw := w_431) rfl xi0 (Or.inl rfl) (Nat.le_of_ble_eq_true rfl) (Nat.le_of_ble_eq_true rfl) rfl (ft_0 F) (fp_0_1 F) (fun f5_ => ?_)
      clear f5_
      refine xr_iload_n (pc := 9) (i := 1) (hI := d_B_levelOf_9) (hi := rfl) (hl := rfl) ?_
      obtain ⟨c6_, hyp⟩ := hyp
      refine xq_callV (pc := 10) (index := 143) (K := m_Store_levelAt) (As := [xI x1]) (S := []) (L0 := [xR 5, xI x1, xZ]) (hI := d_B_levelOf_10) (hK := k_Store_levelAt) (hlk := w_1176) (hnoM := rfl) (hS8 := Nat.le_of_ble_eq_true rfl) (ci := 7) (N := 6) (C := "BeaconIndex$Store") (T := xF7) (hc := rfl) (hci := Nat.le_of_ble_eq_true rfl) (htb := (ft_5 F)) (hinst := w_562) (hsel := w_563) (hlen := Nat.le_of_ble_eq_true rfl) (hst := rfl) (hL0 := rfl)  (p_Store_levelAt F c6_ ?_)
      show xwp G m_B_levelOf (d + 8) 13 [xR 0, xI x1] [xI (lvl (szA (szL h) x1))] _ _ _
      have f7_ : 0 ≤ (lvl (szA (szL h) x1)) ∧ (lvl (szA (szL h) x1)) ≤ 3 := lvl_rng _
      refine xr_ireturn (S := []) (pc := 13) (hI := d_B_levelOf_13) (hr := rfl) ?_
      exact hyp
    · replace hyp := hyp.2 q9
      have q4_ := q9
      clear q9
      obtain ⟨c7, c8, hyp⟩ := hyp
      exact xr_throw (pc := 15) (k := 2) (ik := 204) (ic := 206) (names := ["java/lang/RuntimeException", "java/lang/Exception"]) (by decide +kernel) (by decide +kernel) (by decide) w_1101 w_32 thr_B_206.1 thr_B_206.2 d_B_checkSegment_15 d_B_checkSegment_18 d_B_checkSegment_19 d_B_checkSegment_22 rfl (Nat.le_of_ble_eq_true rfl) (Nat.le_add_left_of_le (by decide)) (Nat.le_of_ble_eq_true rfl) c7 c8 (hyp (xFix.mk F))
abbrev m_B_wordsIn : XM := (⟨"BeaconIndex", "wordsIn", "(II)I"⟩, prog_1_method_15_code, 5, (some .int), [])
theorem d_B_wordsIn_0 : decode prog_1_method_15_code 0 = .ok (.aload_n 0, 1) := by decide +kernel
theorem d_B_wordsIn_1 : decode prog_1_method_15_code 1 = .ok (.iload_n 1, 1) := by decide +kernel
theorem d_B_wordsIn_2 : decode prog_1_method_15_code 2 = .ok (.invokevirtual 134, 3) := by decide +kernel
theorem d_B_wordsIn_5 : decode prog_1_method_15_code 5 = .ok (.iload_n 2, 1) := by decide +kernel
theorem d_B_wordsIn_6 : decode prog_1_method_15_code 6 = .ok (.invokestatic 146, 3) := by decide +kernel
abbrev m_B_checkField : XM := (⟨"BeaconIndex", "checkField", "(I)V"⟩, prog_1_method_44_code, 1, none, [])
theorem k_B_checkField : xCal m_B_checkField 1 := ⟨List.mem_append_right _ (List.mem_of_getElem? (i := 1183) (by decide +kernel)), w_1, Nat.le_of_ble_eq_true rfl, ⟨by decide +kernel, by decide +kernel⟩, by decide +kernel, by decide +kernel, rfl⟩
theorem w_1181 : Cond.methodLink "BeaconIndex" 146 ⟨"BeaconIndex", "checkField", "(I)V"⟩ ∈ lw_tbl := List.mem_append_right _ (List.mem_of_getElem? (i := 1181) (by decide +kernel))
theorem w_1182 : Cond.static ⟨"BeaconIndex", "checkField", "(I)V"⟩ ∈ lw_tbl := List.mem_append_right _ (List.mem_of_getElem? (i := 1182) (by decide +kernel))
theorem d_B_checkField_0 : decode prog_1_method_44_code 0 = .ok (.iload_n 0, 1) := by decide +kernel
theorem d_B_checkField_1 : decode prog_1_method_44_code 1 = .ok (.ifCond .lt 8, 3) := by decide +kernel
theorem d_B_checkField_9 : decode prog_1_method_44_code 9 = .ok (.new 204, 3) := by decide +kernel
theorem d_B_checkField_12 : decode prog_1_method_44_code 12 = .ok (.dup, 1) := by decide +kernel
theorem d_B_checkField_13 : decode prog_1_method_44_code 13 = .ok (.invokespecial 206, 3) := by decide +kernel
theorem d_B_checkField_16 : decode prog_1_method_44_code 16 = .ok (.athrow, 1) := by decide +kernel
theorem d_B_checkField_4 : decode prog_1_method_44_code 4 = .ok (.iload_n 0, 1) := by decide +kernel
theorem d_B_checkField_5 : decode prog_1_method_44_code 5 = .ok (.iconst 2, 1) := by decide +kernel
theorem d_B_checkField_6 : decode prog_1_method_44_code 6 = .ok (.if_icmp .lt 11, 3) := by decide +kernel
theorem d_B_checkField_17 : decode prog_1_method_44_code 17 = .ok (.return_, 1) := by decide +kernel
theorem d_B_wordsIn_9 : decode prog_1_method_15_code 9 = .ok (.aload_n 0, 1) := by decide +kernel
theorem d_B_wordsIn_10 : decode prog_1_method_15_code 10 = .ok (.getfield 26, 3) := by decide +kernel
theorem w_432 : Cond.fieldLink "BeaconIndex" 26 "BeaconIndex" "vocabulary" "LBeaconIndex$Vocabulary;" ∈ lw_tbl := List.mem_append_right _ (List.mem_of_getElem? (i := 432) (by decide +kernel))
theorem d_B_wordsIn_13 : decode prog_1_method_15_code 13 = .ok (.iconst 0, 1) := by decide +kernel
theorem d_B_wordsIn_14 : decode prog_1_method_15_code 14 = .ok (.putfield 149, 3) := by decide +kernel
theorem w_183 : Cond.fieldLink "BeaconIndex" 149 "BeaconIndex$Vocabulary" "size" "I" ∈ lw_tbl := List.mem_append_right _ (List.mem_of_getElem? (i := 183) (by decide +kernel))
theorem d_B_wordsIn_17 : decode prog_1_method_15_code 17 = .ok (.aload_n 0, 1) := by decide +kernel
theorem d_B_wordsIn_18 : decode prog_1_method_15_code 18 = .ok (.getfield 19, 3) := by decide +kernel
theorem d_B_wordsIn_21 : decode prog_1_method_15_code 21 = .ok (.iload_n 1, 1) := by decide +kernel
theorem d_B_wordsIn_22 : decode prog_1_method_15_code 22 = .ok (.invokevirtual 151, 3) := by decide +kernel
theorem w_1184 : Cond.methodLink "BeaconIndex" 151 ⟨"BeaconIndex$Store", "startOf", "(I)I"⟩ ∈ lw_tbl := List.mem_append_right _ (List.mem_of_getElem? (i := 1184) (by decide +kernel))
theorem d_B_wordsIn_25 : decode prog_1_method_15_code 25 = .ok (.istore_n 3, 1) := by decide +kernel
theorem d_B_wordsIn_26 : decode prog_1_method_15_code 26 = .ok (.iconst 0, 1) := by decide +kernel
theorem d_B_wordsIn_27 : decode prog_1_method_15_code 27 = .ok (.istore 4, 2) := by decide +kernel
theorem v_B_wordsIn_0 {G : XG} {d : Nat} {h : XH} {Q : XV → XH → Prop} {X : Nat → XH → Prop} {x1 x2 : Int} (F : xFix h) (hyp : ((x1 < 0 → xnx h + 1 ≤ xKC ∧ xsl h + 6 ≤ xKS ∧ (xFix (xmk h 300 6 (fun _ => 0)) → X 2 (xmk h 300 6 (fun _ => 0)))) ∧ (¬ x1 < 0 → ((x1 < (xpl h 5 4) → ((x2 < 0 → xnx h + 1 ≤ xKC ∧ xsl h + 6 ≤ xKS ∧ (xFix (xmk h 300 6 (fun _ => 0)) → X 2 (xmk h 300 6 (fun _ => 0)))) ∧ (¬ x2 < 0 → ((x2 < 2 → stok (xst h 12 3 0) ∧ (xFix (xst h 12 3 0) → xwp G m_B_wordsIn (d + 8) 29 [xR 0, xI x1, xI x2, xI (stA (szL (xst h 12 3 0)) x1), xI 0] [] (xst h 12 3 0) Q X)) ∧ (¬ x2 < 2 → xnx h + 1 ≤ xKC ∧ xsl h + 6 ≤ xKS ∧ (xFix (xmk h 300 6 (fun _ => 0)) → X 2 (xmk h 300 6 (fun _ => 0)))))))) ∧ (¬ x1 < (xpl h 5 4) → xnx h + 1 ≤ xKC ∧ xsl h + 6 ≤ xKS ∧ (xFix (xmk h 300 6 (fun _ => 0)) → X 2 (xmk h 300 6 (fun _ => 0)))))))) : xwp G m_B_wordsIn (d + 8) 0 [xR 0, xI x1, xI x2, xZ, xZ] [] h Q X := by
  have hnx9 : (93 : Int) ≤ xnx h := F.2.2
  refine xr_okL (fun hl9 => ?_)
  have r_x1 : -2147483648 ≤ x1 ∧ x1 ≤ 2147483647 := hl9 (xI x1) (.tail _ (.head _)) (Nat.le_of_ble_eq_true rfl)
  have r_x2 : -2147483648 ≤ x2 ∧ x2 ≤ 2147483647 := hl9 (xI x2) (.tail _ (.tail _ (.head _))) (Nat.le_of_ble_eq_true rfl)
  refine xr_aload_n (pc := 0) (i := 0) (hI := d_B_wordsIn_0) (hi := rfl) (hl := rfl) ?_
  refine xr_iload_n (pc := 1) (i := 1) (hI := d_B_wordsIn_1) (hi := rfl) (hl := rfl) ?_
  refine xq_callV (pc := 2) (index := 134) (K := m_B_checkSegment) (As := [xI x1]) (S := []) (L0 := [xR 0, xI x1]) (hI := d_B_wordsIn_2) (hK := k_B_checkSegment) (hlk := w_1097) (hnoM := rfl) (hS8 := Nat.le_of_ble_eq_true rfl) (ci := 0) (N := 7) (C := "BeaconIndex") (T := xF0) (hc := rfl) (hci := Nat.le_of_ble_eq_true rfl) (htb := (ft_0 F)) (hinst := w_1099) (hsel := sel_B_checkSegment) (hlen := Nat.le_of_ble_eq_true rfl) (hst := rfl) (hL0 := rfl)  ?_
  refine xr_iload_n (pc := 0) (i := 1) (hI := d_B_checkSegment_0) (hi := rfl) (hl := rfl) ?_
  refine xr_if_lt (pc := 1) (tgt := 15) (hI := d_B_checkSegment_1) (ht := by decide) (fun q9 => ?_) (fun q9 => ?_)
  · replace hyp := hyp.1 q9
    have q1_ := q9
    clear q9
    obtain ⟨c7, c8, hyp⟩ := hyp
    exact xr_throw (pc := 15) (k := 2) (ik := 204) (ic := 206) (names := ["java/lang/RuntimeException", "java/lang/Exception"]) (by decide +kernel) (by decide +kernel) (by decide) w_1101 w_32 thr_B_206.1 thr_B_206.2 d_B_checkSegment_15 d_B_checkSegment_18 d_B_checkSegment_19 d_B_checkSegment_22 rfl (Nat.le_of_ble_eq_true rfl) (Nat.le_add_left_of_le (by decide)) (Nat.le_of_ble_eq_true rfl) c7 c8 (hyp (xFix.mk F))
  · replace hyp := hyp.2 q9
    have q1_ := q9
    clear q9
    refine xr_iload_n (pc := 4) (i := 1) (hI := d_B_checkSegment_4) (hi := rfl) (hl := rfl) ?_
    refine xr_aload_n (pc := 5) (i := 0) (hI := d_B_checkSegment_5) (hi := rfl) (hl := rfl) ?_
    refine xg_getf (pc := 6) (ci := 0) (k := 1) (N := 7) (v9 := 2) (v := 5) (T := xF0) (hI := d_B_checkSegment_6) (hw := w_431) rfl xi0 (Or.inl rfl) (Nat.le_of_ble_eq_true rfl) (Nat.le_of_ble_eq_true rfl) rfl (ft_0 F) (fp_0_1 F) (fun f2_ => ?_)
    clear f2_
    refine xg_getf (pc := 9) (ci := 7) (k := 4) (N := 6) (v9 := 0) (v := (xpl h 5 4)) (T := xF7) (hI := d_B_checkSegment_9) (hw := w_155) rfl xi7 (Or.inl rfl) (Nat.le_of_ble_eq_true rfl) (Nat.le_of_ble_eq_true rfl) rfl (ft_5 F) rfl (fun f3_ => ?_)
    replace f3_ : -2147483648 ≤ (xpl h 5 4) ∧ (xpl h 5 4) ≤ 2147483647 := f3_
    refine xr_icmp_lt (pc := 12) (tgt := 23) (hI := d_B_checkSegment_12) (ht := by decide) (fun q9 => ?_) (fun q9 => ?_)
    · replace hyp := hyp.1 q9
      have q4_ := q9
      clear q9
      refine xr_return (S := []) (pc := 23) (hI := d_B_checkSegment_23) (hr := rfl) ?_
      show xwp G m_B_wordsIn (d + 8) 5 [xR 0, xI x1, xI x2, xZ, xZ] [] _ _ _
      refine xr_iload_n (pc := 5) (i := 2) (hI := d_B_wordsIn_5) (hi := rfl) (hl := rfl) ?_
      refine xq_callS (pc := 6) (index := 146) (K := m_B_checkField) (As := [xI x2]) (S := []) (L0 := [xI x2]) (hI := d_B_wordsIn_6) (hK := k_B_checkField) (hlk := w_1181) (hnoM := rfl) (hS8 := Nat.le_of_ble_eq_true rfl) (hstat := w_1182) (hlen := Nat.le_of_ble_eq_true rfl) (hst := rfl) (hL0 := rfl)  ?_
      refine xr_iload_n (pc := 0) (i := 0) (hI := d_B_checkField_0) (hi := rfl) (hl := rfl) ?_
      refine xr_if_lt (pc := 1) (tgt := 9) (hI := d_B_checkField_1) (ht := by decide) (fun q9 => ?_) (fun q9 => ?_)
      · replace hyp := hyp.1 q9
        have q5_ := q9
        clear q9
        obtain ⟨c7, c8, hyp⟩ := hyp
        exact xr_throw (pc := 9) (k := 2) (ik := 204) (ic := 206) (names := ["java/lang/RuntimeException", "java/lang/Exception"]) (by decide +kernel) (by decide +kernel) (by decide) w_1101 w_32 thr_B_206.1 thr_B_206.2 d_B_checkField_9 d_B_checkField_12 d_B_checkField_13 d_B_checkField_16 rfl (Nat.le_of_ble_eq_true rfl) (Nat.le_add_left_of_le (by decide)) (Nat.le_of_ble_eq_true rfl) c7 c8 (hyp (xFix.mk F))
      · replace hyp := hyp.2 q9
        have q5_ := q9
        clear q9
        refine xr_iload_n (pc := 4) (i := 0) (hI := d_B_checkField_4) (hi := rfl) (hl := rfl) ?_
        refine xr_iconst (pc := 5) (hI := d_B_checkField_5) (hr := by decide) ?_
        refine xr_icmp_lt (pc := 6) (tgt := 17) (hI := d_B_checkField_6) (ht := by decide) (fun q9 => ?_) (fun q9 => ?_)
        · replace hyp := hyp.1 q9
          have q6_ := q9
          clear q9
          refine xr_return (S := []) (pc := 17) (hI := d_B_checkField_17) (hr := rfl) ?_
          show xwp G m_B_wordsIn (d + 8) 9 [xR 0, xI x1, xI x2, xZ, xZ] [] _ _ _
          refine xr_aload_n (pc := 9) (i := 0) (hI := d_B_wordsIn_9) (hi := rfl) (hl := rfl) ?_
          refine xg_getf (pc := 10) (ci := 0) (k := 2) (N := 7) (v9 := 2) (v := 12) (T := xF0) (hI := d_B_wordsIn_10) (hw := w_432) rfl xi0 (Or.inl rfl) (Nat.le_of_ble_eq_true rfl) (Nat.le_of_ble_eq_true rfl) rfl (ft_0 F) (fp_0_2 F) (fun f7_ => ?_)
          clear f7_
          refine xr_iconst (pc := 13) (hI := d_B_wordsIn_13) (hr := by decide) ?_
          refine xr_putf (pc := 14) (ci := 10) (k := 3) (N := 7) (v9 := 0) (T := xF10) (tF := xT10) (hI := d_B_wordsIn_14) (hw := w_183) rfl xi10 xt10 xn10 (Or.inl rfl) (Nat.le_of_ble_eq_true rfl) (Nat.le_of_ble_eq_true rfl) rfl xfit_i rfl (ft_12 F) (by decide) (fun z => z) ?_
          have F8_ : xFix (xst h 12 3 0) := F.stL xfk_12_3
          refine xr_aload_n (pc := 17) (i := 0) (hI := d_B_wordsIn_17) (hi := rfl) (hl := rfl) ?_
          refine xg_getf (pc := 18) (ci := 0) (k := 1) (N := 7) (v9 := 2) (v := 5) (T := xF0) (hI := d_B_wordsIn_18) (hw := w_431) rfl xi0 (Or.inl rfl) (Nat.le_of_ble_eq_true rfl) (Nat.le_of_ble_eq_true rfl) rfl (ft_0 F8_) (fp_0_1 F8_) (fun f9_ => ?_)
          clear f9_
          refine xr_iload_n (pc := 21) (i := 1) (hI := d_B_wordsIn_21) (hi := rfl) (hl := rfl) ?_
          obtain ⟨c10_, hyp⟩ := hyp
          refine xq_callV (pc := 22) (index := 151) (K := m_Store_startOf) (As := [xI x1]) (S := []) (L0 := [xR 5, xI x1, xZ, xZ]) (hI := d_B_wordsIn_22) (hK := k_Store_startOf) (hlk := w_1184) (hnoM := rfl) (hS8 := Nat.le_of_ble_eq_true rfl) (ci := 7) (N := 6) (C := "BeaconIndex$Store") (T := xF7) (hc := rfl) (hci := Nat.le_of_ble_eq_true rfl) (htb := (ft_5 F8_)) (hinst := w_574) (hsel := w_575) (hlen := Nat.le_of_ble_eq_true rfl) (hst := rfl) (hL0 := rfl)  (p_Store_startOf F8_ c10_ ?_)
          show xwp G m_B_wordsIn (d + 8) 25 [xR 0, xI x1, xI x2, xZ, xZ] [xI (stA (szL (xst h 12 3 0)) x1)] _ _ _
          have f11_ : 0 ≤ (stA (szL (xst h 12 3 0)) x1) ∧ (stA (szL (xst h 12 3 0)) x1) ≤ 3600 := stA_rng c10_ _
          refine xr_istore_n (pc := 25) (i := 3) (L9 := [xR 0, xI x1, xI x2, xI (stA (szL (xst h 12 3 0)) x1), xZ]) (hI := d_B_wordsIn_25) (hi := rfl) (hn := Nat.le_of_ble_eq_true rfl) (hL9 := rfl) ?_
          refine xr_iconst (pc := 26) (hI := d_B_wordsIn_26) (hr := by decide) ?_
          refine xr_istore (pc := 27) (i := 4) (L9 := [xR 0, xI x1, xI x2, xI (stA (szL (xst h 12 3 0)) x1), xI 0]) (hI := d_B_wordsIn_27) (hn := Nat.le_of_ble_eq_true rfl) (hL9 := rfl) ?_
          exact (hyp F8_)
        · replace hyp := hyp.2 q9
          have q6_ := q9
          clear q9
          obtain ⟨c7, c8, hyp⟩ := hyp
          exact xr_throw (pc := 9) (k := 2) (ik := 204) (ic := 206) (names := ["java/lang/RuntimeException", "java/lang/Exception"]) (by decide +kernel) (by decide +kernel) (by decide) w_1101 w_32 thr_B_206.1 thr_B_206.2 d_B_checkField_9 d_B_checkField_12 d_B_checkField_13 d_B_checkField_16 rfl (Nat.le_of_ble_eq_true rfl) (Nat.le_add_left_of_le (by decide)) (Nat.le_of_ble_eq_true rfl) c7 c8 (hyp (xFix.mk F))
    · replace hyp := hyp.2 q9
      have q4_ := q9
      clear q9
      obtain ⟨c7, c8, hyp⟩ := hyp
      exact xr_throw (pc := 15) (k := 2) (ik := 204) (ic := 206) (names := ["java/lang/RuntimeException", "java/lang/Exception"]) (by decide +kernel) (by decide +kernel) (by decide) w_1101 w_32 thr_B_206.1 thr_B_206.2 d_B_checkSegment_15 d_B_checkSegment_18 d_B_checkSegment_19 d_B_checkSegment_22 rfl (Nat.le_of_ble_eq_true rfl) (Nat.le_add_left_of_le (by decide)) (Nat.le_of_ble_eq_true rfl) c7 c8 (hyp (xFix.mk F))
theorem d_B_wordsIn_29 : decode prog_1_method_15_code 29 = .ok (.iload 4, 2) := by decide +kernel
theorem d_B_wordsIn_31 : decode prog_1_method_15_code 31 = .ok (.aload_n 0, 1) := by decide +kernel
theorem d_B_wordsIn_32 : decode prog_1_method_15_code 32 = .ok (.getfield 19, 3) := by decide +kernel
theorem d_B_wordsIn_35 : decode prog_1_method_15_code 35 = .ok (.iload_n 1, 1) := by decide +kernel
theorem d_B_wordsIn_36 : decode prog_1_method_15_code 36 = .ok (.invokevirtual 137, 3) := by decide +kernel
theorem d_B_wordsIn_39 : decode prog_1_method_15_code 39 = .ok (.if_icmp .ge 33, 3) := by decide +kernel
theorem d_B_wordsIn_72 : decode prog_1_method_15_code 72 = .ok (.aload_n 0, 1) := by decide +kernel
theorem d_B_wordsIn_73 : decode prog_1_method_15_code 73 = .ok (.getfield 26, 3) := by decide +kernel
theorem d_B_wordsIn_76 : decode prog_1_method_15_code 76 = .ok (.getfield 149, 3) := by decide +kernel
theorem d_B_wordsIn_79 : decode prog_1_method_15_code 79 = .ok (.ireturn, 1) := by decide +kernel
theorem d_B_wordsIn_42 : decode prog_1_method_15_code 42 = .ok (.aload_n 0, 1) := by decide +kernel
theorem d_B_wordsIn_43 : decode prog_1_method_15_code 43 = .ok (.getfield 26, 3) := by decide +kernel
theorem d_B_wordsIn_46 : decode prog_1_method_15_code 46 = .ok (.aload_n 0, 1) := by decide +kernel
theorem d_B_wordsIn_47 : decode prog_1_method_15_code 47 = .ok (.getfield 19, 3) := by decide +kernel
theorem d_B_wordsIn_50 : decode prog_1_method_15_code 50 = .ok (.iload_n 3, 1) := by decide +kernel
theorem d_B_wordsIn_51 : decode prog_1_method_15_code 51 = .ok (.iload 4, 2) := by decide +kernel
theorem d_B_wordsIn_53 : decode prog_1_method_15_code 53 = .ok (.iadd, 1) := by decide +kernel
theorem d_B_wordsIn_54 : decode prog_1_method_15_code 54 = .ok (.invokevirtual 154, 3) := by decide +kernel
theorem w_882 : Cond.methodLink "BeaconIndex" 154 ⟨"BeaconIndex$Store", "filedAt", "(I)LBeaconIndex$Text;"⟩ ∈ lw_tbl := List.mem_append_right _ (List.mem_of_getElem? (i := 882) (by decide +kernel))
theorem d_B_wordsIn_57 : decode prog_1_method_15_code 57 = .ok (.iload_n 2, 1) := by decide +kernel
theorem d_B_wordsIn_58 : decode prog_1_method_15_code 58 = .ok (.invokevirtual 158, 3) := by decide +kernel
theorem w_883 : Cond.methodLink "BeaconIndex" 158 ⟨"BeaconIndex$Text", "row", "(I)[J"⟩ ∈ lw_tbl := List.mem_append_right _ (List.mem_of_getElem? (i := 883) (by decide +kernel))
theorem d_B_wordsIn_61 : decode prog_1_method_15_code 61 = .ok (.iload 4, 2) := by decide +kernel
theorem d_B_wordsIn_63 : decode prog_1_method_15_code 63 = .ok (.invokevirtual 162, 3) := by decide +kernel
theorem k_Vocabulary_noteRow : xCal m_Vocabulary_noteRow 2 := ⟨List.mem_append_right _ (List.mem_of_getElem? (i := 887) (by decide +kernel)), w_8, Nat.le_of_ble_eq_true rfl, ⟨by decide +kernel, by decide +kernel⟩, by decide +kernel, by decide +kernel, rfl⟩
theorem w_884 : Cond.methodLink "BeaconIndex" 162 ⟨"BeaconIndex$Vocabulary", "noteRow", "([JI)V"⟩ ∈ lw_tbl := List.mem_append_right _ (List.mem_of_getElem? (i := 884) (by decide +kernel))
theorem w_885 : Cond.instanceMethod ⟨"BeaconIndex$Vocabulary", "noteRow", "([JI)V"⟩ ∈ lw_tbl := List.mem_append_right _ (List.mem_of_getElem? (i := 885) (by decide +kernel))
theorem w_886 : Cond.selects "BeaconIndex$Vocabulary" ⟨"BeaconIndex$Vocabulary", "noteRow", "([JI)V"⟩ ⟨"BeaconIndex$Vocabulary", "noteRow", "([JI)V"⟩ ∈ lw_tbl := List.mem_append_right _ (List.mem_of_getElem? (i := 886) (by decide +kernel))
theorem v_B_wordsIn_29 {G : XG} {d : Nat} {h : XH} {Q : XV → XH → Prop} {X : Nat → XH → Prop} {x1 x2 x3 x4 : Int} (F : xFix h) (hyp : stok h ∧ (((szA (szL h) x1) ≤ x4 → (Q (xI (xpl h 12 3)) h)) ∧ (¬ (szA (szL h) x1) ≤ x4 → xiR (x3 + x4) ∧ (xwp G m_Vocabulary_noteRow (d + 7) 0 [xR 12, xR (txr h (fat h (x3 + x4)) x2), xI x4, xZ] [] h (fun v9 h9 => xwp G m_B_wordsIn (d + 8) 66 [xR 0, xI x1, xI x2, xI x3, xI x4] (xpush v9 []) h9 Q X) X)))) : xwp G m_B_wordsIn (d + 8) 29 [xR 0, xI x1, xI x2, xI x3, xI x4] [] h Q X := by
  have hnx9 : (93 : Int) ≤ xnx h := F.2.2
  refine xr_okL (fun hl9 => ?_)
  have r_x1 : -2147483648 ≤ x1 ∧ x1 ≤ 2147483647 := hl9 (xI x1) (.tail _ (.head _)) (Nat.le_of_ble_eq_true rfl)
  have r_x2 : -2147483648 ≤ x2 ∧ x2 ≤ 2147483647 := hl9 (xI x2) (.tail _ (.tail _ (.head _))) (Nat.le_of_ble_eq_true rfl)
  have r_x3 : -2147483648 ≤ x3 ∧ x3 ≤ 2147483647 := hl9 (xI x3) (.tail _ (.tail _ (.tail _ (.head _)))) (Nat.le_of_ble_eq_true rfl)
  have r_x4 : -2147483648 ≤ x4 ∧ x4 ≤ 2147483647 := hl9 (xI x4) (.tail _ (.tail _ (.tail _ (.tail _ (.head _))))) (Nat.le_of_ble_eq_true rfl)
  refine xr_iload (pc := 29) (i := 4) (hI := d_B_wordsIn_29) (hl := rfl) ?_
  refine xr_aload_n (pc := 31) (i := 0) (hI := d_B_wordsIn_31) (hi := rfl) (hl := rfl) ?_
  refine xg_getf (pc := 32) (ci := 0) (k := 1) (N := 7) (v9 := 2) (v := 5) (T := xF0) (hI := d_B_wordsIn_32) (hw := w_431) rfl xi0 (Or.inl rfl) (Nat.le_of_ble_eq_true rfl) (Nat.le_of_ble_eq_true rfl) rfl (ft_0 F) (fp_0_1 F) (fun f1_ => ?_)
  clear f1_
  refine xr_iload_n (pc := 35) (i := 1) (hI := d_B_wordsIn_35) (hi := rfl) (hl := rfl) ?_
  obtain ⟨c2_, hyp⟩ := hyp
  refine xq_callV (pc := 36) (index := 137) (K := m_Store_sizeOf) (As := [xI x1]) (S := [xI x4]) (L0 := [xR 5, xI x1]) (hI := d_B_wordsIn_36) (hK := k_Store_sizeOf) (hlk := w_1166) (hnoM := rfl) (hS8 := Nat.le_of_ble_eq_true rfl) (ci := 7) (N := 6) (C := "BeaconIndex$Store") (T := xF7) (hc := rfl) (hci := Nat.le_of_ble_eq_true rfl) (htb := (ft_5 F)) (hinst := w_566) (hsel := w_567) (hlen := Nat.le_of_ble_eq_true rfl) (hst := rfl) (hL0 := rfl)  (p_Store_sizeOf F c2_ ?_)
  show xwp G m_B_wordsIn (d + 8) 39 [xR 0, xI x1, xI x2, xI x3, xI x4] [xI (szA (szL h) x1), xI x4] _ _ _
  have f3_ : 0 ≤ (szA (szL h) x1) ∧ (szA (szL h) x1) ≤ 60 := szA_rng c2_ _
  refine xr_icmp_ge (pc := 39) (tgt := 72) (hI := d_B_wordsIn_39) (ht := by decide) (fun q9 => ?_) (fun q9 => ?_)
  · replace hyp := hyp.1 q9
    have q4_ := q9
    clear q9
    refine xr_aload_n (pc := 72) (i := 0) (hI := d_B_wordsIn_72) (hi := rfl) (hl := rfl) ?_
    refine xg_getf (pc := 73) (ci := 0) (k := 2) (N := 7) (v9 := 2) (v := 12) (T := xF0) (hI := d_B_wordsIn_73) (hw := w_432) rfl xi0 (Or.inl rfl) (Nat.le_of_ble_eq_true rfl) (Nat.le_of_ble_eq_true rfl) rfl (ft_0 F) (fp_0_2 F) (fun f5_ => ?_)
    clear f5_
    refine xg_getf (pc := 76) (ci := 10) (k := 3) (N := 7) (v9 := 0) (v := (xpl h 12 3)) (T := xF10) (hI := d_B_wordsIn_76) (hw := w_183) rfl xi10 (Or.inl rfl) (Nat.le_of_ble_eq_true rfl) (Nat.le_of_ble_eq_true rfl) rfl (ft_12 F) rfl (fun f6_ => ?_)
    replace f6_ : -2147483648 ≤ (xpl h 12 3) ∧ (xpl h 12 3) ≤ 2147483647 := f6_
    refine xr_ireturn (S := []) (pc := 79) (hI := d_B_wordsIn_79) (hr := rfl) ?_
    exact hyp
  · replace hyp := hyp.2 q9
    have q4_ := q9
    clear q9
    refine xr_aload_n (pc := 42) (i := 0) (hI := d_B_wordsIn_42) (hi := rfl) (hl := rfl) ?_
    refine xg_getf (pc := 43) (ci := 0) (k := 2) (N := 7) (v9 := 2) (v := 12) (T := xF0) (hI := d_B_wordsIn_43) (hw := w_432) rfl xi0 (Or.inl rfl) (Nat.le_of_ble_eq_true rfl) (Nat.le_of_ble_eq_true rfl) rfl (ft_0 F) (fp_0_2 F) (fun f7_ => ?_)
    clear f7_
    refine xr_aload_n (pc := 46) (i := 0) (hI := d_B_wordsIn_46) (hi := rfl) (hl := rfl) ?_
    refine xg_getf (pc := 47) (ci := 0) (k := 1) (N := 7) (v9 := 2) (v := 5) (T := xF0) (hI := d_B_wordsIn_47) (hw := w_431) rfl xi0 (Or.inl rfl) (Nat.le_of_ble_eq_true rfl) (Nat.le_of_ble_eq_true rfl) rfl (ft_0 F) (fp_0_1 F) (fun f8_ => ?_)
    clear f8_
    refine xr_iload_n (pc := 50) (i := 3) (hI := d_B_wordsIn_50) (hi := rfl) (hl := rfl) ?_
    refine xr_iload (pc := 51) (i := 4) (hI := d_B_wordsIn_51) (hl := rfl) ?_
    obtain ⟨c9, hyp⟩ := hyp
    refine xr_iadd (pc := 53) (hI := d_B_wordsIn_53) (hr := c9) ?_
    refine xq_callV (pc := 54) (index := 154) (K := m_Store_filedAt) (As := [xI (x3 + x4)]) (S := [xR 12]) (L0 := [xR 5, xI (x3 + x4)]) (hI := d_B_wordsIn_54) (hK := k_Store_filedAt) (hlk := w_882) (hnoM := rfl) (hS8 := Nat.le_of_ble_eq_true rfl) (ci := 7) (N := 6) (C := "BeaconIndex$Store") (T := xF7) (hc := rfl) (hci := Nat.le_of_ble_eq_true rfl) (htb := (ft_5 F)) (hinst := w_578) (hsel := w_579) (hlen := Nat.le_of_ble_eq_true rfl) (hst := rfl) (hL0 := rfl)  (p_Store_filedAt F c2_ ?_)
    show xwp G m_B_wordsIn (d + 8) 57 [xR 0, xI x1, xI x2, xI x3, xI x4] [xR (fat h (x3 + x4)), xR 12] _ _ _
    have t9_ : xtg h (fat h (x3 + x4)) = 9 := (fat_ok F c2_ _).1
    refine xr_iload_n (pc := 57) (i := 2) (hI := d_B_wordsIn_57) (hi := rfl) (hl := rfl) ?_
    refine xq_callV (pc := 58) (index := 158) (K := m_Text_row) (As := [xI x2]) (S := [xR 12]) (L0 := [xR (fat h (x3 + x4)), xI x2]) (hI := d_B_wordsIn_58) (hK := k_Text_row) (hlk := w_883) (hnoM := rfl) (hS8 := Nat.le_of_ble_eq_true rfl) (ci := 9) (N := 6) (C := "BeaconIndex$Text") (T := xF9) (hc := rfl) (hci := Nat.le_of_ble_eq_true rfl) (htb := t9_) (hinst := w_611) (hsel := w_612) (hlen := Nat.le_of_ble_eq_true rfl) (hst := rfl) (hL0 := rfl)  (p_Text_row F t9_ ?_)
    show xwp G m_B_wordsIn (d + 8) 61 [xR 0, xI x1, xI x2, xI x3, xI x4] [xR (txr h (fat h (x3 + x4)) x2), xR 12] _ _ _
    refine xr_iload (pc := 61) (i := 4) (hI := d_B_wordsIn_61) (hl := rfl) ?_
    exact xq_callV (pc := 63) (index := 162) (K := m_Vocabulary_noteRow) (As := [xR (txr h (fat h (x3 + x4)) x2), xI x4]) (S := []) (L0 := [xR 12, xR (txr h (fat h (x3 + x4)) x2), xI x4, xZ]) (hI := d_B_wordsIn_63) (hK := k_Vocabulary_noteRow) (hlk := w_884) (hnoM := rfl) (hS8 := Nat.le_of_ble_eq_true rfl) (ci := 10) (N := 7) (C := "BeaconIndex$Vocabulary") (T := xF10) (hc := rfl) (hci := Nat.le_of_ble_eq_true rfl) (htb := (ft_12 F)) (hinst := w_885) (hsel := w_886) (hlen := Nat.le_of_ble_eq_true rfl) (hst := rfl) (hL0 := rfl)  hyp
theorem d_B_wordsIn_66 : decode prog_1_method_15_code 66 = .ok (.iinc 4 1, 3) := by decide +kernel
theorem d_B_wordsIn_69 : decode prog_1_method_15_code 69 = .ok (.goto (-40), 3) := by decide +kernel
theorem v_B_wordsIn_66 {G : XG} {d : Nat} {h : XH} {Q : XV → XH → Prop} {X : Nat → XH → Prop} {x1 x2 x3 x4 : Int} (F : xFix h) (hyp : xiR (x4 + 1) ∧ (xwp G m_B_wordsIn (d + 8) 29 [xR 0, xI x1, xI x2, xI x3, xI (x4 + 1)] [] h Q X)) : xwp G m_B_wordsIn (d + 8) 66 [xR 0, xI x1, xI x2, xI x3, xI x4] [] h Q X := by
  have hnx9 : (93 : Int) ≤ xnx h := F.2.2
  refine xr_okL (fun hl9 => ?_)
  have r_x1 : -2147483648 ≤ x1 ∧ x1 ≤ 2147483647 := hl9 (xI x1) (.tail _ (.head _)) (Nat.le_of_ble_eq_true rfl)
  have r_x2 : -2147483648 ≤ x2 ∧ x2 ≤ 2147483647 := hl9 (xI x2) (.tail _ (.tail _ (.head _))) (Nat.le_of_ble_eq_true rfl)
  have r_x3 : -2147483648 ≤ x3 ∧ x3 ≤ 2147483647 := hl9 (xI x3) (.tail _ (.tail _ (.tail _ (.head _)))) (Nat.le_of_ble_eq_true rfl)
  have r_x4 : -2147483648 ≤ x4 ∧ x4 ≤ 2147483647 := hl9 (xI x4) (.tail _ (.tail _ (.tail _ (.tail _ (.head _))))) (Nat.le_of_ble_eq_true rfl)
  obtain ⟨c9, hyp⟩ := hyp
  refine xr_iinc (pc := 66) (i := 4) (L9 := [xR 0, xI x1, xI x2, xI x3, xI (x4 + 1)]) (hI := d_B_wordsIn_66) (hl := rfl) (hn := Nat.le_of_ble_eq_true rfl) (hr := c9) (hL9 := rfl) ?_
  refine xr_goto (pc := 69) (tgt := 29) (hI := d_B_wordsIn_69) (ht := by decide) ?_
  exact hyp
abbrev m_B_keyAt : XM := (⟨"BeaconIndex", "keyAt", "(II)I"⟩, prog_1_method_16_code, 3, (some .int), [])
theorem d_B_keyAt_0 : decode prog_1_method_16_code 0 = .ok (.aload_n 0, 1) := by decide +kernel
theorem d_B_keyAt_1 : decode prog_1_method_16_code 1 = .ok (.iload_n 1, 1) := by decide +kernel
theorem d_B_keyAt_2 : decode prog_1_method_16_code 2 = .ok (.iload_n 2, 1) := by decide +kernel
theorem d_B_keyAt_3 : decode prog_1_method_16_code 3 = .ok (.invokevirtual 166, 3) := by decide +kernel
abbrev m_B_checkText : XM := (⟨"BeaconIndex", "checkText", "(II)V"⟩, prog_1_method_46_code, 3, none, [])
theorem k_B_checkText : xCal m_B_checkText 2 := ⟨List.mem_append_right _ (List.mem_of_getElem? (i := 1192) (by decide +kernel)), w_1, Nat.le_of_ble_eq_true rfl, ⟨by decide +kernel, by decide +kernel⟩, by decide +kernel, by decide +kernel, rfl⟩
theorem w_1189 : Cond.methodLink "BeaconIndex" 166 ⟨"BeaconIndex", "checkText", "(II)V"⟩ ∈ lw_tbl := List.mem_append_right _ (List.mem_of_getElem? (i := 1189) (by decide +kernel))
theorem w_1191 : Cond.instanceMethod ⟨"BeaconIndex", "checkText", "(II)V"⟩ ∈ lw_tbl := List.mem_append_right _ (List.mem_of_getElem? (i := 1191) (by decide +kernel))
theorem sel_B_checkText : Cond.selects "BeaconIndex" ⟨"BeaconIndex", "checkText", "(II)V"⟩ ⟨"BeaconIndex", "checkText", "(II)V"⟩ ∈ lw_tbl := List.mem_append_left _ (by decide +kernel)
theorem d_B_checkText_0 : decode prog_1_method_46_code 0 = .ok (.aload_n 0, 1) := by decide +kernel
theorem d_B_checkText_1 : decode prog_1_method_46_code 1 = .ok (.iload_n 1, 1) := by decide +kernel
theorem d_B_checkText_2 : decode prog_1_method_46_code 2 = .ok (.invokevirtual 134, 3) := by decide +kernel
theorem d_B_checkText_5 : decode prog_1_method_46_code 5 = .ok (.iload_n 2, 1) := by decide +kernel
theorem d_B_checkText_6 : decode prog_1_method_46_code 6 = .ok (.ifCond .lt 15, 3) := by decide +kernel
theorem d_B_checkText_21 : decode prog_1_method_46_code 21 = .ok (.new 204, 3) := by decide +kernel
theorem d_B_checkText_24 : decode prog_1_method_46_code 24 = .ok (.dup, 1) := by decide +kernel
theorem d_B_checkText_25 : decode prog_1_method_46_code 25 = .ok (.invokespecial 206, 3) := by decide +kernel
theorem d_B_checkText_28 : decode prog_1_method_46_code 28 = .ok (.athrow, 1) := by decide +kernel
theorem d_B_checkText_9 : decode prog_1_method_46_code 9 = .ok (.iload_n 2, 1) := by decide +kernel
theorem d_B_checkText_10 : decode prog_1_method_46_code 10 = .ok (.aload_n 0, 1) := by decide +kernel
theorem d_B_checkText_11 : decode prog_1_method_46_code 11 = .ok (.getfield 19, 3) := by decide +kernel
theorem d_B_checkText_14 : decode prog_1_method_46_code 14 = .ok (.iload_n 1, 1) := by decide +kernel
theorem d_B_checkText_15 : decode prog_1_method_46_code 15 = .ok (.invokevirtual 137, 3) := by decide +kernel
theorem d_B_checkText_18 : decode prog_1_method_46_code 18 = .ok (.if_icmp .lt 11, 3) := by decide +kernel
theorem d_B_checkText_29 : decode prog_1_method_46_code 29 = .ok (.return_, 1) := by decide +kernel
theorem d_B_keyAt_6 : decode prog_1_method_16_code 6 = .ok (.aload_n 0, 1) := by decide +kernel
theorem d_B_keyAt_7 : decode prog_1_method_16_code 7 = .ok (.getfield 19, 3) := by decide +kernel
theorem d_B_keyAt_10 : decode prog_1_method_16_code 10 = .ok (.iload_n 1, 1) := by decide +kernel
theorem d_B_keyAt_11 : decode prog_1_method_16_code 11 = .ok (.iload_n 2, 1) := by decide +kernel
theorem d_B_keyAt_12 : decode prog_1_method_16_code 12 = .ok (.invokevirtual 170, 3) := by decide +kernel
theorem k_Store_textOf : xCal m_Store_textOf 2 := ⟨List.mem_append_right _ (List.mem_of_getElem? (i := 1196) (by decide +kernel)), w_3, Nat.le_of_ble_eq_true rfl, ⟨by decide +kernel, by decide +kernel⟩, by decide +kernel, by decide +kernel, rfl⟩
theorem w_1193 : Cond.methodLink "BeaconIndex" 170 ⟨"BeaconIndex$Store", "textOf", "(II)LBeaconIndex$Text;"⟩ ∈ lw_tbl := List.mem_append_right _ (List.mem_of_getElem? (i := 1193) (by decide +kernel))
theorem w_1194 : Cond.instanceMethod ⟨"BeaconIndex$Store", "textOf", "(II)LBeaconIndex$Text;"⟩ ∈ lw_tbl := List.mem_append_right _ (List.mem_of_getElem? (i := 1194) (by decide +kernel))
theorem w_1195 : Cond.selects "BeaconIndex$Store" ⟨"BeaconIndex$Store", "textOf", "(II)LBeaconIndex$Text;"⟩ ⟨"BeaconIndex$Store", "textOf", "(II)LBeaconIndex$Text;"⟩ ∈ lw_tbl := List.mem_append_right _ (List.mem_of_getElem? (i := 1195) (by decide +kernel))
theorem d_B_keyAt_15 : decode prog_1_method_16_code 15 = .ok (.getfield 174, 3) := by decide +kernel
theorem w_122 : Cond.fieldLink "BeaconIndex" 174 "BeaconIndex$Text" "key" "I" ∈ lw_tbl := List.mem_append_right _ (List.mem_of_getElem? (i := 122) (by decide +kernel))
theorem d_B_keyAt_18 : decode prog_1_method_16_code 18 = .ok (.ireturn, 1) := by decide +kernel
theorem v_B_keyAt_0 {G : XG} {d : Nat} {h : XH} {Q : XV → XH → Prop} {X : Nat → XH → Prop} {x1 x2 : Int} (F : xFix h) (hyp : ((x1 < 0 → xnx h + 1 ≤ xKC ∧ xsl h + 6 ≤ xKS ∧ (xFix (xmk h 300 6 (fun _ => 0)) → X 2 (xmk h 300 6 (fun _ => 0)))) ∧ (¬ x1 < 0 → ((x1 < (xpl h 5 4) → ((x2 < 0 → xnx h + 1 ≤ xKC ∧ xsl h + 6 ≤ xKS ∧ (xFix (xmk h 300 6 (fun _ => 0)) → X 2 (xmk h 300 6 (fun _ => 0)))) ∧ (¬ x2 < 0 → stok h ∧ ((x2 < (szA (szL h) x1) → (Q (xI (xpl h (fat h ((stA (szL h) x1) + x2)) 0)) h)) ∧ (¬ x2 < (szA (szL h) x1) → xnx h + 1 ≤ xKC ∧ xsl h + 6 ≤ xKS ∧ (xFix (xmk h 300 6 (fun _ => 0)) → X 2 (xmk h 300 6 (fun _ => 0)))))))) ∧ (¬ x1 < (xpl h 5 4) → xnx h + 1 ≤ xKC ∧ xsl h + 6 ≤ xKS ∧ (xFix (xmk h 300 6 (fun _ => 0)) → X 2 (xmk h 300 6 (fun _ => 0)))))))) : xwp G m_B_keyAt (d + 9) 0 [xR 0, xI x1, xI x2] [] h Q X := by
  have hnx9 : (93 : Int) ≤ xnx h := F.2.2
  refine xr_okL (fun hl9 => ?_)
  have r_x1 : -2147483648 ≤ x1 ∧ x1 ≤ 2147483647 := hl9 (xI x1) (.tail _ (.head _)) (Nat.le_of_ble_eq_true rfl)
  have r_x2 : -2147483648 ≤ x2 ∧ x2 ≤ 2147483647 := hl9 (xI x2) (.tail _ (.tail _ (.head _))) (Nat.le_of_ble_eq_true rfl)
  refine xr_aload_n (pc := 0) (i := 0) (hI := d_B_keyAt_0) (hi := rfl) (hl := rfl) ?_
  refine xr_iload_n (pc := 1) (i := 1) (hI := d_B_keyAt_1) (hi := rfl) (hl := rfl) ?_
  refine xr_iload_n (pc := 2) (i := 2) (hI := d_B_keyAt_2) (hi := rfl) (hl := rfl) ?_
  refine xq_callV (pc := 3) (index := 166) (K := m_B_checkText) (As := [xI x1, xI x2]) (S := []) (L0 := [xR 0, xI x1, xI x2]) (hI := d_B_keyAt_3) (hK := k_B_checkText) (hlk := w_1189) (hnoM := rfl) (hS8 := Nat.le_of_ble_eq_true rfl) (ci := 0) (N := 7) (C := "BeaconIndex") (T := xF0) (hc := rfl) (hci := Nat.le_of_ble_eq_true rfl) (htb := (ft_0 F)) (hinst := w_1191) (hsel := sel_B_checkText) (hlen := Nat.le_of_ble_eq_true rfl) (hst := rfl) (hL0 := rfl)  ?_
  refine xr_aload_n (pc := 0) (i := 0) (hI := d_B_checkText_0) (hi := rfl) (hl := rfl) ?_
  refine xr_iload_n (pc := 1) (i := 1) (hI := d_B_checkText_1) (hi := rfl) (hl := rfl) ?_
  refine xq_callV (pc := 2) (index := 134) (K := m_B_checkSegment) (As := [xI x1]) (S := []) (L0 := [xR 0, xI x1]) (hI := d_B_checkText_2) (hK := k_B_checkSegment) (hlk := w_1097) (hnoM := rfl) (hS8 := Nat.le_of_ble_eq_true rfl) (ci := 0) (N := 7) (C := "BeaconIndex") (T := xF0) (hc := rfl) (hci := Nat.le_of_ble_eq_true rfl) (htb := (ft_0 F)) (hinst := w_1099) (hsel := sel_B_checkSegment) (hlen := Nat.le_of_ble_eq_true rfl) (hst := rfl) (hL0 := rfl)  ?_
  refine xr_iload_n (pc := 0) (i := 1) (hI := d_B_checkSegment_0) (hi := rfl) (hl := rfl) ?_
  refine xr_if_lt (pc := 1) (tgt := 15) (hI := d_B_checkSegment_1) (ht := by decide) (fun q9 => ?_) (fun q9 => ?_)
  · replace hyp := hyp.1 q9
    have q1_ := q9
    clear q9
    obtain ⟨c7, c8, hyp⟩ := hyp
    exact xr_throw (pc := 15) (k := 2) (ik := 204) (ic := 206) (names := ["java/lang/RuntimeException", "java/lang/Exception"]) (by decide +kernel) (by decide +kernel) (by decide) w_1101 w_32 thr_B_206.1 thr_B_206.2 d_B_checkSegment_15 d_B_checkSegment_18 d_B_checkSegment_19 d_B_checkSegment_22 rfl (Nat.le_of_ble_eq_true rfl) (Nat.le_add_left_of_le (by decide)) (Nat.le_of_ble_eq_true rfl) c7 c8 (hyp (xFix.mk F))
  · replace hyp := hyp.2 q9
    have q1_ := q9
    clear q9
    refine xr_iload_n (pc := 4) (i := 1) (hI := d_B_checkSegment_4) (hi := rfl) (hl := rfl) ?_
    refine xr_aload_n (pc := 5) (i := 0) (hI := d_B_checkSegment_5) (hi := rfl) (hl := rfl) ?_
    refine xg_getf (pc := 6) (ci := 0) (k := 1) (N := 7) (v9 := 2) (v := 5) (T := xF0) (hI := d_B_checkSegment_6) (hw := w_431) rfl xi0 (Or.inl rfl) (Nat.le_of_ble_eq_true rfl) (Nat.le_of_ble_eq_true rfl) rfl (ft_0 F) (fp_0_1 F) (fun f2_ => ?_)
    clear f2_
    refine xg_getf (pc := 9) (ci := 7) (k := 4) (N := 6) (v9 := 0) (v := (xpl h 5 4)) (T := xF7) (hI := d_B_checkSegment_9) (hw := w_155) rfl xi7 (Or.inl rfl) (Nat.le_of_ble_eq_true rfl) (Nat.le_of_ble_eq_true rfl) rfl (ft_5 F) rfl (fun f3_ => ?_)
    replace f3_ : -2147483648 ≤ (xpl h 5 4) ∧ (xpl h 5 4) ≤ 2147483647 := f3_
    refine xr_icmp_lt (pc := 12) (tgt := 23) (hI := d_B_checkSegment_12) (ht := by decide) (fun q9 => ?_) (fun q9 => ?_)
    · replace hyp := hyp.1 q9
      have q4_ := q9
      clear q9
      refine xr_return (S := []) (pc := 23) (hI := d_B_checkSegment_23) (hr := rfl) ?_
      show xwp G m_B_checkText (d + 8) 5 [xR 0, xI x1, xI x2] [] _ _ _
      refine xr_iload_n (pc := 5) (i := 2) (hI := d_B_checkText_5) (hi := rfl) (hl := rfl) ?_
      refine xr_if_lt (pc := 6) (tgt := 21) (hI := d_B_checkText_6) (ht := by decide) (fun q9 => ?_) (fun q9 => ?_)
      · replace hyp := hyp.1 q9
        have q5_ := q9
        clear q9
        obtain ⟨c7, c8, hyp⟩ := hyp
        exact xr_throw (pc := 21) (k := 2) (ik := 204) (ic := 206) (names := ["java/lang/RuntimeException", "java/lang/Exception"]) (by decide +kernel) (by decide +kernel) (by decide) w_1101 w_32 thr_B_206.1 thr_B_206.2 d_B_checkText_21 d_B_checkText_24 d_B_checkText_25 d_B_checkText_28 rfl (Nat.le_of_ble_eq_true rfl) (Nat.le_add_left_of_le (by decide)) (Nat.le_of_ble_eq_true rfl) c7 c8 (hyp (xFix.mk F))
      · replace hyp := hyp.2 q9
        have q5_ := q9
        clear q9
        refine xr_iload_n (pc := 9) (i := 2) (hI := d_B_checkText_9) (hi := rfl) (hl := rfl) ?_
        refine xr_aload_n (pc := 10) (i := 0) (hI := d_B_checkText_10) (hi := rfl) (hl := rfl) ?_
        refine xg_getf (pc := 11) (ci := 0) (k := 1) (N := 7) (v9 := 2) (v := 5) (T := xF0) (hI := d_B_checkText_11) (hw := w_431) rfl xi0 (Or.inl rfl) (Nat.le_of_ble_eq_true rfl) (Nat.le_of_ble_eq_true rfl) rfl (ft_0 F) (fp_0_1 F) (fun f6_ => ?_)
        clear f6_
        refine xr_iload_n (pc := 14) (i := 1) (hI := d_B_checkText_14) (hi := rfl) (hl := rfl) ?_
        obtain ⟨c7_, hyp⟩ := hyp
        refine xq_callV (pc := 15) (index := 137) (K := m_Store_sizeOf) (As := [xI x1]) (S := [xI x2]) (L0 := [xR 5, xI x1]) (hI := d_B_checkText_15) (hK := k_Store_sizeOf) (hlk := w_1166) (hnoM := rfl) (hS8 := Nat.le_of_ble_eq_true rfl) (ci := 7) (N := 6) (C := "BeaconIndex$Store") (T := xF7) (hc := rfl) (hci := Nat.le_of_ble_eq_true rfl) (htb := (ft_5 F)) (hinst := w_566) (hsel := w_567) (hlen := Nat.le_of_ble_eq_true rfl) (hst := rfl) (hL0 := rfl)  (p_Store_sizeOf F c7_ ?_)
        show xwp G m_B_checkText (d + 8) 18 [xR 0, xI x1, xI x2] [xI (szA (szL h) x1), xI x2] _ _ _
        have f8_ : 0 ≤ (szA (szL h) x1) ∧ (szA (szL h) x1) ≤ 60 := szA_rng c7_ _
        refine xr_icmp_lt (pc := 18) (tgt := 29) (hI := d_B_checkText_18) (ht := by decide) (fun q9 => ?_) (fun q9 => ?_)
        · replace hyp := hyp.1 q9
          have q9_ := q9
          clear q9
          refine xr_return (S := []) (pc := 29) (hI := d_B_checkText_29) (hr := rfl) ?_
          show xwp G m_B_keyAt (d + 9) 6 [xR 0, xI x1, xI x2] [] _ _ _
          refine xr_aload_n (pc := 6) (i := 0) (hI := d_B_keyAt_6) (hi := rfl) (hl := rfl) ?_
          refine xg_getf (pc := 7) (ci := 0) (k := 1) (N := 7) (v9 := 2) (v := 5) (T := xF0) (hI := d_B_keyAt_7) (hw := w_431) rfl xi0 (Or.inl rfl) (Nat.le_of_ble_eq_true rfl) (Nat.le_of_ble_eq_true rfl) rfl (ft_0 F) (fp_0_1 F) (fun f10_ => ?_)
          clear f10_
          refine xr_iload_n (pc := 10) (i := 1) (hI := d_B_keyAt_10) (hi := rfl) (hl := rfl) ?_
          refine xr_iload_n (pc := 11) (i := 2) (hI := d_B_keyAt_11) (hi := rfl) (hl := rfl) ?_
          refine xq_callV (pc := 12) (index := 170) (K := m_Store_textOf) (As := [xI x1, xI x2]) (S := []) (L0 := [xR 5, xI x1, xI x2]) (hI := d_B_keyAt_12) (hK := k_Store_textOf) (hlk := w_1193) (hnoM := rfl) (hS8 := Nat.le_of_ble_eq_true rfl) (ci := 7) (N := 6) (C := "BeaconIndex$Store") (T := xF7) (hc := rfl) (hci := Nat.le_of_ble_eq_true rfl) (htb := (ft_5 F)) (hinst := w_1194) (hsel := w_1195) (hlen := Nat.le_of_ble_eq_true rfl) (hst := rfl) (hL0 := rfl)  (p_Store_textOf F c7_ (by clear hyp; omega) (by clear hyp; omega) ?_)
          show xwp G m_B_keyAt (d + 9) 15 [xR 0, xI x1, xI x2] [xR (fat h ((stA (szL h) x1) + x2))] _ _ _
          have t11_ : xtg h (fat h ((stA (szL h) x1) + x2)) = 9 := (fat_ok F c7_ _).1
          refine xg_getf (pc := 15) (ci := 9) (k := 0) (N := 6) (v9 := 0) (v := (xpl h (fat h ((stA (szL h) x1) + x2)) 0)) (T := xF9) (hI := d_B_keyAt_15) (hw := w_122) rfl xi9 (Or.inl rfl) (Nat.le_of_ble_eq_true rfl) (Nat.le_of_ble_eq_true rfl) rfl t11_ rfl (fun f12_ => ?_)
          replace f12_ : -2147483648 ≤ (xpl h (fat h ((stA (szL h) x1) + x2)) 0) ∧ (xpl h (fat h ((stA (szL h) x1) + x2)) 0) ≤ 2147483647 := f12_
          refine xr_ireturn (S := []) (pc := 18) (hI := d_B_keyAt_18) (hr := rfl) ?_
          exact hyp
        · replace hyp := hyp.2 q9
          have q9_ := q9
          clear q9
          obtain ⟨c7, c8, hyp⟩ := hyp
          exact xr_throw (pc := 21) (k := 2) (ik := 204) (ic := 206) (names := ["java/lang/RuntimeException", "java/lang/Exception"]) (by decide +kernel) (by decide +kernel) (by decide) w_1101 w_32 thr_B_206.1 thr_B_206.2 d_B_checkText_21 d_B_checkText_24 d_B_checkText_25 d_B_checkText_28 rfl (Nat.le_of_ble_eq_true rfl) (Nat.le_add_left_of_le (by decide)) (Nat.le_of_ble_eq_true rfl) c7 c8 (hyp (xFix.mk F))
    · replace hyp := hyp.2 q9
      have q4_ := q9
      clear q9
      obtain ⟨c7, c8, hyp⟩ := hyp
      exact xr_throw (pc := 15) (k := 2) (ik := 204) (ic := 206) (names := ["java/lang/RuntimeException", "java/lang/Exception"]) (by decide +kernel) (by decide +kernel) (by decide) w_1101 w_32 thr_B_206.1 thr_B_206.2 d_B_checkSegment_15 d_B_checkSegment_18 d_B_checkSegment_19 d_B_checkSegment_22 rfl (Nat.le_of_ble_eq_true rfl) (Nat.le_add_left_of_le (by decide)) (Nat.le_of_ble_eq_true rfl) c7 c8 (hyp (xFix.mk F))
abbrev m_B_isMarked : XM := (⟨"BeaconIndex", "isMarked", "(II)Z"⟩, prog_1_method_17_code, 3, (some .boolean), [])
theorem d_B_isMarked_0 : decode prog_1_method_17_code 0 = .ok (.aload_n 0, 1) := by decide +kernel
theorem d_B_isMarked_1 : decode prog_1_method_17_code 1 = .ok (.iload_n 1, 1) := by decide +kernel
theorem d_B_isMarked_2 : decode prog_1_method_17_code 2 = .ok (.iload_n 2, 1) := by decide +kernel
theorem d_B_isMarked_3 : decode prog_1_method_17_code 3 = .ok (.invokevirtual 166, 3) := by decide +kernel
theorem d_B_isMarked_6 : decode prog_1_method_17_code 6 = .ok (.aload_n 0, 1) := by decide +kernel
theorem d_B_isMarked_7 : decode prog_1_method_17_code 7 = .ok (.getfield 19, 3) := by decide +kernel
theorem d_B_isMarked_10 : decode prog_1_method_17_code 10 = .ok (.iload_n 1, 1) := by decide +kernel
theorem d_B_isMarked_11 : decode prog_1_method_17_code 11 = .ok (.iload_n 2, 1) := by decide +kernel
theorem d_B_isMarked_12 : decode prog_1_method_17_code 12 = .ok (.invokevirtual 170, 3) := by decide +kernel
theorem d_B_isMarked_15 : decode prog_1_method_17_code 15 = .ok (.getfield 177, 3) := by decide +kernel
theorem w_134 : Cond.fieldLink "BeaconIndex" 177 "BeaconIndex$Text" "marked" "Z" ∈ lw_tbl := List.mem_append_right _ (List.mem_of_getElem? (i := 134) (by decide +kernel))
theorem d_B_isMarked_18 : decode prog_1_method_17_code 18 = .ok (.ireturn, 1) := by decide +kernel
theorem v_B_isMarked_0 {G : XG} {d : Nat} {h : XH} {Q : XV → XH → Prop} {X : Nat → XH → Prop} {x1 x2 : Int} (F : xFix h) (hyp : ((x1 < 0 → xnx h + 1 ≤ xKC ∧ xsl h + 6 ≤ xKS ∧ (xFix (xmk h 300 6 (fun _ => 0)) → X 2 (xmk h 300 6 (fun _ => 0)))) ∧ (¬ x1 < 0 → ((x1 < (xpl h 5 4) → ((x2 < 0 → xnx h + 1 ≤ xKC ∧ xsl h + 6 ≤ xKS ∧ (xFix (xmk h 300 6 (fun _ => 0)) → X 2 (xmk h 300 6 (fun _ => 0)))) ∧ (¬ x2 < 0 → stok h ∧ ((x2 < (szA (szL h) x1) → (Q (xI (xpl h (fat h ((stA (szL h) x1) + x2)) 5)) h)) ∧ (¬ x2 < (szA (szL h) x1) → xnx h + 1 ≤ xKC ∧ xsl h + 6 ≤ xKS ∧ (xFix (xmk h 300 6 (fun _ => 0)) → X 2 (xmk h 300 6 (fun _ => 0)))))))) ∧ (¬ x1 < (xpl h 5 4) → xnx h + 1 ≤ xKC ∧ xsl h + 6 ≤ xKS ∧ (xFix (xmk h 300 6 (fun _ => 0)) → X 2 (xmk h 300 6 (fun _ => 0)))))))) : xwp G m_B_isMarked (d + 9) 0 [xR 0, xI x1, xI x2] [] h Q X := by
  have hnx9 : (93 : Int) ≤ xnx h := F.2.2
  refine xr_okL (fun hl9 => ?_)
  have r_x1 : -2147483648 ≤ x1 ∧ x1 ≤ 2147483647 := hl9 (xI x1) (.tail _ (.head _)) (Nat.le_of_ble_eq_true rfl)
  have r_x2 : -2147483648 ≤ x2 ∧ x2 ≤ 2147483647 := hl9 (xI x2) (.tail _ (.tail _ (.head _))) (Nat.le_of_ble_eq_true rfl)
  refine xr_aload_n (pc := 0) (i := 0) (hI := d_B_isMarked_0) (hi := rfl) (hl := rfl) ?_
  refine xr_iload_n (pc := 1) (i := 1) (hI := d_B_isMarked_1) (hi := rfl) (hl := rfl) ?_
  refine xr_iload_n (pc := 2) (i := 2) (hI := d_B_isMarked_2) (hi := rfl) (hl := rfl) ?_
  refine xq_callV (pc := 3) (index := 166) (K := m_B_checkText) (As := [xI x1, xI x2]) (S := []) (L0 := [xR 0, xI x1, xI x2]) (hI := d_B_isMarked_3) (hK := k_B_checkText) (hlk := w_1189) (hnoM := rfl) (hS8 := Nat.le_of_ble_eq_true rfl) (ci := 0) (N := 7) (C := "BeaconIndex") (T := xF0) (hc := rfl) (hci := Nat.le_of_ble_eq_true rfl) (htb := (ft_0 F)) (hinst := w_1191) (hsel := sel_B_checkText) (hlen := Nat.le_of_ble_eq_true rfl) (hst := rfl) (hL0 := rfl)  ?_
  refine xr_aload_n (pc := 0) (i := 0) (hI := d_B_checkText_0) (hi := rfl) (hl := rfl) ?_
  refine xr_iload_n (pc := 1) (i := 1) (hI := d_B_checkText_1) (hi := rfl) (hl := rfl) ?_
  refine xq_callV (pc := 2) (index := 134) (K := m_B_checkSegment) (As := [xI x1]) (S := []) (L0 := [xR 0, xI x1]) (hI := d_B_checkText_2) (hK := k_B_checkSegment) (hlk := w_1097) (hnoM := rfl) (hS8 := Nat.le_of_ble_eq_true rfl) (ci := 0) (N := 7) (C := "BeaconIndex") (T := xF0) (hc := rfl) (hci := Nat.le_of_ble_eq_true rfl) (htb := (ft_0 F)) (hinst := w_1099) (hsel := sel_B_checkSegment) (hlen := Nat.le_of_ble_eq_true rfl) (hst := rfl) (hL0 := rfl)  ?_
  refine xr_iload_n (pc := 0) (i := 1) (hI := d_B_checkSegment_0) (hi := rfl) (hl := rfl) ?_
  refine xr_if_lt (pc := 1) (tgt := 15) (hI := d_B_checkSegment_1) (ht := by decide) (fun q9 => ?_) (fun q9 => ?_)
  · replace hyp := hyp.1 q9
    have q1_ := q9
    clear q9
    obtain ⟨c7, c8, hyp⟩ := hyp
    exact xr_throw (pc := 15) (k := 2) (ik := 204) (ic := 206) (names := ["java/lang/RuntimeException", "java/lang/Exception"]) (by decide +kernel) (by decide +kernel) (by decide) w_1101 w_32 thr_B_206.1 thr_B_206.2 d_B_checkSegment_15 d_B_checkSegment_18 d_B_checkSegment_19 d_B_checkSegment_22 rfl (Nat.le_of_ble_eq_true rfl) (Nat.le_add_left_of_le (by decide)) (Nat.le_of_ble_eq_true rfl) c7 c8 (hyp (xFix.mk F))
  · replace hyp := hyp.2 q9
    have q1_ := q9
    clear q9
    refine xr_iload_n (pc := 4) (i := 1) (hI := d_B_checkSegment_4) (hi := rfl) (hl := rfl) ?_
    refine xr_aload_n (pc := 5) (i := 0) (hI := d_B_checkSegment_5) (hi := rfl) (hl := rfl) ?_
    refine xg_getf (pc := 6) (ci := 0) (k := 1) (N := 7) (v9 := 2) (v := 5) (T := xF0) (hI := d_B_checkSegment_6) (hw := w_431) rfl xi0 (Or.inl rfl) (Nat.le_of_ble_eq_true rfl) (Nat.le_of_ble_eq_true rfl) rfl (ft_0 F) (fp_0_1 F) (fun f2_ => ?_)
    clear f2_
    refine xg_getf (pc := 9) (ci := 7) (k := 4) (N := 6) (v9 := 0) (v := (xpl h 5 4)) (T := xF7) (hI := d_B_checkSegment_9) (hw := w_155) rfl xi7 (Or.inl rfl) (Nat.le_of_ble_eq_true rfl) (Nat.le_of_ble_eq_true rfl) rfl (ft_5 F) rfl (fun f3_ => ?_)
    replace f3_ : -2147483648 ≤ (xpl h 5 4) ∧ (xpl h 5 4) ≤ 2147483647 := f3_
    refine xr_icmp_lt (pc := 12) (tgt := 23) (hI := d_B_checkSegment_12) (ht := by decide) (fun q9 => ?_) (fun q9 => ?_)
    · replace hyp := hyp.1 q9
      have q4_ := q9
      clear q9
      refine xr_return (S := []) (pc := 23) (hI := d_B_checkSegment_23) (hr := rfl) ?_
      show xwp G m_B_checkText (d + 8) 5 [xR 0, xI x1, xI x2] [] _ _ _
      refine xr_iload_n (pc := 5) (i := 2) (hI := d_B_checkText_5) (hi := rfl) (hl := rfl) ?_
      refine xr_if_lt (pc := 6) (tgt := 21) (hI := d_B_checkText_6) (ht := by decide) (fun q9 => ?_) (fun q9 => ?_)
      · replace hyp := hyp.1 q9
        have q5_ := q9
        clear q9
        obtain ⟨c7, c8, hyp⟩ := hyp
        exact xr_throw (pc := 21) (k := 2) (ik := 204) (ic := 206) (names := ["java/lang/RuntimeException", "java/lang/Exception"]) (by decide +kernel) (by decide +kernel) (by decide) w_1101 w_32 thr_B_206.1 thr_B_206.2 d_B_checkText_21 d_B_checkText_24 d_B_checkText_25 d_B_checkText_28 rfl (Nat.le_of_ble_eq_true rfl) (Nat.le_add_left_of_le (by decide)) (Nat.le_of_ble_eq_true rfl) c7 c8 (hyp (xFix.mk F))
      · replace hyp := hyp.2 q9
        have q5_ := q9
        clear q9
        refine xr_iload_n (pc := 9) (i := 2) (hI := d_B_checkText_9) (hi := rfl) (hl := rfl) ?_
        refine xr_aload_n (pc := 10) (i := 0) (hI := d_B_checkText_10) (hi := rfl) (hl := rfl) ?_
        refine xg_getf (pc := 11) (ci := 0) (k := 1) (N := 7) (v9 := 2) (v := 5) (T := xF0) (hI := d_B_checkText_11) (hw := w_431) rfl xi0 (Or.inl rfl) (Nat.le_of_ble_eq_true rfl) (Nat.le_of_ble_eq_true rfl) rfl (ft_0 F) (fp_0_1 F) (fun f6_ => ?_)
        clear f6_
        refine xr_iload_n (pc := 14) (i := 1) (hI := d_B_checkText_14) (hi := rfl) (hl := rfl) ?_
        obtain ⟨c7_, hyp⟩ := hyp
        refine xq_callV (pc := 15) (index := 137) (K := m_Store_sizeOf) (As := [xI x1]) (S := [xI x2]) (L0 := [xR 5, xI x1]) (hI := d_B_checkText_15) (hK := k_Store_sizeOf) (hlk := w_1166) (hnoM := rfl) (hS8 := Nat.le_of_ble_eq_true rfl) (ci := 7) (N := 6) (C := "BeaconIndex$Store") (T := xF7) (hc := rfl) (hci := Nat.le_of_ble_eq_true rfl) (htb := (ft_5 F)) (hinst := w_566) (hsel := w_567) (hlen := Nat.le_of_ble_eq_true rfl) (hst := rfl) (hL0 := rfl)  (p_Store_sizeOf F c7_ ?_)
        show xwp G m_B_checkText (d + 8) 18 [xR 0, xI x1, xI x2] [xI (szA (szL h) x1), xI x2] _ _ _
        have f8_ : 0 ≤ (szA (szL h) x1) ∧ (szA (szL h) x1) ≤ 60 := szA_rng c7_ _
        refine xr_icmp_lt (pc := 18) (tgt := 29) (hI := d_B_checkText_18) (ht := by decide) (fun q9 => ?_) (fun q9 => ?_)
        · replace hyp := hyp.1 q9
          have q9_ := q9
          clear q9
          refine xr_return (S := []) (pc := 29) (hI := d_B_checkText_29) (hr := rfl) ?_
          show xwp G m_B_isMarked (d + 9) 6 [xR 0, xI x1, xI x2] [] _ _ _
          refine xr_aload_n (pc := 6) (i := 0) (hI := d_B_isMarked_6) (hi := rfl) (hl := rfl) ?_
          refine xg_getf (pc := 7) (ci := 0) (k := 1) (N := 7) (v9 := 2) (v := 5) (T := xF0) (hI := d_B_isMarked_7) (hw := w_431) rfl xi0 (Or.inl rfl) (Nat.le_of_ble_eq_true rfl) (Nat.le_of_ble_eq_true rfl) rfl (ft_0 F) (fp_0_1 F) (fun f10_ => ?_)
          clear f10_
          refine xr_iload_n (pc := 10) (i := 1) (hI := d_B_isMarked_10) (hi := rfl) (hl := rfl) ?_
          refine xr_iload_n (pc := 11) (i := 2) (hI := d_B_isMarked_11) (hi := rfl) (hl := rfl) ?_
          refine xq_callV (pc := 12) (index := 170) (K := m_Store_textOf) (As := [xI x1, xI x2]) (S := []) (L0 := [xR 5, xI x1, xI x2]) (hI := d_B_isMarked_12) (hK := k_Store_textOf) (hlk := w_1193) (hnoM := rfl) (hS8 := Nat.le_of_ble_eq_true rfl) (ci := 7) (N := 6) (C := "BeaconIndex$Store") (T := xF7) (hc := rfl) (hci := Nat.le_of_ble_eq_true rfl) (htb := (ft_5 F)) (hinst := w_1194) (hsel := w_1195) (hlen := Nat.le_of_ble_eq_true rfl) (hst := rfl) (hL0 := rfl)  (p_Store_textOf F c7_ (by clear hyp; omega) (by clear hyp; omega) ?_)
          show xwp G m_B_isMarked (d + 9) 15 [xR 0, xI x1, xI x2] [xR (fat h ((stA (szL h) x1) + x2))] _ _ _
          have t11_ : xtg h (fat h ((stA (szL h) x1) + x2)) = 9 := (fat_ok F c7_ _).1
          refine xg_getfZ (pc := 15) (ci := 9) (k := 5) (N := 6) (v := (xpl h (fat h ((stA (szL h) x1) + x2)) 5)) (T := xF9) (hI := d_B_isMarked_15) (hw := w_134) rfl xi9 (Or.inl rfl) (Nat.le_of_ble_eq_true rfl) (Nat.le_of_ble_eq_true rfl) rfl t11_ rfl (fun f12_ => ?_)
          replace f12_ : 0 ≤ (xpl h (fat h ((stA (szL h) x1) + x2)) 5) ∧ (xpl h (fat h ((stA (szL h) x1) + x2)) 5) ≤ 1 := f12_
          refine xr_ireturnT (S := []) (pc := 18) (hI := d_B_isMarked_18) (hr := rfl) (xnar_z ⟨(by clear hyp; omega), (by clear hyp; omega)⟩) ?_
          exact hyp
        · replace hyp := hyp.2 q9
          have q9_ := q9
          clear q9
          obtain ⟨c7, c8, hyp⟩ := hyp
          exact xr_throw (pc := 21) (k := 2) (ik := 204) (ic := 206) (names := ["java/lang/RuntimeException", "java/lang/Exception"]) (by decide +kernel) (by decide +kernel) (by decide) w_1101 w_32 thr_B_206.1 thr_B_206.2 d_B_checkText_21 d_B_checkText_24 d_B_checkText_25 d_B_checkText_28 rfl (Nat.le_of_ble_eq_true rfl) (Nat.le_add_left_of_le (by decide)) (Nat.le_of_ble_eq_true rfl) c7 c8 (hyp (xFix.mk F))
    · replace hyp := hyp.2 q9
      have q4_ := q9
      clear q9
      obtain ⟨c7, c8, hyp⟩ := hyp
      exact xr_throw (pc := 15) (k := 2) (ik := 204) (ic := 206) (names := ["java/lang/RuntimeException", "java/lang/Exception"]) (by decide +kernel) (by decide +kernel) (by decide) w_1101 w_32 thr_B_206.1 thr_B_206.2 d_B_checkSegment_15 d_B_checkSegment_18 d_B_checkSegment_19 d_B_checkSegment_22 rfl (Nat.le_of_ble_eq_true rfl) (Nat.le_add_left_of_le (by decide)) (Nat.le_of_ble_eq_true rfl) c7 c8 (hyp (xFix.mk F))
abbrev m_B_lengthOf : XM := (⟨"BeaconIndex", "lengthOf", "(III)I"⟩, prog_1_method_18_code, 4, (some .int), [])
theorem d_B_lengthOf_0 : decode prog_1_method_18_code 0 = .ok (.aload_n 0, 1) := by decide +kernel
theorem d_B_lengthOf_1 : decode prog_1_method_18_code 1 = .ok (.iload_n 1, 1) := by decide +kernel
theorem d_B_lengthOf_2 : decode prog_1_method_18_code 2 = .ok (.iload_n 2, 1) := by decide +kernel
theorem d_B_lengthOf_3 : decode prog_1_method_18_code 3 = .ok (.invokevirtual 166, 3) := by decide +kernel
theorem d_B_lengthOf_6 : decode prog_1_method_18_code 6 = .ok (.iload_n 3, 1) := by decide +kernel
theorem d_B_lengthOf_7 : decode prog_1_method_18_code 7 = .ok (.invokestatic 146, 3) := by decide +kernel
theorem d_B_lengthOf_10 : decode prog_1_method_18_code 10 = .ok (.aload_n 0, 1) := by decide +kernel
theorem d_B_lengthOf_11 : decode prog_1_method_18_code 11 = .ok (.getfield 19, 3) := by decide +kernel
theorem d_B_lengthOf_14 : decode prog_1_method_18_code 14 = .ok (.iload_n 1, 1) := by decide +kernel
theorem d_B_lengthOf_15 : decode prog_1_method_18_code 15 = .ok (.iload_n 2, 1) := by decide +kernel
theorem d_B_lengthOf_16 : decode prog_1_method_18_code 16 = .ok (.invokevirtual 170, 3) := by decide +kernel
theorem d_B_lengthOf_19 : decode prog_1_method_18_code 19 = .ok (.iload_n 3, 1) := by decide +kernel
theorem d_B_lengthOf_20 : decode prog_1_method_18_code 20 = .ok (.invokevirtual 158, 3) := by decide +kernel
theorem d_B_lengthOf_23 : decode prog_1_method_18_code 23 = .ok (.arraylength, 1) := by decide +kernel
theorem d_B_lengthOf_24 : decode prog_1_method_18_code 24 = .ok (.ireturn, 1) := by decide +kernel
theorem v_B_lengthOf_0 {G : XG} {d : Nat} {h : XH} {Q : XV → XH → Prop} {X : Nat → XH → Prop} {x1 x2 x3 : Int} (F : xFix h) (hyp : ((x1 < 0 → xnx h + 1 ≤ xKC ∧ xsl h + 6 ≤ xKS ∧ (xFix (xmk h 300 6 (fun _ => 0)) → X 2 (xmk h 300 6 (fun _ => 0)))) ∧ (¬ x1 < 0 → ((x1 < (xpl h 5 4) → ((x2 < 0 → xnx h + 1 ≤ xKC ∧ xsl h + 6 ≤ xKS ∧ (xFix (xmk h 300 6 (fun _ => 0)) → X 2 (xmk h 300 6 (fun _ => 0)))) ∧ (¬ x2 < 0 → stok h ∧ ((x2 < (szA (szL h) x1) → ((x3 < 0 → xnx h + 1 ≤ xKC ∧ xsl h + 6 ≤ xKS ∧ (xFix (xmk h 300 6 (fun _ => 0)) → X 2 (xmk h 300 6 (fun _ => 0)))) ∧ (¬ x3 < 0 → ((x3 < 2 → xtg h (txr h (fat h ((stA (szL h) x1) + x2)) x3) = 101 ∧ (Q (xI (xln h (txr h (fat h ((stA (szL h) x1) + x2)) x3))) h)) ∧ (¬ x3 < 2 → xnx h + 1 ≤ xKC ∧ xsl h + 6 ≤ xKS ∧ (xFix (xmk h 300 6 (fun _ => 0)) → X 2 (xmk h 300 6 (fun _ => 0)))))))) ∧ (¬ x2 < (szA (szL h) x1) → xnx h + 1 ≤ xKC ∧ xsl h + 6 ≤ xKS ∧ (xFix (xmk h 300 6 (fun _ => 0)) → X 2 (xmk h 300 6 (fun _ => 0)))))))) ∧ (¬ x1 < (xpl h 5 4) → xnx h + 1 ≤ xKC ∧ xsl h + 6 ≤ xKS ∧ (xFix (xmk h 300 6 (fun _ => 0)) → X 2 (xmk h 300 6 (fun _ => 0)))))))) : xwp G m_B_lengthOf (d + 9) 0 [xR 0, xI x1, xI x2, xI x3] [] h Q X := by
  have hnx9 : (93 : Int) ≤ xnx h := F.2.2
  refine xr_okL (fun hl9 => ?_)
  have r_x1 : -2147483648 ≤ x1 ∧ x1 ≤ 2147483647 := hl9 (xI x1) (.tail _ (.head _)) (Nat.le_of_ble_eq_true rfl)
  have r_x2 : -2147483648 ≤ x2 ∧ x2 ≤ 2147483647 := hl9 (xI x2) (.tail _ (.tail _ (.head _))) (Nat.le_of_ble_eq_true rfl)
  have r_x3 : -2147483648 ≤ x3 ∧ x3 ≤ 2147483647 := hl9 (xI x3) (.tail _ (.tail _ (.tail _ (.head _)))) (Nat.le_of_ble_eq_true rfl)
  refine xr_aload_n (pc := 0) (i := 0) (hI := d_B_lengthOf_0) (hi := rfl) (hl := rfl) ?_
  refine xr_iload_n (pc := 1) (i := 1) (hI := d_B_lengthOf_1) (hi := rfl) (hl := rfl) ?_
  refine xr_iload_n (pc := 2) (i := 2) (hI := d_B_lengthOf_2) (hi := rfl) (hl := rfl) ?_
  refine xq_callV (pc := 3) (index := 166) (K := m_B_checkText) (As := [xI x1, xI x2]) (S := []) (L0 := [xR 0, xI x1, xI x2]) (hI := d_B_lengthOf_3) (hK := k_B_checkText) (hlk := w_1189) (hnoM := rfl) (hS8 := Nat.le_of_ble_eq_true rfl) (ci := 0) (N := 7) (C := "BeaconIndex") (T := xF0) (hc := rfl) (hci := Nat.le_of_ble_eq_true rfl) (htb := (ft_0 F)) (hinst := w_1191) (hsel := sel_B_checkText) (hlen := Nat.le_of_ble_eq_true rfl) (hst := rfl) (hL0 := rfl)  ?_
  refine xr_aload_n (pc := 0) (i := 0) (hI := d_B_checkText_0) (hi := rfl) (hl := rfl) ?_
  refine xr_iload_n (pc := 1) (i := 1) (hI := d_B_checkText_1) (hi := rfl) (hl := rfl) ?_
  refine xq_callV (pc := 2) (index := 134) (K := m_B_checkSegment) (As := [xI x1]) (S := []) (L0 := [xR 0, xI x1]) (hI := d_B_checkText_2) (hK := k_B_checkSegment) (hlk := w_1097) (hnoM := rfl) (hS8 := Nat.le_of_ble_eq_true rfl) (ci := 0) (N := 7) (C := "BeaconIndex") (T := xF0) (hc := rfl) (hci := Nat.le_of_ble_eq_true rfl) (htb := (ft_0 F)) (hinst := w_1099) (hsel := sel_B_checkSegment) (hlen := Nat.le_of_ble_eq_true rfl) (hst := rfl) (hL0 := rfl)  ?_
  refine xr_iload_n (pc := 0) (i := 1) (hI := d_B_checkSegment_0) (hi := rfl) (hl := rfl) ?_
  refine xr_if_lt (pc := 1) (tgt := 15) (hI := d_B_checkSegment_1) (ht := by decide) (fun q9 => ?_) (fun q9 => ?_)
  · replace hyp := hyp.1 q9
    have q1_ := q9
    clear q9
    obtain ⟨c7, c8, hyp⟩ := hyp
    exact xr_throw (pc := 15) (k := 2) (ik := 204) (ic := 206) (names := ["java/lang/RuntimeException", "java/lang/Exception"]) (by decide +kernel) (by decide +kernel) (by decide) w_1101 w_32 thr_B_206.1 thr_B_206.2 d_B_checkSegment_15 d_B_checkSegment_18 d_B_checkSegment_19 d_B_checkSegment_22 rfl (Nat.le_of_ble_eq_true rfl) (Nat.le_add_left_of_le (by decide)) (Nat.le_of_ble_eq_true rfl) c7 c8 (hyp (xFix.mk F))
  · replace hyp := hyp.2 q9
    have q1_ := q9
    clear q9
    refine xr_iload_n (pc := 4) (i := 1) (hI := d_B_checkSegment_4) (hi := rfl) (hl := rfl) ?_
    refine xr_aload_n (pc := 5) (i := 0) (hI := d_B_checkSegment_5) (hi := rfl) (hl := rfl) ?_
    refine xg_getf (pc := 6) (ci := 0) (k := 1) (N := 7) (v9 := 2) (v := 5) (T := xF0) (hI := d_B_checkSegment_6) (hw := w_431) rfl xi0 (Or.inl rfl) (Nat.le_of_ble_eq_true rfl) (Nat.le_of_ble_eq_true rfl) rfl (ft_0 F) (fp_0_1 F) (fun f2_ => ?_)
    clear f2_
    refine xg_getf (pc := 9) (ci := 7) (k := 4) (N := 6) (v9 := 0) (v := (xpl h 5 4)) (T := xF7) (hI := d_B_checkSegment_9) (hw := w_155) rfl xi7 (Or.inl rfl) (Nat.le_of_ble_eq_true rfl) (Nat.le_of_ble_eq_true rfl) rfl (ft_5 F) rfl (fun f3_ => ?_)
    replace f3_ : -2147483648 ≤ (xpl h 5 4) ∧ (xpl h 5 4) ≤ 2147483647 := f3_
    refine xr_icmp_lt (pc := 12) (tgt := 23) (hI := d_B_checkSegment_12) (ht := by decide) (fun q9 => ?_) (fun q9 => ?_)
    · replace hyp := hyp.1 q9
      have q4_ := q9
      clear q9
      refine xr_return (S := []) (pc := 23) (hI := d_B_checkSegment_23) (hr := rfl) ?_
      show xwp G m_B_checkText (d + 8) 5 [xR 0, xI x1, xI x2] [] _ _ _
      refine xr_iload_n (pc := 5) (i := 2) (hI := d_B_checkText_5) (hi := rfl) (hl := rfl) ?_
      refine xr_if_lt (pc := 6) (tgt := 21) (hI := d_B_checkText_6) (ht := by decide) (fun q9 => ?_) (fun q9 => ?_)
      · replace hyp := hyp.1 q9
        have q5_ := q9
        clear q9
        obtain ⟨c7, c8, hyp⟩ := hyp
        exact xr_throw (pc := 21) (k := 2) (ik := 204) (ic := 206) (names := ["java/lang/RuntimeException", "java/lang/Exception"]) (by decide +kernel) (by decide +kernel) (by decide) w_1101 w_32 thr_B_206.1 thr_B_206.2 d_B_checkText_21 d_B_checkText_24 d_B_checkText_25 d_B_checkText_28 rfl (Nat.le_of_ble_eq_true rfl) (Nat.le_add_left_of_le (by decide)) (Nat.le_of_ble_eq_true rfl) c7 c8 (hyp (xFix.mk F))
      · replace hyp := hyp.2 q9
        have q5_ := q9
        clear q9
        refine xr_iload_n (pc := 9) (i := 2) (hI := d_B_checkText_9) (hi := rfl) (hl := rfl) ?_
        refine xr_aload_n (pc := 10) (i := 0) (hI := d_B_checkText_10) (hi := rfl) (hl := rfl) ?_
        refine xg_getf (pc := 11) (ci := 0) (k := 1) (N := 7) (v9 := 2) (v := 5) (T := xF0) (hI := d_B_checkText_11) (hw := w_431) rfl xi0 (Or.inl rfl) (Nat.le_of_ble_eq_true rfl) (Nat.le_of_ble_eq_true rfl) rfl (ft_0 F) (fp_0_1 F) (fun f6_ => ?_)
        clear f6_
        refine xr_iload_n (pc := 14) (i := 1) (hI := d_B_checkText_14) (hi := rfl) (hl := rfl) ?_
        obtain ⟨c7_, hyp⟩ := hyp
        refine xq_callV (pc := 15) (index := 137) (K := m_Store_sizeOf) (As := [xI x1]) (S := [xI x2]) (L0 := [xR 5, xI x1]) (hI := d_B_checkText_15) (hK := k_Store_sizeOf) (hlk := w_1166) (hnoM := rfl) (hS8 := Nat.le_of_ble_eq_true rfl) (ci := 7) (N := 6) (C := "BeaconIndex$Store") (T := xF7) (hc := rfl) (hci := Nat.le_of_ble_eq_true rfl) (htb := (ft_5 F)) (hinst := w_566) (hsel := w_567) (hlen := Nat.le_of_ble_eq_true rfl) (hst := rfl) (hL0 := rfl)  (p_Store_sizeOf F c7_ ?_)
        show xwp G m_B_checkText (d + 8) 18 [xR 0, xI x1, xI x2] [xI (szA (szL h) x1), xI x2] _ _ _
        have f8_ : 0 ≤ (szA (szL h) x1) ∧ (szA (szL h) x1) ≤ 60 := szA_rng c7_ _
        refine xr_icmp_lt (pc := 18) (tgt := 29) (hI := d_B_checkText_18) (ht := by decide) (fun q9 => ?_) (fun q9 => ?_)
        · replace hyp := hyp.1 q9
          have q9_ := q9
          clear q9
          refine xr_return (S := []) (pc := 29) (hI := d_B_checkText_29) (hr := rfl) ?_
          show xwp G m_B_lengthOf (d + 9) 6 [xR 0, xI x1, xI x2, xI x3] [] _ _ _
          refine xr_iload_n (pc := 6) (i := 3) (hI := d_B_lengthOf_6) (hi := rfl) (hl := rfl) ?_
          refine xq_callS (pc := 7) (index := 146) (K := m_B_checkField) (As := [xI x3]) (S := []) (L0 := [xI x3]) (hI := d_B_lengthOf_7) (hK := k_B_checkField) (hlk := w_1181) (hnoM := rfl) (hS8 := Nat.le_of_ble_eq_true rfl) (hstat := w_1182) (hlen := Nat.le_of_ble_eq_true rfl) (hst := rfl) (hL0 := rfl)  ?_
          refine xr_iload_n (pc := 0) (i := 0) (hI := d_B_checkField_0) (hi := rfl) (hl := rfl) ?_
          refine xr_if_lt (pc := 1) (tgt := 9) (hI := d_B_checkField_1) (ht := by decide) (fun q9 => ?_) (fun q9 => ?_)
          · replace hyp := hyp.1 q9
            have q10_ := q9
            clear q9
            obtain ⟨c7, c8, hyp⟩ := hyp
            exact xr_throw (pc := 9) (k := 2) (ik := 204) (ic := 206) (names := ["java/lang/RuntimeException", "java/lang/Exception"]) (by decide +kernel) (by decide +kernel) (by decide) w_1101 w_32 thr_B_206.1 thr_B_206.2 d_B_checkField_9 d_B_checkField_12 d_B_checkField_13 d_B_checkField_16 rfl (Nat.le_of_ble_eq_true rfl) (Nat.le_add_left_of_le (by decide)) (Nat.le_of_ble_eq_true rfl) c7 c8 (hyp (xFix.mk F))
          · replace hyp := hyp.2 q9
            have q10_ := q9
            clear q9
            refine xr_iload_n (pc := 4) (i := 0) (hI := d_B_checkField_4) (hi := rfl) (hl := rfl) ?_
            refine xr_iconst (pc := 5) (hI := d_B_checkField_5) (hr := by decide) ?_
            refine xr_icmp_lt (pc := 6) (tgt := 17) (hI := d_B_checkField_6) (ht := by decide) (fun q9 => ?_) (fun q9 => ?_)
            · replace hyp := hyp.1 q9
              have q11_ := q9
              clear q9
              refine xr_return (S := []) (pc := 17) (hI := d_B_checkField_17) (hr := rfl) ?_
              show xwp G m_B_lengthOf (d + 9) 10 [xR 0, xI x1, xI x2, xI x3] [] _ _ _
              refine xr_aload_n (pc := 10) (i := 0) (hI := d_B_lengthOf_10) (hi := rfl) (hl := rfl) ?_
              refine xg_getf (pc := 11) (ci := 0) (k := 1) (N := 7) (v9 := 2) (v := 5) (T := xF0) (hI := d_B_lengthOf_11) (hw := w_431) rfl xi0 (Or.inl rfl) (Nat.le_of_ble_eq_true rfl) (Nat.le_of_ble_eq_true rfl) rfl (ft_0 F) (fp_0_1 F) (fun f12_ => ?_)
              clear f12_
              refine xr_iload_n (pc := 14) (i := 1) (hI := d_B_lengthOf_14) (hi := rfl) (hl := rfl) ?_
              refine xr_iload_n (pc := 15) (i := 2) (hI := d_B_lengthOf_15) (hi := rfl) (hl := rfl) ?_
              refine xq_callV (pc := 16) (index := 170) (K := m_Store_textOf) (As := [xI x1, xI x2]) (S := []) (L0 := [xR 5, xI x1, xI x2]) (hI := d_B_lengthOf_16) (hK := k_Store_textOf) (hlk := w_1193) (hnoM := rfl) (hS8 := Nat.le_of_ble_eq_true rfl) (ci := 7) (N := 6) (C := "BeaconIndex$Store") (T := xF7) (hc := rfl) (hci := Nat.le_of_ble_eq_true rfl) (htb := (ft_5 F)) (hinst := w_1194) (hsel := w_1195) (hlen := Nat.le_of_ble_eq_true rfl) (hst := rfl) (hL0 := rfl)  (p_Store_textOf F c7_ (by clear hyp; omega) (by clear hyp; omega) ?_)
              show xwp G m_B_lengthOf (d + 9) 19 [xR 0, xI x1, xI x2, xI x3] [xR (fat h ((stA (szL h) x1) + x2))] _ _ _
              have t13_ : xtg h (fat h ((stA (szL h) x1) + x2)) = 9 := (fat_ok F c7_ _).1
              refine xr_iload_n (pc := 19) (i := 3) (hI := d_B_lengthOf_19) (hi := rfl) (hl := rfl) ?_
              refine xq_callV (pc := 20) (index := 158) (K := m_Text_row) (As := [xI x3]) (S := []) (L0 := [xR (fat h ((stA (szL h) x1) + x2)), xI x3]) (hI := d_B_lengthOf_20) (hK := k_Text_row) (hlk := w_883) (hnoM := rfl) (hS8 := Nat.le_of_ble_eq_true rfl) (ci := 9) (N := 6) (C := "BeaconIndex$Text") (T := xF9) (hc := rfl) (hci := Nat.le_of_ble_eq_true rfl) (htb := t13_) (hinst := w_611) (hsel := w_612) (hlen := Nat.le_of_ble_eq_true rfl) (hst := rfl) (hL0 := rfl)  (p_Text_row F t13_ ?_)
              show xwp G m_B_lengthOf (d + 9) 23 [xR 0, xI x1, xI x2, xI x3] [xR (txr h (fat h ((stA (szL h) x1) + x2)) x3)] _ _ _
              obtain ⟨c9, hyp⟩ := hyp
              have t14_ := c9
              clear c9
              refine xg_alen (pc := 23) (t := 101) (v := (xln h (txr h (fat h ((stA (szL h) x1) + x2)) x3))) (hI := d_B_lengthOf_23) t14_ (Nat.le_of_ble_eq_true rfl) (Nat.le_of_ble_eq_true rfl) rfl rfl (fun f15_ f16_ => ?_)
              refine xr_ireturn (S := []) (pc := 24) (hI := d_B_lengthOf_24) (hr := rfl) ?_
              exact hyp
            · replace hyp := hyp.2 q9
              have q11_ := q9
              clear q9
              obtain ⟨c7, c8, hyp⟩ := hyp
              exact xr_throw (pc := 9) (k := 2) (ik := 204) (ic := 206) (names := ["java/lang/RuntimeException", "java/lang/Exception"]) (by decide +kernel) (by decide +kernel) (by decide) w_1101 w_32 thr_B_206.1 thr_B_206.2 d_B_checkField_9 d_B_checkField_12 d_B_checkField_13 d_B_checkField_16 rfl (Nat.le_of_ble_eq_true rfl) (Nat.le_add_left_of_le (by decide)) (Nat.le_of_ble_eq_true rfl) c7 c8 (hyp (xFix.mk F))
        · replace hyp := hyp.2 q9
          have q9_ := q9
          clear q9
          obtain ⟨c7, c8, hyp⟩ := hyp
          exact xr_throw (pc := 21) (k := 2) (ik := 204) (ic := 206) (names := ["java/lang/RuntimeException", "java/lang/Exception"]) (by decide +kernel) (by decide +kernel) (by decide) w_1101 w_32 thr_B_206.1 thr_B_206.2 d_B_checkText_21 d_B_checkText_24 d_B_checkText_25 d_B_checkText_28 rfl (Nat.le_of_ble_eq_true rfl) (Nat.le_add_left_of_le (by decide)) (Nat.le_of_ble_eq_true rfl) c7 c8 (hyp (xFix.mk F))
    · replace hyp := hyp.2 q9
      have q4_ := q9
      clear q9
      obtain ⟨c7, c8, hyp⟩ := hyp
      exact xr_throw (pc := 15) (k := 2) (ik := 204) (ic := 206) (names := ["java/lang/RuntimeException", "java/lang/Exception"]) (by decide +kernel) (by decide +kernel) (by decide) w_1101 w_32 thr_B_206.1 thr_B_206.2 d_B_checkSegment_15 d_B_checkSegment_18 d_B_checkSegment_19 d_B_checkSegment_22 rfl (Nat.le_of_ble_eq_true rfl) (Nat.le_add_left_of_le (by decide)) (Nat.le_of_ble_eq_true rfl) c7 c8 (hyp (xFix.mk F))
abbrev m_B_segmentOf : XM := (⟨"BeaconIndex", "segmentOf", "(I)I"⟩, prog_1_method_19_code, 3, (some .int), [])
theorem d_B_segmentOf_0 : decode prog_1_method_19_code 0 = .ok (.iload_n 1, 1) := by decide +kernel
theorem d_B_segmentOf_1 : decode prog_1_method_19_code 1 = .ok (.invokestatic 69, 3) := by decide +kernel
theorem d_B_segmentOf_4 : decode prog_1_method_19_code 4 = .ok (.aload_n 0, 1) := by decide +kernel
theorem d_B_segmentOf_5 : decode prog_1_method_19_code 5 = .ok (.getfield 19, 3) := by decide +kernel
theorem d_B_segmentOf_8 : decode prog_1_method_19_code 8 = .ok (.iload_n 1, 1) := by decide +kernel
theorem d_B_segmentOf_9 : decode prog_1_method_19_code 9 = .ok (.invokevirtual 72, 3) := by decide +kernel
theorem d_B_segmentOf_12 : decode prog_1_method_19_code 12 = .ok (.iconst (-1), 1) := by decide +kernel
theorem d_B_segmentOf_13 : decode prog_1_method_19_code 13 = .ok (.if_icmp .eq 5, 3) := by decide +kernel
theorem d_B_segmentOf_18 : decode prog_1_method_19_code 18 = .ok (.aload_n 0, 1) := by decide +kernel
theorem d_B_segmentOf_19 : decode prog_1_method_19_code 19 = .ok (.getfield 19, 3) := by decide +kernel
theorem d_B_segmentOf_22 : decode prog_1_method_19_code 22 = .ok (.iload_n 1, 1) := by decide +kernel
theorem d_B_segmentOf_23 : decode prog_1_method_19_code 23 = .ok (.invokevirtual 113, 3) := by decide +kernel
theorem d_B_segmentOf_26 : decode prog_1_method_19_code 26 = .ok (.istore_n 2, 1) := by decide +kernel
theorem d_B_segmentOf_27 : decode prog_1_method_19_code 27 = .ok (.iload_n 2, 1) := by decide +kernel
theorem d_B_segmentOf_28 : decode prog_1_method_19_code 28 = .ok (.iconst (-1), 1) := by decide +kernel
theorem d_B_segmentOf_29 : decode prog_1_method_19_code 29 = .ok (.if_icmp .ne 8, 3) := by decide +kernel
theorem d_B_segmentOf_37 : decode prog_1_method_19_code 37 = .ok (.aload_n 0, 1) := by decide +kernel
theorem d_B_segmentOf_38 : decode prog_1_method_19_code 38 = .ok (.getfield 19, 3) := by decide +kernel
theorem d_B_segmentOf_41 : decode prog_1_method_19_code 41 = .ok (.iload_n 2, 1) := by decide +kernel
theorem d_B_segmentOf_42 : decode prog_1_method_19_code 42 = .ok (.invokevirtual 181, 3) := by decide +kernel
theorem k_Store_segmentAround : xCal m_Store_segmentAround 1 := ⟨List.mem_append_right _ (List.mem_of_getElem? (i := 1443) (by decide +kernel)), w_3, Nat.le_of_ble_eq_true rfl, ⟨by decide +kernel, by decide +kernel⟩, by decide +kernel, by decide +kernel, rfl⟩
theorem w_1440 : Cond.methodLink "BeaconIndex" 181 ⟨"BeaconIndex$Store", "segmentAround", "(I)I"⟩ ∈ lw_tbl := List.mem_append_right _ (List.mem_of_getElem? (i := 1440) (by decide +kernel))
theorem w_1441 : Cond.instanceMethod ⟨"BeaconIndex$Store", "segmentAround", "(I)I"⟩ ∈ lw_tbl := List.mem_append_right _ (List.mem_of_getElem? (i := 1441) (by decide +kernel))
theorem w_1442 : Cond.selects "BeaconIndex$Store" ⟨"BeaconIndex$Store", "segmentAround", "(I)I"⟩ ⟨"BeaconIndex$Store", "segmentAround", "(I)I"⟩ ∈ lw_tbl := List.mem_append_right _ (List.mem_of_getElem? (i := 1442) (by decide +kernel))
theorem d_B_segmentOf_45 : decode prog_1_method_19_code 45 = .ok (.ireturn, 1) := by decide +kernel
theorem d_B_segmentOf_32 : decode prog_1_method_19_code 32 = .ok (.bipush (-2), 2) := by decide +kernel
theorem d_B_segmentOf_34 : decode prog_1_method_19_code 34 = .ok (.goto 11, 3) := by decide +kernel
theorem d_B_segmentOf_16 : decode prog_1_method_19_code 16 = .ok (.iconst (-1), 1) := by decide +kernel
theorem d_B_segmentOf_17 : decode prog_1_method_19_code 17 = .ok (.ireturn, 1) := by decide +kernel
theorem v_B_segmentOf_0 {G : XG} {d : Nat} {h : XH} {Q : XV → XH → Prop} {X : Nat → XH → Prop} {x1 : Int} (F : xFix h) (hyp : ((x1 < 0 → xnx h + 1 ≤ xKC ∧ xsl h + 6 ≤ xKS ∧ (xFix (xmk h 300 6 (fun _ => 0)) → X 0 (xmk h 300 6 (fun _ => 0)))) ∧ (¬ x1 < 0 → ((x1 < 100 → stok h ∧ (((kidx (bufL h) x1) = (-1) → (((sidx (filL h) x1) = (-1) → (Q (xI (-2)) h)) ∧ (¬ (sidx (filL h) x1) = (-1) → (Q (xI (sgA (szL h) (sidx (filL h) x1))) h)))) ∧ (¬ (kidx (bufL h) x1) = (-1) → (Q (xI (-1)) h)))) ∧ (¬ x1 < 100 → xnx h + 1 ≤ xKC ∧ xsl h + 6 ≤ xKS ∧ (xFix (xmk h 300 6 (fun _ => 0)) → X 0 (xmk h 300 6 (fun _ => 0)))))))) : xwp G m_B_segmentOf (d + 8) 0 [xR 0, xI x1, xZ] [] h Q X := by
  have hnx9 : (93 : Int) ≤ xnx h := F.2.2
  refine xr_okL (fun hl9 => ?_)
  have r_x1 : -2147483648 ≤ x1 ∧ x1 ≤ 2147483647 := hl9 (xI x1) (.tail _ (.head _)) (Nat.le_of_ble_eq_true rfl)
  refine xr_iload_n (pc := 0) (i := 1) (hI := d_B_segmentOf_0) (hi := rfl) (hl := rfl) ?_
  refine xq_callS (pc := 1) (index := 69) (K := m_B_checkKey) (As := [xI x1]) (S := []) (L0 := [xI x1]) (hI := d_B_segmentOf_1) (hK := k_B_checkKey) (hlk := w_1292) (hnoM := rfl) (hS8 := Nat.le_of_ble_eq_true rfl) (hstat := w_1293) (hlen := Nat.le_of_ble_eq_true rfl) (hst := rfl) (hL0 := rfl)  ?_
  refine xr_iload_n (pc := 0) (i := 0) (hI := d_B_checkKey_0) (hi := rfl) (hl := rfl) ?_
  refine xr_if_lt (pc := 1) (tgt := 10) (hI := d_B_checkKey_1) (ht := by decide) (fun q9 => ?_) (fun q9 => ?_)
  · replace hyp := hyp.1 q9
    have q1_ := q9
    clear q9
    obtain ⟨c7, c8, hyp⟩ := hyp
    exact xr_throw (pc := 10) (k := 0) (ik := 66) (ic := 68) (names := ["java/lang/RuntimeException", "java/lang/Exception"]) (by decide +kernel) (by decide +kernel) (by decide) w_1295 w_21 thr_B_68.1 thr_B_68.2 d_B_checkKey_10 d_B_checkKey_13 d_B_checkKey_14 d_B_checkKey_17 rfl (Nat.le_of_ble_eq_true rfl) (Nat.le_add_left_of_le (by decide)) (Nat.le_of_ble_eq_true rfl) c7 c8 (hyp (xFix.mk F))
  · replace hyp := hyp.2 q9
    have q1_ := q9
    clear q9
    refine xr_iload_n (pc := 4) (i := 0) (hI := d_B_checkKey_4) (hi := rfl) (hl := rfl) ?_
    refine xr_bipush (pc := 5) (hI := d_B_checkKey_5) (hr := by decide) (hv := by decide) ?_
    refine xr_icmp_lt (pc := 7) (tgt := 18) (hI := d_B_checkKey_7) (ht := by decide) (fun q9 => ?_) (fun q9 => ?_)
    · replace hyp := hyp.1 q9
      have q2_ := q9
      clear q9
      refine xr_return (S := []) (pc := 18) (hI := d_B_checkKey_18) (hr := rfl) ?_
      show xwp G m_B_segmentOf (d + 8) 4 [xR 0, xI x1, xZ] [] _ _ _
      refine xr_aload_n (pc := 4) (i := 0) (hI := d_B_segmentOf_4) (hi := rfl) (hl := rfl) ?_
      refine xg_getf (pc := 5) (ci := 0) (k := 1) (N := 7) (v9 := 2) (v := 5) (T := xF0) (hI := d_B_segmentOf_5) (hw := w_431) rfl xi0 (Or.inl rfl) (Nat.le_of_ble_eq_true rfl) (Nat.le_of_ble_eq_true rfl) rfl (ft_0 F) (fp_0_1 F) (fun f3_ => ?_)
      clear f3_
      refine xr_iload_n (pc := 8) (i := 1) (hI := d_B_segmentOf_8) (hi := rfl) (hl := rfl) ?_
      obtain ⟨c4_, hyp⟩ := hyp
      refine xq_callV (pc := 9) (index := 72) (K := m_Store_placeInBuffer) (As := [xI x1]) (S := []) (L0 := [xR 5, xI x1, xZ]) (hI := d_B_segmentOf_9) (hK := k_Store_placeInBuffer) (hlk := w_1365) (hnoM := rfl) (hS8 := Nat.le_of_ble_eq_true rfl) (ci := 7) (N := 6) (C := "BeaconIndex$Store") (T := xF7) (hc := rfl) (hci := Nat.le_of_ble_eq_true rfl) (htb := (ft_5 F)) (hinst := w_1366) (hsel := w_1367) (hlen := Nat.le_of_ble_eq_true rfl) (hst := rfl) (hL0 := rfl)  (p_Store_placeInBuffer F c4_ ?_)
      show xwp G m_B_segmentOf (d + 8) 12 [xR 0, xI x1, xZ] [xI (kidx (bufL h) x1)] _ _ _
      have f5_ : -1 ≤ (kidx (bufL h) x1) := (idxI_rng _ _).1
      have f6_ : (kidx (bufL h) x1) < als h 6 := kidx_lt c4_ _
      refine xr_iconst (pc := 12) (hI := d_B_segmentOf_12) (hr := by decide) ?_
      refine xr_icmp_eq (pc := 13) (tgt := 18) (hI := d_B_segmentOf_13) (ht := by decide) (fun q9 => ?_) (fun q9 => ?_)
      · replace hyp := hyp.1 q9
        have q7_ := q9
        clear q9
        refine xr_aload_n (pc := 18) (i := 0) (hI := d_B_segmentOf_18) (hi := rfl) (hl := rfl) ?_
        refine xg_getf (pc := 19) (ci := 0) (k := 1) (N := 7) (v9 := 2) (v := 5) (T := xF0) (hI := d_B_segmentOf_19) (hw := w_431) rfl xi0 (Or.inl rfl) (Nat.le_of_ble_eq_true rfl) (Nat.le_of_ble_eq_true rfl) rfl (ft_0 F) (fp_0_1 F) (fun f8_ => ?_)
        clear f8_
        refine xr_iload_n (pc := 22) (i := 1) (hI := d_B_segmentOf_22) (hi := rfl) (hl := rfl) ?_
        refine xq_callV (pc := 23) (index := 113) (K := m_Store_placeInSegments) (As := [xI x1]) (S := []) (L0 := [xR 5, xI x1, xZ, xZ]) (hI := d_B_segmentOf_23) (hK := k_Store_placeInSegments) (hlk := w_1310) (hnoM := rfl) (hS8 := Nat.le_of_ble_eq_true rfl) (ci := 7) (N := 6) (C := "BeaconIndex$Store") (T := xF7) (hc := rfl) (hci := Nat.le_of_ble_eq_true rfl) (htb := (ft_5 F)) (hinst := w_1311) (hsel := w_1312) (hlen := Nat.le_of_ble_eq_true rfl) (hst := rfl) (hL0 := rfl)  (p_Store_placeInSegments F c4_ ?_)
        show xwp G m_B_segmentOf (d + 8) 26 [xR 0, xI x1, xZ] [xI (sidx (filL h) x1)] _ _ _
        have f9_ : -1 ≤ (sidx (filL h) x1) := (idxI_rng _ _).1
        have f10_ : (sidx (filL h) x1) < als h 7 := sidx_lt c4_ _
        refine xr_istore_n (pc := 26) (i := 2) (L9 := [xR 0, xI x1, xI (sidx (filL h) x1)]) (hI := d_B_segmentOf_26) (hi := rfl) (hn := Nat.le_of_ble_eq_true rfl) (hL9 := rfl) ?_
        refine xr_iload_n (pc := 27) (i := 2) (hI := d_B_segmentOf_27) (hi := rfl) (hl := rfl) ?_
        refine xr_iconst (pc := 28) (hI := d_B_segmentOf_28) (hr := by decide) ?_
        refine xr_icmp_ne (pc := 29) (tgt := 37) (hI := d_B_segmentOf_29) (ht := by decide) (fun q9 => ?_) (fun q9 => ?_)
        · replace hyp := hyp.2 q9
          have q11_ := q9
          clear q9
          refine xr_aload_n (pc := 37) (i := 0) (hI := d_B_segmentOf_37) (hi := rfl) (hl := rfl) ?_
          refine xg_getf (pc := 38) (ci := 0) (k := 1) (N := 7) (v9 := 2) (v := 5) (T := xF0) (hI := d_B_segmentOf_38) (hw := w_431) rfl xi0 (Or.inl rfl) (Nat.le_of_ble_eq_true rfl) (Nat.le_of_ble_eq_true rfl) rfl (ft_0 F) (fp_0_1 F) (fun f12_ => ?_)
          clear f12_
          refine xr_iload_n (pc := 41) (i := 2) (hI := d_B_segmentOf_41) (hi := rfl) (hl := rfl) ?_
          refine xq_callV (pc := 42) (index := 181) (K := m_Store_segmentAround) (As := [xI (sidx (filL h) x1)]) (S := []) (L0 := [xR 5, xI (sidx (filL h) x1), xZ, xZ]) (hI := d_B_segmentOf_42) (hK := k_Store_segmentAround) (hlk := w_1440) (hnoM := rfl) (hS8 := Nat.le_of_ble_eq_true rfl) (ci := 7) (N := 6) (C := "BeaconIndex$Store") (T := xF7) (hc := rfl) (hci := Nat.le_of_ble_eq_true rfl) (htb := (ft_5 F)) (hinst := w_1441) (hsel := w_1442) (hlen := Nat.le_of_ble_eq_true rfl) (hst := rfl) (hL0 := rfl)  (p_Store_segmentAround F c4_ ?_)
          show xwp G m_B_segmentOf (d + 8) 45 [xR 0, xI x1, xI (sidx (filL h) x1)] [xI (sgA (szL h) (sidx (filL h) x1))] _ _ _
          refine xr_ireturn (S := []) (pc := 45) (hI := d_B_segmentOf_45) (hr := rfl) ?_
          exact hyp
        · replace hyp := hyp.1 q9
          have q11_ := q9
          clear q9
          refine xr_bipush (pc := 32) (hI := d_B_segmentOf_32) (hr := by decide) (hv := by decide) ?_
          refine xr_goto (pc := 34) (tgt := 45) (hI := d_B_segmentOf_34) (ht := by decide) ?_
          refine xr_ireturn (S := []) (pc := 45) (hI := d_B_segmentOf_45) (hr := rfl) ?_
          exact hyp
      · replace hyp := hyp.2 q9
        have q7_ := q9
        clear q9
        refine xr_iconst (pc := 16) (hI := d_B_segmentOf_16) (hr := by decide) ?_
        refine xr_ireturn (S := []) (pc := 17) (hI := d_B_segmentOf_17) (hr := rfl) ?_
        exact hyp
    · replace hyp := hyp.2 q9
      have q2_ := q9
      clear q9
      obtain ⟨c7, c8, hyp⟩ := hyp
      exact xr_throw (pc := 10) (k := 0) (ik := 66) (ic := 68) (names := ["java/lang/RuntimeException", "java/lang/Exception"]) (by decide +kernel) (by decide +kernel) (by decide) w_1295 w_21 thr_B_68.1 thr_B_68.2 d_B_checkKey_10 d_B_checkKey_13 d_B_checkKey_14 d_B_checkKey_17 rfl (Nat.le_of_ble_eq_true rfl) (Nat.le_add_left_of_le (by decide)) (Nat.le_of_ble_eq_true rfl) c7 c8 (hyp (xFix.mk F))
abbrev m_B_shelfOf : XM := (⟨"BeaconIndex", "shelfOf", "(I)I"⟩, prog_1_method_20_code, 3, (some .int), [])
theorem d_B_shelfOf_0 : decode prog_1_method_20_code 0 = .ok (.iload_n 1, 1) := by decide +kernel
theorem d_B_shelfOf_1 : decode prog_1_method_20_code 1 = .ok (.invokestatic 69, 3) := by decide +kernel
theorem d_B_shelfOf_4 : decode prog_1_method_20_code 4 = .ok (.aload_n 0, 1) := by decide +kernel
theorem d_B_shelfOf_5 : decode prog_1_method_20_code 5 = .ok (.getfield 19, 3) := by decide +kernel
theorem d_B_shelfOf_8 : decode prog_1_method_20_code 8 = .ok (.iload_n 1, 1) := by decide +kernel
theorem d_B_shelfOf_9 : decode prog_1_method_20_code 9 = .ok (.invokevirtual 72, 3) := by decide +kernel
theorem d_B_shelfOf_12 : decode prog_1_method_20_code 12 = .ok (.istore_n 2, 1) := by decide +kernel
theorem d_B_shelfOf_13 : decode prog_1_method_20_code 13 = .ok (.iload_n 2, 1) := by decide +kernel
theorem d_B_shelfOf_14 : decode prog_1_method_20_code 14 = .ok (.iconst (-1), 1) := by decide +kernel
theorem d_B_shelfOf_15 : decode prog_1_method_20_code 15 = .ok (.if_icmp .eq 21, 3) := by decide +kernel
theorem d_B_shelfOf_36 : decode prog_1_method_20_code 36 = .ok (.aload_n 0, 1) := by decide +kernel
theorem d_B_shelfOf_37 : decode prog_1_method_20_code 37 = .ok (.getfield 19, 3) := by decide +kernel
theorem d_B_shelfOf_40 : decode prog_1_method_20_code 40 = .ok (.iload_n 1, 1) := by decide +kernel
theorem d_B_shelfOf_41 : decode prog_1_method_20_code 41 = .ok (.invokevirtual 113, 3) := by decide +kernel
theorem d_B_shelfOf_44 : decode prog_1_method_20_code 44 = .ok (.istore_n 2, 1) := by decide +kernel
theorem d_B_shelfOf_45 : decode prog_1_method_20_code 45 = .ok (.iload_n 2, 1) := by decide +kernel
theorem d_B_shelfOf_46 : decode prog_1_method_20_code 46 = .ok (.iconst (-1), 1) := by decide +kernel
theorem d_B_shelfOf_47 : decode prog_1_method_20_code 47 = .ok (.if_icmp .ne 7, 3) := by decide +kernel
theorem d_B_shelfOf_54 : decode prog_1_method_20_code 54 = .ok (.aload_n 0, 1) := by decide +kernel
theorem d_B_shelfOf_55 : decode prog_1_method_20_code 55 = .ok (.getfield 19, 3) := by decide +kernel
theorem d_B_shelfOf_58 : decode prog_1_method_20_code 58 = .ok (.iload_n 2, 1) := by decide +kernel
theorem d_B_shelfOf_59 : decode prog_1_method_20_code 59 = .ok (.invokevirtual 154, 3) := by decide +kernel
theorem d_B_shelfOf_62 : decode prog_1_method_20_code 62 = .ok (.getfield 188, 3) := by decide +kernel
theorem w_124 : Cond.fieldLink "BeaconIndex" 188 "BeaconIndex$Text" "shelf" "I" ∈ lw_tbl := List.mem_append_right _ (List.mem_of_getElem? (i := 124) (by decide +kernel))
theorem d_B_shelfOf_65 : decode prog_1_method_20_code 65 = .ok (.ireturn, 1) := by decide +kernel
theorem d_B_shelfOf_50 : decode prog_1_method_20_code 50 = .ok (.iconst (-1), 1) := by decide +kernel
theorem d_B_shelfOf_51 : decode prog_1_method_20_code 51 = .ok (.goto 14, 3) := by decide +kernel
theorem d_B_shelfOf_18 : decode prog_1_method_20_code 18 = .ok (.aload_n 0, 1) := by decide +kernel
theorem d_B_shelfOf_19 : decode prog_1_method_20_code 19 = .ok (.getfield 19, 3) := by decide +kernel
theorem d_B_shelfOf_22 : decode prog_1_method_20_code 22 = .ok (.getfield 103, 3) := by decide +kernel
theorem d_B_shelfOf_25 : decode prog_1_method_20_code 25 = .ok (.iload_n 2, 1) := by decide +kernel
theorem d_B_shelfOf_26 : decode prog_1_method_20_code 26 = .ok (.invokevirtual 184, 3) := by decide +kernel
theorem w_1261 : Cond.methodLink "BeaconIndex" 184 ⟨"java/util/ArrayList", "get", "(I)Ljava/lang/Object;"⟩ ∈ lw_tbl := List.mem_append_right _ (List.mem_of_getElem? (i := 1261) (by decide +kernel))
theorem d_B_shelfOf_29 : decode prog_1_method_20_code 29 = .ok (.checkcast 83, 3) := by decide +kernel
theorem d_B_shelfOf_32 : decode prog_1_method_20_code 32 = .ok (.getfield 188, 3) := by decide +kernel
theorem d_B_shelfOf_35 : decode prog_1_method_20_code 35 = .ok (.ireturn, 1) := by decide +kernel
theorem v_B_shelfOf_0 {G : XG} {d : Nat} {h : XH} {Q : XV → XH → Prop} {X : Nat → XH → Prop} {x1 : Int} (F : xFix h) (hyp : ((x1 < 0 → xnx h + 1 ≤ xKC ∧ xsl h + 6 ≤ xKS ∧ (xFix (xmk h 300 6 (fun _ => 0)) → X 0 (xmk h 300 6 (fun _ => 0)))) ∧ (¬ x1 < 0 → ((x1 < 100 → stok h ∧ (((kidx (bufL h) x1) = (-1) → (((sidx (filL h) x1) = (-1) → (Q (xI (-1)) h)) ∧ (¬ (sidx (filL h) x1) = (-1) → (Q (xI (xpl h (fat h (sidx (filL h) x1)) 1)) h)))) ∧ (¬ (kidx (bufL h) x1) = (-1) → xtg h (alg h 6 (kidx (bufL h) x1)) = 9 ∧ (Q (xI (xpl h (alg h 6 (kidx (bufL h) x1)) 1)) h)))) ∧ (¬ x1 < 100 → xnx h + 1 ≤ xKC ∧ xsl h + 6 ≤ xKS ∧ (xFix (xmk h 300 6 (fun _ => 0)) → X 0 (xmk h 300 6 (fun _ => 0)))))))) : xwp G m_B_shelfOf (d + 8) 0 [xR 0, xI x1, xZ] [] h Q X := by
  have hnx9 : (93 : Int) ≤ xnx h := F.2.2
  refine xr_okL (fun hl9 => ?_)
  have r_x1 : -2147483648 ≤ x1 ∧ x1 ≤ 2147483647 := hl9 (xI x1) (.tail _ (.head _)) (Nat.le_of_ble_eq_true rfl)
  refine xr_iload_n (pc := 0) (i := 1) (hI := d_B_shelfOf_0) (hi := rfl) (hl := rfl) ?_
  refine xq_callS (pc := 1) (index := 69) (K := m_B_checkKey) (As := [xI x1]) (S := []) (L0 := [xI x1]) (hI := d_B_shelfOf_1) (hK := k_B_checkKey) (hlk := w_1292) (hnoM := rfl) (hS8 := Nat.le_of_ble_eq_true rfl) (hstat := w_1293) (hlen := Nat.le_of_ble_eq_true rfl) (hst := rfl) (hL0 := rfl)  ?_
  refine xr_iload_n (pc := 0) (i := 0) (hI := d_B_checkKey_0) (hi := rfl) (hl := rfl) ?_
  refine xr_if_lt (pc := 1) (tgt := 10) (hI := d_B_checkKey_1) (ht := by decide) (fun q9 => ?_) (fun q9 => ?_)
  · replace hyp := hyp.1 q9
    have q1_ := q9
    clear q9
    obtain ⟨c7, c8, hyp⟩ := hyp
    exact xr_throw (pc := 10) (k := 0) (ik := 66) (ic := 68) (names := ["java/lang/RuntimeException", "java/lang/Exception"]) (by decide +kernel) (by decide +kernel) (by decide) w_1295 w_21 thr_B_68.1 thr_B_68.2 d_B_checkKey_10 d_B_checkKey_13 d_B_checkKey_14 d_B_checkKey_17 rfl (Nat.le_of_ble_eq_true rfl) (Nat.le_add_left_of_le (by decide)) (Nat.le_of_ble_eq_true rfl) c7 c8 (hyp (xFix.mk F))
  · replace hyp := hyp.2 q9
    have q1_ := q9
    clear q9
    refine xr_iload_n (pc := 4) (i := 0) (hI := d_B_checkKey_4) (hi := rfl) (hl := rfl) ?_
    refine xr_bipush (pc := 5) (hI := d_B_checkKey_5) (hr := by decide) (hv := by decide) ?_
    refine xr_icmp_lt (pc := 7) (tgt := 18) (hI := d_B_checkKey_7) (ht := by decide) (fun q9 => ?_) (fun q9 => ?_)
    · replace hyp := hyp.1 q9
      have q2_ := q9
      clear q9
      refine xr_return (S := []) (pc := 18) (hI := d_B_checkKey_18) (hr := rfl) ?_
      show xwp G m_B_shelfOf (d + 8) 4 [xR 0, xI x1, xZ] [] _ _ _
      refine xr_aload_n (pc := 4) (i := 0) (hI := d_B_shelfOf_4) (hi := rfl) (hl := rfl) ?_
      refine xg_getf (pc := 5) (ci := 0) (k := 1) (N := 7) (v9 := 2) (v := 5) (T := xF0) (hI := d_B_shelfOf_5) (hw := w_431) rfl xi0 (Or.inl rfl) (Nat.le_of_ble_eq_true rfl) (Nat.le_of_ble_eq_true rfl) rfl (ft_0 F) (fp_0_1 F) (fun f3_ => ?_)
      clear f3_
      refine xr_iload_n (pc := 8) (i := 1) (hI := d_B_shelfOf_8) (hi := rfl) (hl := rfl) ?_
      obtain ⟨c4_, hyp⟩ := hyp
      refine xq_callV (pc := 9) (index := 72) (K := m_Store_placeInBuffer) (As := [xI x1]) (S := []) (L0 := [xR 5, xI x1, xZ]) (hI := d_B_shelfOf_9) (hK := k_Store_placeInBuffer) (hlk := w_1365) (hnoM := rfl) (hS8 := Nat.le_of_ble_eq_true rfl) (ci := 7) (N := 6) (C := "BeaconIndex$Store") (T := xF7) (hc := rfl) (hci := Nat.le_of_ble_eq_true rfl) (htb := (ft_5 F)) (hinst := w_1366) (hsel := w_1367) (hlen := Nat.le_of_ble_eq_true rfl) (hst := rfl) (hL0 := rfl)  (p_Store_placeInBuffer F c4_ ?_)
      show xwp G m_B_shelfOf (d + 8) 12 [xR 0, xI x1, xZ] [xI (kidx (bufL h) x1)] _ _ _
      have f5_ : -1 ≤ (kidx (bufL h) x1) := (idxI_rng _ _).1
      have f6_ : (kidx (bufL h) x1) < als h 6 := kidx_lt c4_ _
      refine xr_istore_n (pc := 12) (i := 2) (L9 := [xR 0, xI x1, xI (kidx (bufL h) x1)]) (hI := d_B_shelfOf_12) (hi := rfl) (hn := Nat.le_of_ble_eq_true rfl) (hL9 := rfl) ?_
      refine xr_iload_n (pc := 13) (i := 2) (hI := d_B_shelfOf_13) (hi := rfl) (hl := rfl) ?_
      refine xr_iconst (pc := 14) (hI := d_B_shelfOf_14) (hr := by decide) ?_
      refine xr_icmp_eq (pc := 15) (tgt := 36) (hI := d_B_shelfOf_15) (ht := by decide) (fun q9 => ?_) (fun q9 => ?_)
      · replace hyp := hyp.1 q9
        have q7_ := q9
        clear q9
        refine xr_aload_n (pc := 36) (i := 0) (hI := d_B_shelfOf_36) (hi := rfl) (hl := rfl) ?_
        refine xg_getf (pc := 37) (ci := 0) (k := 1) (N := 7) (v9 := 2) (v := 5) (T := xF0) (hI := d_B_shelfOf_37) (hw := w_431) rfl xi0 (Or.inl rfl) (Nat.le_of_ble_eq_true rfl) (Nat.le_of_ble_eq_true rfl) rfl (ft_0 F) (fp_0_1 F) (fun f8_ => ?_)
        clear f8_
        refine xr_iload_n (pc := 40) (i := 1) (hI := d_B_shelfOf_40) (hi := rfl) (hl := rfl) ?_
        refine xq_callV (pc := 41) (index := 113) (K := m_Store_placeInSegments) (As := [xI x1]) (S := []) (L0 := [xR 5, xI x1, xZ, xZ]) (hI := d_B_shelfOf_41) (hK := k_Store_placeInSegments) (hlk := w_1310) (hnoM := rfl) (hS8 := Nat.le_of_ble_eq_true rfl) (ci := 7) (N := 6) (C := "BeaconIndex$Store") (T := xF7) (hc := rfl) (hci := Nat.le_of_ble_eq_true rfl) (htb := (ft_5 F)) (hinst := w_1311) (hsel := w_1312) (hlen := Nat.le_of_ble_eq_true rfl) (hst := rfl) (hL0 := rfl)  (p_Store_placeInSegments F c4_ ?_)
        show xwp G m_B_shelfOf (d + 8) 44 [xR 0, xI x1, xI (kidx (bufL h) x1)] [xI (sidx (filL h) x1)] _ _ _
        have f9_ : -1 ≤ (sidx (filL h) x1) := (idxI_rng _ _).1
        have f10_ : (sidx (filL h) x1) < als h 7 := sidx_lt c4_ _
        refine xr_istore_n (pc := 44) (i := 2) (L9 := [xR 0, xI x1, xI (sidx (filL h) x1)]) (hI := d_B_shelfOf_44) (hi := rfl) (hn := Nat.le_of_ble_eq_true rfl) (hL9 := rfl) ?_
        refine xr_iload_n (pc := 45) (i := 2) (hI := d_B_shelfOf_45) (hi := rfl) (hl := rfl) ?_
        refine xr_iconst (pc := 46) (hI := d_B_shelfOf_46) (hr := by decide) ?_
        refine xr_icmp_ne (pc := 47) (tgt := 54) (hI := d_B_shelfOf_47) (ht := by decide) (fun q9 => ?_) (fun q9 => ?_)
        · replace hyp := hyp.2 q9
          have q11_ := q9
          clear q9
          refine xr_aload_n (pc := 54) (i := 0) (hI := d_B_shelfOf_54) (hi := rfl) (hl := rfl) ?_
          refine xg_getf (pc := 55) (ci := 0) (k := 1) (N := 7) (v9 := 2) (v := 5) (T := xF0) (hI := d_B_shelfOf_55) (hw := w_431) rfl xi0 (Or.inl rfl) (Nat.le_of_ble_eq_true rfl) (Nat.le_of_ble_eq_true rfl) rfl (ft_0 F) (fp_0_1 F) (fun f12_ => ?_)
          clear f12_
          refine xr_iload_n (pc := 58) (i := 2) (hI := d_B_shelfOf_58) (hi := rfl) (hl := rfl) ?_
          refine xq_callV (pc := 59) (index := 154) (K := m_Store_filedAt) (As := [xI (sidx (filL h) x1)]) (S := []) (L0 := [xR 5, xI (sidx (filL h) x1)]) (hI := d_B_shelfOf_59) (hK := k_Store_filedAt) (hlk := w_882) (hnoM := rfl) (hS8 := Nat.le_of_ble_eq_true rfl) (ci := 7) (N := 6) (C := "BeaconIndex$Store") (T := xF7) (hc := rfl) (hci := Nat.le_of_ble_eq_true rfl) (htb := (ft_5 F)) (hinst := w_578) (hsel := w_579) (hlen := Nat.le_of_ble_eq_true rfl) (hst := rfl) (hL0 := rfl)  (p_Store_filedAt F c4_ ?_)
          show xwp G m_B_shelfOf (d + 8) 62 [xR 0, xI x1, xI (sidx (filL h) x1)] [xR (fat h (sidx (filL h) x1))] _ _ _
          have t13_ : xtg h (fat h (sidx (filL h) x1)) = 9 := (fat_ok F c4_ _).1
          refine xg_getf (pc := 62) (ci := 9) (k := 1) (N := 6) (v9 := 0) (v := (xpl h (fat h (sidx (filL h) x1)) 1)) (T := xF9) (hI := d_B_shelfOf_62) (hw := w_124) rfl xi9 (Or.inl rfl) (Nat.le_of_ble_eq_true rfl) (Nat.le_of_ble_eq_true rfl) rfl t13_ rfl (fun f14_ => ?_)
          replace f14_ : -2147483648 ≤ (xpl h (fat h (sidx (filL h) x1)) 1) ∧ (xpl h (fat h (sidx (filL h) x1)) 1) ≤ 2147483647 := f14_
          refine xr_ireturn (S := []) (pc := 65) (hI := d_B_shelfOf_65) (hr := rfl) ?_
          exact hyp
        · replace hyp := hyp.1 q9
          have q11_ := q9
          clear q9
          refine xr_iconst (pc := 50) (hI := d_B_shelfOf_50) (hr := by decide) ?_
          refine xr_goto (pc := 51) (tgt := 65) (hI := d_B_shelfOf_51) (ht := by decide) ?_
          refine xr_ireturn (S := []) (pc := 65) (hI := d_B_shelfOf_65) (hr := rfl) ?_
          exact hyp
      · replace hyp := hyp.2 q9
        have q7_ := q9
        clear q9
        refine xr_aload_n (pc := 18) (i := 0) (hI := d_B_shelfOf_18) (hi := rfl) (hl := rfl) ?_
        refine xg_getf (pc := 19) (ci := 0) (k := 1) (N := 7) (v9 := 2) (v := 5) (T := xF0) (hI := d_B_shelfOf_19) (hw := w_431) rfl xi0 (Or.inl rfl) (Nat.le_of_ble_eq_true rfl) (Nat.le_of_ble_eq_true rfl) rfl (ft_0 F) (fp_0_1 F) (fun f15_ => ?_)
        clear f15_
        refine xg_getf (pc := 22) (ci := 7) (k := 0) (N := 6) (v9 := 2) (v := 6) (T := xF7) (hI := d_B_shelfOf_22) (hw := w_149) rfl xi7 (Or.inl rfl) (Nat.le_of_ble_eq_true rfl) (Nat.le_of_ble_eq_true rfl) rfl (ft_5 F) (fp_5_0 F) (fun f16_ => ?_)
        clear f16_
        refine xr_iload_n (pc := 25) (i := 2) (hI := d_B_shelfOf_25) (hi := rfl) (hl := rfl) ?_
        refine xq_callV (pc := 26) (index := 184) (K := m_ArrayList_get) (As := [xI (kidx (bufL h) x1)]) (S := []) (L0 := [xR 6, xI (kidx (bufL h) x1)]) (hI := d_B_shelfOf_26) (hK := k_ArrayList_get) (hlk := w_1261) (hnoM := rfl) (hS8 := Nat.le_of_ble_eq_true rfl) (ci := 13) (N := 3) (C := "java/util/ArrayList") (T := xF13) (hc := rfl) (hci := Nat.le_of_ble_eq_true rfl) (htb := (ft_6 F)) (hinst := w_469) (hsel := w_470) (hlen := Nat.le_of_ble_eq_true rfl) (hst := rfl) (hL0 := rfl)  (p_AL_get F c4_.1 (by clear hyp; omega) (by clear hyp; omega) ?_)
        show xwp G m_B_shelfOf (d + 8) 29 [xR 0, xI x1, xI (kidx (bufL h) x1)] [xR (alg h 6 (kidx (bufL h) x1))] _ _ _
        obtain ⟨c9, hyp⟩ := hyp
        have t17_ := c9
        clear c9
        refine xr_cast (pc := 29) (ci := 9) (T := xF9) (N := 6) (hI := d_B_shelfOf_29) w_1373 rfl (Nat.le_of_ble_eq_true rfl) t17_ ?_
        refine xg_getf (pc := 32) (ci := 9) (k := 1) (N := 6) (v9 := 0) (v := (xpl h (alg h 6 (kidx (bufL h) x1)) 1)) (T := xF9) (hI := d_B_shelfOf_32) (hw := w_124) rfl xi9 (Or.inl rfl) (Nat.le_of_ble_eq_true rfl) (Nat.le_of_ble_eq_true rfl) rfl t17_ rfl (fun f18_ => ?_)
        replace f18_ : -2147483648 ≤ (xpl h (alg h 6 (kidx (bufL h) x1)) 1) ∧ (xpl h (alg h 6 (kidx (bufL h) x1)) 1) ≤ 2147483647 := f18_
        refine xr_ireturn (S := []) (pc := 35) (hI := d_B_shelfOf_35) (hr := rfl) ?_
        exact hyp
    · replace hyp := hyp.2 q9
      have q2_ := q9
      clear q9
      obtain ⟨c7, c8, hyp⟩ := hyp
      exact xr_throw (pc := 10) (k := 0) (ik := 66) (ic := 68) (names := ["java/lang/RuntimeException", "java/lang/Exception"]) (by decide +kernel) (by decide +kernel) (by decide) w_1295 w_21 thr_B_68.1 thr_B_68.2 d_B_checkKey_10 d_B_checkKey_13 d_B_checkKey_14 d_B_checkKey_17 rfl (Nat.le_of_ble_eq_true rfl) (Nat.le_add_left_of_le (by decide)) (Nat.le_of_ble_eq_true rfl) c7 c8 (hyp (xFix.mk F))
abbrev m_B_takeWord : XM := (⟨"BeaconIndex", "takeWord", "()I"⟩, prog_1_method_21_code, 1, (some .int), [])
theorem d_B_takeWord_0 : decode prog_1_method_21_code 0 = .ok (.aload_n 0, 1) := by decide +kernel
theorem d_B_takeWord_1 : decode prog_1_method_21_code 1 = .ok (.aload_n 0, 1) := by decide +kernel
theorem d_B_takeWord_2 : decode prog_1_method_21_code 2 = .ok (.getfield 10, 3) := by decide +kernel
theorem d_B_takeWord_5 : decode prog_1_method_21_code 5 = .ok (.iconst 0, 1) := by decide +kernel
theorem d_B_takeWord_6 : decode prog_1_method_21_code 6 = .ok (.aload_n 0, 1) := by decide +kernel
theorem d_B_takeWord_7 : decode prog_1_method_21_code 7 = .ok (.getfield 10, 3) := by decide +kernel
theorem d_B_takeWord_10 : decode prog_1_method_21_code 10 = .ok (.getfield 55, 3) := by decide +kernel
theorem d_B_takeWord_13 : decode prog_1_method_21_code 13 = .ok (.invokevirtual 191, 3) := by decide +kernel
theorem w_787 : Cond.methodLink "BeaconIndex" 191 ⟨"BeaconIndex$Tape", "seekRun", "(II)Z"⟩ ∈ lw_tbl := List.mem_append_right _ (List.mem_of_getElem? (i := 787) (by decide +kernel))
theorem v_B_takeWord_0 {G : XG} {d : Nat} {h : XH} {Q : XV → XH → Prop} {X : Nat → XH → Prop} (F : xFix h) (hyp : (xwp G m_Tape_seekRun (d + 7) 0 [xR 1, xI 0, xI (xpl h 1 3), xZ, xZ] [] h (fun v9 h9 => xwp G m_B_takeWord (d + 8) 16 [xR 0] (xpush v9 [xR 0]) h9 Q X) X)) : xwp G m_B_takeWord (d + 8) 0 [xR 0] [] h Q X := by
  have hnx9 : (93 : Int) ≤ xnx h := F.2.2
  refine xr_aload_n (pc := 0) (i := 0) (hI := d_B_takeWord_0) (hi := rfl) (hl := rfl) ?_
  refine xr_aload_n (pc := 1) (i := 0) (hI := d_B_takeWord_1) (hi := rfl) (hl := rfl) ?_
  refine xg_getf (pc := 2) (ci := 0) (k := 0) (N := 7) (v9 := 2) (v := 1) (T := xF0) (hI := d_B_takeWord_2) (hw := w_430) rfl xi0 (Or.inl rfl) (Nat.le_of_ble_eq_true rfl) (Nat.le_of_ble_eq_true rfl) rfl (ft_0 F) (fp_0_0 F) (fun f1_ => ?_)
  clear f1_
  refine xr_iconst (pc := 5) (hI := d_B_takeWord_5) (hr := by decide) ?_
  refine xr_aload_n (pc := 6) (i := 0) (hI := d_B_takeWord_6) (hi := rfl) (hl := rfl) ?_
  refine xg_getf (pc := 7) (ci := 0) (k := 0) (N := 7) (v9 := 2) (v := 1) (T := xF0) (hI := d_B_takeWord_7) (hw := w_430) rfl xi0 (Or.inl rfl) (Nat.le_of_ble_eq_true rfl) (Nat.le_of_ble_eq_true rfl) rfl (ft_0 F) (fp_0_0 F) (fun f2_ => ?_)
  clear f2_
  refine xg_getf (pc := 10) (ci := 8) (k := 3) (N := 7) (v9 := 0) (v := (xpl h 1 3)) (T := xF8) (hI := d_B_takeWord_10) (hw := w_58) rfl xi8 (Or.inl rfl) (Nat.le_of_ble_eq_true rfl) (Nat.le_of_ble_eq_true rfl) rfl (ft_1 F) rfl (fun f3_ => ?_)
  replace f3_ : -2147483648 ≤ (xpl h 1 3) ∧ (xpl h 1 3) ≤ 2147483647 := f3_
  exact xq_callV (pc := 13) (index := 191) (K := m_Tape_seekRun) (As := [xI 0, xI (xpl h 1 3)]) (S := [xR 0]) (L0 := [xR 1, xI 0, xI (xpl h 1 3), xZ, xZ]) (hI := d_B_takeWord_13) (hK := k_Tape_seekRun) (hlk := w_787) (hnoM := rfl) (hS8 := Nat.le_of_ble_eq_true rfl) (ci := 8) (N := 7) (C := "BeaconIndex$Tape") (T := xF8) (hc := rfl) (hci := Nat.le_of_ble_eq_true rfl) (htb := (ft_1 F)) (hinst := w_788) (hsel := w_789) (hlen := Nat.le_of_ble_eq_true rfl) (hst := rfl) (hL0 := rfl)  hyp
theorem d_B_takeWord_16 : decode prog_1_method_21_code 16 = .ok (.ifCond .eq 13, 3) := by decide +kernel
theorem d_B_takeWord_29 : decode prog_1_method_21_code 29 = .ok (.lconst 0, 1) := by decide +kernel
theorem d_B_takeWord_19 : decode prog_1_method_21_code 19 = .ok (.aload_n 0, 1) := by decide +kernel
theorem d_B_takeWord_20 : decode prog_1_method_21_code 20 = .ok (.getfield 10, 3) := by decide +kernel
theorem d_B_takeWord_23 : decode prog_1_method_21_code 23 = .ok (.invokevirtual 195, 3) := by decide +kernel
theorem w_802 : Cond.methodLink "BeaconIndex" 195 ⟨"BeaconIndex$Tape", "runWord", "()J"⟩ ∈ lw_tbl := List.mem_append_right _ (List.mem_of_getElem? (i := 802) (by decide +kernel))
theorem d_B_takeWord_26 : decode prog_1_method_21_code 26 = .ok (.goto 4, 3) := by decide +kernel
theorem v_B_takeWord_16 {G : XG} {d : Nat} {h : XH} {Q : XV → XH → Prop} {X : Nat → XH → Prop} {s0 s1 : Int} (F : xFix h) (hyp : ((s0 = 0 → (xwp G m_B_takeWord (d + 8) 30 [xR 0] [xL 0, xR s1] h Q X)) ∧ (¬ s0 = 0 → kpt h ∧ (xwp G m_B_takeWord (d + 8) 30 [xR 0] [xL (rwH h), xR s1] h Q X)))) : xwp G m_B_takeWord (d + 8) 16 [xR 0] [xI s0, xR s1] h Q X := by
  have hnx9 : (93 : Int) ≤ xnx h := F.2.2
  refine xr_okS (fun hs9 => ?_)
  have r_s0 : -2147483648 ≤ s0 ∧ s0 ≤ 2147483647 := hs9 (xI s0) (.head _)
  refine xr_if_eq (pc := 16) (tgt := 29) (hI := d_B_takeWord_16) (ht := by decide) (fun q9 => ?_) (fun q9 => ?_)
  · replace hyp := hyp.1 q9
    have q1_ := q9
    clear q9
    refine xr_lconst (pc := 29) (z := 0) (hI := d_B_takeWord_29) (hr := by decide) (hv := by decide) ?_
    exact hyp
  · replace hyp := hyp.2 q9
    have q1_ := q9
    clear q9
    refine xr_aload_n (pc := 19) (i := 0) (hI := d_B_takeWord_19) (hi := rfl) (hl := rfl) ?_
    refine xg_getf (pc := 20) (ci := 0) (k := 0) (N := 7) (v9 := 2) (v := 1) (T := xF0) (hI := d_B_takeWord_20) (hw := w_430) rfl xi0 (Or.inl rfl) (Nat.le_of_ble_eq_true rfl) (Nat.le_of_ble_eq_true rfl) rfl (ft_0 F) (fp_0_0 F) (fun f2_ => ?_)
    clear f2_
    obtain ⟨c3_, hyp⟩ := hyp
    refine xq_callV (pc := 23) (index := 195) (K := m_Tape_runWord) (As := []) (S := [xR s1]) (L0 := [xR 1]) (hI := d_B_takeWord_23) (hK := k_Tape_runWord) (hlk := w_802) (hnoM := rfl) (hS8 := Nat.le_of_ble_eq_true rfl) (ci := 8) (N := 7) (C := "BeaconIndex$Tape") (T := xF8) (hc := rfl) (hci := Nat.le_of_ble_eq_true rfl) (htb := (ft_1 F)) (hinst := w_803) (hsel := w_804) (hlen := Nat.le_of_ble_eq_true rfl) (hst := rfl) (hL0 := rfl)  (p_Tape_runWord F c3_ ?_)
    show xwp G m_B_takeWord (d + 8) 26 [xR 0] [xL (rwH h), xR s1] _ _ _
    refine xr_goto (pc := 26) (tgt := 30) (hI := d_B_takeWord_26) (ht := by decide) ?_
    exact hyp
theorem d_B_takeWord_30 : decode prog_1_method_21_code 30 = .ok (.putfield 44, 3) := by decide +kernel
theorem w_435 : Cond.fieldLink "BeaconIndex" 44 "BeaconIndex" "word" "J" ∈ lw_tbl := List.mem_append_right _ (List.mem_of_getElem? (i := 435) (by decide +kernel))
theorem xtk_0_5 : xfTK 0 5 = true := by decide +kernel
theorem d_B_takeWord_33 : decode prog_1_method_21_code 33 = .ok (.aload_n 0, 1) := by decide +kernel
theorem d_B_takeWord_34 : decode prog_1_method_21_code 34 = .ok (.getfield 10, 3) := by decide +kernel
theorem d_B_takeWord_37 : decode prog_1_method_21_code 37 = .ok (.iconst 0, 1) := by decide +kernel
theorem d_B_takeWord_38 : decode prog_1_method_21_code 38 = .ok (.putfield 55, 3) := by decide +kernel
theorem d_B_takeWord_41 : decode prog_1_method_21_code 41 = .ok (.aload_n 0, 1) := by decide +kernel
theorem d_B_takeWord_42 : decode prog_1_method_21_code 42 = .ok (.getfield 44, 3) := by decide +kernel
theorem d_B_takeWord_45 : decode prog_1_method_21_code 45 = .ok (.invokestatic 199, 3) := by decide +kernel
theorem w_870 : Cond.methodLink "BeaconIndex" 199 ⟨"BeaconIndex$Words", "sizeOf", "(J)I"⟩ ∈ lw_tbl := List.mem_append_right _ (List.mem_of_getElem? (i := 870) (by decide +kernel))
theorem d_B_takeWord_48 : decode prog_1_method_21_code 48 = .ok (.ireturn, 1) := by decide +kernel
theorem v_B_takeWord_30 {G : XG} {d : Nat} {h : XH} {Q : XV → XH → Prop} {X : Nat → XH → Prop} {s0 s1 : Int} (F : xFix h) (hyp : xtg h s1 = 0 ∧ 0 ≤ s1 ∧ (xFix (xst (xst h s1 5 s0) 1 3 0) → Q (xI (wsz (xpl (xst h s1 5 s0) 0 5))) (xst (xst h s1 5 s0) 1 3 0))) : xwp G m_B_takeWord (d + 8) 30 [xR 0] [xL s0, xR s1] h Q X := by
  have hnx9 : (93 : Int) ≤ xnx h := F.2.2
  refine xr_okS (fun hs9 => ?_)
  have r_s0 : -9223372036854775808 ≤ s0 ∧ s0 ≤ 9223372036854775807 := hs9 (xL s0) (.head _)
  obtain ⟨c9, hyp⟩ := hyp
  have t1_ := c9
  clear c9
  obtain ⟨c2_, hyp⟩ := hyp
  refine xr_putf (pc := 30) (ci := 0) (k := 5) (N := 7) (v9 := 1) (T := xF0) (tF := xT0) (hI := d_B_takeWord_30) (hw := w_435) rfl xi0 xt0 xn0 (Or.inl rfl) (Nat.le_of_ble_eq_true rfl) (Nat.le_of_ble_eq_true rfl) rfl xfit_l rfl t1_ c2_ (fun z => z) ?_
  have F3_ : xFix (xst h s1 5 s0) := F.stT (t := 0) c2_ t1_ xtk_0_5
  refine xr_aload_n (pc := 33) (i := 0) (hI := d_B_takeWord_33) (hi := rfl) (hl := rfl) ?_
  refine xg_getf (pc := 34) (ci := 0) (k := 0) (N := 7) (v9 := 2) (v := 1) (T := xF0) (hI := d_B_takeWord_34) (hw := w_430) rfl xi0 (Or.inl rfl) (Nat.le_of_ble_eq_true rfl) (Nat.le_of_ble_eq_true rfl) rfl (ft_0 F3_) (fp_0_0 F3_) (fun f4_ => ?_)
  clear f4_
  refine xr_iconst (pc := 37) (hI := d_B_takeWord_37) (hr := by decide) ?_
  refine xr_putf (pc := 38) (ci := 8) (k := 3) (N := 7) (v9 := 0) (T := xF8) (tF := xT8) (hI := d_B_takeWord_38) (hw := w_58) rfl xi8 xt8 xn8 (Or.inl rfl) (Nat.le_of_ble_eq_true rfl) (Nat.le_of_ble_eq_true rfl) rfl xfit_i rfl (ft_1 F3_) (by decide) (fun z => z) ?_
  have F5_ : xFix (xst (xst h s1 5 s0) 1 3 0) := F3_.stL xfk_1_3
  refine xr_aload_n (pc := 41) (i := 0) (hI := d_B_takeWord_41) (hi := rfl) (hl := rfl) ?_
  refine xg_getf (pc := 42) (ci := 0) (k := 5) (N := 7) (v9 := 1) (v := (xpl (xst h s1 5 s0) 0 5)) (T := xF0) (hI := d_B_takeWord_42) (hw := w_435) rfl xi0 (Or.inl rfl) (Nat.le_of_ble_eq_true rfl) (Nat.le_of_ble_eq_true rfl) rfl (ft_0 F5_) (xpl_oa (by decide)) (fun f6_ => ?_)
  replace f6_ : -9223372036854775808 ≤ (xpl (xst h s1 5 s0) 0 5) ∧ (xpl (xst h s1 5 s0) 0 5) ≤ 9223372036854775807 := f6_
  refine xq_callS (pc := 45) (index := 199) (K := m_Words_sizeOf) (As := [xL (xpl (xst h s1 5 s0) 0 5)]) (S := []) (L0 := [xL (xpl (xst h s1 5 s0) 0 5), xZ, xZ]) (hI := d_B_takeWord_45) (hK := k_Words_sizeOf) (hlk := w_870) (hnoM := rfl) (hS8 := Nat.le_of_ble_eq_true rfl) (hstat := w_871) (hlen := Nat.le_of_ble_eq_true rfl) (hst := rfl) (hL0 := rfl)  (p_Words_sizeOf F5_  ?_)
  show xwp G m_B_takeWord (d + 8) 48 [xR 0] [xI (wsz (xpl (xst h s1 5 s0) 0 5))] _ _ _
  have f7_ : 0 ≤ (wsz (xpl (xst h s1 5 s0) 0 5)) ∧ (wsz (xpl (xst h s1 5 s0) 0 5)) ≤ 12 := wsz_rng _
  refine xr_ireturn (S := []) (pc := 48) (hI := d_B_takeWord_48) (hr := rfl) ?_
  exact hyp F5_
abbrev m_B_wordByte : XM := (⟨"BeaconIndex", "wordByte", "(I)I"⟩, prog_1_method_22_code, 2, (some .int), [])
theorem d_B_wordByte_0 : decode prog_1_method_22_code 0 = .ok (.iload_n 1, 1) := by decide +kernel
theorem d_B_wordByte_1 : decode prog_1_method_22_code 1 = .ok (.ifCond .lt 14, 3) := by decide +kernel
theorem d_B_wordByte_15 : decode prog_1_method_22_code 15 = .ok (.new 204, 3) := by decide +kernel
theorem d_B_wordByte_18 : decode prog_1_method_22_code 18 = .ok (.dup, 1) := by decide +kernel
theorem d_B_wordByte_19 : decode prog_1_method_22_code 19 = .ok (.invokespecial 206, 3) := by decide +kernel
theorem d_B_wordByte_22 : decode prog_1_method_22_code 22 = .ok (.athrow, 1) := by decide +kernel
theorem d_B_wordByte_4 : decode prog_1_method_22_code 4 = .ok (.iload_n 1, 1) := by decide +kernel
theorem d_B_wordByte_5 : decode prog_1_method_22_code 5 = .ok (.aload_n 0, 1) := by decide +kernel
theorem d_B_wordByte_6 : decode prog_1_method_22_code 6 = .ok (.getfield 44, 3) := by decide +kernel
theorem d_B_wordByte_9 : decode prog_1_method_22_code 9 = .ok (.invokestatic 199, 3) := by decide +kernel
theorem d_B_wordByte_12 : decode prog_1_method_22_code 12 = .ok (.if_icmp .lt 11, 3) := by decide +kernel
theorem d_B_wordByte_23 : decode prog_1_method_22_code 23 = .ok (.aload_n 0, 1) := by decide +kernel
theorem d_B_wordByte_24 : decode prog_1_method_22_code 24 = .ok (.getfield 44, 3) := by decide +kernel
theorem d_B_wordByte_27 : decode prog_1_method_22_code 27 = .ok (.iload_n 1, 1) := by decide +kernel
theorem d_B_wordByte_28 : decode prog_1_method_22_code 28 = .ok (.invokestatic 207, 3) := by decide +kernel
theorem w_1213 : Cond.methodLink "BeaconIndex" 207 ⟨"BeaconIndex$Words", "signAt", "(JI)I"⟩ ∈ lw_tbl := List.mem_append_right _ (List.mem_of_getElem? (i := 1213) (by decide +kernel))
theorem d_B_wordByte_31 : decode prog_1_method_22_code 31 = .ok (.invokestatic 211, 3) := by decide +kernel
theorem w_1214 : Cond.methodLink "BeaconIndex" 211 ⟨"BeaconIndex$Words", "byteOf", "(I)I"⟩ ∈ lw_tbl := List.mem_append_right _ (List.mem_of_getElem? (i := 1214) (by decide +kernel))
theorem d_B_wordByte_34 : decode prog_1_method_22_code 34 = .ok (.ireturn, 1) := by decide +kernel
theorem v_B_wordByte_0 {G : XG} {d : Nat} {h : XH} {Q : XV → XH → Prop} {X : Nat → XH → Prop} {x1 : Int} (F : xFix h) (hyp : ((x1 < 0 → xnx h + 1 ≤ xKC ∧ xsl h + 6 ≤ xKS ∧ (xFix (xmk h 300 6 (fun _ => 0)) → X 2 (xmk h 300 6 (fun _ => 0)))) ∧ (¬ x1 < 0 → ((x1 < (wsz (xpl h 0 5)) → 0 ≤ (sat (xpl h 0 5) x1) ∧ (Q (xI (byt (sat (xpl h 0 5) x1))) h)) ∧ (¬ x1 < (wsz (xpl h 0 5)) → xnx h + 1 ≤ xKC ∧ xsl h + 6 ≤ xKS ∧ (xFix (xmk h 300 6 (fun _ => 0)) → X 2 (xmk h 300 6 (fun _ => 0)))))))) : xwp G m_B_wordByte (d + 7) 0 [xR 0, xI x1] [] h Q X := by
  have hnx9 : (93 : Int) ≤ xnx h := F.2.2
  refine xr_okL (fun hl9 => ?_)
  have r_x1 : -2147483648 ≤ x1 ∧ x1 ≤ 2147483647 := hl9 (xI x1) (.tail _ (.head _)) (Nat.le_of_ble_eq_true rfl)
  refine xr_iload_n (pc := 0) (i := 1) (hI := d_B_wordByte_0) (hi := rfl) (hl := rfl) ?_
  refine xr_if_lt (pc := 1) (tgt := 15) (hI := d_B_wordByte_1) (ht := by decide) (fun q9 => ?_) (fun q9 => ?_)
  · replace hyp := hyp.1 q9
    have q1_ := q9
    clear q9
    obtain ⟨c7, c8, hyp⟩ := hyp
    exact xr_throw (pc := 15) (k := 2) (ik := 204) (ic := 206) (names := ["java/lang/RuntimeException", "java/lang/Exception"]) (by decide +kernel) (by decide +kernel) (by decide) w_1101 w_32 thr_B_206.1 thr_B_206.2 d_B_wordByte_15 d_B_wordByte_18 d_B_wordByte_19 d_B_wordByte_22 rfl (Nat.le_of_ble_eq_true rfl) (Nat.le_add_left_of_le (by decide)) (Nat.le_of_ble_eq_true rfl) c7 c8 (hyp (xFix.mk F))
  · replace hyp := hyp.2 q9
    have q1_ := q9
    clear q9
    refine xr_iload_n (pc := 4) (i := 1) (hI := d_B_wordByte_4) (hi := rfl) (hl := rfl) ?_
    refine xr_aload_n (pc := 5) (i := 0) (hI := d_B_wordByte_5) (hi := rfl) (hl := rfl) ?_
    refine xg_getf (pc := 6) (ci := 0) (k := 5) (N := 7) (v9 := 1) (v := (xpl h 0 5)) (T := xF0) (hI := d_B_wordByte_6) (hw := w_435) rfl xi0 (Or.inl rfl) (Nat.le_of_ble_eq_true rfl) (Nat.le_of_ble_eq_true rfl) rfl (ft_0 F) rfl (fun f2_ => ?_)
    replace f2_ : -9223372036854775808 ≤ (xpl h 0 5) ∧ (xpl h 0 5) ≤ 9223372036854775807 := f2_
    refine xq_callS (pc := 9) (index := 199) (K := m_Words_sizeOf) (As := [xL (xpl h 0 5)]) (S := [xI x1]) (L0 := [xL (xpl h 0 5), xZ, xZ]) (hI := d_B_wordByte_9) (hK := k_Words_sizeOf) (hlk := w_870) (hnoM := rfl) (hS8 := Nat.le_of_ble_eq_true rfl) (hstat := w_871) (hlen := Nat.le_of_ble_eq_true rfl) (hst := rfl) (hL0 := rfl)  (p_Words_sizeOf F  ?_)
    show xwp G m_B_wordByte (d + 7) 12 [xR 0, xI x1] [xI (wsz (xpl h 0 5)), xI x1] _ _ _
    have f3_ : 0 ≤ (wsz (xpl h 0 5)) ∧ (wsz (xpl h 0 5)) ≤ 12 := wsz_rng _
    refine xr_icmp_lt (pc := 12) (tgt := 23) (hI := d_B_wordByte_12) (ht := by decide) (fun q9 => ?_) (fun q9 => ?_)
    · replace hyp := hyp.1 q9
      have q4_ := q9
      clear q9
      refine xr_aload_n (pc := 23) (i := 0) (hI := d_B_wordByte_23) (hi := rfl) (hl := rfl) ?_
      refine xg_getf (pc := 24) (ci := 0) (k := 5) (N := 7) (v9 := 1) (v := (xpl h 0 5)) (T := xF0) (hI := d_B_wordByte_24) (hw := w_435) rfl xi0 (Or.inl rfl) (Nat.le_of_ble_eq_true rfl) (Nat.le_of_ble_eq_true rfl) rfl (ft_0 F) rfl (fun f5_ => ?_)
      replace f5_ : -9223372036854775808 ≤ (xpl h 0 5) ∧ (xpl h 0 5) ≤ 9223372036854775807 := f5_
      refine xr_iload_n (pc := 27) (i := 1) (hI := d_B_wordByte_27) (hi := rfl) (hl := rfl) ?_
      refine xq_callS (pc := 28) (index := 207) (K := m_Words_signAt) (As := [xL (xpl h 0 5), xI x1]) (S := []) (L0 := [xL (xpl h 0 5), xZ, xI x1]) (hI := d_B_wordByte_28) (hK := k_Words_signAt) (hlk := w_1213) (hnoM := rfl) (hS8 := Nat.le_of_ble_eq_true rfl) (hstat := w_874) (hlen := Nat.le_of_ble_eq_true rfl) (hst := rfl) (hL0 := rfl)  (p_Words_signAt F (by clear hyp; omega) (by clear hyp; omega) ?_)
      show xwp G m_B_wordByte (d + 7) 31 [xR 0, xI x1] [xI (sat (xpl h 0 5) x1)] _ _ _
      have f6_ : (-36) ≤ (sat (xpl h 0 5) x1) ∧ (sat (xpl h 0 5) x1) ≤ 36 := sat_rng _ _
      obtain ⟨c7_, hyp⟩ := hyp
      refine xq_callS (pc := 31) (index := 211) (K := m_Words_byteOf) (As := [xI (sat (xpl h 0 5) x1)]) (S := []) (L0 := [xI (sat (xpl h 0 5) x1)]) (hI := d_B_wordByte_31) (hK := k_Words_byteOf) (hlk := w_1214) (hnoM := rfl) (hS8 := Nat.le_of_ble_eq_true rfl) (hstat := w_800) (hlen := Nat.le_of_ble_eq_true rfl) (hst := rfl) (hL0 := rfl)  (p_Words_byteOf F c7_ (by clear hyp; omega) ?_)
      show xwp G m_B_wordByte (d + 7) 34 [xR 0, xI x1] [xI (byt (sat (xpl h 0 5) x1))] _ _ _
      refine xr_ireturn (S := []) (pc := 34) (hI := d_B_wordByte_34) (hr := rfl) ?_
      exact hyp
    · replace hyp := hyp.2 q9
      have q4_ := q9
      clear q9
      obtain ⟨c7, c8, hyp⟩ := hyp
      exact xr_throw (pc := 15) (k := 2) (ik := 204) (ic := 206) (names := ["java/lang/RuntimeException", "java/lang/Exception"]) (by decide +kernel) (by decide +kernel) (by decide) w_1101 w_32 thr_B_206.1 thr_B_206.2 d_B_wordByte_15 d_B_wordByte_18 d_B_wordByte_19 d_B_wordByte_22 rfl (Nat.le_of_ble_eq_true rfl) (Nat.le_add_left_of_le (by decide)) (Nat.le_of_ble_eq_true rfl) c7 c8 (hyp (xFix.mk F))
abbrev m_B_textsWith : XM := (⟨"BeaconIndex", "textsWith", "(I)I"⟩, prog_1_method_23_code, 4, (some .int), [])
theorem d_B_textsWith_0 : decode prog_1_method_23_code 0 = .ok (.iload_n 1, 1) := by decide +kernel
theorem d_B_textsWith_1 : decode prog_1_method_23_code 1 = .ok (.invokestatic 146, 3) := by decide +kernel
theorem d_B_textsWith_4 : decode prog_1_method_23_code 4 = .ok (.iconst 0, 1) := by decide +kernel
theorem d_B_textsWith_5 : decode prog_1_method_23_code 5 = .ok (.istore_n 2, 1) := by decide +kernel
theorem d_B_textsWith_6 : decode prog_1_method_23_code 6 = .ok (.iconst 0, 1) := by decide +kernel
theorem d_B_textsWith_7 : decode prog_1_method_23_code 7 = .ok (.istore_n 3, 1) := by decide +kernel
theorem v_B_textsWith_0 {G : XG} {d : Nat} {h : XH} {Q : XV → XH → Prop} {X : Nat → XH → Prop} {x1 : Int} (F : xFix h) (hyp : ((x1 < 0 → xnx h + 1 ≤ xKC ∧ xsl h + 6 ≤ xKS ∧ (xFix (xmk h 300 6 (fun _ => 0)) → X 2 (xmk h 300 6 (fun _ => 0)))) ∧ (¬ x1 < 0 → ((x1 < 2 → (xwp G m_B_textsWith (d + 8) 8 [xR 0, xI x1, xI 0, xI 0] [] h Q X)) ∧ (¬ x1 < 2 → xnx h + 1 ≤ xKC ∧ xsl h + 6 ≤ xKS ∧ (xFix (xmk h 300 6 (fun _ => 0)) → X 2 (xmk h 300 6 (fun _ => 0)))))))) : xwp G m_B_textsWith (d + 8) 0 [xR 0, xI x1, xZ, xZ] [] h Q X := by
  have hnx9 : (93 : Int) ≤ xnx h := F.2.2
  refine xr_okL (fun hl9 => ?_)
  have r_x1 : -2147483648 ≤ x1 ∧ x1 ≤ 2147483647 := hl9 (xI x1) (.tail _ (.head _)) (Nat.le_of_ble_eq_true rfl)
  refine xr_iload_n (pc := 0) (i := 1) (hI := d_B_textsWith_0) (hi := rfl) (hl := rfl) ?_
  refine xq_callS (pc := 1) (index := 146) (K := m_B_checkField) (As := [xI x1]) (S := []) (L0 := [xI x1]) (hI := d_B_textsWith_1) (hK := k_B_checkField) (hlk := w_1181) (hnoM := rfl) (hS8 := Nat.le_of_ble_eq_true rfl) (hstat := w_1182) (hlen := Nat.le_of_ble_eq_true rfl) (hst := rfl) (hL0 := rfl)  ?_
  refine xr_iload_n (pc := 0) (i := 0) (hI := d_B_checkField_0) (hi := rfl) (hl := rfl) ?_
  refine xr_if_lt (pc := 1) (tgt := 9) (hI := d_B_checkField_1) (ht := by decide) (fun q9 => ?_) (fun q9 => ?_)
  · replace hyp := hyp.1 q9
    have q1_ := q9
    clear q9
    obtain ⟨c7, c8, hyp⟩ := hyp
    exact xr_throw (pc := 9) (k := 2) (ik := 204) (ic := 206) (names := ["java/lang/RuntimeException", "java/lang/Exception"]) (by decide +kernel) (by decide +kernel) (by decide) w_1101 w_32 thr_B_206.1 thr_B_206.2 d_B_checkField_9 d_B_checkField_12 d_B_checkField_13 d_B_checkField_16 rfl (Nat.le_of_ble_eq_true rfl) (Nat.le_add_left_of_le (by decide)) (Nat.le_of_ble_eq_true rfl) c7 c8 (hyp (xFix.mk F))
  · replace hyp := hyp.2 q9
    have q1_ := q9
    clear q9
    refine xr_iload_n (pc := 4) (i := 0) (hI := d_B_checkField_4) (hi := rfl) (hl := rfl) ?_
    refine xr_iconst (pc := 5) (hI := d_B_checkField_5) (hr := by decide) ?_
    refine xr_icmp_lt (pc := 6) (tgt := 17) (hI := d_B_checkField_6) (ht := by decide) (fun q9 => ?_) (fun q9 => ?_)
    · replace hyp := hyp.1 q9
      have q2_ := q9
      clear q9
      refine xr_return (S := []) (pc := 17) (hI := d_B_checkField_17) (hr := rfl) ?_
      show xwp G m_B_textsWith (d + 8) 4 [xR 0, xI x1, xZ, xZ] [] _ _ _
      refine xr_iconst (pc := 4) (hI := d_B_textsWith_4) (hr := by decide) ?_
      refine xr_istore_n (pc := 5) (i := 2) (L9 := [xR 0, xI x1, xI 0, xZ]) (hI := d_B_textsWith_5) (hi := rfl) (hn := Nat.le_of_ble_eq_true rfl) (hL9 := rfl) ?_
      refine xr_iconst (pc := 6) (hI := d_B_textsWith_6) (hr := by decide) ?_
      refine xr_istore_n (pc := 7) (i := 3) (L9 := [xR 0, xI x1, xI 0, xI 0]) (hI := d_B_textsWith_7) (hi := rfl) (hn := Nat.le_of_ble_eq_true rfl) (hL9 := rfl) ?_
      exact hyp
    · replace hyp := hyp.2 q9
      have q2_ := q9
      clear q9
      obtain ⟨c7, c8, hyp⟩ := hyp
      exact xr_throw (pc := 9) (k := 2) (ik := 204) (ic := 206) (names := ["java/lang/RuntimeException", "java/lang/Exception"]) (by decide +kernel) (by decide +kernel) (by decide) w_1101 w_32 thr_B_206.1 thr_B_206.2 d_B_checkField_9 d_B_checkField_12 d_B_checkField_13 d_B_checkField_16 rfl (Nat.le_of_ble_eq_true rfl) (Nat.le_add_left_of_le (by decide)) (Nat.le_of_ble_eq_true rfl) c7 c8 (hyp (xFix.mk F))
theorem d_B_textsWith_8 : decode prog_1_method_23_code 8 = .ok (.iload_n 3, 1) := by decide +kernel
theorem d_B_textsWith_9 : decode prog_1_method_23_code 9 = .ok (.aload_n 0, 1) := by decide +kernel
theorem d_B_textsWith_10 : decode prog_1_method_23_code 10 = .ok (.getfield 19, 3) := by decide +kernel
theorem d_B_textsWith_13 : decode prog_1_method_23_code 13 = .ok (.getfield 96, 3) := by decide +kernel
theorem d_B_textsWith_16 : decode prog_1_method_23_code 16 = .ok (.invokevirtual 128, 3) := by decide +kernel
theorem d_B_textsWith_19 : decode prog_1_method_23_code 19 = .ok (.if_icmp .ge 31, 3) := by decide +kernel
theorem d_B_textsWith_50 : decode prog_1_method_23_code 50 = .ok (.iload_n 2, 1) := by decide +kernel
theorem d_B_textsWith_51 : decode prog_1_method_23_code 51 = .ok (.ireturn, 1) := by decide +kernel
theorem d_B_textsWith_22 : decode prog_1_method_23_code 22 = .ok (.aload_n 0, 1) := by decide +kernel
theorem d_B_textsWith_23 : decode prog_1_method_23_code 23 = .ok (.getfield 19, 3) := by decide +kernel
theorem d_B_textsWith_26 : decode prog_1_method_23_code 26 = .ok (.iload_n 3, 1) := by decide +kernel
theorem d_B_textsWith_27 : decode prog_1_method_23_code 27 = .ok (.invokevirtual 154, 3) := by decide +kernel
theorem d_B_textsWith_30 : decode prog_1_method_23_code 30 = .ok (.aload_n 0, 1) := by decide +kernel
theorem d_B_textsWith_31 : decode prog_1_method_23_code 31 = .ok (.getfield 44, 3) := by decide +kernel
theorem d_B_textsWith_34 : decode prog_1_method_23_code 34 = .ok (.iload_n 1, 1) := by decide +kernel
theorem d_B_textsWith_35 : decode prog_1_method_23_code 35 = .ok (.invokevirtual 214, 3) := by decide +kernel
theorem w_1219 : Cond.methodLink "BeaconIndex" 214 ⟨"BeaconIndex$Text", "timesOf", "(JI)I"⟩ ∈ lw_tbl := List.mem_append_right _ (List.mem_of_getElem? (i := 1219) (by decide +kernel))
theorem d_B_textsWith_38 : decode prog_1_method_23_code 38 = .ok (.ifCond .le 6, 3) := by decide +kernel
theorem d_B_textsWith_44 : decode prog_1_method_23_code 44 = .ok (.iinc 3 1, 3) := by decide +kernel
theorem d_B_textsWith_47 : decode prog_1_method_23_code 47 = .ok (.goto (-39), 3) := by decide +kernel
theorem d_B_textsWith_41 : decode prog_1_method_23_code 41 = .ok (.iinc 2 1, 3) := by decide +kernel
theorem v_B_textsWith_8 {G : XG} {d : Nat} {h : XH} {Q : XV → XH → Prop} {X : Nat → XH → Prop} {x1 x2 x3 : Int} (F : xFix h) (hyp : alok h 7 ∧ (((als h 7) ≤ x3 → (Q (xI x2) h)) ∧ (¬ (als h 7) ≤ x3 → stok h ∧ (((cntR h (txr h (fat h x3) x1) (xpl h 0 5)) ≤ 0 → (xwp G m_B_textsWith (d + 8) 8 [xR 0, xI x1, xI x2, xI (x3 + 1)] [] h Q X)) ∧ (¬ (cntR h (txr h (fat h x3) x1) (xpl h 0 5)) ≤ 0 → xiR (x2 + 1) ∧ (xwp G m_B_textsWith (d + 8) 8 [xR 0, xI x1, xI (x2 + 1), xI (x3 + 1)] [] h Q X)))))) : xwp G m_B_textsWith (d + 8) 8 [xR 0, xI x1, xI x2, xI x3] [] h Q X := by
  have hnx9 : (93 : Int) ≤ xnx h := F.2.2
  refine xr_okL (fun hl9 => ?_)
  have r_x1 : -2147483648 ≤ x1 ∧ x1 ≤ 2147483647 := hl9 (xI x1) (.tail _ (.head _)) (Nat.le_of_ble_eq_true rfl)
  have r_x2 : -2147483648 ≤ x2 ∧ x2 ≤ 2147483647 := hl9 (xI x2) (.tail _ (.tail _ (.head _))) (Nat.le_of_ble_eq_true rfl)
  have r_x3 : -2147483648 ≤ x3 ∧ x3 ≤ 2147483647 := hl9 (xI x3) (.tail _ (.tail _ (.tail _ (.head _)))) (Nat.le_of_ble_eq_true rfl)
  refine xr_iload_n (pc := 8) (i := 3) (hI := d_B_textsWith_8) (hi := rfl) (hl := rfl) ?_
  refine xr_aload_n (pc := 9) (i := 0) (hI := d_B_textsWith_9) (hi := rfl) (hl := rfl) ?_
  refine xg_getf (pc := 10) (ci := 0) (k := 1) (N := 7) (v9 := 2) (v := 5) (T := xF0) (hI := d_B_textsWith_10) (hw := w_431) rfl xi0 (Or.inl rfl) (Nat.le_of_ble_eq_true rfl) (Nat.le_of_ble_eq_true rfl) rfl (ft_0 F) (fp_0_1 F) (fun f1_ => ?_)
  clear f1_
  refine xg_getf (pc := 13) (ci := 7) (k := 1) (N := 6) (v9 := 2) (v := 7) (T := xF7) (hI := d_B_textsWith_13) (hw := w_151) rfl xi7 (Or.inl rfl) (Nat.le_of_ble_eq_true rfl) (Nat.le_of_ble_eq_true rfl) rfl (ft_5 F) (fp_5_1 F) (fun f2_ => ?_)
  clear f2_
  obtain ⟨c3_, hyp⟩ := hyp
  refine xq_callV (pc := 16) (index := 128) (K := m_ArrayList_size) (As := []) (S := [xI x3]) (L0 := [xR 7]) (hI := d_B_textsWith_16) (hK := k_ArrayList_size) (hlk := w_774) (hnoM := rfl) (hS8 := Nat.le_of_ble_eq_true rfl) (ci := 13) (N := 3) (C := "java/util/ArrayList") (T := xF13) (hc := rfl) (hci := Nat.le_of_ble_eq_true rfl) (htb := (ft_7 F)) (hinst := w_465) (hsel := w_466) (hlen := Nat.le_of_ble_eq_true rfl) (hst := rfl) (hL0 := rfl)  (p_AL_size F c3_ ?_)
  show xwp G m_B_textsWith (d + 8) 19 [xR 0, xI x1, xI x2, xI x3] [xI (als h 7), xI x3] _ _ _
  have f4_ : 0 ≤ (als h 7) ∧ (als h 7) ≤ 1000000 := ⟨c3_.2.2.1, c3_.2.2.2.2⟩
  refine xr_icmp_ge (pc := 19) (tgt := 50) (hI := d_B_textsWith_19) (ht := by decide) (fun q9 => ?_) (fun q9 => ?_)
  · replace hyp := hyp.1 q9
    have q5_ := q9
    clear q9
    refine xr_iload_n (pc := 50) (i := 2) (hI := d_B_textsWith_50) (hi := rfl) (hl := rfl) ?_
    refine xr_ireturn (S := []) (pc := 51) (hI := d_B_textsWith_51) (hr := rfl) ?_
    exact hyp
  · replace hyp := hyp.2 q9
    have q5_ := q9
    clear q9
    refine xr_aload_n (pc := 22) (i := 0) (hI := d_B_textsWith_22) (hi := rfl) (hl := rfl) ?_
    refine xg_getf (pc := 23) (ci := 0) (k := 1) (N := 7) (v9 := 2) (v := 5) (T := xF0) (hI := d_B_textsWith_23) (hw := w_431) rfl xi0 (Or.inl rfl) (Nat.le_of_ble_eq_true rfl) (Nat.le_of_ble_eq_true rfl) rfl (ft_0 F) (fp_0_1 F) (fun f6_ => ?_)
    clear f6_
    refine xr_iload_n (pc := 26) (i := 3) (hI := d_B_textsWith_26) (hi := rfl) (hl := rfl) ?_
    obtain ⟨c7_, hyp⟩ := hyp
    refine xq_callV (pc := 27) (index := 154) (K := m_Store_filedAt) (As := [xI x3]) (S := []) (L0 := [xR 5, xI x3]) (hI := d_B_textsWith_27) (hK := k_Store_filedAt) (hlk := w_882) (hnoM := rfl) (hS8 := Nat.le_of_ble_eq_true rfl) (ci := 7) (N := 6) (C := "BeaconIndex$Store") (T := xF7) (hc := rfl) (hci := Nat.le_of_ble_eq_true rfl) (htb := (ft_5 F)) (hinst := w_578) (hsel := w_579) (hlen := Nat.le_of_ble_eq_true rfl) (hst := rfl) (hL0 := rfl)  (p_Store_filedAt F c7_ ?_)
    show xwp G m_B_textsWith (d + 8) 30 [xR 0, xI x1, xI x2, xI x3] [xR (fat h x3)] _ _ _
    have t8_ : xtg h (fat h x3) = 9 := (fat_ok F c7_ _).1
    refine xr_aload_n (pc := 30) (i := 0) (hI := d_B_textsWith_30) (hi := rfl) (hl := rfl) ?_
    refine xg_getf (pc := 31) (ci := 0) (k := 5) (N := 7) (v9 := 1) (v := (xpl h 0 5)) (T := xF0) (hI := d_B_textsWith_31) (hw := w_435) rfl xi0 (Or.inl rfl) (Nat.le_of_ble_eq_true rfl) (Nat.le_of_ble_eq_true rfl) rfl (ft_0 F) rfl (fun f9_ => ?_)
    replace f9_ : -9223372036854775808 ≤ (xpl h 0 5) ∧ (xpl h 0 5) ≤ 9223372036854775807 := f9_
    refine xr_iload_n (pc := 34) (i := 1) (hI := d_B_textsWith_34) (hi := rfl) (hl := rfl) ?_
    refine xq_callV (pc := 35) (index := 214) (K := m_Text_timesOf) (As := [xL (xpl h 0 5), xI x1]) (S := []) (L0 := [xR (fat h x3), xL (xpl h 0 5), xZ, xI x1, xZ, xZ, xZ]) (hI := d_B_textsWith_35) (hK := k_Text_timesOf) (hlk := w_1219) (hnoM := rfl) (hS8 := Nat.le_of_ble_eq_true rfl) (ci := 9) (N := 6) (C := "BeaconIndex$Text") (T := xF9) (hc := rfl) (hci := Nat.le_of_ble_eq_true rfl) (htb := t8_) (hinst := w_1220) (hsel := w_1221) (hlen := Nat.le_of_ble_eq_true rfl) (hst := rfl) (hL0 := rfl)  (p_Text_timesOf F (fat_ok F c7_ _) ?_)
    show xwp G m_B_textsWith (d + 8) 38 [xR 0, xI x1, xI x2, xI x3] [xI (cntR h (txr h (fat h x3) x1) (xpl h 0 5))] _ _ _
    have f10_ : 0 ≤ (cntR h (txr h (fat h x3) x1) (xpl h 0 5)) ∧ (cntR h (txr h (fat h x3) x1) (xpl h 0 5)) ≤ 200 := cntR_rng (fat_ok F c7_ _) _ _
    refine xr_if_le (pc := 38) (tgt := 44) (hI := d_B_textsWith_38) (ht := by decide) (fun q9 => ?_) (fun q9 => ?_)
    · replace hyp := hyp.1 q9
      have q11_ := q9
      clear q9
      refine xr_iinc (pc := 44) (i := 3) (L9 := [xR 0, xI x1, xI x2, xI (x3 + 1)]) (hI := d_B_textsWith_44) (hl := rfl) (hn := Nat.le_of_ble_eq_true rfl) (hr := ⟨by clear hyp; omega, by clear hyp; omega⟩) (hL9 := rfl) ?_
      refine xr_goto (pc := 47) (tgt := 8) (hI := d_B_textsWith_47) (ht := by decide) ?_
      exact hyp
    · replace hyp := hyp.2 q9
      have q11_ := q9
      clear q9
      obtain ⟨c9, hyp⟩ := hyp
      refine xr_iinc (pc := 41) (i := 2) (L9 := [xR 0, xI x1, xI (x2 + 1), xI x3]) (hI := d_B_textsWith_41) (hl := rfl) (hn := Nat.le_of_ble_eq_true rfl) (hr := c9) (hL9 := rfl) ?_
      refine xr_iinc (pc := 44) (i := 3) (L9 := [xR 0, xI x1, xI (x2 + 1), xI (x3 + 1)]) (hI := d_B_textsWith_44) (hl := rfl) (hn := Nat.le_of_ble_eq_true rfl) (hr := ⟨by clear hyp; omega, by clear hyp; omega⟩) (hL9 := rfl) ?_
      refine xr_goto (pc := 47) (tgt := 8) (hI := d_B_textsWith_47) (ht := by decide) ?_
      exact hyp
abbrev m_B_timesIn : XM := (⟨"BeaconIndex", "timesIn", "(II)I"⟩, prog_1_method_24_code, 4, (some .int), [])
theorem d_B_timesIn_0 : decode prog_1_method_24_code 0 = .ok (.iload_n 1, 1) := by decide +kernel
theorem d_B_timesIn_1 : decode prog_1_method_24_code 1 = .ok (.invokestatic 69, 3) := by decide +kernel
theorem d_B_timesIn_4 : decode prog_1_method_24_code 4 = .ok (.iload_n 2, 1) := by decide +kernel
theorem d_B_timesIn_5 : decode prog_1_method_24_code 5 = .ok (.invokestatic 146, 3) := by decide +kernel
theorem d_B_timesIn_8 : decode prog_1_method_24_code 8 = .ok (.aload_n 0, 1) := by decide +kernel
theorem d_B_timesIn_9 : decode prog_1_method_24_code 9 = .ok (.getfield 19, 3) := by decide +kernel
theorem d_B_timesIn_12 : decode prog_1_method_24_code 12 = .ok (.iload_n 1, 1) := by decide +kernel
theorem d_B_timesIn_13 : decode prog_1_method_24_code 13 = .ok (.invokevirtual 113, 3) := by decide +kernel
theorem d_B_timesIn_16 : decode prog_1_method_24_code 16 = .ok (.istore_n 3, 1) := by decide +kernel
theorem d_B_timesIn_17 : decode prog_1_method_24_code 17 = .ok (.iload_n 3, 1) := by decide +kernel
theorem d_B_timesIn_18 : decode prog_1_method_24_code 18 = .ok (.iconst (-1), 1) := by decide +kernel
theorem d_B_timesIn_19 : decode prog_1_method_24_code 19 = .ok (.if_icmp .ne 7, 3) := by decide +kernel
theorem d_B_timesIn_26 : decode prog_1_method_24_code 26 = .ok (.aload_n 0, 1) := by decide +kernel
theorem d_B_timesIn_27 : decode prog_1_method_24_code 27 = .ok (.getfield 19, 3) := by decide +kernel
theorem d_B_timesIn_30 : decode prog_1_method_24_code 30 = .ok (.iload_n 3, 1) := by decide +kernel
theorem d_B_timesIn_31 : decode prog_1_method_24_code 31 = .ok (.invokevirtual 154, 3) := by decide +kernel
theorem d_B_timesIn_34 : decode prog_1_method_24_code 34 = .ok (.aload_n 0, 1) := by decide +kernel
theorem d_B_timesIn_35 : decode prog_1_method_24_code 35 = .ok (.getfield 44, 3) := by decide +kernel
theorem d_B_timesIn_38 : decode prog_1_method_24_code 38 = .ok (.iload_n 2, 1) := by decide +kernel
theorem d_B_timesIn_39 : decode prog_1_method_24_code 39 = .ok (.invokevirtual 214, 3) := by decide +kernel
theorem d_B_timesIn_42 : decode prog_1_method_24_code 42 = .ok (.ireturn, 1) := by decide +kernel
theorem d_B_timesIn_22 : decode prog_1_method_24_code 22 = .ok (.iconst 0, 1) := by decide +kernel
theorem d_B_timesIn_23 : decode prog_1_method_24_code 23 = .ok (.goto 19, 3) := by decide +kernel
theorem v_B_timesIn_0 {G : XG} {d : Nat} {h : XH} {Q : XV → XH → Prop} {X : Nat → XH → Prop} {x1 x2 : Int} (F : xFix h) (hyp : ((x1 < 0 → xnx h + 1 ≤ xKC ∧ xsl h + 6 ≤ xKS ∧ (xFix (xmk h 300 6 (fun _ => 0)) → X 0 (xmk h 300 6 (fun _ => 0)))) ∧ (¬ x1 < 0 → ((x1 < 100 → ((x2 < 0 → xnx h + 1 ≤ xKC ∧ xsl h + 6 ≤ xKS ∧ (xFix (xmk h 300 6 (fun _ => 0)) → X 2 (xmk h 300 6 (fun _ => 0)))) ∧ (¬ x2 < 0 → ((x2 < 2 → stok h ∧ (((sidx (filL h) x1) = (-1) → (Q (xI 0) h)) ∧ (¬ (sidx (filL h) x1) = (-1) → (Q (xI (cntR h (txr h (fat h (sidx (filL h) x1)) x2) (xpl h 0 5))) h)))) ∧ (¬ x2 < 2 → xnx h + 1 ≤ xKC ∧ xsl h + 6 ≤ xKS ∧ (xFix (xmk h 300 6 (fun _ => 0)) → X 2 (xmk h 300 6 (fun _ => 0)))))))) ∧ (¬ x1 < 100 → xnx h + 1 ≤ xKC ∧ xsl h + 6 ≤ xKS ∧ (xFix (xmk h 300 6 (fun _ => 0)) → X 0 (xmk h 300 6 (fun _ => 0)))))))) : xwp G m_B_timesIn (d + 8) 0 [xR 0, xI x1, xI x2, xZ] [] h Q X := by
  have hnx9 : (93 : Int) ≤ xnx h := F.2.2
  refine xr_okL (fun hl9 => ?_)
  have r_x1 : -2147483648 ≤ x1 ∧ x1 ≤ 2147483647 := hl9 (xI x1) (.tail _ (.head _)) (Nat.le_of_ble_eq_true rfl)
  have r_x2 : -2147483648 ≤ x2 ∧ x2 ≤ 2147483647 := hl9 (xI x2) (.tail _ (.tail _ (.head _))) (Nat.le_of_ble_eq_true rfl)
  refine xr_iload_n (pc := 0) (i := 1) (hI := d_B_timesIn_0) (hi := rfl) (hl := rfl) ?_
  refine xq_callS (pc := 1) (index := 69) (K := m_B_checkKey) (As := [xI x1]) (S := []) (L0 := [xI x1]) (hI := d_B_timesIn_1) (hK := k_B_checkKey) (hlk := w_1292) (hnoM := rfl) (hS8 := Nat.le_of_ble_eq_true rfl) (hstat := w_1293) (hlen := Nat.le_of_ble_eq_true rfl) (hst := rfl) (hL0 := rfl)  ?_
  refine xr_iload_n (pc := 0) (i := 0) (hI := d_B_checkKey_0) (hi := rfl) (hl := rfl) ?_
  refine xr_if_lt (pc := 1) (tgt := 10) (hI := d_B_checkKey_1) (ht := by decide) (fun q9 => ?_) (fun q9 => ?_)
  · replace hyp := hyp.1 q9
    have q1_ := q9
    clear q9
    obtain ⟨c7, c8, hyp⟩ := hyp
    exact xr_throw (pc := 10) (k := 0) (ik := 66) (ic := 68) (names := ["java/lang/RuntimeException", "java/lang/Exception"]) (by decide +kernel) (by decide +kernel) (by decide) w_1295 w_21 thr_B_68.1 thr_B_68.2 d_B_checkKey_10 d_B_checkKey_13 d_B_checkKey_14 d_B_checkKey_17 rfl (Nat.le_of_ble_eq_true rfl) (Nat.le_add_left_of_le (by decide)) (Nat.le_of_ble_eq_true rfl) c7 c8 (hyp (xFix.mk F))
  · replace hyp := hyp.2 q9
    have q1_ := q9
    clear q9
    refine xr_iload_n (pc := 4) (i := 0) (hI := d_B_checkKey_4) (hi := rfl) (hl := rfl) ?_
    refine xr_bipush (pc := 5) (hI := d_B_checkKey_5) (hr := by decide) (hv := by decide) ?_
    refine xr_icmp_lt (pc := 7) (tgt := 18) (hI := d_B_checkKey_7) (ht := by decide) (fun q9 => ?_) (fun q9 => ?_)
    · replace hyp := hyp.1 q9
      have q2_ := q9
      clear q9
      refine xr_return (S := []) (pc := 18) (hI := d_B_checkKey_18) (hr := rfl) ?_
      show xwp G m_B_timesIn (d + 8) 4 [xR 0, xI x1, xI x2, xZ] [] _ _ _
      refine xr_iload_n (pc := 4) (i := 2) (hI := d_B_timesIn_4) (hi := rfl) (hl := rfl) ?_
      refine xq_callS (pc := 5) (index := 146) (K := m_B_checkField) (As := [xI x2]) (S := []) (L0 := [xI x2]) (hI := d_B_timesIn_5) (hK := k_B_checkField) (hlk := w_1181) (hnoM := rfl) (hS8 := Nat.le_of_ble_eq_true rfl) (hstat := w_1182) (hlen := Nat.le_of_ble_eq_true rfl) (hst := rfl) (hL0 := rfl)  ?_
      refine xr_iload_n (pc := 0) (i := 0) (hI := d_B_checkField_0) (hi := rfl) (hl := rfl) ?_
      refine xr_if_lt (pc := 1) (tgt := 9) (hI := d_B_checkField_1) (ht := by decide) (fun q9 => ?_) (fun q9 => ?_)
      · replace hyp := hyp.1 q9
        have q3_ := q9
        clear q9
        obtain ⟨c7, c8, hyp⟩ := hyp
        exact xr_throw (pc := 9) (k := 2) (ik := 204) (ic := 206) (names := ["java/lang/RuntimeException", "java/lang/Exception"]) (by decide +kernel) (by decide +kernel) (by decide) w_1101 w_32 thr_B_206.1 thr_B_206.2 d_B_checkField_9 d_B_checkField_12 d_B_checkField_13 d_B_checkField_16 rfl (Nat.le_of_ble_eq_true rfl) (Nat.le_add_left_of_le (by decide)) (Nat.le_of_ble_eq_true rfl) c7 c8 (hyp (xFix.mk F))
      · replace hyp := hyp.2 q9
        have q3_ := q9
        clear q9
        refine xr_iload_n (pc := 4) (i := 0) (hI := d_B_checkField_4) (hi := rfl) (hl := rfl) ?_
        refine xr_iconst (pc := 5) (hI := d_B_checkField_5) (hr := by decide) ?_
        refine xr_icmp_lt (pc := 6) (tgt := 17) (hI := d_B_checkField_6) (ht := by decide) (fun q9 => ?_) (fun q9 => ?_)
        · replace hyp := hyp.1 q9
          have q4_ := q9
          clear q9
          refine xr_return (S := []) (pc := 17) (hI := d_B_checkField_17) (hr := rfl) ?_
          show xwp G m_B_timesIn (d + 8) 8 [xR 0, xI x1, xI x2, xZ] [] _ _ _
          refine xr_aload_n (pc := 8) (i := 0) (hI := d_B_timesIn_8) (hi := rfl) (hl := rfl) ?_
          refine xg_getf (pc := 9) (ci := 0) (k := 1) (N := 7) (v9 := 2) (v := 5) (T := xF0) (hI := d_B_timesIn_9) (hw := w_431) rfl xi0 (Or.inl rfl) (Nat.le_of_ble_eq_true rfl) (Nat.le_of_ble_eq_true rfl) rfl (ft_0 F) (fp_0_1 F) (fun f5_ => ?_)
          clear f5_
          refine xr_iload_n (pc := 12) (i := 1) (hI := d_B_timesIn_12) (hi := rfl) (hl := rfl) ?_
          obtain ⟨c6_, hyp⟩ := hyp
          refine xq_callV (pc := 13) (index := 113) (K := m_Store_placeInSegments) (As := [xI x1]) (S := []) (L0 := [xR 5, xI x1, xZ, xZ]) (hI := d_B_timesIn_13) (hK := k_Store_placeInSegments) (hlk := w_1310) (hnoM := rfl) (hS8 := Nat.le_of_ble_eq_true rfl) (ci := 7) (N := 6) (C := "BeaconIndex$Store") (T := xF7) (hc := rfl) (hci := Nat.le_of_ble_eq_true rfl) (htb := (ft_5 F)) (hinst := w_1311) (hsel := w_1312) (hlen := Nat.le_of_ble_eq_true rfl) (hst := rfl) (hL0 := rfl)  (p_Store_placeInSegments F c6_ ?_)
          show xwp G m_B_timesIn (d + 8) 16 [xR 0, xI x1, xI x2, xZ] [xI (sidx (filL h) x1)] _ _ _
          have f7_ : -1 ≤ (sidx (filL h) x1) := (idxI_rng _ _).1
          have f8_ : (sidx (filL h) x1) < als h 7 := sidx_lt c6_ _
          refine xr_istore_n (pc := 16) (i := 3) (L9 := [xR 0, xI x1, xI x2, xI (sidx (filL h) x1)]) (hI := d_B_timesIn_16) (hi := rfl) (hn := Nat.le_of_ble_eq_true rfl) (hL9 := rfl) ?_
          refine xr_iload_n (pc := 17) (i := 3) (hI := d_B_timesIn_17) (hi := rfl) (hl := rfl) ?_
          refine xr_iconst (pc := 18) (hI := d_B_timesIn_18) (hr := by decide) ?_
          refine xr_icmp_ne (pc := 19) (tgt := 26) (hI := d_B_timesIn_19) (ht := by decide) (fun q9 => ?_) (fun q9 => ?_)
          · replace hyp := hyp.2 q9
            have q9_ := q9
            clear q9
            refine xr_aload_n (pc := 26) (i := 0) (hI := d_B_timesIn_26) (hi := rfl) (hl := rfl) ?_
            refine xg_getf (pc := 27) (ci := 0) (k := 1) (N := 7) (v9 := 2) (v := 5) (T := xF0) (hI := d_B_timesIn_27) (hw := w_431) rfl xi0 (Or.inl rfl) (Nat.le_of_ble_eq_true rfl) (Nat.le_of_ble_eq_true rfl) rfl (ft_0 F) (fp_0_1 F) (fun f10_ => ?_)
            clear f10_
            refine xr_iload_n (pc := 30) (i := 3) (hI := d_B_timesIn_30) (hi := rfl) (hl := rfl) ?_
            refine xq_callV (pc := 31) (index := 154) (K := m_Store_filedAt) (As := [xI (sidx (filL h) x1)]) (S := []) (L0 := [xR 5, xI (sidx (filL h) x1)]) (hI := d_B_timesIn_31) (hK := k_Store_filedAt) (hlk := w_882) (hnoM := rfl) (hS8 := Nat.le_of_ble_eq_true rfl) (ci := 7) (N := 6) (C := "BeaconIndex$Store") (T := xF7) (hc := rfl) (hci := Nat.le_of_ble_eq_true rfl) (htb := (ft_5 F)) (hinst := w_578) (hsel := w_579) (hlen := Nat.le_of_ble_eq_true rfl) (hst := rfl) (hL0 := rfl)  (p_Store_filedAt F c6_ ?_)
            show xwp G m_B_timesIn (d + 8) 34 [xR 0, xI x1, xI x2, xI (sidx (filL h) x1)] [xR (fat h (sidx (filL h) x1))] _ _ _
            have t11_ : xtg h (fat h (sidx (filL h) x1)) = 9 := (fat_ok F c6_ _).1
            refine xr_aload_n (pc := 34) (i := 0) (hI := d_B_timesIn_34) (hi := rfl) (hl := rfl) ?_
            refine xg_getf (pc := 35) (ci := 0) (k := 5) (N := 7) (v9 := 1) (v := (xpl h 0 5)) (T := xF0) (hI := d_B_timesIn_35) (hw := w_435) rfl xi0 (Or.inl rfl) (Nat.le_of_ble_eq_true rfl) (Nat.le_of_ble_eq_true rfl) rfl (ft_0 F) rfl (fun f12_ => ?_)
            replace f12_ : -9223372036854775808 ≤ (xpl h 0 5) ∧ (xpl h 0 5) ≤ 9223372036854775807 := f12_
            refine xr_iload_n (pc := 38) (i := 2) (hI := d_B_timesIn_38) (hi := rfl) (hl := rfl) ?_
            refine xq_callV (pc := 39) (index := 214) (K := m_Text_timesOf) (As := [xL (xpl h 0 5), xI x2]) (S := []) (L0 := [xR (fat h (sidx (filL h) x1)), xL (xpl h 0 5), xZ, xI x2, xZ, xZ, xZ]) (hI := d_B_timesIn_39) (hK := k_Text_timesOf) (hlk := w_1219) (hnoM := rfl) (hS8 := Nat.le_of_ble_eq_true rfl) (ci := 9) (N := 6) (C := "BeaconIndex$Text") (T := xF9) (hc := rfl) (hci := Nat.le_of_ble_eq_true rfl) (htb := t11_) (hinst := w_1220) (hsel := w_1221) (hlen := Nat.le_of_ble_eq_true rfl) (hst := rfl) (hL0 := rfl)  (p_Text_timesOf F (fat_ok F c6_ _) ?_)
            show xwp G m_B_timesIn (d + 8) 42 [xR 0, xI x1, xI x2, xI (sidx (filL h) x1)] [xI (cntR h (txr h (fat h (sidx (filL h) x1)) x2) (xpl h 0 5))] _ _ _
            have f13_ : 0 ≤ (cntR h (txr h (fat h (sidx (filL h) x1)) x2) (xpl h 0 5)) ∧ (cntR h (txr h (fat h (sidx (filL h) x1)) x2) (xpl h 0 5)) ≤ 200 := cntR_rng (fat_ok F c6_ _) _ _
            refine xr_ireturn (S := []) (pc := 42) (hI := d_B_timesIn_42) (hr := rfl) ?_
            exact hyp
          · replace hyp := hyp.1 q9
            have q9_ := q9
            clear q9
            refine xr_iconst (pc := 22) (hI := d_B_timesIn_22) (hr := by decide) ?_
            refine xr_goto (pc := 23) (tgt := 42) (hI := d_B_timesIn_23) (ht := by decide) ?_
            refine xr_ireturn (S := []) (pc := 42) (hI := d_B_timesIn_42) (hr := rfl) ?_
            exact hyp
        · replace hyp := hyp.2 q9
          have q4_ := q9
          clear q9
          obtain ⟨c7, c8, hyp⟩ := hyp
          exact xr_throw (pc := 9) (k := 2) (ik := 204) (ic := 206) (names := ["java/lang/RuntimeException", "java/lang/Exception"]) (by decide +kernel) (by decide +kernel) (by decide) w_1101 w_32 thr_B_206.1 thr_B_206.2 d_B_checkField_9 d_B_checkField_12 d_B_checkField_13 d_B_checkField_16 rfl (Nat.le_of_ble_eq_true rfl) (Nat.le_add_left_of_le (by decide)) (Nat.le_of_ble_eq_true rfl) c7 c8 (hyp (xFix.mk F))
    · replace hyp := hyp.2 q9
      have q2_ := q9
      clear q9
      obtain ⟨c7, c8, hyp⟩ := hyp
      exact xr_throw (pc := 10) (k := 0) (ik := 66) (ic := 68) (names := ["java/lang/RuntimeException", "java/lang/Exception"]) (by decide +kernel) (by decide +kernel) (by decide) w_1295 w_21 thr_B_68.1 thr_B_68.2 d_B_checkKey_10 d_B_checkKey_13 d_B_checkKey_14 d_B_checkKey_17 rfl (Nat.le_of_ble_eq_true rfl) (Nat.le_add_left_of_le (by decide)) (Nat.le_of_ble_eq_true rfl) c7 c8 (hyp (xFix.mk F))
abbrev m_B_rarity : XM := (⟨"BeaconIndex", "rarity", "(I)I"⟩, prog_1_method_25_code, 2, (some .int), [])
theorem d_B_rarity_0 : decode prog_1_method_25_code 0 = .ok (.aload_n 0, 1) := by decide +kernel
theorem d_B_rarity_1 : decode prog_1_method_25_code 1 = .ok (.getfield 19, 3) := by decide +kernel
theorem d_B_rarity_4 : decode prog_1_method_25_code 4 = .ok (.getfield 96, 3) := by decide +kernel
theorem d_B_rarity_7 : decode prog_1_method_25_code 7 = .ok (.invokevirtual 128, 3) := by decide +kernel
theorem d_B_rarity_10 : decode prog_1_method_25_code 10 = .ok (.aload_n 0, 1) := by decide +kernel
theorem d_B_rarity_11 : decode prog_1_method_25_code 11 = .ok (.iload_n 1, 1) := by decide +kernel
theorem d_B_rarity_12 : decode prog_1_method_25_code 12 = .ok (.invokevirtual 217, 3) := by decide +kernel
theorem k_B_textsWith : xCal m_B_textsWith 1 := ⟨List.mem_append_right _ (List.mem_of_getElem? (i := 1218) (by decide +kernel)), w_1, Nat.le_of_ble_eq_true rfl, ⟨by decide +kernel, by decide +kernel⟩, by decide +kernel, by decide +kernel, rfl⟩
theorem w_1215 : Cond.methodLink "BeaconIndex" 217 ⟨"BeaconIndex", "textsWith", "(I)I"⟩ ∈ lw_tbl := List.mem_append_right _ (List.mem_of_getElem? (i := 1215) (by decide +kernel))
theorem w_1216 : Cond.instanceMethod ⟨"BeaconIndex", "textsWith", "(I)I"⟩ ∈ lw_tbl := List.mem_append_right _ (List.mem_of_getElem? (i := 1216) (by decide +kernel))
theorem w_1217 : Cond.selects "BeaconIndex" ⟨"BeaconIndex", "textsWith", "(I)I"⟩ ⟨"BeaconIndex", "textsWith", "(I)I"⟩ ∈ lw_tbl := List.mem_append_right _ (List.mem_of_getElem? (i := 1217) (by decide +kernel))
theorem v_B_rarity_0 {G : XG} {d : Nat} {h : XH} {Q : XV → XH → Prop} {X : Nat → XH → Prop} {x1 : Int} (F : xFix h) (hyp : alok h 7 ∧ (xwp G m_B_textsWith (d + 8) 0 [xR 0, xI x1, xZ, xZ] [] h (fun v9 h9 => xwp G m_B_rarity (d + 9) 15 [xZ, xZ] (xpush v9 [xI (als h 7)]) h9 Q X) X)) : xwp G m_B_rarity (d + 9) 0 [xR 0, xI x1] [] h Q X := by
  have hnx9 : (93 : Int) ≤ xnx h := F.2.2
  refine xr_okL (fun hl9 => ?_)
  have r_x1 : -2147483648 ≤ x1 ∧ x1 ≤ 2147483647 := hl9 (xI x1) (.tail _ (.head _)) (Nat.le_of_ble_eq_true rfl)
  refine xr_aload_n (pc := 0) (i := 0) (hI := d_B_rarity_0) (hi := rfl) (hl := rfl) ?_
  refine xg_getf (pc := 1) (ci := 0) (k := 1) (N := 7) (v9 := 2) (v := 5) (T := xF0) (hI := d_B_rarity_1) (hw := w_431) rfl xi0 (Or.inl rfl) (Nat.le_of_ble_eq_true rfl) (Nat.le_of_ble_eq_true rfl) rfl (ft_0 F) (fp_0_1 F) (fun f1_ => ?_)
  clear f1_
  refine xg_getf (pc := 4) (ci := 7) (k := 1) (N := 6) (v9 := 2) (v := 7) (T := xF7) (hI := d_B_rarity_4) (hw := w_151) rfl xi7 (Or.inl rfl) (Nat.le_of_ble_eq_true rfl) (Nat.le_of_ble_eq_true rfl) rfl (ft_5 F) (fp_5_1 F) (fun f2_ => ?_)
  clear f2_
  obtain ⟨c3_, hyp⟩ := hyp
  refine xq_callV (pc := 7) (index := 128) (K := m_ArrayList_size) (As := []) (S := []) (L0 := [xR 7]) (hI := d_B_rarity_7) (hK := k_ArrayList_size) (hlk := w_774) (hnoM := rfl) (hS8 := Nat.le_of_ble_eq_true rfl) (ci := 13) (N := 3) (C := "java/util/ArrayList") (T := xF13) (hc := rfl) (hci := Nat.le_of_ble_eq_true rfl) (htb := (ft_7 F)) (hinst := w_465) (hsel := w_466) (hlen := Nat.le_of_ble_eq_true rfl) (hst := rfl) (hL0 := rfl)  (p_AL_size F c3_ ?_)
  show xwp G m_B_rarity (d + 9) 10 [xR 0, xI x1] [xI (als h 7)] _ _ _
  have f4_ : 0 ≤ (als h 7) ∧ (als h 7) ≤ 1000000 := ⟨c3_.2.2.1, c3_.2.2.2.2⟩
  refine xr_aload_n (pc := 10) (i := 0) (hI := d_B_rarity_10) (hi := rfl) (hl := rfl) ?_
  refine xr_iload_n (pc := 11) (i := 1) (hI := d_B_rarity_11) (hi := rfl) (hl := rfl) ?_
  exact xq_callV (pc := 12) (index := 217) (K := m_B_textsWith) (As := [xI x1]) (S := [xI (als h 7)]) (L0 := [xR 0, xI x1, xZ, xZ]) (hI := d_B_rarity_12) (hK := k_B_textsWith) (hlk := w_1215) (hnoM := rfl) (hS8 := Nat.le_of_ble_eq_true rfl) (ci := 0) (N := 7) (C := "BeaconIndex") (T := xF0) (hc := rfl) (hci := Nat.le_of_ble_eq_true rfl) (htb := (ft_0 F)) (hinst := w_1216) (hsel := w_1217) (hlen := Nat.le_of_ble_eq_true rfl) (hst := rfl) (hL0 := rfl)  (xwp_mono hyp (fun v9 h9 q9 => xr_drop (L9 := [xZ, xZ]) (xdrz (xdrz xdr0)) q9) (fun _ _ z9 => z9))
theorem d_B_rarity_15 : decode prog_1_method_25_code 15 = .ok (.invokestatic 220, 3) := by decide +kernel
theorem w_1228 : Cond.methodLink "BeaconIndex" 220 ⟨"BeaconIndex$Fits", "rarityOf", "(II)I"⟩ ∈ lw_tbl := List.mem_append_right _ (List.mem_of_getElem? (i := 1228) (by decide +kernel))
theorem d_B_rarity_18 : decode prog_1_method_25_code 18 = .ok (.ireturn, 1) := by decide +kernel
theorem v_B_rarity_15 {G : XG} {d : Nat} {h : XH} {Q : XV → XH → Prop} {X : Nat → XH → Prop} {s0 s1 : Int} (F : xFix h) (hyp : 0 ≤ s1 ∧ s1 ≤ 1000 ∧ 0 ≤ s0 ∧ s0 ≤ 1000 ∧ (Q (xI (rrF s1 s0)) h)) : xwp G m_B_rarity (d + 9) 15 [xZ, xZ] [xI s0, xI s1] h Q X := by
  have hnx9 : (93 : Int) ≤ xnx h := F.2.2
  refine xr_okS (fun hs9 => ?_)
  have r_s0 : -2147483648 ≤ s0 ∧ s0 ≤ 2147483647 := hs9 (xI s0) (.head _)
  have r_s1 : -2147483648 ≤ s1 ∧ s1 ≤ 2147483647 := hs9 (xI s1) (.tail _ (.head _))
  obtain ⟨c1_, hyp⟩ := hyp
  obtain ⟨c2_, hyp⟩ := hyp
  obtain ⟨c3_, hyp⟩ := hyp
  obtain ⟨c4_, hyp⟩ := hyp
  refine xq_callS (pc := 15) (index := 220) (K := m_Fits_rarityOf) (As := [xI s1, xI s0]) (S := []) (L0 := [xI s1, xI s0]) (hI := d_B_rarity_15) (hK := k_Fits_rarityOf) (hlk := w_1228) (hnoM := rfl) (hS8 := Nat.le_of_ble_eq_true rfl) (hstat := w_692) (hlen := Nat.le_of_ble_eq_true rfl) (hst := rfl) (hL0 := rfl)  (p_Fits_rarityOf F c1_ c2_ c3_ c4_ ?_)
  show xwp G m_B_rarity (d + 9) 18 [xZ, xZ] [xI (rrF s1 s0)] _ _ _
  refine xr_ireturn (S := []) (pc := 18) (hI := d_B_rarity_18) (hr := rfl) ?_
  exact hyp
abbrev m_B_nearest : XM := (⟨"BeaconIndex", "nearest", "()I"⟩, prog_1_method_26_code, 4, (some .int), [])
theorem d_B_nearest_0 : decode prog_1_method_26_code 0 = .ok (.aload_n 0, 1) := by decide +kernel
theorem d_B_nearest_1 : decode prog_1_method_26_code 1 = .ok (.getfield 26, 3) := by decide +kernel
theorem d_B_nearest_4 : decode prog_1_method_26_code 4 = .ok (.iconst 0, 1) := by decide +kernel
theorem d_B_nearest_5 : decode prog_1_method_26_code 5 = .ok (.putfield 149, 3) := by decide +kernel
theorem d_B_nearest_8 : decode prog_1_method_26_code 8 = .ok (.iconst 0, 1) := by decide +kernel
theorem d_B_nearest_9 : decode prog_1_method_26_code 9 = .ok (.istore_n 1, 1) := by decide +kernel
theorem v_B_nearest_0 {G : XG} {d : Nat} {h : XH} {Q : XV → XH → Prop} {X : Nat → XH → Prop} (F : xFix h) (hyp : (xFix (xst h 12 3 0) → xwp G m_B_nearest (d + 7) 10 [xR 0, xI 0, xZ, xZ] [] (xst h 12 3 0) Q X)) : xwp G m_B_nearest (d + 7) 0 [xR 0, xZ, xZ, xZ] [] h Q X := by
  have hnx9 : (93 : Int) ≤ xnx h := F.2.2
  refine xr_aload_n (pc := 0) (i := 0) (hI := d_B_nearest_0) (hi := rfl) (hl := rfl) ?_
  refine xg_getf (pc := 1) (ci := 0) (k := 2) (N := 7) (v9 := 2) (v := 12) (T := xF0) (hI := d_B_nearest_1) (hw := w_432) rfl xi0 (Or.inl rfl) (Nat.le_of_ble_eq_true rfl) (Nat.le_of_ble_eq_true rfl) rfl (ft_0 F) (fp_0_2 F) (fun f1_ => ?_)
  clear f1_
  refine xr_iconst (pc := 4) (hI := d_B_nearest_4) (hr := by decide) ?_
  refine xr_putf (pc := 5) (ci := 10) (k := 3) (N := 7) (v9 := 0) (T := xF10) (tF := xT10) (hI := d_B_nearest_5) (hw := w_183) rfl xi10 xt10 xn10 (Or.inl rfl) (Nat.le_of_ble_eq_true rfl) (Nat.le_of_ble_eq_true rfl) rfl xfit_i rfl (ft_12 F) (by decide) (fun z => z) ?_
  have F2_ : xFix (xst h 12 3 0) := F.stL xfk_12_3
  refine xr_iconst (pc := 8) (hI := d_B_nearest_8) (hr := by decide) ?_
  refine xr_istore_n (pc := 9) (i := 1) (L9 := [xR 0, xI 0, xZ, xZ]) (hI := d_B_nearest_9) (hi := rfl) (hn := Nat.le_of_ble_eq_true rfl) (hL9 := rfl) ?_
  exact (hyp F2_)
theorem d_B_nearest_10 : decode prog_1_method_26_code 10 = .ok (.iload_n 1, 1) := by decide +kernel
theorem d_B_nearest_11 : decode prog_1_method_26_code 11 = .ok (.aload_n 0, 1) := by decide +kernel
theorem d_B_nearest_12 : decode prog_1_method_26_code 12 = .ok (.getfield 19, 3) := by decide +kernel
theorem d_B_nearest_15 : decode prog_1_method_26_code 15 = .ok (.getfield 96, 3) := by decide +kernel
theorem d_B_nearest_18 : decode prog_1_method_26_code 18 = .ok (.invokevirtual 128, 3) := by decide +kernel
theorem d_B_nearest_21 : decode prog_1_method_26_code 21 = .ok (.if_icmp .ge 49, 3) := by decide +kernel
theorem d_B_nearest_70 : decode prog_1_method_26_code 70 = .ok (.aload_n 0, 1) := by decide +kernel
theorem d_B_nearest_71 : decode prog_1_method_26_code 71 = .ok (.getfield 26, 3) := by decide +kernel
theorem d_B_nearest_74 : decode prog_1_method_26_code 74 = .ok (.getfield 149, 3) := by decide +kernel
theorem d_B_nearest_77 : decode prog_1_method_26_code 77 = .ok (.ifCond .ne 5, 3) := by decide +kernel
theorem d_B_nearest_82 : decode prog_1_method_26_code 82 = .ok (.aload_n 0, 1) := by decide +kernel
theorem d_B_nearest_83 : decode prog_1_method_26_code 83 = .ok (.getfield 26, 3) := by decide +kernel
theorem d_B_nearest_86 : decode prog_1_method_26_code 86 = .ok (.aload_n 0, 1) := by decide +kernel
theorem d_B_nearest_87 : decode prog_1_method_26_code 87 = .ok (.getfield 26, 3) := by decide +kernel
theorem d_B_nearest_90 : decode prog_1_method_26_code 90 = .ok (.aload_n 0, 1) := by decide +kernel
theorem d_B_nearest_91 : decode prog_1_method_26_code 91 = .ok (.getfield 44, 3) := by decide +kernel
theorem d_B_nearest_94 : decode prog_1_method_26_code 94 = .ok (.invokevirtual 226, 3) := by decide +kernel
theorem k_Vocabulary_nearestTo : xCal m_Vocabulary_nearestTo 1 := ⟨List.mem_append_right _ (List.mem_of_getElem? (i := 927) (by decide +kernel)), w_8, Nat.le_of_ble_eq_true rfl, ⟨by decide +kernel, by decide +kernel⟩, by decide +kernel, by decide +kernel, rfl⟩
theorem w_924 : Cond.methodLink "BeaconIndex" 226 ⟨"BeaconIndex$Vocabulary", "nearestTo", "(J)I"⟩ ∈ lw_tbl := List.mem_append_right _ (List.mem_of_getElem? (i := 924) (by decide +kernel))
theorem w_925 : Cond.instanceMethod ⟨"BeaconIndex$Vocabulary", "nearestTo", "(J)I"⟩ ∈ lw_tbl := List.mem_append_right _ (List.mem_of_getElem? (i := 925) (by decide +kernel))
theorem w_926 : Cond.selects "BeaconIndex$Vocabulary" ⟨"BeaconIndex$Vocabulary", "nearestTo", "(J)I"⟩ ⟨"BeaconIndex$Vocabulary", "nearestTo", "(J)I"⟩ ∈ lw_tbl := List.mem_append_right _ (List.mem_of_getElem? (i := 926) (by decide +kernel))
theorem d_B_nearest_80 : decode prog_1_method_26_code 80 = .ok (.iconst (-1), 1) := by decide +kernel
theorem d_B_nearest_81 : decode prog_1_method_26_code 81 = .ok (.ireturn, 1) := by decide +kernel
theorem d_B_nearest_24 : decode prog_1_method_26_code 24 = .ok (.aload_n 0, 1) := by decide +kernel
theorem d_B_nearest_25 : decode prog_1_method_26_code 25 = .ok (.getfield 26, 3) := by decide +kernel
theorem d_B_nearest_28 : decode prog_1_method_26_code 28 = .ok (.aload_n 0, 1) := by decide +kernel
theorem d_B_nearest_29 : decode prog_1_method_26_code 29 = .ok (.getfield 19, 3) := by decide +kernel
theorem d_B_nearest_32 : decode prog_1_method_26_code 32 = .ok (.iload_n 1, 1) := by decide +kernel
theorem d_B_nearest_33 : decode prog_1_method_26_code 33 = .ok (.invokevirtual 154, 3) := by decide +kernel
theorem d_B_nearest_36 : decode prog_1_method_26_code 36 = .ok (.iconst 0, 1) := by decide +kernel
theorem d_B_nearest_37 : decode prog_1_method_26_code 37 = .ok (.invokevirtual 158, 3) := by decide +kernel
theorem d_B_nearest_40 : decode prog_1_method_26_code 40 = .ok (.iload_n 1, 1) := by decide +kernel
theorem d_B_nearest_41 : decode prog_1_method_26_code 41 = .ok (.invokevirtual 162, 3) := by decide +kernel
theorem v_B_nearest_10 {G : XG} {d : Nat} {h : XH} {Q : XV → XH → Prop} {X : Nat → XH → Prop} {x1 : Int} (F : xFix h) (hyp : alok h 7 ∧ (((als h 7) ≤ x1 → (((xpl h 12 3) = 0 → (Q (xI (-1)) h)) ∧ (¬ (xpl h 12 3) = 0 → (xwp G m_Vocabulary_nearestTo (d + 6) 0 [xR 12, xL (xpl h 0 5), xZ, xZ, xZ, xZ, xZ, xZ] [] h (fun v9 h9 => xwp G m_B_nearest (d + 7) 97 [xR 0, xZ, xZ, xZ] (xpush v9 [xR 12]) h9 Q X) X)))) ∧ (¬ (als h 7) ≤ x1 → stok h ∧ (xwp G m_Vocabulary_noteRow (d + 6) 0 [xR 12, xR (txr h (fat h x1) 0), xI x1, xZ] [] h (fun v9 h9 => xwp G m_B_nearest (d + 7) 44 [xR 0, xI x1, xZ, xZ] (xpush v9 []) h9 Q X) X)))) : xwp G m_B_nearest (d + 7) 10 [xR 0, xI x1, xZ, xZ] [] h Q X := by
  have hnx9 : (93 : Int) ≤ xnx h := F.2.2
  refine xr_okL (fun hl9 => ?_)
  have r_x1 : -2147483648 ≤ x1 ∧ x1 ≤ 2147483647 := hl9 (xI x1) (.tail _ (.head _)) (Nat.le_of_ble_eq_true rfl)
  refine xr_iload_n (pc := 10) (i := 1) (hI := d_B_nearest_10) (hi := rfl) (hl := rfl) ?_
  refine xr_aload_n (pc := 11) (i := 0) (hI := d_B_nearest_11) (hi := rfl) (hl := rfl) ?_
  refine xg_getf (pc := 12) (ci := 0) (k := 1) (N := 7) (v9 := 2) (v := 5) (T := xF0) (hI := d_B_nearest_12) (hw := w_431) rfl xi0 (Or.inl rfl) (Nat.le_of_ble_eq_true rfl) (Nat.le_of_ble_eq_true rfl) rfl (ft_0 F) (fp_0_1 F) (fun f1_ => ?_)
  clear f1_
  refine xg_getf (pc := 15) (ci := 7) (k := 1) (N := 6) (v9 := 2) (v := 7) (T := xF7) (hI := d_B_nearest_15) (hw := w_151) rfl xi7 (Or.inl rfl) (Nat.le_of_ble_eq_true rfl) (Nat.le_of_ble_eq_true rfl) rfl (ft_5 F) (fp_5_1 F) (fun f2_ => ?_)
  clear f2_
  obtain ⟨c3_, hyp⟩ := hyp
  refine xq_callV (pc := 18) (index := 128) (K := m_ArrayList_size) (As := []) (S := [xI x1]) (L0 := [xR 7]) (hI := d_B_nearest_18) (hK := k_ArrayList_size) (hlk := w_774) (hnoM := rfl) (hS8 := Nat.le_of_ble_eq_true rfl) (ci := 13) (N := 3) (C := "java/util/ArrayList") (T := xF13) (hc := rfl) (hci := Nat.le_of_ble_eq_true rfl) (htb := (ft_7 F)) (hinst := w_465) (hsel := w_466) (hlen := Nat.le_of_ble_eq_true rfl) (hst := rfl) (hL0 := rfl)  (p_AL_size F c3_ ?_)
  show xwp G m_B_nearest (d + 7) 21 [xR 0, xI x1, xZ, xZ] [xI (als h 7), xI x1] _ _ _
  have f4_ : 0 ≤ (als h 7) ∧ (als h 7) ≤ 1000000 := ⟨c3_.2.2.1, c3_.2.2.2.2⟩
  refine xr_icmp_ge (pc := 21) (tgt := 70) (hI := d_B_nearest_21) (ht := by decide) (fun q9 => ?_) (fun q9 => ?_)
  · replace hyp := hyp.1 q9
    have q5_ := q9
    clear q9
    refine xr_aload_n (pc := 70) (i := 0) (hI := d_B_nearest_70) (hi := rfl) (hl := rfl) ?_
    refine xg_getf (pc := 71) (ci := 0) (k := 2) (N := 7) (v9 := 2) (v := 12) (T := xF0) (hI := d_B_nearest_71) (hw := w_432) rfl xi0 (Or.inl rfl) (Nat.le_of_ble_eq_true rfl) (Nat.le_of_ble_eq_true rfl) rfl (ft_0 F) (fp_0_2 F) (fun f6_ => ?_)
    clear f6_
    refine xg_getf (pc := 74) (ci := 10) (k := 3) (N := 7) (v9 := 0) (v := (xpl h 12 3)) (T := xF10) (hI := d_B_nearest_74) (hw := w_183) rfl xi10 (Or.inl rfl) (Nat.le_of_ble_eq_true rfl) (Nat.le_of_ble_eq_true rfl) rfl (ft_12 F) rfl (fun f7_ => ?_)
    replace f7_ : -2147483648 ≤ (xpl h 12 3) ∧ (xpl h 12 3) ≤ 2147483647 := f7_
    refine xr_if_ne (pc := 77) (tgt := 82) (hI := d_B_nearest_77) (ht := by decide) (fun q9 => ?_) (fun q9 => ?_)
    · replace hyp := hyp.2 q9
      have q8_ := q9
      clear q9
      refine xr_aload_n (pc := 82) (i := 0) (hI := d_B_nearest_82) (hi := rfl) (hl := rfl) ?_
      refine xg_getf (pc := 83) (ci := 0) (k := 2) (N := 7) (v9 := 2) (v := 12) (T := xF0) (hI := d_B_nearest_83) (hw := w_432) rfl xi0 (Or.inl rfl) (Nat.le_of_ble_eq_true rfl) (Nat.le_of_ble_eq_true rfl) rfl (ft_0 F) (fp_0_2 F) (fun f9_ => ?_)
      clear f9_
      refine xr_aload_n (pc := 86) (i := 0) (hI := d_B_nearest_86) (hi := rfl) (hl := rfl) ?_
      refine xg_getf (pc := 87) (ci := 0) (k := 2) (N := 7) (v9 := 2) (v := 12) (T := xF0) (hI := d_B_nearest_87) (hw := w_432) rfl xi0 (Or.inl rfl) (Nat.le_of_ble_eq_true rfl) (Nat.le_of_ble_eq_true rfl) rfl (ft_0 F) (fp_0_2 F) (fun f10_ => ?_)
      clear f10_
      refine xr_aload_n (pc := 90) (i := 0) (hI := d_B_nearest_90) (hi := rfl) (hl := rfl) ?_
      refine xg_getf (pc := 91) (ci := 0) (k := 5) (N := 7) (v9 := 1) (v := (xpl h 0 5)) (T := xF0) (hI := d_B_nearest_91) (hw := w_435) rfl xi0 (Or.inl rfl) (Nat.le_of_ble_eq_true rfl) (Nat.le_of_ble_eq_true rfl) rfl (ft_0 F) rfl (fun f11_ => ?_)
      replace f11_ : -9223372036854775808 ≤ (xpl h 0 5) ∧ (xpl h 0 5) ≤ 9223372036854775807 := f11_
      exact xq_callV (pc := 94) (index := 226) (K := m_Vocabulary_nearestTo) (As := [xL (xpl h 0 5)]) (S := [xR 12]) (L0 := [xR 12, xL (xpl h 0 5), xZ, xZ, xZ, xZ, xZ, xZ]) (hI := d_B_nearest_94) (hK := k_Vocabulary_nearestTo) (hlk := w_924) (hnoM := rfl) (hS8 := Nat.le_of_ble_eq_true rfl) (ci := 10) (N := 7) (C := "BeaconIndex$Vocabulary") (T := xF10) (hc := rfl) (hci := Nat.le_of_ble_eq_true rfl) (htb := (ft_12 F)) (hinst := w_925) (hsel := w_926) (hlen := Nat.le_of_ble_eq_true rfl) (hst := rfl) (hL0 := rfl)  (xwp_mono hyp (fun v9 h9 q9 => xr_drop (L9 := [xR 0, xZ, xZ, xZ]) (xdrs (xdrz (xdrs (xdrs xdr0)))) q9) (fun _ _ z9 => z9))
    · replace hyp := hyp.1 q9
      have q8_ := q9
      clear q9
      refine xr_iconst (pc := 80) (hI := d_B_nearest_80) (hr := by decide) ?_
      refine xr_ireturn (S := []) (pc := 81) (hI := d_B_nearest_81) (hr := rfl) ?_
      exact hyp
  · replace hyp := hyp.2 q9
    have q5_ := q9
    clear q9
    refine xr_aload_n (pc := 24) (i := 0) (hI := d_B_nearest_24) (hi := rfl) (hl := rfl) ?_
    refine xg_getf (pc := 25) (ci := 0) (k := 2) (N := 7) (v9 := 2) (v := 12) (T := xF0) (hI := d_B_nearest_25) (hw := w_432) rfl xi0 (Or.inl rfl) (Nat.le_of_ble_eq_true rfl) (Nat.le_of_ble_eq_true rfl) rfl (ft_0 F) (fp_0_2 F) (fun f12_ => ?_)
    clear f12_
    refine xr_aload_n (pc := 28) (i := 0) (hI := d_B_nearest_28) (hi := rfl) (hl := rfl) ?_
    refine xg_getf (pc := 29) (ci := 0) (k := 1) (N := 7) (v9 := 2) (v := 5) (T := xF0) (hI := d_B_nearest_29) (hw := w_431) rfl xi0 (Or.inl rfl) (Nat.le_of_ble_eq_true rfl) (Nat.le_of_ble_eq_true rfl) rfl (ft_0 F) (fp_0_1 F) (fun f13_ => ?_)
    clear f13_
    refine xr_iload_n (pc := 32) (i := 1) (hI := d_B_nearest_32) (hi := rfl) (hl := rfl) ?_
    obtain ⟨c14_, hyp⟩ := hyp
    refine xq_callV (pc := 33) (index := 154) (K := m_Store_filedAt) (As := [xI x1]) (S := [xR 12]) (L0 := [xR 5, xI x1]) (hI := d_B_nearest_33) (hK := k_Store_filedAt) (hlk := w_882) (hnoM := rfl) (hS8 := Nat.le_of_ble_eq_true rfl) (ci := 7) (N := 6) (C := "BeaconIndex$Store") (T := xF7) (hc := rfl) (hci := Nat.le_of_ble_eq_true rfl) (htb := (ft_5 F)) (hinst := w_578) (hsel := w_579) (hlen := Nat.le_of_ble_eq_true rfl) (hst := rfl) (hL0 := rfl)  (p_Store_filedAt F c14_ ?_)
    show xwp G m_B_nearest (d + 7) 36 [xR 0, xI x1, xZ, xZ] [xR (fat h x1), xR 12] _ _ _
    have t15_ : xtg h (fat h x1) = 9 := (fat_ok F c14_ _).1
    refine xr_iconst (pc := 36) (hI := d_B_nearest_36) (hr := by decide) ?_
    refine xq_callV (pc := 37) (index := 158) (K := m_Text_row) (As := [xI 0]) (S := [xR 12]) (L0 := [xR (fat h x1), xI 0]) (hI := d_B_nearest_37) (hK := k_Text_row) (hlk := w_883) (hnoM := rfl) (hS8 := Nat.le_of_ble_eq_true rfl) (ci := 9) (N := 6) (C := "BeaconIndex$Text") (T := xF9) (hc := rfl) (hci := Nat.le_of_ble_eq_true rfl) (htb := t15_) (hinst := w_611) (hsel := w_612) (hlen := Nat.le_of_ble_eq_true rfl) (hst := rfl) (hL0 := rfl)  (p_Text_row F t15_ ?_)
    show xwp G m_B_nearest (d + 7) 40 [xR 0, xI x1, xZ, xZ] [xR (txr h (fat h x1) 0), xR 12] _ _ _
    refine xr_iload_n (pc := 40) (i := 1) (hI := d_B_nearest_40) (hi := rfl) (hl := rfl) ?_
    exact xq_callV (pc := 41) (index := 162) (K := m_Vocabulary_noteRow) (As := [xR (txr h (fat h x1) 0), xI x1]) (S := []) (L0 := [xR 12, xR (txr h (fat h x1) 0), xI x1, xZ]) (hI := d_B_nearest_41) (hK := k_Vocabulary_noteRow) (hlk := w_884) (hnoM := rfl) (hS8 := Nat.le_of_ble_eq_true rfl) (ci := 10) (N := 7) (C := "BeaconIndex$Vocabulary") (T := xF10) (hc := rfl) (hci := Nat.le_of_ble_eq_true rfl) (htb := (ft_12 F)) (hinst := w_885) (hsel := w_886) (hlen := Nat.le_of_ble_eq_true rfl) (hst := rfl) (hL0 := rfl)  hyp
theorem d_B_nearest_44 : decode prog_1_method_26_code 44 = .ok (.aload_n 0, 1) := by decide +kernel
theorem d_B_nearest_45 : decode prog_1_method_26_code 45 = .ok (.getfield 26, 3) := by decide +kernel
theorem d_B_nearest_48 : decode prog_1_method_26_code 48 = .ok (.aload_n 0, 1) := by decide +kernel
theorem d_B_nearest_49 : decode prog_1_method_26_code 49 = .ok (.getfield 19, 3) := by decide +kernel
theorem d_B_nearest_52 : decode prog_1_method_26_code 52 = .ok (.iload_n 1, 1) := by decide +kernel
theorem d_B_nearest_53 : decode prog_1_method_26_code 53 = .ok (.invokevirtual 154, 3) := by decide +kernel
theorem d_B_nearest_56 : decode prog_1_method_26_code 56 = .ok (.iconst 1, 1) := by decide +kernel
theorem d_B_nearest_57 : decode prog_1_method_26_code 57 = .ok (.invokevirtual 158, 3) := by decide +kernel
theorem d_B_nearest_60 : decode prog_1_method_26_code 60 = .ok (.iload_n 1, 1) := by decide +kernel
theorem d_B_nearest_61 : decode prog_1_method_26_code 61 = .ok (.invokevirtual 162, 3) := by decide +kernel
theorem v_B_nearest_44 {G : XG} {d : Nat} {h : XH} {Q : XV → XH → Prop} {X : Nat → XH → Prop} {x1 : Int} (F : xFix h) (hyp : stok h ∧ (xwp G m_Vocabulary_noteRow (d + 6) 0 [xR 12, xR (txr h (fat h x1) 1), xI x1, xZ] [] h (fun v9 h9 => xwp G m_B_nearest (d + 7) 64 [xR 0, xI x1, xZ, xZ] (xpush v9 []) h9 Q X) X)) : xwp G m_B_nearest (d + 7) 44 [xR 0, xI x1, xZ, xZ] [] h Q X := by
  have hnx9 : (93 : Int) ≤ xnx h := F.2.2
  refine xr_okL (fun hl9 => ?_)
  have r_x1 : -2147483648 ≤ x1 ∧ x1 ≤ 2147483647 := hl9 (xI x1) (.tail _ (.head _)) (Nat.le_of_ble_eq_true rfl)
  refine xr_aload_n (pc := 44) (i := 0) (hI := d_B_nearest_44) (hi := rfl) (hl := rfl) ?_
  refine xg_getf (pc := 45) (ci := 0) (k := 2) (N := 7) (v9 := 2) (v := 12) (T := xF0) (hI := d_B_nearest_45) (hw := w_432) rfl xi0 (Or.inl rfl) (Nat.le_of_ble_eq_true rfl) (Nat.le_of_ble_eq_true rfl) rfl (ft_0 F) (fp_0_2 F) (fun f1_ => ?_)
  clear f1_
  refine xr_aload_n (pc := 48) (i := 0) (hI := d_B_nearest_48) (hi := rfl) (hl := rfl) ?_
  refine xg_getf (pc := 49) (ci := 0) (k := 1) (N := 7) (v9 := 2) (v := 5) (T := xF0) (hI := d_B_nearest_49) (hw := w_431) rfl xi0 (Or.inl rfl) (Nat.le_of_ble_eq_true rfl) (Nat.le_of_ble_eq_true rfl) rfl (ft_0 F) (fp_0_1 F) (fun f2_ => ?_)
  clear f2_
  refine xr_iload_n (pc := 52) (i := 1) (hI := d_B_nearest_52) (hi := rfl) (hl := rfl) ?_
  obtain ⟨c3_, hyp⟩ := hyp
  refine xq_callV (pc := 53) (index := 154) (K := m_Store_filedAt) (As := [xI x1]) (S := [xR 12]) (L0 := [xR 5, xI x1]) (hI := d_B_nearest_53) (hK := k_Store_filedAt) (hlk := w_882) (hnoM := rfl) (hS8 := Nat.le_of_ble_eq_true rfl) (ci := 7) (N := 6) (C := "BeaconIndex$Store") (T := xF7) (hc := rfl) (hci := Nat.le_of_ble_eq_true rfl) (htb := (ft_5 F)) (hinst := w_578) (hsel := w_579) (hlen := Nat.le_of_ble_eq_true rfl) (hst := rfl) (hL0 := rfl)  (p_Store_filedAt F c3_ ?_)
  show xwp G m_B_nearest (d + 7) 56 [xR 0, xI x1, xZ, xZ] [xR (fat h x1), xR 12] _ _ _
  have t4_ : xtg h (fat h x1) = 9 := (fat_ok F c3_ _).1
  refine xr_iconst (pc := 56) (hI := d_B_nearest_56) (hr := by decide) ?_
  refine xq_callV (pc := 57) (index := 158) (K := m_Text_row) (As := [xI 1]) (S := [xR 12]) (L0 := [xR (fat h x1), xI 1]) (hI := d_B_nearest_57) (hK := k_Text_row) (hlk := w_883) (hnoM := rfl) (hS8 := Nat.le_of_ble_eq_true rfl) (ci := 9) (N := 6) (C := "BeaconIndex$Text") (T := xF9) (hc := rfl) (hci := Nat.le_of_ble_eq_true rfl) (htb := t4_) (hinst := w_611) (hsel := w_612) (hlen := Nat.le_of_ble_eq_true rfl) (hst := rfl) (hL0 := rfl)  (p_Text_row F t4_ ?_)
  show xwp G m_B_nearest (d + 7) 60 [xR 0, xI x1, xZ, xZ] [xR (txr h (fat h x1) 1), xR 12] _ _ _
  refine xr_iload_n (pc := 60) (i := 1) (hI := d_B_nearest_60) (hi := rfl) (hl := rfl) ?_
  exact xq_callV (pc := 61) (index := 162) (K := m_Vocabulary_noteRow) (As := [xR (txr h (fat h x1) 1), xI x1]) (S := []) (L0 := [xR 12, xR (txr h (fat h x1) 1), xI x1, xZ]) (hI := d_B_nearest_61) (hK := k_Vocabulary_noteRow) (hlk := w_884) (hnoM := rfl) (hS8 := Nat.le_of_ble_eq_true rfl) (ci := 10) (N := 7) (C := "BeaconIndex$Vocabulary") (T := xF10) (hc := rfl) (hci := Nat.le_of_ble_eq_true rfl) (htb := (ft_12 F)) (hinst := w_885) (hsel := w_886) (hlen := Nat.le_of_ble_eq_true rfl) (hst := rfl) (hL0 := rfl)  hyp
theorem d_B_nearest_64 : decode prog_1_method_26_code 64 = .ok (.iinc 1 1, 3) := by decide +kernel
theorem d_B_nearest_67 : decode prog_1_method_26_code 67 = .ok (.goto (-57), 3) := by decide +kernel
theorem v_B_nearest_64 {G : XG} {d : Nat} {h : XH} {Q : XV → XH → Prop} {X : Nat → XH → Prop} {x1 : Int} (F : xFix h) (hyp : xiR (x1 + 1) ∧ (xwp G m_B_nearest (d + 7) 10 [xR 0, xI (x1 + 1), xZ, xZ] [] h Q X)) : xwp G m_B_nearest (d + 7) 64 [xR 0, xI x1, xZ, xZ] [] h Q X := by
  have hnx9 : (93 : Int) ≤ xnx h := F.2.2
  refine xr_okL (fun hl9 => ?_)
  have r_x1 : -2147483648 ≤ x1 ∧ x1 ≤ 2147483647 := hl9 (xI x1) (.tail _ (.head _)) (Nat.le_of_ble_eq_true rfl)
  obtain ⟨c9, hyp⟩ := hyp
  refine xr_iinc (pc := 64) (i := 1) (L9 := [xR 0, xI (x1 + 1), xZ, xZ]) (hI := d_B_nearest_64) (hl := rfl) (hn := Nat.le_of_ble_eq_true rfl) (hr := c9) (hL9 := rfl) ?_
  refine xr_goto (pc := 67) (tgt := 10) (hI := d_B_nearest_67) (ht := by decide) ?_
  exact hyp
theorem d_B_nearest_97 : decode prog_1_method_26_code 97 = .ok (.invokevirtual 229, 3) := by decide +kernel
theorem w_946 : Cond.methodLink "BeaconIndex" 229 ⟨"BeaconIndex$Vocabulary", "wordAt", "(I)J"⟩ ∈ lw_tbl := List.mem_append_right _ (List.mem_of_getElem? (i := 946) (by decide +kernel))
theorem d_B_nearest_100 : decode prog_1_method_26_code 100 = .ok (.lstore_n 1, 1) := by decide +kernel
theorem d_B_nearest_101 : decode prog_1_method_26_code 101 = .ok (.aload_n 0, 1) := by decide +kernel
theorem d_B_nearest_102 : decode prog_1_method_26_code 102 = .ok (.getfield 26, 3) := by decide +kernel
theorem d_B_nearest_105 : decode prog_1_method_26_code 105 = .ok (.aload_n 0, 1) := by decide +kernel
theorem d_B_nearest_106 : decode prog_1_method_26_code 106 = .ok (.getfield 44, 3) := by decide +kernel
theorem d_B_nearest_109 : decode prog_1_method_26_code 109 = .ok (.lload_n 1, 1) := by decide +kernel
theorem d_B_nearest_110 : decode prog_1_method_26_code 110 = .ok (.invokevirtual 233, 3) := by decide +kernel
theorem w_947 : Cond.methodLink "BeaconIndex" 233 ⟨"BeaconIndex$Vocabulary", "changes", "(JJ)I"⟩ ∈ lw_tbl := List.mem_append_right _ (List.mem_of_getElem? (i := 947) (by decide +kernel))
theorem v_B_nearest_97 {G : XG} {d : Nat} {h : XH} {Q : XV → XH → Prop} {X : Nat → XH → Prop} {s0 : Int} (F : xFix h) (hyp : vok h ∧ (xwp G m_Vocabulary_changes (d + 6) 0 [xR 12, xL (xpl h 0 5), xZ, xL (vwa h s0), xZ, xZ, xZ, xZ, xZ] [] h (fun v9 h9 => xwp G m_B_nearest (d + 7) 113 [xR 0, xL (vwa h s0), xZ, xZ] (xpush v9 []) h9 Q X) X)) : xwp G m_B_nearest (d + 7) 97 [xR 0, xZ, xZ, xZ] [xI s0, xR 12] h Q X := by
  have hnx9 : (93 : Int) ≤ xnx h := F.2.2
  refine xr_okS (fun hs9 => ?_)
  have r_s0 : -2147483648 ≤ s0 ∧ s0 ≤ 2147483647 := hs9 (xI s0) (.head _)
  obtain ⟨c1_, hyp⟩ := hyp
  refine xq_callV (pc := 97) (index := 229) (K := m_Vocabulary_wordAt) (As := [xI s0]) (S := []) (L0 := [xR 12, xI s0]) (hI := d_B_nearest_97) (hK := k_Vocabulary_wordAt) (hlk := w_946) (hnoM := rfl) (hS8 := Nat.le_of_ble_eq_true rfl) (ci := 10) (N := 7) (C := "BeaconIndex$Vocabulary") (T := xF10) (hc := rfl) (hci := Nat.le_of_ble_eq_true rfl) (htb := (ft_12 F)) (hinst := w_898) (hsel := w_899) (hlen := Nat.le_of_ble_eq_true rfl) (hst := rfl) (hL0 := rfl)  (p_Voc_wordAt F c1_ ?_)
  show xwp G m_B_nearest (d + 7) 100 [xR 0, xZ, xZ, xZ] [xL (vwa h s0)] _ _ _
  refine xr_lstore_n (pc := 100) (i := 1) (L9 := [xR 0, xL (vwa h s0), xZ, xZ]) (hI := d_B_nearest_100) (hi := rfl) (hn := Nat.le_of_ble_eq_true rfl) (hL9 := rfl) ?_
  refine xr_aload_n (pc := 101) (i := 0) (hI := d_B_nearest_101) (hi := rfl) (hl := rfl) ?_
  refine xg_getf (pc := 102) (ci := 0) (k := 2) (N := 7) (v9 := 2) (v := 12) (T := xF0) (hI := d_B_nearest_102) (hw := w_432) rfl xi0 (Or.inl rfl) (Nat.le_of_ble_eq_true rfl) (Nat.le_of_ble_eq_true rfl) rfl (ft_0 F) (fp_0_2 F) (fun f2_ => ?_)
  clear f2_
  refine xr_aload_n (pc := 105) (i := 0) (hI := d_B_nearest_105) (hi := rfl) (hl := rfl) ?_
  refine xg_getf (pc := 106) (ci := 0) (k := 5) (N := 7) (v9 := 1) (v := (xpl h 0 5)) (T := xF0) (hI := d_B_nearest_106) (hw := w_435) rfl xi0 (Or.inl rfl) (Nat.le_of_ble_eq_true rfl) (Nat.le_of_ble_eq_true rfl) rfl (ft_0 F) rfl (fun f3_ => ?_)
  replace f3_ : -9223372036854775808 ≤ (xpl h 0 5) ∧ (xpl h 0 5) ≤ 9223372036854775807 := f3_
  refine xr_lload_n (pc := 109) (i := 1) (hI := d_B_nearest_109) (hi := rfl) (hl := rfl) ?_
  exact xq_callV (pc := 110) (index := 233) (K := m_Vocabulary_changes) (As := [xL (xpl h 0 5), xL (vwa h s0)]) (S := []) (L0 := [xR 12, xL (xpl h 0 5), xZ, xL (vwa h s0), xZ, xZ, xZ, xZ, xZ]) (hI := d_B_nearest_110) (hK := k_Vocabulary_changes) (hlk := w_947) (hnoM := rfl) (hS8 := Nat.le_of_ble_eq_true rfl) (ci := 10) (N := 7) (C := "BeaconIndex$Vocabulary") (T := xF10) (hc := rfl) (hci := Nat.le_of_ble_eq_true rfl) (htb := (ft_12 F)) (hinst := w_929) (hsel := w_930) (hlen := Nat.le_of_ble_eq_true rfl) (hst := rfl) (hL0 := rfl)  hyp
theorem d_B_nearest_113 : decode prog_1_method_26_code 113 = .ok (.istore_n 3, 1) := by decide +kernel
theorem d_B_nearest_114 : decode prog_1_method_26_code 114 = .ok (.aload_n 0, 1) := by decide +kernel
theorem d_B_nearest_115 : decode prog_1_method_26_code 115 = .ok (.lload_n 1, 1) := by decide +kernel
theorem d_B_nearest_116 : decode prog_1_method_26_code 116 = .ok (.putfield 44, 3) := by decide +kernel
theorem xfk_0_5 : xfree 0 5 = true := by decide +kernel
theorem d_B_nearest_119 : decode prog_1_method_26_code 119 = .ok (.iload_n 3, 1) := by decide +kernel
theorem d_B_nearest_120 : decode prog_1_method_26_code 120 = .ok (.ireturn, 1) := by decide +kernel
theorem v_B_nearest_113 {G : XG} {d : Nat} {h : XH} {Q : XV → XH → Prop} {X : Nat → XH → Prop} {x1 s0 : Int} (F : xFix h) (hyp : (xFix (xst h 0 5 x1) → Q (xI s0) (xst h 0 5 x1))) : xwp G m_B_nearest (d + 7) 113 [xR 0, xL x1, xZ, xZ] [xI s0] h Q X := by
  have hnx9 : (93 : Int) ≤ xnx h := F.2.2
  refine xr_okL (fun hl9 => ?_)
  have r_x1 : -9223372036854775808 ≤ x1 ∧ x1 ≤ 9223372036854775807 := hl9 (xL x1) (.tail _ (.head _)) (Nat.le_of_ble_eq_true rfl)
  refine xr_okS (fun hs9 => ?_)
  have r_s0 : -2147483648 ≤ s0 ∧ s0 ≤ 2147483647 := hs9 (xI s0) (.head _)
  refine xr_istore_n (pc := 113) (i := 3) (L9 := [xR 0, xL x1, xZ, xI s0]) (hI := d_B_nearest_113) (hi := rfl) (hn := Nat.le_of_ble_eq_true rfl) (hL9 := rfl) ?_
  refine xr_aload_n (pc := 114) (i := 0) (hI := d_B_nearest_114) (hi := rfl) (hl := rfl) ?_
  refine xr_lload_n (pc := 115) (i := 1) (hI := d_B_nearest_115) (hi := rfl) (hl := rfl) ?_
  refine xr_putf (pc := 116) (ci := 0) (k := 5) (N := 7) (v9 := 1) (T := xF0) (tF := xT0) (hI := d_B_nearest_116) (hw := w_435) rfl xi0 xt0 xn0 (Or.inl rfl) (Nat.le_of_ble_eq_true rfl) (Nat.le_of_ble_eq_true rfl) rfl xfit_l rfl (ft_0 F) (by decide) (fun z => z) ?_
  have F1_ : xFix (xst h 0 5 x1) := F.stL xfk_0_5
  refine xr_iload_n (pc := 119) (i := 3) (hI := d_B_nearest_119) (hi := rfl) (hl := rfl) ?_
  refine xr_ireturn (S := []) (pc := 120) (hI := d_B_nearest_120) (hr := rfl) ?_
  exact hyp F1_

end
