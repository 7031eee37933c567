/-! ===== dgvc ===== -/
section
abbrev m_M_ofSegment : XM := (⟨"BeaconIndexModel", "ofSegment", "(JI)J"⟩, prog_14_method_114_code, 11, (some .long), [])
theorem d_M_ofSegment_0 : decode prog_14_method_114_code 0 = .ok (.iconst 5, 1) := by decide +kernel
theorem d_M_ofSegment_1 : decode prog_14_method_114_code 1 = .ok (.newarray .int, 2) := by decide +kernel
theorem d_M_ofSegment_3 : decode prog_14_method_114_code 3 = .ok (.dup, 1) := by decide +kernel
theorem d_M_ofSegment_4 : decode prog_14_method_114_code 4 = .ok (.iconst 0, 1) := by decide +kernel
theorem d_M_ofSegment_5 : decode prog_14_method_114_code 5 = .ok (.aload_n 0, 1) := by decide +kernel
theorem d_M_ofSegment_6 : decode prog_14_method_114_code 6 = .ok (.iload_n 3, 1) := by decide +kernel
theorem d_M_ofSegment_7 : decode prog_14_method_114_code 7 = .ok (.invokevirtual 182, 3) := by decide +kernel
theorem v_M_ofSegment_0 {G : XG} {d : Nat} {h : XH} {Q : XV → XH → Prop} {X : Nat → XH → Prop} {x1 x3 : Int} (F : xFix h) (hyp : xnx h + 1 ≤ xKC ∧ xsl h + 5 ≤ xKS ∧ (xFix (xmk h 100 5 (fun _ => 0)) → xwp G m_M_manyIn (d + 217) 0 [xR 53, xI x3] [] (xmk h 100 5 (fun _ => 0)) (fun v9 h9 => xwp G m_M_ofSegment (d + 218) 10 [xR 53, xL x1, xZ, xI x3, xZ, xZ, xZ, xZ, xZ, xZ, xZ] (xpush v9 [xI 0, xR (xnx h), xR (xnx h)]) h9 Q X) X)) : xwp G m_M_ofSegment (d + 218) 0 [xR 53, xL x1, xZ, xI x3, xZ, xZ, xZ, xZ, xZ, xZ, xZ] [] h Q X := by
  have hnx9 : (93 : Int) ≤ xnx h := F.2.2
  refine xr_okL (fun hl9 => ?_)
  have r_x1 : -9223372036854775808 ≤ x1 ∧ x1 ≤ 9223372036854775807 := hl9 (xL x1) (.tail _ (.head _)) (Nat.le_of_ble_eq_true rfl)
  have r_x3 : -2147483648 ≤ x3 ∧ x3 ≤ 2147483647 := hl9 (xI x3) (.tail _ (.tail _ (.tail _ (.head _)))) (Nat.le_of_ble_eq_true rfl)
  refine xr_iconst (pc := 0) (hI := d_M_ofSegment_0) (hr := by decide) ?_
  obtain ⟨c8, c9, hyp⟩ := hyp
  refine xr_newarray (pc := 1) (t := 100) (hI := d_M_ofSegment_1) rfl w_79 rfl (Nat.le_of_ble_eq_true rfl) (Nat.le_of_ble_eq_true rfl) (by decide) (fun _ => rfl) (xok_z rfl) (by decide) (by decide) c8 c9 ?_
  have F1_ : xFix (xmk h 100 5 (fun _ => 0)) := F.mk
  have f2_ : (93 : Int) ≤ xnx h := F.nx
  have f3_ : (93 : Int) ≤ xnx (xmk h 100 5 (fun _ => 0)) := F1_.nx
  have f4_ : xnx (xmk h 100 5 (fun _ => 0)) = xnx h + 1 := xnx_mk _ _ _ _
  show xwp G m_M_ofSegment (d + 218) 3 [xR 53, xL x1, xZ, xI x3, xZ, xZ, xZ, xZ, xZ, xZ, xZ] [xR (xnx h)] (xmk h 100 5 (fun _ => 0)) _ _
  refine xr_dup (pc := 3) (hI := d_M_ofSegment_3) (hv := rfl) ?_
  refine xr_iconst (pc := 4) (hI := d_M_ofSegment_4) (hr := by decide) ?_
  refine xr_aload_n (pc := 5) (i := 0) (hI := d_M_ofSegment_5) (hi := rfl) (hl := rfl) ?_
  refine xr_iload_n (pc := 6) (i := 3) (hI := d_M_ofSegment_6) (hi := rfl) (hl := rfl) ?_
  exact xq_callV (pc := 7) (index := 182) (K := m_M_manyIn) (As := [xI x3]) (S := [xI 0, xR (xnx h), xR (xnx h)]) (L0 := [xR 53, xI x3]) (hI := d_M_ofSegment_7) (hK := k_M_manyIn) (hlk := w_1822) (hnoM := rfl) (hS8 := Nat.le_of_ble_eq_true rfl) (ci := 11) (N := 38) (C := "BeaconIndexModel") (T := xF11) (hc := rfl) (hci := Nat.le_of_ble_eq_true rfl) (htb := (ft_53 F1_)) (hinst := w_1824) (hsel := sel_M_manyIn) (hlen := Nat.le_of_ble_eq_true rfl) (hst := rfl) (hL0 := rfl)  (hyp F1_)
theorem d_M_ofSegment_10 : decode prog_14_method_114_code 10 = .ok (.iastore, 1) := by decide +kernel
theorem d_M_ofSegment_11 : decode prog_14_method_114_code 11 = .ok (.dup, 1) := by decide +kernel
theorem d_M_ofSegment_12 : decode prog_14_method_114_code 12 = .ok (.iconst 1, 1) := by decide +kernel
theorem d_M_ofSegment_13 : decode prog_14_method_114_code 13 = .ok (.aload_n 0, 1) := by decide +kernel
theorem d_M_ofSegment_14 : decode prog_14_method_114_code 14 = .ok (.iload_n 3, 1) := by decide +kernel
theorem d_M_ofSegment_15 : decode prog_14_method_114_code 15 = .ok (.invokevirtual 417, 3) := by decide +kernel
theorem v_M_ofSegment_10 {G : XG} {d : Nat} {h : XH} {Q : XV → XH → Prop} {X : Nat → XH → Prop} {x1 x3 s0 s1 s2 s3 : Int} (F : xFix h) (hyp : xtg h s2 = 100 ∧ 0 ≤ s2 ∧ 0 ≤ s1 ∧ s1 < (xln h s2) ∧ (xFix (xst h s2 s1 s0) → xwp G m_M_marks (d + 217) 0 [xR 53, xI x3, xZ, xZ] [] (xst h s2 s1 s0) (fun v9 h9 => xwp G m_M_ofSegment (d + 218) 18 [xR 53, xL x1, xZ, xI x3, xZ, xZ, xZ, xZ, xZ, xZ, xZ] (xpush v9 [xI 1, xR s3, xR s3]) h9 Q X) X)) : xwp G m_M_ofSegment (d + 218) 10 [xR 53, xL x1, xZ, xI x3, xZ, xZ, xZ, xZ, xZ, xZ, xZ] [xI s0, xI s1, xR s2, xR s3] h Q X := by
  have hnx9 : (93 : Int) ≤ xnx h := F.2.2
  refine xr_okL (fun hl9 => ?_)
  have r_x1 : -9223372036854775808 ≤ x1 ∧ x1 ≤ 9223372036854775807 := hl9 (xL x1) (.tail _ (.head _)) (Nat.le_of_ble_eq_true rfl)
  have r_x3 : -2147483648 ≤ x3 ∧ x3 ≤ 2147483647 := hl9 (xI x3) (.tail _ (.tail _ (.tail _ (.head _)))) (Nat.le_of_ble_eq_true rfl)
  refine xr_okS (fun hs9 => ?_)
  have r_s0 : -2147483648 ≤ s0 ∧ s0 ≤ 2147483647 := hs9 (xI s0) (.head _)
  have r_s1 : -2147483648 ≤ s1 ∧ s1 ≤ 2147483647 := hs9 (xI s1) (.tail _ (.head _))
  obtain ⟨c9, hyp⟩ := hyp
  have t1_ := c9
  clear c9
  obtain ⟨c2_, hyp⟩ := hyp
  obtain ⟨c3_, hyp⟩ := hyp
  obtain ⟨c4_, hyp⟩ := hyp
  refine xr_iastore (pc := 10) (hI := d_M_ofSegment_10) t1_ c2_ c3_ (xlt_of rfl c4_) ?_
  have F5_ : xFix (xst h s2 s1 s0) := F.stTA (t := 100) c2_ t1_ xta_100
  refine xr_dup (pc := 11) (hI := d_M_ofSegment_11) (hv := rfl) ?_
  refine xr_iconst (pc := 12) (hI := d_M_ofSegment_12) (hr := by decide) ?_
  refine xr_aload_n (pc := 13) (i := 0) (hI := d_M_ofSegment_13) (hi := rfl) (hl := rfl) ?_
  refine xr_iload_n (pc := 14) (i := 3) (hI := d_M_ofSegment_14) (hi := rfl) (hl := rfl) ?_
  exact xq_callV (pc := 15) (index := 417) (K := m_M_marks) (As := [xI x3]) (S := [xI 1, xR s3, xR s3]) (L0 := [xR 53, xI x3, xZ, xZ]) (hI := d_M_ofSegment_15) (hK := k_M_marks) (hlk := w_1834) (hnoM := rfl) (hS8 := Nat.le_of_ble_eq_true rfl) (ci := 11) (N := 38) (C := "BeaconIndexModel") (T := xF11) (hc := rfl) (hci := Nat.le_of_ble_eq_true rfl) (htb := (ft_53 F5_)) (hinst := w_1836) (hsel := sel_M_marks) (hlen := Nat.le_of_ble_eq_true rfl) (hst := rfl) (hL0 := rfl)  (hyp F5_)
theorem d_M_ofSegment_18 : decode prog_14_method_114_code 18 = .ok (.iastore, 1) := by decide +kernel
theorem d_M_ofSegment_19 : decode prog_14_method_114_code 19 = .ok (.dup, 1) := by decide +kernel
theorem d_M_ofSegment_20 : decode prog_14_method_114_code 20 = .ok (.iconst 2, 1) := by decide +kernel
theorem d_M_ofSegment_21 : decode prog_14_method_114_code 21 = .ok (.aload_n 0, 1) := by decide +kernel
theorem d_M_ofSegment_22 : decode prog_14_method_114_code 22 = .ok (.iload_n 3, 1) := by decide +kernel
theorem d_M_ofSegment_23 : decode prog_14_method_114_code 23 = .ok (.invokevirtual 411, 3) := by decide +kernel
theorem v_M_ofSegment_18 {G : XG} {d : Nat} {h : XH} {Q : XV → XH → Prop} {X : Nat → XH → Prop} {x1 x3 s0 s1 s2 s3 : Int} (F : xFix h) (hyp : xtg h s2 = 100 ∧ 0 ≤ s2 ∧ 0 ≤ s1 ∧ s1 < (xln h s2) ∧ (xFix (xst h s2 s1 s0) → xwp G m_M_level (d + 217) 0 [xR 53, xI x3, xZ] [] (xst h s2 s1 s0) (fun v9 h9 => xwp G m_M_ofSegment (d + 218) 26 [xR 53, xL x1, xZ, xI x3, xZ, xZ, xZ, xZ, xZ, xZ, xZ] (xpush v9 [xI 2, xR s3, xR s3]) h9 Q X) X)) : xwp G m_M_ofSegment (d + 218) 18 [xR 53, xL x1, xZ, xI x3, xZ, xZ, xZ, xZ, xZ, xZ, xZ] [xI s0, xI s1, xR s2, xR s3] h Q X := by
  have hnx9 : (93 : Int) ≤ xnx h := F.2.2
  refine xr_okL (fun hl9 => ?_)
  have r_x1 : -9223372036854775808 ≤ x1 ∧ x1 ≤ 9223372036854775807 := hl9 (xL x1) (.tail _ (.head _)) (Nat.le_of_ble_eq_true rfl)
  have r_x3 : -2147483648 ≤ x3 ∧ x3 ≤ 2147483647 := hl9 (xI x3) (.tail _ (.tail _ (.tail _ (.head _)))) (Nat.le_of_ble_eq_true rfl)
  refine xr_okS (fun hs9 => ?_)
  have r_s0 : -2147483648 ≤ s0 ∧ s0 ≤ 2147483647 := hs9 (xI s0) (.head _)
  have r_s1 : -2147483648 ≤ s1 ∧ s1 ≤ 2147483647 := hs9 (xI s1) (.tail _ (.head _))
  obtain ⟨c9, hyp⟩ := hyp
  have t1_ := c9
  clear c9
  obtain ⟨c2_, hyp⟩ := hyp
  obtain ⟨c3_, hyp⟩ := hyp
  obtain ⟨c4_, hyp⟩ := hyp
  refine xr_iastore (pc := 18) (hI := d_M_ofSegment_18) t1_ c2_ c3_ (xlt_of rfl c4_) ?_
  have F5_ : xFix (xst h s2 s1 s0) := F.stTA (t := 100) c2_ t1_ xta_100
  refine xr_dup (pc := 19) (hI := d_M_ofSegment_19) (hv := rfl) ?_
  refine xr_iconst (pc := 20) (hI := d_M_ofSegment_20) (hr := by decide) ?_
  refine xr_aload_n (pc := 21) (i := 0) (hI := d_M_ofSegment_21) (hi := rfl) (hl := rfl) ?_
  refine xr_iload_n (pc := 22) (i := 3) (hI := d_M_ofSegment_22) (hi := rfl) (hl := rfl) ?_
  exact xq_callV (pc := 23) (index := 411) (K := m_M_level) (As := [xI x3]) (S := [xI 2, xR s3, xR s3]) (L0 := [xR 53, xI x3, xZ]) (hI := d_M_ofSegment_23) (hK := k_M_level) (hlk := w_1818) (hnoM := rfl) (hS8 := Nat.le_of_ble_eq_true rfl) (ci := 11) (N := 38) (C := "BeaconIndexModel") (T := xF11) (hc := rfl) (hci := Nat.le_of_ble_eq_true rfl) (htb := (ft_53 F5_)) (hinst := w_1820) (hsel := sel_M_level) (hlen := Nat.le_of_ble_eq_true rfl) (hst := rfl) (hL0 := rfl)  (hyp F5_)
theorem d_M_ofSegment_26 : decode prog_14_method_114_code 26 = .ok (.iastore, 1) := by decide +kernel
theorem d_M_ofSegment_27 : decode prog_14_method_114_code 27 = .ok (.dup, 1) := by decide +kernel
theorem d_M_ofSegment_28 : decode prog_14_method_114_code 28 = .ok (.iconst 3, 1) := by decide +kernel
theorem d_M_ofSegment_29 : decode prog_14_method_114_code 29 = .ok (.aload_n 0, 1) := by decide +kernel
theorem d_M_ofSegment_30 : decode prog_14_method_114_code 30 = .ok (.iload_n 3, 1) := by decide +kernel
theorem d_M_ofSegment_31 : decode prog_14_method_114_code 31 = .ok (.iconst 0, 1) := by decide +kernel
theorem d_M_ofSegment_32 : decode prog_14_method_114_code 32 = .ok (.invokevirtual 426, 3) := by decide +kernel
theorem v_M_ofSegment_26 {G : XG} {d : Nat} {h : XH} {Q : XV → XH → Prop} {X : Nat → XH → Prop} {x1 x3 s0 s1 s2 s3 : Int} (F : xFix h) (hyp : xtg h s2 = 100 ∧ 0 ≤ s2 ∧ 0 ≤ s1 ∧ s1 < (xln h s2) ∧ (xFix (xst h s2 s1 s0) → xwp G m_M_differentIn (d + 217) 0 [xR 53, xI x3, xI 0, xZ, xZ] [] (xst h s2 s1 s0) (fun v9 h9 => xwp G m_M_ofSegment (d + 218) 35 [xR 53, xL x1, xZ, xI x3, xZ, xZ, xZ, xZ, xZ, xZ, xZ] (xpush v9 [xI 3, xR s3, xR s3]) h9 Q X) X)) : xwp G m_M_ofSegment (d + 218) 26 [xR 53, xL x1, xZ, xI x3, xZ, xZ, xZ, xZ, xZ, xZ, xZ] [xI s0, xI s1, xR s2, xR s3] h Q X := by
  have hnx9 : (93 : Int) ≤ xnx h := F.2.2
  refine xr_okL (fun hl9 => ?_)
  have r_x1 : -9223372036854775808 ≤ x1 ∧ x1 ≤ 9223372036854775807 := hl9 (xL x1) (.tail _ (.head _)) (Nat.le_of_ble_eq_true rfl)
  have r_x3 : -2147483648 ≤ x3 ∧ x3 ≤ 2147483647 := hl9 (xI x3) (.tail _ (.tail _ (.tail _ (.head _)))) (Nat.le_of_ble_eq_true rfl)
  refine xr_okS (fun hs9 => ?_)
  have r_s0 : -2147483648 ≤ s0 ∧ s0 ≤ 2147483647 := hs9 (xI s0) (.head _)
  have r_s1 : -2147483648 ≤ s1 ∧ s1 ≤ 2147483647 := hs9 (xI s1) (.tail _ (.head _))
  obtain ⟨c9, hyp⟩ := hyp
  have t1_ := c9
  clear c9
  obtain ⟨c2_, hyp⟩ := hyp
  obtain ⟨c3_, hyp⟩ := hyp
  obtain ⟨c4_, hyp⟩ := hyp
  refine xr_iastore (pc := 26) (hI := d_M_ofSegment_26) t1_ c2_ c3_ (xlt_of rfl c4_) ?_
  have F5_ : xFix (xst h s2 s1 s0) := F.stTA (t := 100) c2_ t1_ xta_100
  refine xr_dup (pc := 27) (hI := d_M_ofSegment_27) (hv := rfl) ?_
  refine xr_iconst (pc := 28) (hI := d_M_ofSegment_28) (hr := by decide) ?_
  refine xr_aload_n (pc := 29) (i := 0) (hI := d_M_ofSegment_29) (hi := rfl) (hl := rfl) ?_
  refine xr_iload_n (pc := 30) (i := 3) (hI := d_M_ofSegment_30) (hi := rfl) (hl := rfl) ?_
  refine xr_iconst (pc := 31) (hI := d_M_ofSegment_31) (hr := by decide) ?_
  exact xq_callV (pc := 32) (index := 426) (K := m_M_differentIn) (As := [xI x3, xI 0]) (S := [xI 3, xR s3, xR s3]) (L0 := [xR 53, xI x3, xI 0, xZ, xZ]) (hI := d_M_ofSegment_32) (hK := k_M_differentIn) (hlk := w_1881) (hnoM := rfl) (hS8 := Nat.le_of_ble_eq_true rfl) (ci := 11) (N := 38) (C := "BeaconIndexModel") (T := xF11) (hc := rfl) (hci := Nat.le_of_ble_eq_true rfl) (htb := (ft_53 F5_)) (hinst := w_1883) (hsel := sel_M_differentIn) (hlen := Nat.le_of_ble_eq_true rfl) (hst := rfl) (hL0 := rfl)  (hyp F5_)
theorem d_M_ofSegment_35 : decode prog_14_method_114_code 35 = .ok (.iastore, 1) := by decide +kernel
theorem d_M_ofSegment_36 : decode prog_14_method_114_code 36 = .ok (.dup, 1) := by decide +kernel
theorem d_M_ofSegment_37 : decode prog_14_method_114_code 37 = .ok (.iconst 4, 1) := by decide +kernel
theorem d_M_ofSegment_38 : decode prog_14_method_114_code 38 = .ok (.aload_n 0, 1) := by decide +kernel
theorem d_M_ofSegment_39 : decode prog_14_method_114_code 39 = .ok (.iload_n 3, 1) := by decide +kernel
theorem d_M_ofSegment_40 : decode prog_14_method_114_code 40 = .ok (.iconst 1, 1) := by decide +kernel
theorem d_M_ofSegment_41 : decode prog_14_method_114_code 41 = .ok (.invokevirtual 426, 3) := by decide +kernel
theorem v_M_ofSegment_35 {G : XG} {d : Nat} {h : XH} {Q : XV → XH → Prop} {X : Nat → XH → Prop} {x1 x3 s0 s1 s2 s3 : Int} (F : xFix h) (hyp : xtg h s2 = 100 ∧ 0 ≤ s2 ∧ 0 ≤ s1 ∧ s1 < (xln h s2) ∧ (xFix (xst h s2 s1 s0) → xwp G m_M_differentIn (d + 217) 0 [xR 53, xI x3, xI 1, xZ, xZ] [] (xst h s2 s1 s0) (fun v9 h9 => xwp G m_M_ofSegment (d + 218) 44 [xR 53, xL x1, xZ, xI x3, xZ, xZ, xZ, xZ, xZ, xZ, xZ] (xpush v9 [xI 4, xR s3, xR s3]) h9 Q X) X)) : xwp G m_M_ofSegment (d + 218) 35 [xR 53, xL x1, xZ, xI x3, xZ, xZ, xZ, xZ, xZ, xZ, xZ] [xI s0, xI s1, xR s2, xR s3] h Q X := by
  have hnx9 : (93 : Int) ≤ xnx h := F.2.2
  refine xr_okL (fun hl9 => ?_)
  have r_x1 : -9223372036854775808 ≤ x1 ∧ x1 ≤ 9223372036854775807 := hl9 (xL x1) (.tail _ (.head _)) (Nat.le_of_ble_eq_true rfl)
  have r_x3 : -2147483648 ≤ x3 ∧ x3 ≤ 2147483647 := hl9 (xI x3) (.tail _ (.tail _ (.tail _ (.head _)))) (Nat.le_of_ble_eq_true rfl)
  refine xr_okS (fun hs9 => ?_)
  have r_s0 : -2147483648 ≤ s0 ∧ s0 ≤ 2147483647 := hs9 (xI s0) (.head _)
  have r_s1 : -2147483648 ≤ s1 ∧ s1 ≤ 2147483647 := hs9 (xI s1) (.tail _ (.head _))
  obtain ⟨c9, hyp⟩ := hyp
  have t1_ := c9
  clear c9
  obtain ⟨c2_, hyp⟩ := hyp
  obtain ⟨c3_, hyp⟩ := hyp
  obtain ⟨c4_, hyp⟩ := hyp
  refine xr_iastore (pc := 35) (hI := d_M_ofSegment_35) t1_ c2_ c3_ (xlt_of rfl c4_) ?_
  have F5_ : xFix (xst h s2 s1 s0) := F.stTA (t := 100) c2_ t1_ xta_100
  refine xr_dup (pc := 36) (hI := d_M_ofSegment_36) (hv := rfl) ?_
  refine xr_iconst (pc := 37) (hI := d_M_ofSegment_37) (hr := by decide) ?_
  refine xr_aload_n (pc := 38) (i := 0) (hI := d_M_ofSegment_38) (hi := rfl) (hl := rfl) ?_
  refine xr_iload_n (pc := 39) (i := 3) (hI := d_M_ofSegment_39) (hi := rfl) (hl := rfl) ?_
  refine xr_iconst (pc := 40) (hI := d_M_ofSegment_40) (hr := by decide) ?_
  exact xq_callV (pc := 41) (index := 426) (K := m_M_differentIn) (As := [xI x3, xI 1]) (S := [xI 4, xR s3, xR s3]) (L0 := [xR 53, xI x3, xI 1, xZ, xZ]) (hI := d_M_ofSegment_41) (hK := k_M_differentIn) (hlk := w_1881) (hnoM := rfl) (hS8 := Nat.le_of_ble_eq_true rfl) (ci := 11) (N := 38) (C := "BeaconIndexModel") (T := xF11) (hc := rfl) (hci := Nat.le_of_ble_eq_true rfl) (htb := (ft_53 F5_)) (hinst := w_1883) (hsel := sel_M_differentIn) (hlen := Nat.le_of_ble_eq_true rfl) (hst := rfl) (hL0 := rfl)  (hyp F5_)
theorem d_M_ofSegment_44 : decode prog_14_method_114_code 44 = .ok (.iastore, 1) := by decide +kernel
theorem d_M_ofSegment_45 : decode prog_14_method_114_code 45 = .ok (.astore 4, 2) := by decide +kernel
theorem d_M_ofSegment_47 : decode prog_14_method_114_code 47 = .ok (.lload_n 1, 1) := by decide +kernel
theorem d_M_ofSegment_48 : decode prog_14_method_114_code 48 = .ok (.lstore 5, 2) := by decide +kernel
theorem d_M_ofSegment_50 : decode prog_14_method_114_code 50 = .ok (.aload 4, 2) := by decide +kernel
theorem d_M_ofSegment_52 : decode prog_14_method_114_code 52 = .ok (.astore 7, 2) := by decide +kernel
theorem d_M_ofSegment_54 : decode prog_14_method_114_code 54 = .ok (.aload 7, 2) := by decide +kernel
theorem d_M_ofSegment_56 : decode prog_14_method_114_code 56 = .ok (.arraylength, 1) := by decide +kernel
theorem d_M_ofSegment_57 : decode prog_14_method_114_code 57 = .ok (.istore 8, 2) := by decide +kernel
theorem d_M_ofSegment_59 : decode prog_14_method_114_code 59 = .ok (.iconst 0, 1) := by decide +kernel
theorem d_M_ofSegment_60 : decode prog_14_method_114_code 60 = .ok (.istore 9, 2) := by decide +kernel
theorem v_M_ofSegment_44 {G : XG} {d : Nat} {h : XH} {Q : XV → XH → Prop} {X : Nat → XH → Prop} {x1 x3 s0 s1 s2 s3 : Int} (F : xFix h) (hyp : xtg h s2 = 100 ∧ 0 ≤ s2 ∧ 0 ≤ s1 ∧ s1 < (xln h s2) ∧ xtg h s3 = 100 ∧ (xFix (xst h s2 s1 s0) → xwp G m_M_ofSegment (d + 218) 62 [xR 53, xZ, xZ, xI x3, xZ, xL x1, xZ, xR s3, xI (xln h s3), xI 0, xZ] [] (xst h s2 s1 s0) Q X)) : xwp G m_M_ofSegment (d + 218) 44 [xR 53, xL x1, xZ, xI x3, xZ, xZ, xZ, xZ, xZ, xZ, xZ] [xI s0, xI s1, xR s2, xR s3] h Q X := by
  have hnx9 : (93 : Int) ≤ xnx h := F.2.2
  refine xr_okL (fun hl9 => ?_)
  have r_x1 : -9223372036854775808 ≤ x1 ∧ x1 ≤ 9223372036854775807 := hl9 (xL x1) (.tail _ (.head _)) (Nat.le_of_ble_eq_true rfl)
  have r_x3 : -2147483648 ≤ x3 ∧ x3 ≤ 2147483647 := hl9 (xI x3) (.tail _ (.tail _ (.tail _ (.head _)))) (Nat.le_of_ble_eq_true rfl)
  refine xr_okS (fun hs9 => ?_)
  have r_s0 : -2147483648 ≤ s0 ∧ s0 ≤ 2147483647 := hs9 (xI s0) (.head _)
  have r_s1 : -2147483648 ≤ s1 ∧ s1 ≤ 2147483647 := hs9 (xI s1) (.tail _ (.head _))
  obtain ⟨c9, hyp⟩ := hyp
  have t1_ := c9
  clear c9
  obtain ⟨c2_, hyp⟩ := hyp
  obtain ⟨c3_, hyp⟩ := hyp
  obtain ⟨c4_, hyp⟩ := hyp
  refine xr_iastore (pc := 44) (hI := d_M_ofSegment_44) t1_ c2_ c3_ (xlt_of rfl c4_) ?_
  have F5_ : xFix (xst h s2 s1 s0) := F.stTA (t := 100) c2_ t1_ xta_100
  refine xr_astore (pc := 45) (i := 4) (L9 := [xR 53, xL x1, xZ, xI x3, xR s3, xZ, xZ, xZ, xZ, xZ, xZ]) (hI := d_M_ofSegment_45) (hn := Nat.le_of_ble_eq_true rfl) (hL9 := rfl) ?_
  refine xr_lload_n (pc := 47) (i := 1) (hI := d_M_ofSegment_47) (hi := rfl) (hl := rfl) ?_
  refine xr_lstore (pc := 48) (i := 5) (L9 := [xR 53, xL x1, xZ, xI x3, xR s3, xL x1, xZ, xZ, xZ, xZ, xZ]) (hI := d_M_ofSegment_48) (hn := Nat.le_of_ble_eq_true rfl) (hL9 := rfl) ?_
  refine xr_aload (pc := 50) (i := 4) (hI := d_M_ofSegment_50) (hl := rfl) ?_
  refine xr_astore (pc := 52) (i := 7) (L9 := [xR 53, xL x1, xZ, xI x3, xR s3, xL x1, xZ, xR s3, xZ, xZ, xZ]) (hI := d_M_ofSegment_52) (hn := Nat.le_of_ble_eq_true rfl) (hL9 := rfl) ?_
  refine xr_aload (pc := 54) (i := 7) (hI := d_M_ofSegment_54) (hl := rfl) ?_
  obtain ⟨c9, hyp⟩ := hyp
  have t6_ := c9
  clear c9
  refine xg_alen (pc := 56) (t := 100) (v := (xln h s3)) (hI := d_M_ofSegment_56) t6_ (Nat.le_of_ble_eq_true rfl) (Nat.le_of_ble_eq_true rfl) rfl (show xln (xst h s2 s1 s0) s3 = xln h s3 from rfl) (fun f7_ f8_ => ?_)
  refine xr_istore (pc := 57) (i := 8) (L9 := [xR 53, xL x1, xZ, xI x3, xR s3, xL x1, xZ, xR s3, xI (xln h s3), xZ, xZ]) (hI := d_M_ofSegment_57) (hn := Nat.le_of_ble_eq_true rfl) (hL9 := rfl) ?_
  refine xr_iconst (pc := 59) (hI := d_M_ofSegment_59) (hr := by decide) ?_
  refine xr_istore (pc := 60) (i := 9) (L9 := [xR 53, xL x1, xZ, xI x3, xR s3, xL x1, xZ, xR s3, xI (xln h s3), xI 0, xZ]) (hI := d_M_ofSegment_60) (hn := Nat.le_of_ble_eq_true rfl) (hL9 := rfl) ?_
  exact xr_drop (L9 := [xR 53, xZ, xZ, xI x3, xZ, xL x1, xZ, xR s3, xI (xln h s3), xI 0, xZ]) (xdrs (xdrz (xdrs (xdrs (xdrz (xdrs (xdrs (xdrs (xdrs (xdrs (xdrs xdr0))))))))))) (hyp F5_)
theorem d_M_ofSegment_62 : decode prog_14_method_114_code 62 = .ok (.iload 9, 2) := by decide +kernel
theorem d_M_ofSegment_64 : decode prog_14_method_114_code 64 = .ok (.iload 8, 2) := by decide +kernel
theorem d_M_ofSegment_66 : decode prog_14_method_114_code 66 = .ok (.if_icmp .ge 25, 3) := by decide +kernel
theorem d_M_ofSegment_91 : decode prog_14_method_114_code 91 = .ok (.aload_n 0, 1) := by decide +kernel
theorem d_M_ofSegment_92 : decode prog_14_method_114_code 92 = .ok (.iload_n 3, 1) := by decide +kernel
theorem d_M_ofSegment_93 : decode prog_14_method_114_code 93 = .ok (.invokevirtual 179, 3) := by decide +kernel
theorem d_M_ofSegment_69 : decode prog_14_method_114_code 69 = .ok (.aload 7, 2) := by decide +kernel
theorem d_M_ofSegment_71 : decode prog_14_method_114_code 71 = .ok (.iload 9, 2) := by decide +kernel
theorem d_M_ofSegment_73 : decode prog_14_method_114_code 73 = .ok (.iaload, 1) := by decide +kernel
theorem d_M_ofSegment_74 : decode prog_14_method_114_code 74 = .ok (.istore 10, 2) := by decide +kernel
theorem d_M_ofSegment_76 : decode prog_14_method_114_code 76 = .ok (.lload 5, 2) := by decide +kernel
theorem d_M_ofSegment_78 : decode prog_14_method_114_code 78 = .ok (.iload 10, 2) := by decide +kernel
theorem d_M_ofSegment_80 : decode prog_14_method_114_code 80 = .ok (.invokestatic 471, 3) := by decide +kernel
abbrev m_M_with : XM := (⟨"BeaconIndexModel", "with", "(JI)J"⟩, prog_14_method_113_code, 3, (some .long), [])
theorem k_M_with : xCal m_M_with 2 := ⟨List.mem_append_right _ (List.mem_of_getElem? (i := 2485) (by decide +kernel)), w_15, Nat.le_of_ble_eq_true rfl, ⟨by decide +kernel, by decide +kernel⟩, by decide +kernel, by decide +kernel, rfl⟩
theorem w_2483 : Cond.methodLink "BeaconIndexModel" 471 ⟨"BeaconIndexModel", "with", "(JI)J"⟩ ∈ lw_tbl := List.mem_append_right _ (List.mem_of_getElem? (i := 2483) (by decide +kernel))
theorem w_2484 : Cond.static ⟨"BeaconIndexModel", "with", "(JI)J"⟩ ∈ lw_tbl := List.mem_append_right _ (List.mem_of_getElem? (i := 2484) (by decide +kernel))
theorem d_M_with_0 : decode prog_14_method_113_code 0 = .ok (.lload_n 0, 1) := by decide +kernel
theorem d_M_with_1 : decode prog_14_method_113_code 1 = .ok (.ldc2_w 469, 3) := by decide +kernel
theorem w_2486 : Cond.constantLong "BeaconIndexModel" 469 (31 : Int64) ∈ lw_tbl := List.mem_append_right _ (List.mem_of_getElem? (i := 2486) (by decide +kernel))
theorem d_M_with_4 : decode prog_14_method_113_code 4 = .ok (.lmul, 1) := by decide +kernel
theorem d_M_with_5 : decode prog_14_method_113_code 5 = .ok (.iload_n 2, 1) := by decide +kernel
theorem d_M_with_6 : decode prog_14_method_113_code 6 = .ok (.i2l, 1) := by decide +kernel
theorem d_M_with_7 : decode prog_14_method_113_code 7 = .ok (.ladd, 1) := by decide +kernel
theorem d_M_with_8 : decode prog_14_method_113_code 8 = .ok (.lreturn, 1) := by decide +kernel
theorem d_M_ofSegment_83 : decode prog_14_method_114_code 83 = .ok (.lstore 5, 2) := by decide +kernel
theorem d_M_ofSegment_85 : decode prog_14_method_114_code 85 = .ok (.iinc 9 1, 3) := by decide +kernel
theorem d_M_ofSegment_88 : decode prog_14_method_114_code 88 = .ok (.goto (-26), 3) := by decide +kernel
theorem v_M_ofSegment_62 {G : XG} {d : Nat} {h : XH} {Q : XV → XH → Prop} {X : Nat → XH → Prop} {x3 x5 x7 x8 x9 : Int} (F : xFix h) (hyp : ((x8 ≤ x9 → (xwp G m_M_startOf (d + 217) 0 [xR 53, xI x3] [] h (fun v9 h9 => xwp G m_M_ofSegment (d + 218) 96 [xR 53, xZ, xZ, xI x3, xZ, xL x5, xZ, xZ, xZ, xZ, xZ] (xpush v9 []) h9 Q X) X)) ∧ (¬ x8 ≤ x9 → xtg h x7 = 100 ∧ 0 ≤ x9 ∧ x9 < (xln h x7) ∧ (xwp G m_M_ofSegment (d + 218) 62 [xR 53, xZ, xZ, xI x3, xZ, xL (xw64 ((xw64 (x5 * 31)) + (xpl h x7 x9))), xZ, xR x7, xI x8, xI (x9 + 1), xZ] [] h Q X)))) : xwp G m_M_ofSegment (d + 218) 62 [xR 53, xZ, xZ, xI x3, xZ, xL x5, xZ, xR x7, xI x8, xI x9, xZ] [] h Q X := by
  have hnx9 : (93 : Int) ≤ xnx h := F.2.2
  refine xr_okL (fun hl9 => ?_)
  have r_x3 : -2147483648 ≤ x3 ∧ x3 ≤ 2147483647 := hl9 (xI x3) (.tail _ (.tail _ (.tail _ (.head _)))) (Nat.le_of_ble_eq_true rfl)
  have r_x5 : -9223372036854775808 ≤ x5 ∧ x5 ≤ 9223372036854775807 := hl9 (xL x5) (.tail _ (.tail _ (.tail _ (.tail _ (.tail _ (.head _)))))) (Nat.le_of_ble_eq_true rfl)
  have r_x8 : -2147483648 ≤ x8 ∧ x8 ≤ 2147483647 := hl9 (xI x8) (.tail _ (.tail _ (.tail _ (.tail _ (.tail _ (.tail _ (.tail _ (.tail _ (.head _))))))))) (Nat.le_of_ble_eq_true rfl)
  have r_x9 : -2147483648 ≤ x9 ∧ x9 ≤ 2147483647 := hl9 (xI x9) (.tail _ (.tail _ (.tail _ (.tail _ (.tail _ (.tail _ (.tail _ (.tail _ (.tail _ (.head _)))))))))) (Nat.le_of_ble_eq_true rfl)
  refine xr_iload (pc := 62) (i := 9) (hI := d_M_ofSegment_62) (hl := rfl) ?_
  refine xr_iload (pc := 64) (i := 8) (hI := d_M_ofSegment_64) (hl := rfl) ?_
  refine xr_icmp_ge (pc := 66) (tgt := 91) (hI := d_M_ofSegment_66) (ht := by decide) (fun q9 => ?_) (fun q9 => ?_)
  · replace hyp := hyp.1 q9
    have q1_ := q9
    clear q9
    refine xr_aload_n (pc := 91) (i := 0) (hI := d_M_ofSegment_91) (hi := rfl) (hl := rfl) ?_
    refine xr_iload_n (pc := 92) (i := 3) (hI := d_M_ofSegment_92) (hi := rfl) (hl := rfl) ?_
    exact xq_callV (pc := 93) (index := 179) (K := m_M_startOf) (As := [xI x3]) (S := []) (L0 := [xR 53, xI x3]) (hI := d_M_ofSegment_93) (hK := k_M_startOf) (hlk := w_1736) (hnoM := rfl) (hS8 := Nat.le_of_ble_eq_true rfl) (ci := 11) (N := 38) (C := "BeaconIndexModel") (T := xF11) (hc := rfl) (hci := Nat.le_of_ble_eq_true rfl) (htb := (ft_53 F)) (hinst := w_1738) (hsel := sel_M_startOf) (hlen := Nat.le_of_ble_eq_true rfl) (hst := rfl) (hL0 := rfl)  (xwp_mono hyp (fun v9 h9 q9 => xr_drop (L9 := [xR 53, xZ, xZ, xI x3, xZ, xL x5, xZ, xZ, xZ, xZ, xZ]) (xdrs (xdrs (xdrs (xdrs (xdrs (xdrs (xdrs (xdrz (xdrz (xdrz (xdrs xdr0))))))))))) q9) (fun _ _ z9 => z9))
  · replace hyp := hyp.2 q9
    have q1_ := q9
    clear q9
    refine xr_aload (pc := 69) (i := 7) (hI := d_M_ofSegment_69) (hl := rfl) ?_
    refine xr_iload (pc := 71) (i := 9) (hI := d_M_ofSegment_71) (hl := rfl) ?_
    obtain ⟨c9, hyp⟩ := hyp
    have t2_ := c9
    clear c9
    obtain ⟨c3_, hyp⟩ := hyp
    obtain ⟨c4_, hyp⟩ := hyp
    refine xg_iaload (pc := 73) (v := (xpl h x7 x9)) (hI := d_M_ofSegment_73) t2_ c3_ (xlt_of rfl c4_) rfl (fun f5_ => ?_)
    replace f5_ : -2147483648 ≤ (xpl h x7 x9) ∧ (xpl h x7 x9) ≤ 2147483647 := f5_
    refine xr_istore (pc := 74) (i := 10) (L9 := [xR 53, xZ, xZ, xI x3, xZ, xL x5, xZ, xR x7, xI x8, xI x9, xI (xpl h x7 x9)]) (hI := d_M_ofSegment_74) (hn := Nat.le_of_ble_eq_true rfl) (hL9 := rfl) ?_
    refine xr_lload (pc := 76) (i := 5) (hI := d_M_ofSegment_76) (hl := rfl) ?_
    refine xr_iload (pc := 78) (i := 10) (hI := d_M_ofSegment_78) (hl := rfl) ?_
    refine xq_callS (pc := 80) (index := 471) (K := m_M_with) (As := [xL x5, xI (xpl h x7 x9)]) (S := []) (L0 := [xL x5, xZ, xI (xpl h x7 x9)]) (hI := d_M_ofSegment_80) (hK := k_M_with) (hlk := w_2483) (hnoM := rfl) (hS8 := Nat.le_of_ble_eq_true rfl) (hstat := w_2484) (hlen := Nat.le_of_ble_eq_true rfl) (hst := rfl) (hL0 := rfl)  ?_
    refine xr_lload_n (pc := 0) (i := 0) (hI := d_M_with_0) (hi := rfl) (hl := rfl) ?_
    refine xr_ldc2 (pc := 1) (z := 31) (hI := d_M_with_1) (hw := w_2486) (hr := by decide) (hv := by decide) ?_
    refine xr_lmul (pc := 4) (hI := d_M_with_4) ?_
    refine xr_iload_n (pc := 5) (i := 2) (hI := d_M_with_5) (hi := rfl) (hl := rfl) ?_
    refine xr_i2l (pc := 6) (hI := d_M_with_6) ?_
    refine xr_ladd (pc := 7) (hI := d_M_with_7) ?_
    refine xr_lreturn (S := []) (pc := 8) (hI := d_M_with_8) (hr := rfl) ?_
    show xwp G m_M_ofSegment (d + 218) 83 [xR 53, xZ, xZ, xI x3, xZ, xL x5, xZ, xR x7, xI x8, xI x9, xI (xpl h x7 x9)] [xL (xw64 ((xw64 (x5 * 31)) + (xpl h x7 x9)))] _ _ _
    refine xr_lstore (pc := 83) (i := 5) (L9 := [xR 53, xZ, xZ, xI x3, xZ, xL (xw64 ((xw64 (x5 * 31)) + (xpl h x7 x9))), xZ, xR x7, xI x8, xI x9, xI (xpl h x7 x9)]) (hI := d_M_ofSegment_83) (hn := Nat.le_of_ble_eq_true rfl) (hL9 := rfl) ?_
    refine xr_iinc (pc := 85) (i := 9) (L9 := [xR 53, xZ, xZ, xI x3, xZ, xL (xw64 ((xw64 (x5 * 31)) + (xpl h x7 x9))), xZ, xR x7, xI x8, xI (x9 + 1), xI (xpl h x7 x9)]) (hI := d_M_ofSegment_85) (hl := rfl) (hn := Nat.le_of_ble_eq_true rfl) (hr := ⟨by clear hyp; omega, by clear hyp; omega⟩) (hL9 := rfl) ?_
    refine xr_goto (pc := 88) (tgt := 62) (hI := d_M_ofSegment_88) (ht := by decide) ?_
    exact xr_drop (L9 := [xR 53, xZ, xZ, xI x3, xZ, xL (xw64 ((xw64 (x5 * 31)) + (xpl h x7 x9))), xZ, xR x7, xI x8, xI (x9 + 1), xZ]) (xdrs (xdrs (xdrs (xdrs (xdrs (xdrs (xdrs (xdrs (xdrs (xdrs (xdrz xdr0))))))))))) hyp
theorem d_M_ofSegment_96 : decode prog_14_method_114_code 96 = .ok (.istore 7, 2) := by decide +kernel
theorem v_M_ofSegment_96 {G : XG} {d : Nat} {h : XH} {Q : XV → XH → Prop} {X : Nat → XH → Prop} {x3 x5 s0 : Int} (F : xFix h) (hyp : (xwp G m_M_ofSegment (d + 218) 98 [xR 53, xZ, xZ, xI x3, xZ, xL x5, xZ, xI s0, xZ, xZ, xZ] [] h Q X)) : xwp G m_M_ofSegment (d + 218) 96 [xR 53, xZ, xZ, xI x3, xZ, xL x5, xZ, xZ, xZ, xZ, xZ] [xI s0] h Q X := by
  have hnx9 : (93 : Int) ≤ xnx h := F.2.2
  refine xr_okL (fun hl9 => ?_)
  have r_x3 : -2147483648 ≤ x3 ∧ x3 ≤ 2147483647 := hl9 (xI x3) (.tail _ (.tail _ (.tail _ (.head _)))) (Nat.le_of_ble_eq_true rfl)
  have r_x5 : -9223372036854775808 ≤ x5 ∧ x5 ≤ 9223372036854775807 := hl9 (xL x5) (.tail _ (.tail _ (.tail _ (.tail _ (.tail _ (.head _)))))) (Nat.le_of_ble_eq_true rfl)
  refine xr_okS (fun hs9 => ?_)
  have r_s0 : -2147483648 ≤ s0 ∧ s0 ≤ 2147483647 := hs9 (xI s0) (.head _)
  refine xr_istore (pc := 96) (i := 7) (L9 := [xR 53, xZ, xZ, xI x3, xZ, xL x5, xZ, xI s0, xZ, xZ, xZ]) (hI := d_M_ofSegment_96) (hn := Nat.le_of_ble_eq_true rfl) (hL9 := rfl) ?_
  exact hyp
theorem d_M_ofSegment_98 : decode prog_14_method_114_code 98 = .ok (.iload 7, 2) := by decide +kernel
theorem d_M_ofSegment_100 : decode prog_14_method_114_code 100 = .ok (.aload_n 0, 1) := by decide +kernel
theorem d_M_ofSegment_101 : decode prog_14_method_114_code 101 = .ok (.getfield 16, 3) := by decide +kernel
theorem d_M_ofSegment_104 : decode prog_14_method_114_code 104 = .ok (.iload_n 3, 1) := by decide +kernel
theorem d_M_ofSegment_105 : decode prog_14_method_114_code 105 = .ok (.iaload, 1) := by decide +kernel
theorem d_M_ofSegment_106 : decode prog_14_method_114_code 106 = .ok (.if_icmp .ge 80, 3) := by decide +kernel
theorem d_M_ofSegment_186 : decode prog_14_method_114_code 186 = .ok (.lload 5, 2) := by decide +kernel
theorem d_M_ofSegment_188 : decode prog_14_method_114_code 188 = .ok (.lreturn, 1) := by decide +kernel
theorem d_M_ofSegment_109 : decode prog_14_method_114_code 109 = .ok (.aload_n 0, 1) := by decide +kernel
theorem d_M_ofSegment_110 : decode prog_14_method_114_code 110 = .ok (.getfield 13, 3) := by decide +kernel
theorem d_M_ofSegment_113 : decode prog_14_method_114_code 113 = .ok (.iload 7, 2) := by decide +kernel
theorem d_M_ofSegment_115 : decode prog_14_method_114_code 115 = .ok (.iaload, 1) := by decide +kernel
theorem d_M_ofSegment_116 : decode prog_14_method_114_code 116 = .ok (.istore 8, 2) := by decide +kernel
theorem d_M_ofSegment_118 : decode prog_14_method_114_code 118 = .ok (.lload 5, 2) := by decide +kernel
theorem d_M_ofSegment_120 : decode prog_14_method_114_code 120 = .ok (.aload_n 0, 1) := by decide +kernel
theorem d_M_ofSegment_121 : decode prog_14_method_114_code 121 = .ok (.getfield 19, 3) := by decide +kernel
theorem d_M_ofSegment_124 : decode prog_14_method_114_code 124 = .ok (.iload 8, 2) := by decide +kernel
theorem d_M_ofSegment_126 : decode prog_14_method_114_code 126 = .ok (.iaload, 1) := by decide +kernel
theorem d_M_ofSegment_127 : decode prog_14_method_114_code 127 = .ok (.invokestatic 471, 3) := by decide +kernel
theorem d_M_ofSegment_130 : decode prog_14_method_114_code 130 = .ok (.aload_n 0, 1) := by decide +kernel
theorem d_M_ofSegment_131 : decode prog_14_method_114_code 131 = .ok (.getfield 28, 3) := by decide +kernel
theorem d_M_ofSegment_134 : decode prog_14_method_114_code 134 = .ok (.iload 8, 2) := by decide +kernel
theorem d_M_ofSegment_136 : decode prog_14_method_114_code 136 = .ok (.baload, 1) := by decide +kernel
theorem d_M_ofSegment_137 : decode prog_14_method_114_code 137 = .ok (.ifCond .eq 7, 3) := by decide +kernel
theorem d_M_ofSegment_144 : decode prog_14_method_114_code 144 = .ok (.iconst 0, 1) := by decide +kernel
theorem d_M_ofSegment_140 : decode prog_14_method_114_code 140 = .ok (.iconst 1, 1) := by decide +kernel
theorem d_M_ofSegment_141 : decode prog_14_method_114_code 141 = .ok (.goto 4, 3) := by decide +kernel
theorem v_M_ofSegment_98 {G : XG} {d : Nat} {h : XH} {Q : XV → XH → Prop} {X : Nat → XH → Prop} {x3 x5 x7 : Int} (F : xFix h) (hyp : 0 ≤ x3 ∧ x3 < 60 ∧ (((xpl h 56 x3) ≤ x7 → (Q (xL x5) h)) ∧ (¬ (xpl h 56 x3) ≤ x7 → 0 ≤ x7 ∧ x7 < 60 ∧ 0 ≤ (xpl h 55 x7) ∧ (xpl h 55 x7) < 60 ∧ (((xpl h 60 (xpl h 55 x7)) = 0 → (xwp G m_M_ofSegment (d + 218) 145 [xR 53, xZ, xZ, xI x3, xZ, xZ, xZ, xI x7, xI (xpl h 55 x7), xZ, xZ] [xI 0, xL (xw64 ((xw64 (x5 * 31)) + (xpl h 57 (xpl h 55 x7))))] h Q X)) ∧ (¬ (xpl h 60 (xpl h 55 x7)) = 0 → (xwp G m_M_ofSegment (d + 218) 145 [xR 53, xZ, xZ, xI x3, xZ, xZ, xZ, xI x7, xI (xpl h 55 x7), xZ, xZ] [xI 1, xL (xw64 ((xw64 (x5 * 31)) + (xpl h 57 (xpl h 55 x7))))] h Q X)))))) : xwp G m_M_ofSegment (d + 218) 98 [xR 53, xZ, xZ, xI x3, xZ, xL x5, xZ, xI x7, xZ, xZ, xZ] [] h Q X := by
  have hnx9 : (93 : Int) ≤ xnx h := F.2.2
  refine xr_okL (fun hl9 => ?_)
  have r_x3 : -2147483648 ≤ x3 ∧ x3 ≤ 2147483647 := hl9 (xI x3) (.tail _ (.tail _ (.tail _ (.head _)))) (Nat.le_of_ble_eq_true rfl)
  have r_x5 : -9223372036854775808 ≤ x5 ∧ x5 ≤ 9223372036854775807 := hl9 (xL x5) (.tail _ (.tail _ (.tail _ (.tail _ (.tail _ (.head _)))))) (Nat.le_of_ble_eq_true rfl)
  have r_x7 : -2147483648 ≤ x7 ∧ x7 ≤ 2147483647 := hl9 (xI x7) (.tail _ (.tail _ (.tail _ (.tail _ (.tail _ (.tail _ (.tail _ (.head _)))))))) (Nat.le_of_ble_eq_true rfl)
  refine xr_iload (pc := 98) (i := 7) (hI := d_M_ofSegment_98) (hl := rfl) ?_
  refine xr_aload_n (pc := 100) (i := 0) (hI := d_M_ofSegment_100) (hi := rfl) (hl := rfl) ?_
  refine xg_getf (pc := 101) (ci := 11) (k := 7) (N := 38) (v9 := 2) (v := 56) (T := xF11) (hI := d_M_ofSegment_101) (hw := w_1594) rfl xi11 (Or.inl rfl) (Nat.le_of_ble_eq_true rfl) (Nat.le_of_ble_eq_true rfl) rfl (ft_53 F) (fp_53_7 F) (fun f1_ => ?_)
  clear f1_
  refine xr_iload_n (pc := 104) (i := 3) (hI := d_M_ofSegment_104) (hi := rfl) (hl := rfl) ?_
  obtain ⟨c2_, hyp⟩ := hyp
  obtain ⟨c3_, hyp⟩ := hyp
  refine xg_iaload (pc := 105) (v := (xpl h 56 x3)) (hI := d_M_ofSegment_105) (ft_56 F) c2_ (xlt_of (fl_56 F) c3_) rfl (fun f4_ => ?_)
  replace f4_ : -2147483648 ≤ (xpl h 56 x3) ∧ (xpl h 56 x3) ≤ 2147483647 := f4_
  refine xr_icmp_ge (pc := 106) (tgt := 186) (hI := d_M_ofSegment_106) (ht := by decide) (fun q9 => ?_) (fun q9 => ?_)
  · replace hyp := hyp.1 q9
    have q5_ := q9
    clear q9
    refine xr_lload (pc := 186) (i := 5) (hI := d_M_ofSegment_186) (hl := rfl) ?_
    refine xr_lreturn (S := []) (pc := 188) (hI := d_M_ofSegment_188) (hr := rfl) ?_
    exact hyp
  · replace hyp := hyp.2 q9
    have q5_ := q9
    clear q9
    refine xr_aload_n (pc := 109) (i := 0) (hI := d_M_ofSegment_109) (hi := rfl) (hl := rfl) ?_
    refine xg_getf (pc := 110) (ci := 11) (k := 3) (N := 38) (v9 := 2) (v := 55) (T := xF11) (hI := d_M_ofSegment_110) (hw := w_1590) rfl xi11 (Or.inl rfl) (Nat.le_of_ble_eq_true rfl) (Nat.le_of_ble_eq_true rfl) rfl (ft_53 F) (fp_53_3 F) (fun f6_ => ?_)
    clear f6_
    refine xr_iload (pc := 113) (i := 7) (hI := d_M_ofSegment_113) (hl := rfl) ?_
    obtain ⟨c7_, hyp⟩ := hyp
    obtain ⟨c8_, hyp⟩ := hyp
    refine xg_iaload (pc := 115) (v := (xpl h 55 x7)) (hI := d_M_ofSegment_115) (ft_55 F) c7_ (xlt_of (fl_55 F) c8_) rfl (fun f9_ => ?_)
    replace f9_ : -2147483648 ≤ (xpl h 55 x7) ∧ (xpl h 55 x7) ≤ 2147483647 := f9_
    refine xr_istore (pc := 116) (i := 8) (L9 := [xR 53, xZ, xZ, xI x3, xZ, xL x5, xZ, xI x7, xI (xpl h 55 x7), xZ, xZ]) (hI := d_M_ofSegment_116) (hn := Nat.le_of_ble_eq_true rfl) (hL9 := rfl) ?_
    refine xr_lload (pc := 118) (i := 5) (hI := d_M_ofSegment_118) (hl := rfl) ?_
    refine xr_aload_n (pc := 120) (i := 0) (hI := d_M_ofSegment_120) (hi := rfl) (hl := rfl) ?_
    refine xg_getf (pc := 121) (ci := 11) (k := 8) (N := 38) (v9 := 2) (v := 57) (T := xF11) (hI := d_M_ofSegment_121) (hw := w_1595) rfl xi11 (Or.inl rfl) (Nat.le_of_ble_eq_true rfl) (Nat.le_of_ble_eq_true rfl) rfl (ft_53 F) (fp_53_8 F) (fun f10_ => ?_)
    clear f10_
    refine xr_iload (pc := 124) (i := 8) (hI := d_M_ofSegment_124) (hl := rfl) ?_
    obtain ⟨c11_, hyp⟩ := hyp
    obtain ⟨c12_, hyp⟩ := hyp
    refine xg_iaload (pc := 126) (v := (xpl h 57 (xpl h 55 x7))) (hI := d_M_ofSegment_126) (ft_57 F) c11_ (xlt_of (fl_57 F) c12_) rfl (fun f13_ => ?_)
    replace f13_ : -2147483648 ≤ (xpl h 57 (xpl h 55 x7)) ∧ (xpl h 57 (xpl h 55 x7)) ≤ 2147483647 := f13_
    refine xq_callS (pc := 127) (index := 471) (K := m_M_with) (As := [xL x5, xI (xpl h 57 (xpl h 55 x7))]) (S := []) (L0 := [xL x5, xZ, xI (xpl h 57 (xpl h 55 x7))]) (hI := d_M_ofSegment_127) (hK := k_M_with) (hlk := w_2483) (hnoM := rfl) (hS8 := Nat.le_of_ble_eq_true rfl) (hstat := w_2484) (hlen := Nat.le_of_ble_eq_true rfl) (hst := rfl) (hL0 := rfl)  ?_
    refine xr_lload_n (pc := 0) (i := 0) (hI := d_M_with_0) (hi := rfl) (hl := rfl) ?_
    refine xr_ldc2 (pc := 1) (z := 31) (hI := d_M_with_1) (hw := w_2486) (hr := by decide) (hv := by decide) ?_
    refine xr_lmul (pc := 4) (hI := d_M_with_4) ?_
    refine xr_iload_n (pc := 5) (i := 2) (hI := d_M_with_5) (hi := rfl) (hl := rfl) ?_
    refine xr_i2l (pc := 6) (hI := d_M_with_6) ?_
    refine xr_ladd (pc := 7) (hI := d_M_with_7) ?_
    refine xr_lreturn (S := []) (pc := 8) (hI := d_M_with_8) (hr := rfl) ?_
    show xwp G m_M_ofSegment (d + 218) 130 [xR 53, xZ, xZ, xI x3, xZ, xL x5, xZ, xI x7, xI (xpl h 55 x7), xZ, xZ] [xL (xw64 ((xw64 (x5 * 31)) + (xpl h 57 (xpl h 55 x7))))] _ _ _
    refine xr_aload_n (pc := 130) (i := 0) (hI := d_M_ofSegment_130) (hi := rfl) (hl := rfl) ?_
    refine xg_getf (pc := 131) (ci := 11) (k := 11) (N := 38) (v9 := 2) (v := 60) (T := xF11) (hI := d_M_ofSegment_131) (hw := w_1598) rfl xi11 (Or.inl rfl) (Nat.le_of_ble_eq_true rfl) (Nat.le_of_ble_eq_true rfl) rfl (ft_53 F) (fp_53_11 F) (fun f14_ => ?_)
    clear f14_
    refine xr_iload (pc := 134) (i := 8) (hI := d_M_ofSegment_134) (hl := rfl) ?_
    refine xg_baloadZ (pc := 136) (v := (xpl h 60 (xpl h 55 x7))) (hI := d_M_ofSegment_136) (ft_60 F) (by clear hyp; omega) (xlt_of (fl_60 F) (by clear hyp; omega)) rfl (fun f15_ => ?_)
    replace f15_ : 0 ≤ (xpl h 60 (xpl h 55 x7)) ∧ (xpl h 60 (xpl h 55 x7)) ≤ 1 := f15_
    refine xr_if_eq (pc := 137) (tgt := 144) (hI := d_M_ofSegment_137) (ht := by decide) (fun q9 => ?_) (fun q9 => ?_)
    · replace hyp := hyp.1 q9
      have q16_ := q9
      clear q9
      refine xr_iconst (pc := 144) (hI := d_M_ofSegment_144) (hr := by decide) ?_
      exact xr_drop (L9 := [xR 53, xZ, xZ, xI x3, xZ, xZ, xZ, xI x7, xI (xpl h 55 x7), xZ, xZ]) (xdrs (xdrs (xdrs (xdrs (xdrs (xdrz (xdrs (xdrs (xdrs (xdrs (xdrs xdr0))))))))))) hyp
    · replace hyp := hyp.2 q9
      have q16_ := q9
      clear q9
      refine xr_iconst (pc := 140) (hI := d_M_ofSegment_140) (hr := by decide) ?_
      refine xr_goto (pc := 141) (tgt := 145) (hI := d_M_ofSegment_141) (ht := by decide) ?_
      exact xr_drop (L9 := [xR 53, xZ, xZ, xI x3, xZ, xZ, xZ, xI x7, xI (xpl h 55 x7), xZ, xZ]) (xdrs (xdrs (xdrs (xdrs (xdrs (xdrz (xdrs (xdrs (xdrs (xdrs (xdrs xdr0))))))))))) hyp
theorem d_M_ofSegment_145 : decode prog_14_method_114_code 145 = .ok (.invokestatic 471, 3) := by decide +kernel
theorem d_M_ofSegment_148 : decode prog_14_method_114_code 148 = .ok (.lstore 5, 2) := by decide +kernel
theorem d_M_ofSegment_150 : decode prog_14_method_114_code 150 = .ok (.lload 5, 2) := by decide +kernel
theorem d_M_ofSegment_152 : decode prog_14_method_114_code 152 = .ok (.aload_n 0, 1) := by decide +kernel
theorem d_M_ofSegment_153 : decode prog_14_method_114_code 153 = .ok (.getfield 32, 3) := by decide +kernel
theorem d_M_ofSegment_156 : decode prog_14_method_114_code 156 = .ok (.iconst 2, 1) := by decide +kernel
theorem d_M_ofSegment_157 : decode prog_14_method_114_code 157 = .ok (.iload 8, 2) := by decide +kernel
theorem d_M_ofSegment_159 : decode prog_14_method_114_code 159 = .ok (.imul, 1) := by decide +kernel
theorem d_M_ofSegment_160 : decode prog_14_method_114_code 160 = .ok (.iaload, 1) := by decide +kernel
theorem d_M_ofSegment_161 : decode prog_14_method_114_code 161 = .ok (.invokestatic 471, 3) := by decide +kernel
theorem d_M_ofSegment_164 : decode prog_14_method_114_code 164 = .ok (.aload_n 0, 1) := by decide +kernel
theorem d_M_ofSegment_165 : decode prog_14_method_114_code 165 = .ok (.getfield 32, 3) := by decide +kernel
theorem d_M_ofSegment_168 : decode prog_14_method_114_code 168 = .ok (.iconst 2, 1) := by decide +kernel
theorem d_M_ofSegment_169 : decode prog_14_method_114_code 169 = .ok (.iload 8, 2) := by decide +kernel
theorem d_M_ofSegment_171 : decode prog_14_method_114_code 171 = .ok (.imul, 1) := by decide +kernel
theorem d_M_ofSegment_172 : decode prog_14_method_114_code 172 = .ok (.iconst 1, 1) := by decide +kernel
theorem d_M_ofSegment_173 : decode prog_14_method_114_code 173 = .ok (.iadd, 1) := by decide +kernel
theorem d_M_ofSegment_174 : decode prog_14_method_114_code 174 = .ok (.iaload, 1) := by decide +kernel
theorem d_M_ofSegment_175 : decode prog_14_method_114_code 175 = .ok (.invokestatic 471, 3) := by decide +kernel
theorem d_M_ofSegment_178 : decode prog_14_method_114_code 178 = .ok (.lstore 5, 2) := by decide +kernel
theorem d_M_ofSegment_180 : decode prog_14_method_114_code 180 = .ok (.iinc 7 1, 3) := by decide +kernel
theorem d_M_ofSegment_183 : decode prog_14_method_114_code 183 = .ok (.goto (-85), 3) := by decide +kernel
theorem v_M_ofSegment_145 {G : XG} {d : Nat} {h : XH} {Q : XV → XH → Prop} {X : Nat → XH → Prop} {x3 x7 x8 s0 s1 : Int} (F : xFix h) (hyp : xiR (2 * x8) ∧ 0 ≤ (2 * x8) ∧ (2 * x8) < 120 ∧ xiR (x7 + 1) ∧ (xwp G m_M_ofSegment (d + 218) 98 [xR 53, xZ, xZ, xI x3, xZ, xL (xw64 ((xw64 ((xw64 ((xw64 ((xw64 ((xw64 (s1 * 31)) + s0)) * 31)) + (xpl h 61 (2 * x8)))) * 31)) + (xpl h 61 ((2 * x8) + 1)))), xZ, xI (x7 + 1), xZ, xZ, xZ] [] h Q X)) : xwp G m_M_ofSegment (d + 218) 145 [xR 53, xZ, xZ, xI x3, xZ, xZ, xZ, xI x7, xI x8, xZ, xZ] [xI s0, xL s1] h Q X := by
  have hnx9 : (93 : Int) ≤ xnx h := F.2.2
  refine xr_okL (fun hl9 => ?_)
  have r_x3 : -2147483648 ≤ x3 ∧ x3 ≤ 2147483647 := hl9 (xI x3) (.tail _ (.tail _ (.tail _ (.head _)))) (Nat.le_of_ble_eq_true rfl)
  have r_x7 : -2147483648 ≤ x7 ∧ x7 ≤ 2147483647 := hl9 (xI x7) (.tail _ (.tail _ (.tail _ (.tail _ (.tail _ (.tail _ (.tail _ (.head _)))))))) (Nat.le_of_ble_eq_true rfl)
  have r_x8 : -2147483648 ≤ x8 ∧ x8 ≤ 2147483647 := hl9 (xI x8) (.tail _ (.tail _ (.tail _ (.tail _ (.tail _ (.tail _ (.tail _ (.tail _ (.head _))))))))) (Nat.le_of_ble_eq_true rfl)
  refine xr_okS (fun hs9 => ?_)
  have r_s0 : -2147483648 ≤ s0 ∧ s0 ≤ 2147483647 := hs9 (xI s0) (.head _)
  have r_s1 : -9223372036854775808 ≤ s1 ∧ s1 ≤ 9223372036854775807 := hs9 (xL s1) (.tail _ (.head _))
  refine xq_callS (pc := 145) (index := 471) (K := m_M_with) (As := [xL s1, xI s0]) (S := []) (L0 := [xL s1, xZ, xI s0]) (hI := d_M_ofSegment_145) (hK := k_M_with) (hlk := w_2483) (hnoM := rfl) (hS8 := Nat.le_of_ble_eq_true rfl) (hstat := w_2484) (hlen := Nat.le_of_ble_eq_true rfl) (hst := rfl) (hL0 := rfl)  ?_
  refine xr_lload_n (pc := 0) (i := 0) (hI := d_M_with_0) (hi := rfl) (hl := rfl) ?_
  refine xr_ldc2 (pc := 1) (z := 31) (hI := d_M_with_1) (hw := w_2486) (hr := by decide) (hv := by decide) ?_
  refine xr_lmul (pc := 4) (hI := d_M_with_4) ?_
  refine xr_iload_n (pc := 5) (i := 2) (hI := d_M_with_5) (hi := rfl) (hl := rfl) ?_
  refine xr_i2l (pc := 6) (hI := d_M_with_6) ?_
  refine xr_ladd (pc := 7) (hI := d_M_with_7) ?_
  refine xr_lreturn (S := []) (pc := 8) (hI := d_M_with_8) (hr := rfl) ?_
  show xwp G m_M_ofSegment (d + 218) 148 [xR 53, xZ, xZ, xI x3, xZ, xZ, xZ, xI x7, xI x8, xZ, xZ] [xL (xw64 ((xw64 (s1 * 31)) + s0))] _ _ _
  refine xr_lstore (pc := 148) (i := 5) (L9 := [xR 53, xZ, xZ, xI x3, xZ, xL (xw64 ((xw64 (s1 * 31)) + s0)), xZ, xI x7, xI x8, xZ, xZ]) (hI := d_M_ofSegment_148) (hn := Nat.le_of_ble_eq_true rfl) (hL9 := rfl) ?_
  refine xr_lload (pc := 150) (i := 5) (hI := d_M_ofSegment_150) (hl := rfl) ?_
  refine xr_aload_n (pc := 152) (i := 0) (hI := d_M_ofSegment_152) (hi := rfl) (hl := rfl) ?_
  refine xg_getf (pc := 153) (ci := 11) (k := 12) (N := 38) (v9 := 2) (v := 61) (T := xF11) (hI := d_M_ofSegment_153) (hw := w_1599) rfl xi11 (Or.inl rfl) (Nat.le_of_ble_eq_true rfl) (Nat.le_of_ble_eq_true rfl) rfl (ft_53 F) (fp_53_12 F) (fun f1_ => ?_)
  clear f1_
  refine xr_iconst (pc := 156) (hI := d_M_ofSegment_156) (hr := by decide) ?_
  refine xr_iload (pc := 157) (i := 8) (hI := d_M_ofSegment_157) (hl := rfl) ?_
  obtain ⟨c9, hyp⟩ := hyp
  refine xr_imul (pc := 159) (hI := d_M_ofSegment_159) (hr := c9) ?_
  obtain ⟨c2_, hyp⟩ := hyp
  obtain ⟨c3_, hyp⟩ := hyp
  refine xg_iaload (pc := 160) (v := (xpl h 61 (2 * x8))) (hI := d_M_ofSegment_160) (ft_61 F) c2_ (xlt_of (fl_61 F) c3_) rfl (fun f4_ => ?_)
  replace f4_ : -2147483648 ≤ (xpl h 61 (2 * x8)) ∧ (xpl h 61 (2 * x8)) ≤ 2147483647 := f4_
  refine xq_callS (pc := 161) (index := 471) (K := m_M_with) (As := [xL (xw64 ((xw64 (s1 * 31)) + s0)), xI (xpl h 61 (2 * x8))]) (S := []) (L0 := [xL (xw64 ((xw64 (s1 * 31)) + s0)), xZ, xI (xpl h 61 (2 * x8))]) (hI := d_M_ofSegment_161) (hK := k_M_with) (hlk := w_2483) (hnoM := rfl) (hS8 := Nat.le_of_ble_eq_true rfl) (hstat := w_2484) (hlen := Nat.le_of_ble_eq_true rfl) (hst := rfl) (hL0 := rfl)  ?_
  refine xr_lload_n (pc := 0) (i := 0) (hI := d_M_with_0) (hi := rfl) (hl := rfl) ?_
  refine xr_ldc2 (pc := 1) (z := 31) (hI := d_M_with_1) (hw := w_2486) (hr := by decide) (hv := by decide) ?_
  refine xr_lmul (pc := 4) (hI := d_M_with_4) ?_
  refine xr_iload_n (pc := 5) (i := 2) (hI := d_M_with_5) (hi := rfl) (hl := rfl) ?_
  refine xr_i2l (pc := 6) (hI := d_M_with_6) ?_
  refine xr_ladd (pc := 7) (hI := d_M_with_7) ?_
  refine xr_lreturn (S := []) (pc := 8) (hI := d_M_with_8) (hr := rfl) ?_
  show xwp G m_M_ofSegment (d + 218) 164 [xR 53, xZ, xZ, xI x3, xZ, xL (xw64 ((xw64 (s1 * 31)) + s0)), xZ, xI x7, xI x8, xZ, xZ] [xL (xw64 ((xw64 ((xw64 ((xw64 (s1 * 31)) + s0)) * 31)) + (xpl h 61 (2 * x8))))] _ _ _
  refine xr_aload_n (pc := 164) (i := 0) (hI := d_M_ofSegment_164) (hi := rfl) (hl := rfl) ?_
  refine xg_getf (pc := 165) (ci := 11) (k := 12) (N := 38) (v9 := 2) (v := 61) (T := xF11) (hI := d_M_ofSegment_165) (hw := w_1599) rfl xi11 (Or.inl rfl) (Nat.le_of_ble_eq_true rfl) (Nat.le_of_ble_eq_true rfl) rfl (ft_53 F) (fp_53_12 F) (fun f5_ => ?_)
  clear f5_
  refine xr_iconst (pc := 168) (hI := d_M_ofSegment_168) (hr := by decide) ?_
  refine xr_iload (pc := 169) (i := 8) (hI := d_M_ofSegment_169) (hl := rfl) ?_
  refine xr_imul (pc := 171) (hI := d_M_ofSegment_171) (hr := ⟨by clear hyp; omega, by clear hyp; omega⟩) ?_
  refine xr_iconst (pc := 172) (hI := d_M_ofSegment_172) (hr := by decide) ?_
  refine xr_iadd (pc := 173) (hI := d_M_ofSegment_173) (hr := ⟨by clear hyp; omega, by clear hyp; omega⟩) ?_
  refine xg_iaload (pc := 174) (v := (xpl h 61 ((2 * x8) + 1))) (hI := d_M_ofSegment_174) (ft_61 F) (by clear hyp; omega) (xlt_of (fl_61 F) (by clear hyp; omega)) rfl (fun f6_ => ?_)
  replace f6_ : -2147483648 ≤ (xpl h 61 ((2 * x8) + 1)) ∧ (xpl h 61 ((2 * x8) + 1)) ≤ 2147483647 := f6_
  refine xq_callS (pc := 175) (index := 471) (K := m_M_with) (As := [xL (xw64 ((xw64 ((xw64 ((xw64 (s1 * 31)) + s0)) * 31)) + (xpl h 61 (2 * x8)))), xI (xpl h 61 ((2 * x8) + 1))]) (S := []) (L0 := [xL (xw64 ((xw64 ((xw64 ((xw64 (s1 * 31)) + s0)) * 31)) + (xpl h 61 (2 * x8)))), xZ, xI (xpl h 61 ((2 * x8) + 1))]) (hI := d_M_ofSegment_175) (hK := k_M_with) (hlk := w_2483) (hnoM := rfl) (hS8 := Nat.le_of_ble_eq_true rfl) (hstat := w_2484) (hlen := Nat.le_of_ble_eq_true rfl) (hst := rfl) (hL0 := rfl)  ?_
  refine xr_lload_n (pc := 0) (i := 0) (hI := d_M_with_0) (hi := rfl) (hl := rfl) ?_
  refine xr_ldc2 (pc := 1) (z := 31) (hI := d_M_with_1) (hw := w_2486) (hr := by decide) (hv := by decide) ?_
  refine xr_lmul (pc := 4) (hI := d_M_with_4) ?_
  refine xr_iload_n (pc := 5) (i := 2) (hI := d_M_with_5) (hi := rfl) (hl := rfl) ?_
  refine xr_i2l (pc := 6) (hI := d_M_with_6) ?_
  refine xr_ladd (pc := 7) (hI := d_M_with_7) ?_
  refine xr_lreturn (S := []) (pc := 8) (hI := d_M_with_8) (hr := rfl) ?_
  show xwp G m_M_ofSegment (d + 218) 178 [xR 53, xZ, xZ, xI x3, xZ, xL (xw64 ((xw64 (s1 * 31)) + s0)), xZ, xI x7, xI x8, xZ, xZ] [xL (xw64 ((xw64 ((xw64 ((xw64 ((xw64 ((xw64 (s1 * 31)) + s0)) * 31)) + (xpl h 61 (2 * x8)))) * 31)) + (xpl h 61 ((2 * x8) + 1))))] _ _ _
  refine xr_lstore (pc := 178) (i := 5) (L9 := [xR 53, xZ, xZ, xI x3, xZ, xL (xw64 ((xw64 ((xw64 ((xw64 ((xw64 ((xw64 (s1 * 31)) + s0)) * 31)) + (xpl h 61 (2 * x8)))) * 31)) + (xpl h 61 ((2 * x8) + 1)))), xZ, xI x7, xI x8, xZ, xZ]) (hI := d_M_ofSegment_178) (hn := Nat.le_of_ble_eq_true rfl) (hL9 := rfl) ?_
  obtain ⟨c9, hyp⟩ := hyp
  refine xr_iinc (pc := 180) (i := 7) (L9 := [xR 53, xZ, xZ, xI x3, xZ, xL (xw64 ((xw64 ((xw64 ((xw64 ((xw64 ((xw64 (s1 * 31)) + s0)) * 31)) + (xpl h 61 (2 * x8)))) * 31)) + (xpl h 61 ((2 * x8) + 1)))), xZ, xI (x7 + 1), xI x8, xZ, xZ]) (hI := d_M_ofSegment_180) (hl := rfl) (hn := Nat.le_of_ble_eq_true rfl) (hr := c9) (hL9 := rfl) ?_
  refine xr_goto (pc := 183) (tgt := 98) (hI := d_M_ofSegment_183) (ht := by decide) ?_
  exact xr_drop (L9 := [xR 53, xZ, xZ, xI x3, xZ, xL (xw64 ((xw64 ((xw64 ((xw64 ((xw64 ((xw64 (s1 * 31)) + s0)) * 31)) + (xpl h 61 (2 * x8)))) * 31)) + (xpl h 61 ((2 * x8) + 1)))), xZ, xI (x7 + 1), xZ, xZ, xZ]) (xdrs (xdrs (xdrs (xdrs (xdrs (xdrs (xdrs (xdrs (xdrz (xdrs (xdrs xdr0))))))))))) hyp
abbrev m_M_ofQuestion : XM := (⟨"BeaconIndexModel", "ofQuestion", "(J)J"⟩, prog_14_method_115_code, 7, (some .long), [])
theorem d_M_ofQuestion_0 : decode prog_14_method_115_code 0 = .ok (.aload_n 0, 1) := by decide +kernel
theorem d_M_ofQuestion_1 : decode prog_14_method_115_code 1 = .ok (.invokevirtual 454, 3) := by decide +kernel
theorem v_M_ofQuestion_0 {G : XG} {d : Nat} {h : XH} {Q : XV → XH → Prop} {X : Nat → XH → Prop} {x1 : Int} (F : xFix h) (hyp : (xwp G m_M_answer (d + 5) 0 [xR 53, xZ, xZ, xZ, xZ] [] h (fun v9 h9 => xwp G m_M_ofQuestion (d + 6) 4 [xR 53, xL x1, xZ, xZ, xZ, xZ, xZ] (xpush v9 []) h9 Q X) X)) : xwp G m_M_ofQuestion (d + 6) 0 [xR 53, xL x1, xZ, xZ, xZ, xZ, xZ] [] h Q X := by
  have hnx9 : (93 : Int) ≤ xnx h := F.2.2
  refine xr_okL (fun hl9 => ?_)
  have r_x1 : -9223372036854775808 ≤ x1 ∧ x1 ≤ 9223372036854775807 := hl9 (xL x1) (.tail _ (.head _)) (Nat.le_of_ble_eq_true rfl)
  refine xr_aload_n (pc := 0) (i := 0) (hI := d_M_ofQuestion_0) (hi := rfl) (hl := rfl) ?_
  exact xq_callV (pc := 1) (index := 454) (K := m_M_answer) (As := []) (S := []) (L0 := [xR 53, xZ, xZ, xZ, xZ]) (hI := d_M_ofQuestion_1) (hK := k_M_answer) (hlk := w_2368) (hnoM := rfl) (hS8 := Nat.le_of_ble_eq_true rfl) (ci := 11) (N := 38) (C := "BeaconIndexModel") (T := xF11) (hc := rfl) (hci := Nat.le_of_ble_eq_true rfl) (htb := (ft_53 F)) (hinst := w_2370) (hsel := sel_M_answer) (hlen := Nat.le_of_ble_eq_true rfl) (hst := rfl) (hL0 := rfl)  hyp
theorem d_M_ofQuestion_4 : decode prog_14_method_115_code 4 = .ok (.istore_n 3, 1) := by decide +kernel
theorem d_M_ofQuestion_5 : decode prog_14_method_115_code 5 = .ok (.lload_n 1, 1) := by decide +kernel
theorem d_M_ofQuestion_6 : decode prog_14_method_115_code 6 = .ok (.aload_n 0, 1) := by decide +kernel
theorem d_M_ofQuestion_7 : decode prog_14_method_115_code 7 = .ok (.invokevirtual 451, 3) := by decide +kernel
theorem v_M_ofQuestion_4 {G : XG} {d : Nat} {h : XH} {Q : XV → XH → Prop} {X : Nat → XH → Prop} {x1 s0 : Int} (F : xFix h) (hyp : (xwp G m_M_topParts (d + 5) 0 [xR 53, xZ, xZ] [] h (fun v9 h9 => xwp G m_M_ofQuestion (d + 6) 10 [xR 53, xZ, xZ, xI s0, xZ, xZ, xZ] (xpush v9 [xL x1]) h9 Q X) X)) : xwp G m_M_ofQuestion (d + 6) 4 [xR 53, xL x1, xZ, xZ, xZ, xZ, xZ] [xI s0] h Q X := by
  have hnx9 : (93 : Int) ≤ xnx h := F.2.2
  refine xr_okL (fun hl9 => ?_)
  have r_x1 : -9223372036854775808 ≤ x1 ∧ x1 ≤ 9223372036854775807 := hl9 (xL x1) (.tail _ (.head _)) (Nat.le_of_ble_eq_true rfl)
  refine xr_okS (fun hs9 => ?_)
  have r_s0 : -2147483648 ≤ s0 ∧ s0 ≤ 2147483647 := hs9 (xI s0) (.head _)
  refine xr_istore_n (pc := 4) (i := 3) (L9 := [xR 53, xL x1, xZ, xI s0, xZ, xZ, xZ]) (hI := d_M_ofQuestion_4) (hi := rfl) (hn := Nat.le_of_ble_eq_true rfl) (hL9 := rfl) ?_
  refine xr_lload_n (pc := 5) (i := 1) (hI := d_M_ofQuestion_5) (hi := rfl) (hl := rfl) ?_
  refine xr_aload_n (pc := 6) (i := 0) (hI := d_M_ofQuestion_6) (hi := rfl) (hl := rfl) ?_
  exact xq_callV (pc := 7) (index := 451) (K := m_M_topParts) (As := []) (S := [xL x1]) (L0 := [xR 53, xZ, xZ]) (hI := d_M_ofQuestion_7) (hK := k_M_topParts) (hlk := w_2360) (hnoM := rfl) (hS8 := Nat.le_of_ble_eq_true rfl) (ci := 11) (N := 38) (C := "BeaconIndexModel") (T := xF11) (hc := rfl) (hci := Nat.le_of_ble_eq_true rfl) (htb := (ft_53 F)) (hinst := w_2362) (hsel := sel_M_topParts) (hlen := Nat.le_of_ble_eq_true rfl) (hst := rfl) (hL0 := rfl)  (xwp_mono hyp (fun v9 h9 q9 => xr_drop (L9 := [xR 53, xZ, xZ, xI s0, xZ, xZ, xZ]) (xdrs (xdrz (xdrs (xdrs (xdrs (xdrs (xdrs xdr0))))))) q9) (fun _ _ z9 => z9))
theorem d_M_ofQuestion_10 : decode prog_14_method_115_code 10 = .ok (.invokestatic 471, 3) := by decide +kernel
theorem d_M_ofQuestion_13 : decode prog_14_method_115_code 13 = .ok (.iload_n 3, 1) := by decide +kernel
theorem d_M_ofQuestion_14 : decode prog_14_method_115_code 14 = .ok (.invokestatic 471, 3) := by decide +kernel
theorem d_M_ofQuestion_17 : decode prog_14_method_115_code 17 = .ok (.lstore 4, 2) := by decide +kernel
theorem d_M_ofQuestion_19 : decode prog_14_method_115_code 19 = .ok (.iconst 0, 1) := by decide +kernel
theorem d_M_ofQuestion_20 : decode prog_14_method_115_code 20 = .ok (.istore 6, 2) := by decide +kernel
theorem v_M_ofQuestion_10 {G : XG} {d : Nat} {h : XH} {Q : XV → XH → Prop} {X : Nat → XH → Prop} {x3 s0 s1 : Int} (F : xFix h) (hyp : (xwp G m_M_ofQuestion (d + 6) 22 [xR 53, xZ, xZ, xI x3, xL (xw64 ((xw64 ((xw64 ((xw64 (s1 * 31)) + s0)) * 31)) + x3)), xZ, xI 0] [] h Q X)) : xwp G m_M_ofQuestion (d + 6) 10 [xR 53, xZ, xZ, xI x3, xZ, xZ, xZ] [xI s0, xL s1] h Q X := by
  have hnx9 : (93 : Int) ≤ xnx h := F.2.2
  refine xr_okL (fun hl9 => ?_)
  have r_x3 : -2147483648 ≤ x3 ∧ x3 ≤ 2147483647 := hl9 (xI x3) (.tail _ (.tail _ (.tail _ (.head _)))) (Nat.le_of_ble_eq_true rfl)
  refine xr_okS (fun hs9 => ?_)
  have r_s0 : -2147483648 ≤ s0 ∧ s0 ≤ 2147483647 := hs9 (xI s0) (.head _)
  have r_s1 : -9223372036854775808 ≤ s1 ∧ s1 ≤ 9223372036854775807 := hs9 (xL s1) (.tail _ (.head _))
  refine xq_callS (pc := 10) (index := 471) (K := m_M_with) (As := [xL s1, xI s0]) (S := []) (L0 := [xL s1, xZ, xI s0]) (hI := d_M_ofQuestion_10) (hK := k_M_with) (hlk := w_2483) (hnoM := rfl) (hS8 := Nat.le_of_ble_eq_true rfl) (hstat := w_2484) (hlen := Nat.le_of_ble_eq_true rfl) (hst := rfl) (hL0 := rfl)  ?_
  refine xr_lload_n (pc := 0) (i := 0) (hI := d_M_with_0) (hi := rfl) (hl := rfl) ?_
  refine xr_ldc2 (pc := 1) (z := 31) (hI := d_M_with_1) (hw := w_2486) (hr := by decide) (hv := by decide) ?_
  refine xr_lmul (pc := 4) (hI := d_M_with_4) ?_
  refine xr_iload_n (pc := 5) (i := 2) (hI := d_M_with_5) (hi := rfl) (hl := rfl) ?_
  refine xr_i2l (pc := 6) (hI := d_M_with_6) ?_
  refine xr_ladd (pc := 7) (hI := d_M_with_7) ?_
  refine xr_lreturn (S := []) (pc := 8) (hI := d_M_with_8) (hr := rfl) ?_
  show xwp G m_M_ofQuestion (d + 6) 13 [xR 53, xZ, xZ, xI x3, xZ, xZ, xZ] [xL (xw64 ((xw64 (s1 * 31)) + s0))] _ _ _
  refine xr_iload_n (pc := 13) (i := 3) (hI := d_M_ofQuestion_13) (hi := rfl) (hl := rfl) ?_
  refine xq_callS (pc := 14) (index := 471) (K := m_M_with) (As := [xL (xw64 ((xw64 (s1 * 31)) + s0)), xI x3]) (S := []) (L0 := [xL (xw64 ((xw64 (s1 * 31)) + s0)), xZ, xI x3]) (hI := d_M_ofQuestion_14) (hK := k_M_with) (hlk := w_2483) (hnoM := rfl) (hS8 := Nat.le_of_ble_eq_true rfl) (hstat := w_2484) (hlen := Nat.le_of_ble_eq_true rfl) (hst := rfl) (hL0 := rfl)  ?_
  refine xr_lload_n (pc := 0) (i := 0) (hI := d_M_with_0) (hi := rfl) (hl := rfl) ?_
  refine xr_ldc2 (pc := 1) (z := 31) (hI := d_M_with_1) (hw := w_2486) (hr := by decide) (hv := by decide) ?_
  refine xr_lmul (pc := 4) (hI := d_M_with_4) ?_
  refine xr_iload_n (pc := 5) (i := 2) (hI := d_M_with_5) (hi := rfl) (hl := rfl) ?_
  refine xr_i2l (pc := 6) (hI := d_M_with_6) ?_
  refine xr_ladd (pc := 7) (hI := d_M_with_7) ?_
  refine xr_lreturn (S := []) (pc := 8) (hI := d_M_with_8) (hr := rfl) ?_
  show xwp G m_M_ofQuestion (d + 6) 17 [xR 53, xZ, xZ, xI x3, xZ, xZ, xZ] [xL (xw64 ((xw64 ((xw64 ((xw64 (s1 * 31)) + s0)) * 31)) + x3))] _ _ _
  refine xr_lstore (pc := 17) (i := 4) (L9 := [xR 53, xZ, xZ, xI x3, xL (xw64 ((xw64 ((xw64 ((xw64 (s1 * 31)) + s0)) * 31)) + x3)), xZ, xZ]) (hI := d_M_ofQuestion_17) (hn := Nat.le_of_ble_eq_true rfl) (hL9 := rfl) ?_
  refine xr_iconst (pc := 19) (hI := d_M_ofQuestion_19) (hr := by decide) ?_
  refine xr_istore (pc := 20) (i := 6) (L9 := [xR 53, xZ, xZ, xI x3, xL (xw64 ((xw64 ((xw64 ((xw64 (s1 * 31)) + s0)) * 31)) + x3)), xZ, xI 0]) (hI := d_M_ofQuestion_20) (hn := Nat.le_of_ble_eq_true rfl) (hL9 := rfl) ?_
  exact hyp
theorem d_M_ofQuestion_22 : decode prog_14_method_115_code 22 = .ok (.iload 6, 2) := by decide +kernel
theorem d_M_ofQuestion_24 : decode prog_14_method_115_code 24 = .ok (.iload_n 3, 1) := by decide +kernel
theorem d_M_ofQuestion_25 : decode prog_14_method_115_code 25 = .ok (.if_icmp .ge 77, 3) := by decide +kernel
theorem d_M_ofQuestion_102 : decode prog_14_method_115_code 102 = .ok (.iconst 0, 1) := by decide +kernel
theorem d_M_ofQuestion_103 : decode prog_14_method_115_code 103 = .ok (.istore 6, 2) := by decide +kernel
theorem d_M_ofQuestion_28 : decode prog_14_method_115_code 28 = .ok (.lload 4, 2) := by decide +kernel
theorem d_M_ofQuestion_30 : decode prog_14_method_115_code 30 = .ok (.aload_n 0, 1) := by decide +kernel
theorem d_M_ofQuestion_31 : decode prog_14_method_115_code 31 = .ok (.getfield 19, 3) := by decide +kernel
theorem d_M_ofQuestion_34 : decode prog_14_method_115_code 34 = .ok (.aload_n 0, 1) := by decide +kernel
theorem d_M_ofQuestion_35 : decode prog_14_method_115_code 35 = .ok (.getfield 13, 3) := by decide +kernel
theorem d_M_ofQuestion_38 : decode prog_14_method_115_code 38 = .ok (.aload_n 0, 1) := by decide +kernel
theorem d_M_ofQuestion_39 : decode prog_14_method_115_code 39 = .ok (.getfield 91, 3) := by decide +kernel
theorem d_M_ofQuestion_42 : decode prog_14_method_115_code 42 = .ok (.iload 6, 2) := by decide +kernel
theorem d_M_ofQuestion_44 : decode prog_14_method_115_code 44 = .ok (.iaload, 1) := by decide +kernel
theorem d_M_ofQuestion_45 : decode prog_14_method_115_code 45 = .ok (.iaload, 1) := by decide +kernel
theorem d_M_ofQuestion_46 : decode prog_14_method_115_code 46 = .ok (.iaload, 1) := by decide +kernel
theorem d_M_ofQuestion_47 : decode prog_14_method_115_code 47 = .ok (.invokestatic 471, 3) := by decide +kernel
theorem d_M_ofQuestion_50 : decode prog_14_method_115_code 50 = .ok (.aload_n 0, 1) := by decide +kernel
theorem d_M_ofQuestion_51 : decode prog_14_method_115_code 51 = .ok (.getfield 94, 3) := by decide +kernel
theorem d_M_ofQuestion_54 : decode prog_14_method_115_code 54 = .ok (.iload 6, 2) := by decide +kernel
theorem d_M_ofQuestion_56 : decode prog_14_method_115_code 56 = .ok (.iaload, 1) := by decide +kernel
theorem d_M_ofQuestion_57 : decode prog_14_method_115_code 57 = .ok (.invokestatic 471, 3) := by decide +kernel
theorem d_M_ofQuestion_60 : decode prog_14_method_115_code 60 = .ok (.lstore 4, 2) := by decide +kernel
theorem d_M_ofQuestion_62 : decode prog_14_method_115_code 62 = .ok (.lload 4, 2) := by decide +kernel
theorem d_M_ofQuestion_64 : decode prog_14_method_115_code 64 = .ok (.aload_n 0, 1) := by decide +kernel
theorem d_M_ofQuestion_65 : decode prog_14_method_115_code 65 = .ok (.aload_n 0, 1) := by decide +kernel
theorem d_M_ofQuestion_66 : decode prog_14_method_115_code 66 = .ok (.getfield 91, 3) := by decide +kernel
theorem d_M_ofQuestion_69 : decode prog_14_method_115_code 69 = .ok (.iload 6, 2) := by decide +kernel
theorem d_M_ofQuestion_71 : decode prog_14_method_115_code 71 = .ok (.iaload, 1) := by decide +kernel
theorem d_M_ofQuestion_72 : decode prog_14_method_115_code 72 = .ok (.iconst 0, 1) := by decide +kernel
theorem d_M_ofQuestion_73 : decode prog_14_method_115_code 73 = .ok (.invokevirtual 466, 3) := by decide +kernel
theorem v_M_ofQuestion_22 {G : XG} {d : Nat} {h : XH} {Q : XV → XH → Prop} {X : Nat → XH → Prop} {x3 x4 x6 : Int} (F : xFix h) (hyp : ((x3 ≤ x6 → (xwp G m_M_ofQuestion (d + 6) 105 [xR 53, xZ, xZ, xI x3, xL x4, xZ, xI 0] [] h Q X)) ∧ (¬ x3 ≤ x6 → 0 ≤ x6 ∧ x6 < 60 ∧ 0 ≤ (xpl h 89 x6) ∧ (xpl h 89 x6) < 60 ∧ 0 ≤ (xpl h 55 (xpl h 89 x6)) ∧ (xpl h 55 (xpl h 89 x6)) < 60 ∧ (xwp G m_M_first (d + 5) 0 [xR 53, xI (xpl h 89 x6), xI 0, xZ, xZ, xZ] [] h (fun v9 h9 => xwp G m_M_ofQuestion (d + 6) 76 [xR 53, xZ, xZ, xI x3, xZ, xZ, xI x6] (xpush v9 [xL (xw64 ((xw64 ((xw64 ((xw64 (x4 * 31)) + (xpl h 57 (xpl h 55 (xpl h 89 x6))))) * 31)) + (xpl h 90 x6)))]) h9 Q X) X)))) : xwp G m_M_ofQuestion (d + 6) 22 [xR 53, xZ, xZ, xI x3, xL x4, xZ, xI x6] [] h Q X := by
  have hnx9 : (93 : Int) ≤ xnx h := F.2.2
  refine xr_okL (fun hl9 => ?_)
  have r_x3 : -2147483648 ≤ x3 ∧ x3 ≤ 2147483647 := hl9 (xI x3) (.tail _ (.tail _ (.tail _ (.head _)))) (Nat.le_of_ble_eq_true rfl)
  have r_x4 : -9223372036854775808 ≤ x4 ∧ x4 ≤ 9223372036854775807 := hl9 (xL x4) (.tail _ (.tail _ (.tail _ (.tail _ (.head _))))) (Nat.le_of_ble_eq_true rfl)
  have r_x6 : -2147483648 ≤ x6 ∧ x6 ≤ 2147483647 := hl9 (xI x6) (.tail _ (.tail _ (.tail _ (.tail _ (.tail _ (.tail _ (.head _))))))) (Nat.le_of_ble_eq_true rfl)
  refine xr_iload (pc := 22) (i := 6) (hI := d_M_ofQuestion_22) (hl := rfl) ?_
  refine xr_iload_n (pc := 24) (i := 3) (hI := d_M_ofQuestion_24) (hi := rfl) (hl := rfl) ?_
  refine xr_icmp_ge (pc := 25) (tgt := 102) (hI := d_M_ofQuestion_25) (ht := by decide) (fun q9 => ?_) (fun q9 => ?_)
  · replace hyp := hyp.1 q9
    have q1_ := q9
    clear q9
    refine xr_iconst (pc := 102) (hI := d_M_ofQuestion_102) (hr := by decide) ?_
    refine xr_istore (pc := 103) (i := 6) (L9 := [xR 53, xZ, xZ, xI x3, xL x4, xZ, xI 0]) (hI := d_M_ofQuestion_103) (hn := Nat.le_of_ble_eq_true rfl) (hL9 := rfl) ?_
    exact hyp
  · replace hyp := hyp.2 q9
    have q1_ := q9
    clear q9
    refine xr_lload (pc := 28) (i := 4) (hI := d_M_ofQuestion_28) (hl := rfl) ?_
    refine xr_aload_n (pc := 30) (i := 0) (hI := d_M_ofQuestion_30) (hi := rfl) (hl := rfl) ?_
    refine xg_getf (pc := 31) (ci := 11) (k := 8) (N := 38) (v9 := 2) (v := 57) (T := xF11) (hI := d_M_ofQuestion_31) (hw := w_1595) rfl xi11 (Or.inl rfl) (Nat.le_of_ble_eq_true rfl) (Nat.le_of_ble_eq_true rfl) rfl (ft_53 F) (fp_53_8 F) (fun f2_ => ?_)
    clear f2_
    refine xr_aload_n (pc := 34) (i := 0) (hI := d_M_ofQuestion_34) (hi := rfl) (hl := rfl) ?_
    refine xg_getf (pc := 35) (ci := 11) (k := 3) (N := 38) (v9 := 2) (v := 55) (T := xF11) (hI := d_M_ofQuestion_35) (hw := w_1590) rfl xi11 (Or.inl rfl) (Nat.le_of_ble_eq_true rfl) (Nat.le_of_ble_eq_true rfl) rfl (ft_53 F) (fp_53_3 F) (fun f3_ => ?_)
    clear f3_
    refine xr_aload_n (pc := 38) (i := 0) (hI := d_M_ofQuestion_38) (hi := rfl) (hl := rfl) ?_
    refine xg_getf (pc := 39) (ci := 11) (k := 36) (N := 38) (v9 := 2) (v := 89) (T := xF11) (hI := d_M_ofQuestion_39) (hw := w_1623) rfl xi11 (Or.inl rfl) (Nat.le_of_ble_eq_true rfl) (Nat.le_of_ble_eq_true rfl) rfl (ft_53 F) (fp_53_36 F) (fun f4_ => ?_)
    clear f4_
    refine xr_iload (pc := 42) (i := 6) (hI := d_M_ofQuestion_42) (hl := rfl) ?_
    obtain ⟨c5_, hyp⟩ := hyp
    obtain ⟨c6_, hyp⟩ := hyp
    refine xg_iaload (pc := 44) (v := (xpl h 89 x6)) (hI := d_M_ofQuestion_44) (ft_89 F) c5_ (xlt_of (fl_89 F) c6_) rfl (fun f7_ => ?_)
    replace f7_ : -2147483648 ≤ (xpl h 89 x6) ∧ (xpl h 89 x6) ≤ 2147483647 := f7_
    obtain ⟨c8_, hyp⟩ := hyp
    obtain ⟨c9_, hyp⟩ := hyp
    refine xg_iaload (pc := 45) (v := (xpl h 55 (xpl h 89 x6))) (hI := d_M_ofQuestion_45) (ft_55 F) c8_ (xlt_of (fl_55 F) c9_) rfl (fun f10_ => ?_)
    replace f10_ : -2147483648 ≤ (xpl h 55 (xpl h 89 x6)) ∧ (xpl h 55 (xpl h 89 x6)) ≤ 2147483647 := f10_
    obtain ⟨c11_, hyp⟩ := hyp
    obtain ⟨c12_, hyp⟩ := hyp
    refine xg_iaload (pc := 46) (v := (xpl h 57 (xpl h 55 (xpl h 89 x6)))) (hI := d_M_ofQuestion_46) (ft_57 F) c11_ (xlt_of (fl_57 F) c12_) rfl (fun f13_ => ?_)
    replace f13_ : -2147483648 ≤ (xpl h 57 (xpl h 55 (xpl h 89 x6))) ∧ (xpl h 57 (xpl h 55 (xpl h 89 x6))) ≤ 2147483647 := f13_
    refine xq_callS (pc := 47) (index := 471) (K := m_M_with) (As := [xL x4, xI (xpl h 57 (xpl h 55 (xpl h 89 x6)))]) (S := []) (L0 := [xL x4, xZ, xI (xpl h 57 (xpl h 55 (xpl h 89 x6)))]) (hI := d_M_ofQuestion_47) (hK := k_M_with) (hlk := w_2483) (hnoM := rfl) (hS8 := Nat.le_of_ble_eq_true rfl) (hstat := w_2484) (hlen := Nat.le_of_ble_eq_true rfl) (hst := rfl) (hL0 := rfl)  ?_
    refine xr_lload_n (pc := 0) (i := 0) (hI := d_M_with_0) (hi := rfl) (hl := rfl) ?_
    refine xr_ldc2 (pc := 1) (z := 31) (hI := d_M_with_1) (hw := w_2486) (hr := by decide) (hv := by decide) ?_
    refine xr_lmul (pc := 4) (hI := d_M_with_4) ?_
    refine xr_iload_n (pc := 5) (i := 2) (hI := d_M_with_5) (hi := rfl) (hl := rfl) ?_
    refine xr_i2l (pc := 6) (hI := d_M_with_6) ?_
    refine xr_ladd (pc := 7) (hI := d_M_with_7) ?_
    refine xr_lreturn (S := []) (pc := 8) (hI := d_M_with_8) (hr := rfl) ?_
    show xwp G m_M_ofQuestion (d + 6) 50 [xR 53, xZ, xZ, xI x3, xL x4, xZ, xI x6] [xL (xw64 ((xw64 (x4 * 31)) + (xpl h 57 (xpl h 55 (xpl h 89 x6)))))] _ _ _
    refine xr_aload_n (pc := 50) (i := 0) (hI := d_M_ofQuestion_50) (hi := rfl) (hl := rfl) ?_
    refine xg_getf (pc := 51) (ci := 11) (k := 37) (N := 38) (v9 := 2) (v := 90) (T := xF11) (hI := d_M_ofQuestion_51) (hw := w_1624) rfl xi11 (Or.inl rfl) (Nat.le_of_ble_eq_true rfl) (Nat.le_of_ble_eq_true rfl) rfl (ft_53 F) (fp_53_37 F) (fun f14_ => ?_)
    clear f14_
    refine xr_iload (pc := 54) (i := 6) (hI := d_M_ofQuestion_54) (hl := rfl) ?_
    refine xg_iaload (pc := 56) (v := (xpl h 90 x6)) (hI := d_M_ofQuestion_56) (ft_90 F) (by clear hyp; omega) (xlt_of (fl_90 F) (by clear hyp; omega)) rfl (fun f15_ => ?_)
    replace f15_ : -2147483648 ≤ (xpl h 90 x6) ∧ (xpl h 90 x6) ≤ 2147483647 := f15_
    refine xq_callS (pc := 57) (index := 471) (K := m_M_with) (As := [xL (xw64 ((xw64 (x4 * 31)) + (xpl h 57 (xpl h 55 (xpl h 89 x6))))), xI (xpl h 90 x6)]) (S := []) (L0 := [xL (xw64 ((xw64 (x4 * 31)) + (xpl h 57 (xpl h 55 (xpl h 89 x6))))), xZ, xI (xpl h 90 x6)]) (hI := d_M_ofQuestion_57) (hK := k_M_with) (hlk := w_2483) (hnoM := rfl) (hS8 := Nat.le_of_ble_eq_true rfl) (hstat := w_2484) (hlen := Nat.le_of_ble_eq_true rfl) (hst := rfl) (hL0 := rfl)  ?_
    refine xr_lload_n (pc := 0) (i := 0) (hI := d_M_with_0) (hi := rfl) (hl := rfl) ?_
    refine xr_ldc2 (pc := 1) (z := 31) (hI := d_M_with_1) (hw := w_2486) (hr := by decide) (hv := by decide) ?_
    refine xr_lmul (pc := 4) (hI := d_M_with_4) ?_
    refine xr_iload_n (pc := 5) (i := 2) (hI := d_M_with_5) (hi := rfl) (hl := rfl) ?_
    refine xr_i2l (pc := 6) (hI := d_M_with_6) ?_
    refine xr_ladd (pc := 7) (hI := d_M_with_7) ?_
    refine xr_lreturn (S := []) (pc := 8) (hI := d_M_with_8) (hr := rfl) ?_
    show xwp G m_M_ofQuestion (d + 6) 60 [xR 53, xZ, xZ, xI x3, xL x4, xZ, xI x6] [xL (xw64 ((xw64 ((xw64 ((xw64 (x4 * 31)) + (xpl h 57 (xpl h 55 (xpl h 89 x6))))) * 31)) + (xpl h 90 x6)))] _ _ _
    refine xr_lstore (pc := 60) (i := 4) (L9 := [xR 53, xZ, xZ, xI x3, xL (xw64 ((xw64 ((xw64 ((xw64 (x4 * 31)) + (xpl h 57 (xpl h 55 (xpl h 89 x6))))) * 31)) + (xpl h 90 x6))), xZ, xI x6]) (hI := d_M_ofQuestion_60) (hn := Nat.le_of_ble_eq_true rfl) (hL9 := rfl) ?_
    refine xr_lload (pc := 62) (i := 4) (hI := d_M_ofQuestion_62) (hl := rfl) ?_
    refine xr_aload_n (pc := 64) (i := 0) (hI := d_M_ofQuestion_64) (hi := rfl) (hl := rfl) ?_
    refine xr_aload_n (pc := 65) (i := 0) (hI := d_M_ofQuestion_65) (hi := rfl) (hl := rfl) ?_
    refine xg_getf (pc := 66) (ci := 11) (k := 36) (N := 38) (v9 := 2) (v := 89) (T := xF11) (hI := d_M_ofQuestion_66) (hw := w_1623) rfl xi11 (Or.inl rfl) (Nat.le_of_ble_eq_true rfl) (Nat.le_of_ble_eq_true rfl) rfl (ft_53 F) (fp_53_36 F) (fun f16_ => ?_)
    clear f16_
    refine xr_iload (pc := 69) (i := 6) (hI := d_M_ofQuestion_69) (hl := rfl) ?_
    refine xg_iaload (pc := 71) (v := (xpl h 89 x6)) (hI := d_M_ofQuestion_71) (ft_89 F) (by clear hyp; omega) (xlt_of (fl_89 F) (by clear hyp; omega)) rfl (fun f17_ => ?_)
    replace f17_ : -2147483648 ≤ (xpl h 89 x6) ∧ (xpl h 89 x6) ≤ 2147483647 := f17_
    refine xr_iconst (pc := 72) (hI := d_M_ofQuestion_72) (hr := by decide) ?_
    exact xq_callV (pc := 73) (index := 466) (K := m_M_first) (As := [xI (xpl h 89 x6), xI 0]) (S := [xL (xw64 ((xw64 ((xw64 ((xw64 (x4 * 31)) + (xpl h 57 (xpl h 55 (xpl h 89 x6))))) * 31)) + (xpl h 90 x6)))]) (L0 := [xR 53, xI (xpl h 89 x6), xI 0, xZ, xZ, xZ]) (hI := d_M_ofQuestion_73) (hK := k_M_first) (hlk := w_2466) (hnoM := rfl) (hS8 := Nat.le_of_ble_eq_true rfl) (ci := 11) (N := 38) (C := "BeaconIndexModel") (T := xF11) (hc := rfl) (hci := Nat.le_of_ble_eq_true rfl) (htb := (ft_53 F)) (hinst := w_2468) (hsel := sel_M_first) (hlen := Nat.le_of_ble_eq_true rfl) (hst := rfl) (hL0 := rfl)  (xwp_mono hyp (fun v9 h9 q9 => xr_drop (L9 := [xR 53, xZ, xZ, xI x3, xZ, xZ, xI x6]) (xdrs (xdrs (xdrs (xdrs (xdrz (xdrs (xdrs xdr0))))))) q9) (fun _ _ z9 => z9))
theorem d_M_ofQuestion_76 : decode prog_14_method_115_code 76 = .ok (.invokestatic 471, 3) := by decide +kernel
theorem d_M_ofQuestion_79 : decode prog_14_method_115_code 79 = .ok (.aload_n 0, 1) := by decide +kernel
theorem d_M_ofQuestion_80 : decode prog_14_method_115_code 80 = .ok (.aload_n 0, 1) := by decide +kernel
theorem d_M_ofQuestion_81 : decode prog_14_method_115_code 81 = .ok (.getfield 91, 3) := by decide +kernel
theorem d_M_ofQuestion_84 : decode prog_14_method_115_code 84 = .ok (.iload 6, 2) := by decide +kernel
theorem d_M_ofQuestion_86 : decode prog_14_method_115_code 86 = .ok (.iaload, 1) := by decide +kernel
theorem d_M_ofQuestion_87 : decode prog_14_method_115_code 87 = .ok (.iconst 1, 1) := by decide +kernel
theorem d_M_ofQuestion_88 : decode prog_14_method_115_code 88 = .ok (.invokevirtual 466, 3) := by decide +kernel
theorem v_M_ofQuestion_76 {G : XG} {d : Nat} {h : XH} {Q : XV → XH → Prop} {X : Nat → XH → Prop} {x3 x6 s0 s1 : Int} (F : xFix h) (hyp : 0 ≤ x6 ∧ x6 < 60 ∧ (xwp G m_M_first (d + 5) 0 [xR 53, xI (xpl h 89 x6), xI 1, xZ, xZ, xZ] [] h (fun v9 h9 => xwp G m_M_ofQuestion (d + 6) 91 [xR 53, xZ, xZ, xI x3, xZ, xZ, xI x6] (xpush v9 [xL (xw64 ((xw64 (s1 * 31)) + s0))]) h9 Q X) X)) : xwp G m_M_ofQuestion (d + 6) 76 [xR 53, xZ, xZ, xI x3, xZ, xZ, xI x6] [xI s0, xL s1] h Q X := by
  have hnx9 : (93 : Int) ≤ xnx h := F.2.2
  refine xr_okL (fun hl9 => ?_)
  have r_x3 : -2147483648 ≤ x3 ∧ x3 ≤ 2147483647 := hl9 (xI x3) (.tail _ (.tail _ (.tail _ (.head _)))) (Nat.le_of_ble_eq_true rfl)
  have r_x6 : -2147483648 ≤ x6 ∧ x6 ≤ 2147483647 := hl9 (xI x6) (.tail _ (.tail _ (.tail _ (.tail _ (.tail _ (.tail _ (.head _))))))) (Nat.le_of_ble_eq_true rfl)
  refine xr_okS (fun hs9 => ?_)
  have r_s0 : -2147483648 ≤ s0 ∧ s0 ≤ 2147483647 := hs9 (xI s0) (.head _)
  have r_s1 : -9223372036854775808 ≤ s1 ∧ s1 ≤ 9223372036854775807 := hs9 (xL s1) (.tail _ (.head _))
  refine xq_callS (pc := 76) (index := 471) (K := m_M_with) (As := [xL s1, xI s0]) (S := []) (L0 := [xL s1, xZ, xI s0]) (hI := d_M_ofQuestion_76) (hK := k_M_with) (hlk := w_2483) (hnoM := rfl) (hS8 := Nat.le_of_ble_eq_true rfl) (hstat := w_2484) (hlen := Nat.le_of_ble_eq_true rfl) (hst := rfl) (hL0 := rfl)  ?_
  refine xr_lload_n (pc := 0) (i := 0) (hI := d_M_with_0) (hi := rfl) (hl := rfl) ?_
  refine xr_ldc2 (pc := 1) (z := 31) (hI := d_M_with_1) (hw := w_2486) (hr := by decide) (hv := by decide) ?_
  refine xr_lmul (pc := 4) (hI := d_M_with_4) ?_
  refine xr_iload_n (pc := 5) (i := 2) (hI := d_M_with_5) (hi := rfl) (hl := rfl) ?_
  refine xr_i2l (pc := 6) (hI := d_M_with_6) ?_
  refine xr_ladd (pc := 7) (hI := d_M_with_7) ?_
  refine xr_lreturn (S := []) (pc := 8) (hI := d_M_with_8) (hr := rfl) ?_
  show xwp G m_M_ofQuestion (d + 6) 79 [xR 53, xZ, xZ, xI x3, xZ, xZ, xI x6] [xL (xw64 ((xw64 (s1 * 31)) + s0))] _ _ _
  refine xr_aload_n (pc := 79) (i := 0) (hI := d_M_ofQuestion_79) (hi := rfl) (hl := rfl) ?_
  refine xr_aload_n (pc := 80) (i := 0) (hI := d_M_ofQuestion_80) (hi := rfl) (hl := rfl) ?_
  refine xg_getf (pc := 81) (ci := 11) (k := 36) (N := 38) (v9 := 2) (v := 89) (T := xF11) (hI := d_M_ofQuestion_81) (hw := w_1623) rfl xi11 (Or.inl rfl) (Nat.le_of_ble_eq_true rfl) (Nat.le_of_ble_eq_true rfl) rfl (ft_53 F) (fp_53_36 F) (fun f1_ => ?_)
  clear f1_
  refine xr_iload (pc := 84) (i := 6) (hI := d_M_ofQuestion_84) (hl := rfl) ?_
  obtain ⟨c2_, hyp⟩ := hyp
  obtain ⟨c3_, hyp⟩ := hyp
  refine xg_iaload (pc := 86) (v := (xpl h 89 x6)) (hI := d_M_ofQuestion_86) (ft_89 F) c2_ (xlt_of (fl_89 F) c3_) rfl (fun f4_ => ?_)
  replace f4_ : -2147483648 ≤ (xpl h 89 x6) ∧ (xpl h 89 x6) ≤ 2147483647 := f4_
  refine xr_iconst (pc := 87) (hI := d_M_ofQuestion_87) (hr := by decide) ?_
  exact xq_callV (pc := 88) (index := 466) (K := m_M_first) (As := [xI (xpl h 89 x6), xI 1]) (S := [xL (xw64 ((xw64 (s1 * 31)) + s0))]) (L0 := [xR 53, xI (xpl h 89 x6), xI 1, xZ, xZ, xZ]) (hI := d_M_ofQuestion_88) (hK := k_M_first) (hlk := w_2466) (hnoM := rfl) (hS8 := Nat.le_of_ble_eq_true rfl) (ci := 11) (N := 38) (C := "BeaconIndexModel") (T := xF11) (hc := rfl) (hci := Nat.le_of_ble_eq_true rfl) (htb := (ft_53 F)) (hinst := w_2468) (hsel := sel_M_first) (hlen := Nat.le_of_ble_eq_true rfl) (hst := rfl) (hL0 := rfl)  hyp
theorem d_M_ofQuestion_91 : decode prog_14_method_115_code 91 = .ok (.invokestatic 471, 3) := by decide +kernel
theorem d_M_ofQuestion_94 : decode prog_14_method_115_code 94 = .ok (.lstore 4, 2) := by decide +kernel
theorem d_M_ofQuestion_96 : decode prog_14_method_115_code 96 = .ok (.iinc 6 1, 3) := by decide +kernel
theorem d_M_ofQuestion_99 : decode prog_14_method_115_code 99 = .ok (.goto (-77), 3) := by decide +kernel
theorem v_M_ofQuestion_91 {G : XG} {d : Nat} {h : XH} {Q : XV → XH → Prop} {X : Nat → XH → Prop} {x3 x6 s0 s1 : Int} (F : xFix h) (hyp : xiR (x6 + 1) ∧ (xwp G m_M_ofQuestion (d + 6) 22 [xR 53, xZ, xZ, xI x3, xL (xw64 ((xw64 (s1 * 31)) + s0)), xZ, xI (x6 + 1)] [] h Q X)) : xwp G m_M_ofQuestion (d + 6) 91 [xR 53, xZ, xZ, xI x3, xZ, xZ, xI x6] [xI s0, xL s1] h Q X := by
  have hnx9 : (93 : Int) ≤ xnx h := F.2.2
  refine xr_okL (fun hl9 => ?_)
  have r_x3 : -2147483648 ≤ x3 ∧ x3 ≤ 2147483647 := hl9 (xI x3) (.tail _ (.tail _ (.tail _ (.head _)))) (Nat.le_of_ble_eq_true rfl)
  have r_x6 : -2147483648 ≤ x6 ∧ x6 ≤ 2147483647 := hl9 (xI x6) (.tail _ (.tail _ (.tail _ (.tail _ (.tail _ (.tail _ (.head _))))))) (Nat.le_of_ble_eq_true rfl)
  refine xr_okS (fun hs9 => ?_)
  have r_s0 : -2147483648 ≤ s0 ∧ s0 ≤ 2147483647 := hs9 (xI s0) (.head _)
  have r_s1 : -9223372036854775808 ≤ s1 ∧ s1 ≤ 9223372036854775807 := hs9 (xL s1) (.tail _ (.head _))
  refine xq_callS (pc := 91) (index := 471) (K := m_M_with) (As := [xL s1, xI s0]) (S := []) (L0 := [xL s1, xZ, xI s0]) (hI := d_M_ofQuestion_91) (hK := k_M_with) (hlk := w_2483) (hnoM := rfl) (hS8 := Nat.le_of_ble_eq_true rfl) (hstat := w_2484) (hlen := Nat.le_of_ble_eq_true rfl) (hst := rfl) (hL0 := rfl)  ?_
  refine xr_lload_n (pc := 0) (i := 0) (hI := d_M_with_0) (hi := rfl) (hl := rfl) ?_
  refine xr_ldc2 (pc := 1) (z := 31) (hI := d_M_with_1) (hw := w_2486) (hr := by decide) (hv := by decide) ?_
  refine xr_lmul (pc := 4) (hI := d_M_with_4) ?_
  refine xr_iload_n (pc := 5) (i := 2) (hI := d_M_with_5) (hi := rfl) (hl := rfl) ?_
  refine xr_i2l (pc := 6) (hI := d_M_with_6) ?_
  refine xr_ladd (pc := 7) (hI := d_M_with_7) ?_
  refine xr_lreturn (S := []) (pc := 8) (hI := d_M_with_8) (hr := rfl) ?_
  show xwp G m_M_ofQuestion (d + 6) 94 [xR 53, xZ, xZ, xI x3, xZ, xZ, xI x6] [xL (xw64 ((xw64 (s1 * 31)) + s0))] _ _ _
  refine xr_lstore (pc := 94) (i := 4) (L9 := [xR 53, xZ, xZ, xI x3, xL (xw64 ((xw64 (s1 * 31)) + s0)), xZ, xI x6]) (hI := d_M_ofQuestion_94) (hn := Nat.le_of_ble_eq_true rfl) (hL9 := rfl) ?_
  obtain ⟨c9, hyp⟩ := hyp
  refine xr_iinc (pc := 96) (i := 6) (L9 := [xR 53, xZ, xZ, xI x3, xL (xw64 ((xw64 (s1 * 31)) + s0)), xZ, xI (x6 + 1)]) (hI := d_M_ofQuestion_96) (hl := rfl) (hn := Nat.le_of_ble_eq_true rfl) (hr := c9) (hL9 := rfl) ?_
  refine xr_goto (pc := 99) (tgt := 22) (hI := d_M_ofQuestion_99) (ht := by decide) ?_
  exact hyp
theorem d_M_ofQuestion_105 : decode prog_14_method_115_code 105 = .ok (.iload 6, 2) := by decide +kernel
theorem d_M_ofQuestion_107 : decode prog_14_method_115_code 107 = .ok (.bipush 8, 2) := by decide +kernel
theorem d_M_ofQuestion_109 : decode prog_14_method_115_code 109 = .ok (.if_icmp .ge 23, 3) := by decide +kernel
theorem d_M_ofQuestion_132 : decode prog_14_method_115_code 132 = .ok (.iconst 0, 1) := by decide +kernel
theorem d_M_ofQuestion_133 : decode prog_14_method_115_code 133 = .ok (.istore 6, 2) := by decide +kernel
theorem d_M_ofQuestion_112 : decode prog_14_method_115_code 112 = .ok (.lload 4, 2) := by decide +kernel
theorem d_M_ofQuestion_114 : decode prog_14_method_115_code 114 = .ok (.aload_n 0, 1) := by decide +kernel
theorem d_M_ofQuestion_115 : decode prog_14_method_115_code 115 = .ok (.iload 6, 2) := by decide +kernel
theorem d_M_ofQuestion_117 : decode prog_14_method_115_code 117 = .ok (.iload_n 3, 1) := by decide +kernel
theorem d_M_ofQuestion_118 : decode prog_14_method_115_code 118 = .ok (.invokevirtual 457, 3) := by decide +kernel
theorem v_M_ofQuestion_105 {G : XG} {d : Nat} {h : XH} {Q : XV → XH → Prop} {X : Nat → XH → Prop} {x3 x4 x6 : Int} (F : xFix h) (hyp : (((8 : Int) ≤ x6 → (xwp G m_M_ofQuestion (d + 6) 135 [xR 53, xZ, xZ, xZ, xL x4, xZ, xI 0] [] h Q X)) ∧ (¬ (8 : Int) ≤ x6 → (xwp G m_M_manyOn (d + 5) 0 [xR 53, xI x6, xI x3, xZ, xZ] [] h (fun v9 h9 => xwp G m_M_ofQuestion (d + 6) 121 [xR 53, xZ, xZ, xI x3, xZ, xZ, xI x6] (xpush v9 [xL x4]) h9 Q X) X)))) : xwp G m_M_ofQuestion (d + 6) 105 [xR 53, xZ, xZ, xI x3, xL x4, xZ, xI x6] [] h Q X := by
  have hnx9 : (93 : Int) ≤ xnx h := F.2.2
  refine xr_okL (fun hl9 => ?_)
  have r_x3 : -2147483648 ≤ x3 ∧ x3 ≤ 2147483647 := hl9 (xI x3) (.tail _ (.tail _ (.tail _ (.head _)))) (Nat.le_of_ble_eq_true rfl)
  have r_x4 : -9223372036854775808 ≤ x4 ∧ x4 ≤ 9223372036854775807 := hl9 (xL x4) (.tail _ (.tail _ (.tail _ (.tail _ (.head _))))) (Nat.le_of_ble_eq_true rfl)
  have r_x6 : -2147483648 ≤ x6 ∧ x6 ≤ 2147483647 := hl9 (xI x6) (.tail _ (.tail _ (.tail _ (.tail _ (.tail _ (.tail _ (.head _))))))) (Nat.le_of_ble_eq_true rfl)
  refine xr_iload (pc := 105) (i := 6) (hI := d_M_ofQuestion_105) (hl := rfl) ?_
  refine xr_bipush (pc := 107) (hI := d_M_ofQuestion_107) (hr := by decide) (hv := by decide) ?_
  refine xr_icmp_ge (pc := 109) (tgt := 132) (hI := d_M_ofQuestion_109) (ht := by decide) (fun q9 => ?_) (fun q9 => ?_)
  · replace hyp := hyp.1 q9
    have q1_ := q9
    clear q9
    refine xr_iconst (pc := 132) (hI := d_M_ofQuestion_132) (hr := by decide) ?_
    refine xr_istore (pc := 133) (i := 6) (L9 := [xR 53, xZ, xZ, xI x3, xL x4, xZ, xI 0]) (hI := d_M_ofQuestion_133) (hn := Nat.le_of_ble_eq_true rfl) (hL9 := rfl) ?_
    exact xr_drop (L9 := [xR 53, xZ, xZ, xZ, xL x4, xZ, xI 0]) (xdrs (xdrs (xdrs (xdrz (xdrs (xdrs (xdrs xdr0))))))) hyp
  · replace hyp := hyp.2 q9
    have q1_ := q9
    clear q9
    refine xr_lload (pc := 112) (i := 4) (hI := d_M_ofQuestion_112) (hl := rfl) ?_
    refine xr_aload_n (pc := 114) (i := 0) (hI := d_M_ofQuestion_114) (hi := rfl) (hl := rfl) ?_
    refine xr_iload (pc := 115) (i := 6) (hI := d_M_ofQuestion_115) (hl := rfl) ?_
    refine xr_iload_n (pc := 117) (i := 3) (hI := d_M_ofQuestion_117) (hi := rfl) (hl := rfl) ?_
    exact xq_callV (pc := 118) (index := 457) (K := m_M_manyOn) (As := [xI x6, xI x3]) (S := [xL x4]) (L0 := [xR 53, xI x6, xI x3, xZ, xZ]) (hI := d_M_ofQuestion_118) (hK := k_M_manyOn) (hlk := w_2438) (hnoM := rfl) (hS8 := Nat.le_of_ble_eq_true rfl) (ci := 11) (N := 38) (C := "BeaconIndexModel") (T := xF11) (hc := rfl) (hci := Nat.le_of_ble_eq_true rfl) (htb := (ft_53 F)) (hinst := w_2440) (hsel := sel_M_manyOn) (hlen := Nat.le_of_ble_eq_true rfl) (hst := rfl) (hL0 := rfl)  (xwp_mono hyp (fun v9 h9 q9 => xr_drop (L9 := [xR 53, xZ, xZ, xI x3, xZ, xZ, xI x6]) (xdrs (xdrs (xdrs (xdrs (xdrz (xdrs (xdrs xdr0))))))) q9) (fun _ _ z9 => z9))
theorem d_M_ofQuestion_121 : decode prog_14_method_115_code 121 = .ok (.invokestatic 471, 3) := by decide +kernel
theorem d_M_ofQuestion_124 : decode prog_14_method_115_code 124 = .ok (.lstore 4, 2) := by decide +kernel
theorem d_M_ofQuestion_126 : decode prog_14_method_115_code 126 = .ok (.iinc 6 1, 3) := by decide +kernel
theorem d_M_ofQuestion_129 : decode prog_14_method_115_code 129 = .ok (.goto (-24), 3) := by decide +kernel
theorem v_M_ofQuestion_121 {G : XG} {d : Nat} {h : XH} {Q : XV → XH → Prop} {X : Nat → XH → Prop} {x3 x6 s0 s1 : Int} (F : xFix h) (hyp : xiR (x6 + 1) ∧ (xwp G m_M_ofQuestion (d + 6) 105 [xR 53, xZ, xZ, xI x3, xL (xw64 ((xw64 (s1 * 31)) + s0)), xZ, xI (x6 + 1)] [] h Q X)) : xwp G m_M_ofQuestion (d + 6) 121 [xR 53, xZ, xZ, xI x3, xZ, xZ, xI x6] [xI s0, xL s1] h Q X := by
  have hnx9 : (93 : Int) ≤ xnx h := F.2.2
  refine xr_okL (fun hl9 => ?_)
  have r_x3 : -2147483648 ≤ x3 ∧ x3 ≤ 2147483647 := hl9 (xI x3) (.tail _ (.tail _ (.tail _ (.head _)))) (Nat.le_of_ble_eq_true rfl)
  have r_x6 : -2147483648 ≤ x6 ∧ x6 ≤ 2147483647 := hl9 (xI x6) (.tail _ (.tail _ (.tail _ (.tail _ (.tail _ (.tail _ (.head _))))))) (Nat.le_of_ble_eq_true rfl)
  refine xr_okS (fun hs9 => ?_)
  have r_s0 : -2147483648 ≤ s0 ∧ s0 ≤ 2147483647 := hs9 (xI s0) (.head _)
  have r_s1 : -9223372036854775808 ≤ s1 ∧ s1 ≤ 9223372036854775807 := hs9 (xL s1) (.tail _ (.head _))
  refine xq_callS (pc := 121) (index := 471) (K := m_M_with) (As := [xL s1, xI s0]) (S := []) (L0 := [xL s1, xZ, xI s0]) (hI := d_M_ofQuestion_121) (hK := k_M_with) (hlk := w_2483) (hnoM := rfl) (hS8 := Nat.le_of_ble_eq_true rfl) (hstat := w_2484) (hlen := Nat.le_of_ble_eq_true rfl) (hst := rfl) (hL0 := rfl)  ?_
  refine xr_lload_n (pc := 0) (i := 0) (hI := d_M_with_0) (hi := rfl) (hl := rfl) ?_
  refine xr_ldc2 (pc := 1) (z := 31) (hI := d_M_with_1) (hw := w_2486) (hr := by decide) (hv := by decide) ?_
  refine xr_lmul (pc := 4) (hI := d_M_with_4) ?_
  refine xr_iload_n (pc := 5) (i := 2) (hI := d_M_with_5) (hi := rfl) (hl := rfl) ?_
  refine xr_i2l (pc := 6) (hI := d_M_with_6) ?_
  refine xr_ladd (pc := 7) (hI := d_M_with_7) ?_
  refine xr_lreturn (S := []) (pc := 8) (hI := d_M_with_8) (hr := rfl) ?_
  show xwp G m_M_ofQuestion (d + 6) 124 [xR 53, xZ, xZ, xI x3, xZ, xZ, xI x6] [xL (xw64 ((xw64 (s1 * 31)) + s0))] _ _ _
  refine xr_lstore (pc := 124) (i := 4) (L9 := [xR 53, xZ, xZ, xI x3, xL (xw64 ((xw64 (s1 * 31)) + s0)), xZ, xI x6]) (hI := d_M_ofQuestion_124) (hn := Nat.le_of_ble_eq_true rfl) (hL9 := rfl) ?_
  obtain ⟨c9, hyp⟩ := hyp
  refine xr_iinc (pc := 126) (i := 6) (L9 := [xR 53, xZ, xZ, xI x3, xL (xw64 ((xw64 (s1 * 31)) + s0)), xZ, xI (x6 + 1)]) (hI := d_M_ofQuestion_126) (hl := rfl) (hn := Nat.le_of_ble_eq_true rfl) (hr := c9) (hL9 := rfl) ?_
  refine xr_goto (pc := 129) (tgt := 105) (hI := d_M_ofQuestion_129) (ht := by decide) ?_
  exact hyp
theorem d_M_ofQuestion_135 : decode prog_14_method_115_code 135 = .ok (.iload 6, 2) := by decide +kernel
theorem d_M_ofQuestion_137 : decode prog_14_method_115_code 137 = .ok (.aload_n 0, 1) := by decide +kernel
theorem d_M_ofQuestion_138 : decode prog_14_method_115_code 138 = .ok (.invokevirtual 451, 3) := by decide +kernel
theorem v_M_ofQuestion_135 {G : XG} {d : Nat} {h : XH} {Q : XV → XH → Prop} {X : Nat → XH → Prop} {x4 x6 : Int} (F : xFix h) (hyp : (xwp G m_M_topParts (d + 5) 0 [xR 53, xZ, xZ] [] h (fun v9 h9 => xwp G m_M_ofQuestion (d + 6) 141 [xR 53, xZ, xZ, xZ, xL x4, xZ, xI x6] (xpush v9 [xI x6]) h9 Q X) X)) : xwp G m_M_ofQuestion (d + 6) 135 [xR 53, xZ, xZ, xZ, xL x4, xZ, xI x6] [] h Q X := by
  have hnx9 : (93 : Int) ≤ xnx h := F.2.2
  refine xr_okL (fun hl9 => ?_)
  have r_x4 : -9223372036854775808 ≤ x4 ∧ x4 ≤ 9223372036854775807 := hl9 (xL x4) (.tail _ (.tail _ (.tail _ (.tail _ (.head _))))) (Nat.le_of_ble_eq_true rfl)
  have r_x6 : -2147483648 ≤ x6 ∧ x6 ≤ 2147483647 := hl9 (xI x6) (.tail _ (.tail _ (.tail _ (.tail _ (.tail _ (.tail _ (.head _))))))) (Nat.le_of_ble_eq_true rfl)
  refine xr_iload (pc := 135) (i := 6) (hI := d_M_ofQuestion_135) (hl := rfl) ?_
  refine xr_aload_n (pc := 137) (i := 0) (hI := d_M_ofQuestion_137) (hi := rfl) (hl := rfl) ?_
  exact xq_callV (pc := 138) (index := 451) (K := m_M_topParts) (As := []) (S := [xI x6]) (L0 := [xR 53, xZ, xZ]) (hI := d_M_ofQuestion_138) (hK := k_M_topParts) (hlk := w_2360) (hnoM := rfl) (hS8 := Nat.le_of_ble_eq_true rfl) (ci := 11) (N := 38) (C := "BeaconIndexModel") (T := xF11) (hc := rfl) (hci := Nat.le_of_ble_eq_true rfl) (htb := (ft_53 F)) (hinst := w_2362) (hsel := sel_M_topParts) (hlen := Nat.le_of_ble_eq_true rfl) (hst := rfl) (hL0 := rfl)  hyp
theorem d_M_ofQuestion_141 : decode prog_14_method_115_code 141 = .ok (.if_icmp .ge 26, 3) := by decide +kernel
theorem d_M_ofQuestion_167 : decode prog_14_method_115_code 167 = .ok (.lload 4, 2) := by decide +kernel
theorem d_M_ofQuestion_169 : decode prog_14_method_115_code 169 = .ok (.lreturn, 1) := by decide +kernel
theorem d_M_ofQuestion_144 : decode prog_14_method_115_code 144 = .ok (.lload 4, 2) := by decide +kernel
theorem d_M_ofQuestion_146 : decode prog_14_method_115_code 146 = .ok (.aload_n 0, 1) := by decide +kernel
theorem d_M_ofQuestion_147 : decode prog_14_method_115_code 147 = .ok (.aload_n 0, 1) := by decide +kernel
theorem d_M_ofQuestion_148 : decode prog_14_method_115_code 148 = .ok (.iload 6, 2) := by decide +kernel
theorem d_M_ofQuestion_150 : decode prog_14_method_115_code 150 = .ok (.invokevirtual 460, 3) := by decide +kernel
theorem v_M_ofQuestion_141 {G : XG} {d : Nat} {h : XH} {Q : XV → XH → Prop} {X : Nat → XH → Prop} {x4 x6 s0 s1 : Int} (F : xFix h) (hyp : ((s0 ≤ s1 → (Q (xL x4) h)) ∧ (¬ s0 ≤ s1 → (xwp G m_M_topPart (d + 5) 0 [xR 53, xI x6, xZ, xZ] [] h (fun v9 h9 => xwp G m_M_ofQuestion (d + 6) 153 [xR 53, xZ, xZ, xZ, xZ, xZ, xI x6] (xpush v9 [xR 53, xL x4]) h9 Q X) X)))) : xwp G m_M_ofQuestion (d + 6) 141 [xR 53, xZ, xZ, xZ, xL x4, xZ, xI x6] [xI s0, xI s1] h Q X := by
  have hnx9 : (93 : Int) ≤ xnx h := F.2.2
  refine xr_okL (fun hl9 => ?_)
  have r_x4 : -9223372036854775808 ≤ x4 ∧ x4 ≤ 9223372036854775807 := hl9 (xL x4) (.tail _ (.tail _ (.tail _ (.tail _ (.head _))))) (Nat.le_of_ble_eq_true rfl)
  have r_x6 : -2147483648 ≤ x6 ∧ x6 ≤ 2147483647 := hl9 (xI x6) (.tail _ (.tail _ (.tail _ (.tail _ (.tail _ (.tail _ (.head _))))))) (Nat.le_of_ble_eq_true rfl)
  refine xr_okS (fun hs9 => ?_)
  have r_s0 : -2147483648 ≤ s0 ∧ s0 ≤ 2147483647 := hs9 (xI s0) (.head _)
  have r_s1 : -2147483648 ≤ s1 ∧ s1 ≤ 2147483647 := hs9 (xI s1) (.tail _ (.head _))
  refine xr_icmp_ge (pc := 141) (tgt := 167) (hI := d_M_ofQuestion_141) (ht := by decide) (fun q9 => ?_) (fun q9 => ?_)
  · replace hyp := hyp.1 q9
    have q1_ := q9
    clear q9
    refine xr_lload (pc := 167) (i := 4) (hI := d_M_ofQuestion_167) (hl := rfl) ?_
    refine xr_lreturn (S := []) (pc := 169) (hI := d_M_ofQuestion_169) (hr := rfl) ?_
    exact hyp
  · replace hyp := hyp.2 q9
    have q1_ := q9
    clear q9
    refine xr_lload (pc := 144) (i := 4) (hI := d_M_ofQuestion_144) (hl := rfl) ?_
    refine xr_aload_n (pc := 146) (i := 0) (hI := d_M_ofQuestion_146) (hi := rfl) (hl := rfl) ?_
    refine xr_aload_n (pc := 147) (i := 0) (hI := d_M_ofQuestion_147) (hi := rfl) (hl := rfl) ?_
    refine xr_iload (pc := 148) (i := 6) (hI := d_M_ofQuestion_148) (hl := rfl) ?_
    exact xq_callV (pc := 150) (index := 460) (K := m_M_topPart) (As := [xI x6]) (S := [xR 53, xL x4]) (L0 := [xR 53, xI x6, xZ, xZ]) (hI := d_M_ofQuestion_150) (hK := k_M_topPart) (hlk := w_2450) (hnoM := rfl) (hS8 := Nat.le_of_ble_eq_true rfl) (ci := 11) (N := 38) (C := "BeaconIndexModel") (T := xF11) (hc := rfl) (hci := Nat.le_of_ble_eq_true rfl) (htb := (ft_53 F)) (hinst := w_2452) (hsel := sel_M_topPart) (hlen := Nat.le_of_ble_eq_true rfl) (hst := rfl) (hL0 := rfl)  (xwp_mono hyp (fun v9 h9 q9 => xr_drop (L9 := [xR 53, xZ, xZ, xZ, xZ, xZ, xI x6]) (xdrs (xdrs (xdrs (xdrs (xdrz (xdrs (xdrs xdr0))))))) q9) (fun _ _ z9 => z9))
theorem d_M_ofQuestion_153 : decode prog_14_method_115_code 153 = .ok (.invokevirtual 463, 3) := by decide +kernel
theorem v_M_ofQuestion_153 {G : XG} {d : Nat} {h : XH} {Q : XV → XH → Prop} {X : Nat → XH → Prop} {x6 s0 s1 s2 : Int} (F : xFix h) (hyp : xtg h s1 = 11 ∧ (xwp G m_M_manyBut (d + 5) 0 [xR s1, xI s0, xZ, xZ] [] h (fun v9 h9 => xwp G m_M_ofQuestion (d + 6) 156 [xR 53, xZ, xZ, xZ, xZ, xZ, xI x6] (xpush v9 [xL s2]) h9 Q X) X)) : xwp G m_M_ofQuestion (d + 6) 153 [xR 53, xZ, xZ, xZ, xZ, xZ, xI x6] [xI s0, xR s1, xL s2] h Q X := by
  have hnx9 : (93 : Int) ≤ xnx h := F.2.2
  refine xr_okL (fun hl9 => ?_)
  have r_x6 : -2147483648 ≤ x6 ∧ x6 ≤ 2147483647 := hl9 (xI x6) (.tail _ (.tail _ (.tail _ (.tail _ (.tail _ (.tail _ (.head _))))))) (Nat.le_of_ble_eq_true rfl)
  refine xr_okS (fun hs9 => ?_)
  have r_s0 : -2147483648 ≤ s0 ∧ s0 ≤ 2147483647 := hs9 (xI s0) (.head _)
  have r_s2 : -9223372036854775808 ≤ s2 ∧ s2 ≤ 9223372036854775807 := hs9 (xL s2) (.tail _ (.tail _ (.head _)))
  obtain ⟨c9, hyp⟩ := hyp
  have t1_ := c9
  clear c9
  exact xq_callV (pc := 153) (index := 463) (K := m_M_manyBut) (As := [xI s0]) (S := [xL s2]) (L0 := [xR s1, xI s0, xZ, xZ]) (hI := d_M_ofQuestion_153) (hK := k_M_manyBut) (hlk := w_2458) (hnoM := rfl) (hS8 := Nat.le_of_ble_eq_true rfl) (ci := 11) (N := 38) (C := "BeaconIndexModel") (T := xF11) (hc := rfl) (hci := Nat.le_of_ble_eq_true rfl) (htb := t1_) (hinst := w_2460) (hsel := sel_M_manyBut) (hlen := Nat.le_of_ble_eq_true rfl) (hst := rfl) (hL0 := rfl)  hyp
theorem d_M_ofQuestion_156 : decode prog_14_method_115_code 156 = .ok (.invokestatic 471, 3) := by decide +kernel
theorem d_M_ofQuestion_159 : decode prog_14_method_115_code 159 = .ok (.lstore 4, 2) := by decide +kernel
theorem d_M_ofQuestion_161 : decode prog_14_method_115_code 161 = .ok (.iinc 6 1, 3) := by decide +kernel
theorem d_M_ofQuestion_164 : decode prog_14_method_115_code 164 = .ok (.goto (-29), 3) := by decide +kernel
theorem v_M_ofQuestion_156 {G : XG} {d : Nat} {h : XH} {Q : XV → XH → Prop} {X : Nat → XH → Prop} {x6 s0 s1 : Int} (F : xFix h) (hyp : xiR (x6 + 1) ∧ (xwp G m_M_ofQuestion (d + 6) 135 [xR 53, xZ, xZ, xZ, xL (xw64 ((xw64 (s1 * 31)) + s0)), xZ, xI (x6 + 1)] [] h Q X)) : xwp G m_M_ofQuestion (d + 6) 156 [xR 53, xZ, xZ, xZ, xZ, xZ, xI x6] [xI s0, xL s1] h Q X := by
  have hnx9 : (93 : Int) ≤ xnx h := F.2.2
  refine xr_okL (fun hl9 => ?_)
  have r_x6 : -2147483648 ≤ x6 ∧ x6 ≤ 2147483647 := hl9 (xI x6) (.tail _ (.tail _ (.tail _ (.tail _ (.tail _ (.tail _ (.head _))))))) (Nat.le_of_ble_eq_true rfl)
  refine xr_okS (fun hs9 => ?_)
  have r_s0 : -2147483648 ≤ s0 ∧ s0 ≤ 2147483647 := hs9 (xI s0) (.head _)
  have r_s1 : -9223372036854775808 ≤ s1 ∧ s1 ≤ 9223372036854775807 := hs9 (xL s1) (.tail _ (.head _))
  refine xq_callS (pc := 156) (index := 471) (K := m_M_with) (As := [xL s1, xI s0]) (S := []) (L0 := [xL s1, xZ, xI s0]) (hI := d_M_ofQuestion_156) (hK := k_M_with) (hlk := w_2483) (hnoM := rfl) (hS8 := Nat.le_of_ble_eq_true rfl) (hstat := w_2484) (hlen := Nat.le_of_ble_eq_true rfl) (hst := rfl) (hL0 := rfl)  ?_
  refine xr_lload_n (pc := 0) (i := 0) (hI := d_M_with_0) (hi := rfl) (hl := rfl) ?_
  refine xr_ldc2 (pc := 1) (z := 31) (hI := d_M_with_1) (hw := w_2486) (hr := by decide) (hv := by decide) ?_
  refine xr_lmul (pc := 4) (hI := d_M_with_4) ?_
  refine xr_iload_n (pc := 5) (i := 2) (hI := d_M_with_5) (hi := rfl) (hl := rfl) ?_
  refine xr_i2l (pc := 6) (hI := d_M_with_6) ?_
  refine xr_ladd (pc := 7) (hI := d_M_with_7) ?_
  refine xr_lreturn (S := []) (pc := 8) (hI := d_M_with_8) (hr := rfl) ?_
  show xwp G m_M_ofQuestion (d + 6) 159 [xR 53, xZ, xZ, xZ, xZ, xZ, xI x6] [xL (xw64 ((xw64 (s1 * 31)) + s0))] _ _ _
  refine xr_lstore (pc := 159) (i := 4) (L9 := [xR 53, xZ, xZ, xZ, xL (xw64 ((xw64 (s1 * 31)) + s0)), xZ, xI x6]) (hI := d_M_ofQuestion_159) (hn := Nat.le_of_ble_eq_true rfl) (hL9 := rfl) ?_
  obtain ⟨c9, hyp⟩ := hyp
  refine xr_iinc (pc := 161) (i := 6) (L9 := [xR 53, xZ, xZ, xZ, xL (xw64 ((xw64 (s1 * 31)) + s0)), xZ, xI (x6 + 1)]) (hI := d_M_ofQuestion_161) (hl := rfl) (hn := Nat.le_of_ble_eq_true rfl) (hr := c9) (hL9 := rfl) ?_
  refine xr_goto (pc := 164) (tgt := 135) (hI := d_M_ofQuestion_164) (ht := by decide) ?_
  exact hyp
abbrev m_M_digest : XM := (⟨"BeaconIndexModel", "digest", "()J"⟩, prog_14_method_116_code, 8, (some .long), [])
theorem d_M_digest_0 : decode prog_14_method_116_code 0 = .ok (.ldc2_w 475, 3) := by decide +kernel
theorem w_2482 : Cond.constantLong "BeaconIndexModel" 475 (2447 : Int64) ∈ lw_tbl := List.mem_append_right _ (List.mem_of_getElem? (i := 2482) (by decide +kernel))
theorem d_M_digest_3 : decode prog_14_method_116_code 3 = .ok (.lstore_n 1, 1) := by decide +kernel
theorem d_M_digest_4 : decode prog_14_method_116_code 4 = .ok (.iconst 4, 1) := by decide +kernel
theorem d_M_digest_5 : decode prog_14_method_116_code 5 = .ok (.newarray .int, 2) := by decide +kernel
theorem d_M_digest_7 : decode prog_14_method_116_code 7 = .ok (.dup, 1) := by decide +kernel
theorem d_M_digest_8 : decode prog_14_method_116_code 8 = .ok (.iconst 0, 1) := by decide +kernel
theorem d_M_digest_9 : decode prog_14_method_116_code 9 = .ok (.aload_n 0, 1) := by decide +kernel
theorem d_M_digest_10 : decode prog_14_method_116_code 10 = .ok (.getfield 185, 3) := by decide +kernel
theorem d_M_digest_13 : decode prog_14_method_116_code 13 = .ok (.iastore, 1) := by decide +kernel
theorem d_M_digest_14 : decode prog_14_method_116_code 14 = .ok (.dup, 1) := by decide +kernel
theorem d_M_digest_15 : decode prog_14_method_116_code 15 = .ok (.iconst 1, 1) := by decide +kernel
theorem d_M_digest_16 : decode prog_14_method_116_code 16 = .ok (.aload_n 0, 1) := by decide +kernel
theorem d_M_digest_17 : decode prog_14_method_116_code 17 = .ok (.getfield 185, 3) := by decide +kernel
theorem d_M_digest_20 : decode prog_14_method_116_code 20 = .ok (.aload_n 0, 1) := by decide +kernel
theorem d_M_digest_21 : decode prog_14_method_116_code 21 = .ok (.invokevirtual 191, 3) := by decide +kernel
theorem v_M_digest_0 {G : XG} {d : Nat} {h : XH} {Q : XV → XH → Prop} {X : Nat → XH → Prop} (F : xFix h) (hyp : xnx h + 1 ≤ xKC ∧ xsl h + 4 ≤ xKS ∧ (xFix (xst (xmk h 100 4 (fun _ => 0)) (xnx h) 0 (xpl h 53 4)) → xwp G m_M_inSegments (d + 218) 0 [xR 53] [] (xst (xmk h 100 4 (fun _ => 0)) (xnx h) 0 (xpl h 53 4)) (fun v9 h9 => xwp G m_M_digest (d + 219) 24 [xR 53, xL 2447, xZ, xZ, xZ, xZ, xZ, xZ] (xpush v9 [xI (xpl h 53 4), xI 1, xR (xnx h), xR (xnx h)]) h9 Q X) X)) : xwp G m_M_digest (d + 219) 0 [xR 53, xZ, xZ, xZ, xZ, xZ, xZ, xZ] [] h Q X := by
  have hnx9 : (93 : Int) ≤ xnx h := F.2.2
  refine xr_ldc2 (pc := 0) (z := 2447) (hI := d_M_digest_0) (hw := w_2482) (hr := by decide) (hv := by decide) ?_
  refine xr_lstore_n (pc := 3) (i := 1) (L9 := [xR 53, xL 2447, xZ, xZ, xZ, xZ, xZ, xZ]) (hI := d_M_digest_3) (hi := rfl) (hn := Nat.le_of_ble_eq_true rfl) (hL9 := rfl) ?_
  refine xr_iconst (pc := 4) (hI := d_M_digest_4) (hr := by decide) ?_
  obtain ⟨c8, c9, hyp⟩ := hyp
  refine xr_newarray (pc := 5) (t := 100) (hI := d_M_digest_5) rfl w_79 rfl (Nat.le_of_ble_eq_true rfl) (Nat.le_of_ble_eq_true rfl) (by decide) (fun _ => rfl) (xok_z rfl) (by decide) (by decide) c8 c9 ?_
  have F1_ : xFix (xmk h 100 4 (fun _ => 0)) := F.mk
  have f2_ : (93 : Int) ≤ xnx h := F.nx
  have f3_ : (93 : Int) ≤ xnx (xmk h 100 4 (fun _ => 0)) := F1_.nx
  have f4_ : xnx (xmk h 100 4 (fun _ => 0)) = xnx h + 1 := xnx_mk _ _ _ _
  show xwp G m_M_digest (d + 219) 7 [xR 53, xL 2447, xZ, xZ, xZ, xZ, xZ, xZ] [xR (xnx h)] (xmk h 100 4 (fun _ => 0)) _ _
  refine xr_dup (pc := 7) (hI := d_M_digest_7) (hv := rfl) ?_
  refine xr_iconst (pc := 8) (hI := d_M_digest_8) (hr := by decide) ?_
  refine xr_aload_n (pc := 9) (i := 0) (hI := d_M_digest_9) (hi := rfl) (hl := rfl) ?_
  refine xg_getf (pc := 10) (ci := 11) (k := 4) (N := 38) (v9 := 0) (v := (xpl h 53 4)) (T := xF11) (hI := d_M_digest_10) (hw := w_1591) rfl xi11 (Or.inl rfl) (Nat.le_of_ble_eq_true rfl) (Nat.le_of_ble_eq_true rfl) rfl (ft_53 F1_) (xpl_old (by clear hyp; first | omega | (simp only [xnx_st, xnx_mk]; omega))) (fun f5_ => ?_)
  replace f5_ : -2147483648 ≤ (xpl h 53 4) ∧ (xpl h 53 4) ≤ 2147483647 := f5_
  refine xr_iastore (pc := 13) (hI := d_M_digest_13) (show xtg (xmk h 100 4 (fun _ => 0)) (xnx h) = 100 from xtg_new rfl) (by clear hyp; omega) (by decide) (xlt_of (show xln (xmk h 100 4 (fun _ => 0)) (xnx h) = 4 from xln_new rfl) (by decide)) ?_
  have F6_ : xFix (xst (xmk h 100 4 (fun _ => 0)) (xnx h) 0 (xpl h 53 4)) := F1_.stD (by clear hyp; omega)
  refine xr_dup (pc := 14) (hI := d_M_digest_14) (hv := rfl) ?_
  refine xr_iconst (pc := 15) (hI := d_M_digest_15) (hr := by decide) ?_
  refine xr_aload_n (pc := 16) (i := 0) (hI := d_M_digest_16) (hi := rfl) (hl := rfl) ?_
  refine xg_getf (pc := 17) (ci := 11) (k := 4) (N := 38) (v9 := 0) (v := (xpl h 53 4)) (T := xF11) (hI := d_M_digest_17) (hw := w_1591) rfl xi11 (Or.inl rfl) (Nat.le_of_ble_eq_true rfl) (Nat.le_of_ble_eq_true rfl) rfl (ft_53 F6_) (Eq.trans (xpl_oa (by clear hyp; omega)) (xpl_old (by clear hyp; first | omega | (simp only [xnx_st, xnx_mk]; omega)))) (fun f7_ => ?_)
  replace f7_ : -2147483648 ≤ (xpl h 53 4) ∧ (xpl h 53 4) ≤ 2147483647 := f7_
  refine xr_aload_n (pc := 20) (i := 0) (hI := d_M_digest_20) (hi := rfl) (hl := rfl) ?_
  exact xq_callV (pc := 21) (index := 191) (K := m_M_inSegments) (As := []) (S := [xI (xpl h 53 4), xI 1, xR (xnx h), xR (xnx h)]) (L0 := [xR 53]) (hI := d_M_digest_21) (hK := k_M_inSegments) (hlk := w_1732) (hnoM := rfl) (hS8 := Nat.le_of_ble_eq_true rfl) (ci := 11) (N := 38) (C := "BeaconIndexModel") (T := xF11) (hc := rfl) (hci := Nat.le_of_ble_eq_true rfl) (htb := (ft_53 F6_)) (hinst := w_1734) (hsel := sel_M_inSegments) (hlen := Nat.le_of_ble_eq_true rfl) (hst := rfl) (hL0 := rfl)  (hyp F6_)
theorem d_M_digest_24 : decode prog_14_method_116_code 24 = .ok (.isub, 1) := by decide +kernel
theorem d_M_digest_25 : decode prog_14_method_116_code 25 = .ok (.iastore, 1) := by decide +kernel
theorem d_M_digest_26 : decode prog_14_method_116_code 26 = .ok (.dup, 1) := by decide +kernel
theorem d_M_digest_27 : decode prog_14_method_116_code 27 = .ok (.iconst 2, 1) := by decide +kernel
theorem d_M_digest_28 : decode prog_14_method_116_code 28 = .ok (.aload_n 0, 1) := by decide +kernel
theorem d_M_digest_29 : decode prog_14_method_116_code 29 = .ok (.getfield 208, 3) := by decide +kernel
theorem d_M_digest_32 : decode prog_14_method_116_code 32 = .ok (.iastore, 1) := by decide +kernel
theorem d_M_digest_33 : decode prog_14_method_116_code 33 = .ok (.dup, 1) := by decide +kernel
theorem d_M_digest_34 : decode prog_14_method_116_code 34 = .ok (.iconst 3, 1) := by decide +kernel
theorem d_M_digest_35 : decode prog_14_method_116_code 35 = .ok (.aload_n 0, 1) := by decide +kernel
theorem d_M_digest_36 : decode prog_14_method_116_code 36 = .ok (.getfield 176, 3) := by decide +kernel
theorem d_M_digest_39 : decode prog_14_method_116_code 39 = .ok (.iastore, 1) := by decide +kernel
theorem d_M_digest_40 : decode prog_14_method_116_code 40 = .ok (.astore_n 3, 1) := by decide +kernel
theorem d_M_digest_41 : decode prog_14_method_116_code 41 = .ok (.aload_n 3, 1) := by decide +kernel
theorem d_M_digest_42 : decode prog_14_method_116_code 42 = .ok (.astore 4, 2) := by decide +kernel
theorem d_M_digest_44 : decode prog_14_method_116_code 44 = .ok (.aload 4, 2) := by decide +kernel
theorem d_M_digest_46 : decode prog_14_method_116_code 46 = .ok (.arraylength, 1) := by decide +kernel
theorem d_M_digest_47 : decode prog_14_method_116_code 47 = .ok (.istore 5, 2) := by decide +kernel
theorem d_M_digest_49 : decode prog_14_method_116_code 49 = .ok (.iconst 0, 1) := by decide +kernel
theorem d_M_digest_50 : decode prog_14_method_116_code 50 = .ok (.istore 6, 2) := by decide +kernel
theorem v_M_digest_24 {G : XG} {d : Nat} {h : XH} {Q : XV → XH → Prop} {X : Nat → XH → Prop} {x1 s0 s1 s2 s3 s4 : Int} (F : xFix h) (hyp : xiR (s1 - s0) ∧ xtg h s3 = 100 ∧ 0 ≤ s3 ∧ 0 ≤ s2 ∧ s2 < (xln h s3) ∧ xtg h s4 = 100 ∧ 0 ≤ s4 ∧ (2 : Int) < (xln h s4) ∧ (3 : Int) < (xln h s4) ∧ (xFix (xst (xst (xst h s3 s2 (s1 - s0)) s4 2 (xpl h 53 6)) s4 3 (xpl h 53 5)) → xwp G m_M_digest (d + 219) 52 [xR 53, xL x1, xZ, xZ, xR s4, xI (xln h s4), xI 0, xZ] [] (xst (xst (xst h s3 s2 (s1 - s0)) s4 2 (xpl h 53 6)) s4 3 (xpl h 53 5)) Q X)) : xwp G m_M_digest (d + 219) 24 [xR 53, xL x1, xZ, xZ, xZ, xZ, xZ, xZ] [xI s0, xI s1, xI s2, xR s3, xR s4] h Q X := by
  have hnx9 : (93 : Int) ≤ xnx h := F.2.2
  refine xr_okL (fun hl9 => ?_)
  have r_x1 : -9223372036854775808 ≤ x1 ∧ x1 ≤ 9223372036854775807 := hl9 (xL x1) (.tail _ (.head _)) (Nat.le_of_ble_eq_true rfl)
  refine xr_okS (fun hs9 => ?_)
  have r_s0 : -2147483648 ≤ s0 ∧ s0 ≤ 2147483647 := hs9 (xI s0) (.head _)
  have r_s1 : -2147483648 ≤ s1 ∧ s1 ≤ 2147483647 := hs9 (xI s1) (.tail _ (.head _))
  have r_s2 : -2147483648 ≤ s2 ∧ s2 ≤ 2147483647 := hs9 (xI s2) (.tail _ (.tail _ (.head _)))
  obtain ⟨c9, hyp⟩ := hyp
  refine xr_isub (pc := 24) (hI := d_M_digest_24) (hr := c9) ?_
  obtain ⟨c9, hyp⟩ := hyp
  have t1_ := c9
  clear c9
  obtain ⟨c2_, hyp⟩ := hyp
  obtain ⟨c3_, hyp⟩ := hyp
  obtain ⟨c4_, hyp⟩ := hyp
  refine xr_iastore (pc := 25) (hI := d_M_digest_25) t1_ c2_ c3_ (xlt_of rfl c4_) ?_
  have F5_ : xFix (xst h s3 s2 (s1 - s0)) := F.stTA (t := 100) c2_ t1_ xta_100
  refine xr_dup (pc := 26) (hI := d_M_digest_26) (hv := rfl) ?_
  refine xr_iconst (pc := 27) (hI := d_M_digest_27) (hr := by decide) ?_
  refine xr_aload_n (pc := 28) (i := 0) (hI := d_M_digest_28) (hi := rfl) (hl := rfl) ?_
  refine xg_getf (pc := 29) (ci := 11) (k := 6) (N := 38) (v9 := 0) (v := (xpl h 53 6)) (T := xF11) (hI := d_M_digest_29) (hw := w_1593) rfl xi11 (Or.inl rfl) (Nat.le_of_ble_eq_true rfl) (Nat.le_of_ble_eq_true rfl) rfl (ft_53 F5_) (xpl_oa (xne_tag (have z9 := (ft_53 F5_); z9) t1_ (by decide))) (fun f6_ => ?_)
  replace f6_ : -2147483648 ≤ (xpl h 53 6) ∧ (xpl h 53 6) ≤ 2147483647 := f6_
  obtain ⟨c9, hyp⟩ := hyp
  have t7_ := c9
  clear c9
  obtain ⟨c8_, hyp⟩ := hyp
  obtain ⟨c9_, hyp⟩ := hyp
  refine xr_iastore (pc := 32) (hI := d_M_digest_32) t7_ c8_ (by decide) (xlt_of (show xln (xst h s3 s2 (s1 - s0)) s4 = xln h s4 from rfl) c9_) ?_
  have F10_ : xFix (xst (xst h s3 s2 (s1 - s0)) s4 2 (xpl h 53 6)) := F5_.stTA (t := 100) c8_ t7_ xta_100
  refine xr_dup (pc := 33) (hI := d_M_digest_33) (hv := rfl) ?_
  refine xr_iconst (pc := 34) (hI := d_M_digest_34) (hr := by decide) ?_
  refine xr_aload_n (pc := 35) (i := 0) (hI := d_M_digest_35) (hi := rfl) (hl := rfl) ?_
  refine xg_getf (pc := 36) (ci := 11) (k := 5) (N := 38) (v9 := 0) (v := (xpl h 53 5)) (T := xF11) (hI := d_M_digest_36) (hw := w_1592) rfl xi11 (Or.inl rfl) (Nat.le_of_ble_eq_true rfl) (Nat.le_of_ble_eq_true rfl) rfl (ft_53 F10_) (Eq.trans (xpl_oa (xne_tag (have z9 := (ft_53 F10_); z9) t7_ (by decide))) (xpl_oa (xne_tag (have z9 := (ft_53 F10_); z9) t1_ (by decide)))) (fun f11_ => ?_)
  replace f11_ : -2147483648 ≤ (xpl h 53 5) ∧ (xpl h 53 5) ≤ 2147483647 := f11_
  obtain ⟨c12_, hyp⟩ := hyp
  refine xr_iastore (pc := 39) (hI := d_M_digest_39) t7_ (by clear hyp; omega) (by decide) (xlt_of (show xln (xst (xst h s3 s2 (s1 - s0)) s4 2 (xpl h 53 6)) s4 = xln h s4 from rfl) c12_) ?_
  have F13_ : xFix (xst (xst (xst h s3 s2 (s1 - s0)) s4 2 (xpl h 53 6)) s4 3 (xpl h 53 5)) := F10_.stTA (t := 100) (by clear hyp; omega) t7_ xta_100
  refine xr_astore_n (pc := 40) (i := 3) (L9 := [xR 53, xL x1, xZ, xR s4, xZ, xZ, xZ, xZ]) (hI := d_M_digest_40) (hi := rfl) (hn := Nat.le_of_ble_eq_true rfl) (hL9 := rfl) ?_
  refine xr_aload_n (pc := 41) (i := 3) (hI := d_M_digest_41) (hi := rfl) (hl := rfl) ?_
  refine xr_astore (pc := 42) (i := 4) (L9 := [xR 53, xL x1, xZ, xR s4, xR s4, xZ, xZ, xZ]) (hI := d_M_digest_42) (hn := Nat.le_of_ble_eq_true rfl) (hL9 := rfl) ?_
  refine xr_aload (pc := 44) (i := 4) (hI := d_M_digest_44) (hl := rfl) ?_
  refine xg_alen (pc := 46) (t := 100) (v := (xln h s4)) (hI := d_M_digest_46) t7_ (Nat.le_of_ble_eq_true rfl) (Nat.le_of_ble_eq_true rfl) rfl (show xln (xst (xst (xst h s3 s2 (s1 - s0)) s4 2 (xpl h 53 6)) s4 3 (xpl h 53 5)) s4 = xln h s4 from rfl) (fun f14_ f15_ => ?_)
  refine xr_istore (pc := 47) (i := 5) (L9 := [xR 53, xL x1, xZ, xR s4, xR s4, xI (xln h s4), xZ, xZ]) (hI := d_M_digest_47) (hn := Nat.le_of_ble_eq_true rfl) (hL9 := rfl) ?_
  refine xr_iconst (pc := 49) (hI := d_M_digest_49) (hr := by decide) ?_
  refine xr_istore (pc := 50) (i := 6) (L9 := [xR 53, xL x1, xZ, xR s4, xR s4, xI (xln h s4), xI 0, xZ]) (hI := d_M_digest_50) (hn := Nat.le_of_ble_eq_true rfl) (hL9 := rfl) ?_
  exact xr_drop (L9 := [xR 53, xL x1, xZ, xZ, xR s4, xI (xln h s4), xI 0, xZ]) (xdrs (xdrs (xdrs (xdrz (xdrs (xdrs (xdrs (xdrs xdr0)))))))) (hyp F13_)
theorem d_M_digest_52 : decode prog_14_method_116_code 52 = .ok (.iload 6, 2) := by decide +kernel
theorem d_M_digest_54 : decode prog_14_method_116_code 54 = .ok (.iload 5, 2) := by decide +kernel
theorem d_M_digest_56 : decode prog_14_method_116_code 56 = .ok (.if_icmp .ge 23, 3) := by decide +kernel
theorem d_M_digest_79 : decode prog_14_method_116_code 79 = .ok (.iconst 0, 1) := by decide +kernel
theorem d_M_digest_80 : decode prog_14_method_116_code 80 = .ok (.istore 4, 2) := by decide +kernel
theorem d_M_digest_59 : decode prog_14_method_116_code 59 = .ok (.aload 4, 2) := by decide +kernel
theorem d_M_digest_61 : decode prog_14_method_116_code 61 = .ok (.iload 6, 2) := by decide +kernel
theorem d_M_digest_63 : decode prog_14_method_116_code 63 = .ok (.iaload, 1) := by decide +kernel
theorem d_M_digest_64 : decode prog_14_method_116_code 64 = .ok (.istore 7, 2) := by decide +kernel
theorem d_M_digest_66 : decode prog_14_method_116_code 66 = .ok (.lload_n 1, 1) := by decide +kernel
theorem d_M_digest_67 : decode prog_14_method_116_code 67 = .ok (.iload 7, 2) := by decide +kernel
theorem d_M_digest_69 : decode prog_14_method_116_code 69 = .ok (.invokestatic 471, 3) := by decide +kernel
theorem d_M_digest_72 : decode prog_14_method_116_code 72 = .ok (.lstore_n 1, 1) := by decide +kernel
theorem d_M_digest_73 : decode prog_14_method_116_code 73 = .ok (.iinc 6 1, 3) := by decide +kernel
theorem d_M_digest_76 : decode prog_14_method_116_code 76 = .ok (.goto (-24), 3) := by decide +kernel
theorem v_M_digest_52 {G : XG} {d : Nat} {h : XH} {Q : XV → XH → Prop} {X : Nat → XH → Prop} {x1 x4 x5 x6 : Int} (F : xFix h) (hyp : ((x5 ≤ x6 → (xwp G m_M_digest (d + 219) 82 [xR 53, xL x1, xZ, xZ, xI 0, xZ, xZ, xZ] [] h Q X)) ∧ (¬ x5 ≤ x6 → xtg h x4 = 100 ∧ 0 ≤ x6 ∧ x6 < (xln h x4) ∧ (xwp G m_M_digest (d + 219) 52 [xR 53, xL (xw64 ((xw64 (x1 * 31)) + (xpl h x4 x6))), xZ, xZ, xR x4, xI x5, xI (x6 + 1), xZ] [] h Q X)))) : xwp G m_M_digest (d + 219) 52 [xR 53, xL x1, xZ, xZ, xR x4, xI x5, xI x6, xZ] [] h Q X := by
  have hnx9 : (93 : Int) ≤ xnx h := F.2.2
  refine xr_okL (fun hl9 => ?_)
  have r_x1 : -9223372036854775808 ≤ x1 ∧ x1 ≤ 9223372036854775807 := hl9 (xL x1) (.tail _ (.head _)) (Nat.le_of_ble_eq_true rfl)
  have r_x5 : -2147483648 ≤ x5 ∧ x5 ≤ 2147483647 := hl9 (xI x5) (.tail _ (.tail _ (.tail _ (.tail _ (.tail _ (.head _)))))) (Nat.le_of_ble_eq_true rfl)
  have r_x6 : -2147483648 ≤ x6 ∧ x6 ≤ 2147483647 := hl9 (xI x6) (.tail _ (.tail _ (.tail _ (.tail _ (.tail _ (.tail _ (.head _))))))) (Nat.le_of_ble_eq_true rfl)
  refine xr_iload (pc := 52) (i := 6) (hI := d_M_digest_52) (hl := rfl) ?_
  refine xr_iload (pc := 54) (i := 5) (hI := d_M_digest_54) (hl := rfl) ?_
  refine xr_icmp_ge (pc := 56) (tgt := 79) (hI := d_M_digest_56) (ht := by decide) (fun q9 => ?_) (fun q9 => ?_)
  · replace hyp := hyp.1 q9
    have q1_ := q9
    clear q9
    refine xr_iconst (pc := 79) (hI := d_M_digest_79) (hr := by decide) ?_
    refine xr_istore (pc := 80) (i := 4) (L9 := [xR 53, xL x1, xZ, xZ, xI 0, xI x5, xI x6, xZ]) (hI := d_M_digest_80) (hn := Nat.le_of_ble_eq_true rfl) (hL9 := rfl) ?_
    exact xr_drop (L9 := [xR 53, xL x1, xZ, xZ, xI 0, xZ, xZ, xZ]) (xdrs (xdrs (xdrs (xdrs (xdrs (xdrz (xdrz (xdrs xdr0)))))))) hyp
  · replace hyp := hyp.2 q9
    have q1_ := q9
    clear q9
    refine xr_aload (pc := 59) (i := 4) (hI := d_M_digest_59) (hl := rfl) ?_
    refine xr_iload (pc := 61) (i := 6) (hI := d_M_digest_61) (hl := rfl) ?_
    obtain ⟨c9, hyp⟩ := hyp
    have t2_ := c9
    clear c9
    obtain ⟨c3_, hyp⟩ := hyp
    obtain ⟨c4_, hyp⟩ := hyp
    refine xg_iaload (pc := 63) (v := (xpl h x4 x6)) (hI := d_M_digest_63) t2_ c3_ (xlt_of rfl c4_) rfl (fun f5_ => ?_)
    replace f5_ : -2147483648 ≤ (xpl h x4 x6) ∧ (xpl h x4 x6) ≤ 2147483647 := f5_
    refine xr_istore (pc := 64) (i := 7) (L9 := [xR 53, xL x1, xZ, xZ, xR x4, xI x5, xI x6, xI (xpl h x4 x6)]) (hI := d_M_digest_64) (hn := Nat.le_of_ble_eq_true rfl) (hL9 := rfl) ?_
    refine xr_lload_n (pc := 66) (i := 1) (hI := d_M_digest_66) (hi := rfl) (hl := rfl) ?_
    refine xr_iload (pc := 67) (i := 7) (hI := d_M_digest_67) (hl := rfl) ?_
    refine xq_callS (pc := 69) (index := 471) (K := m_M_with) (As := [xL x1, xI (xpl h x4 x6)]) (S := []) (L0 := [xL x1, xZ, xI (xpl h x4 x6)]) (hI := d_M_digest_69) (hK := k_M_with) (hlk := w_2483) (hnoM := rfl) (hS8 := Nat.le_of_ble_eq_true rfl) (hstat := w_2484) (hlen := Nat.le_of_ble_eq_true rfl) (hst := rfl) (hL0 := rfl)  ?_
    refine xr_lload_n (pc := 0) (i := 0) (hI := d_M_with_0) (hi := rfl) (hl := rfl) ?_
    refine xr_ldc2 (pc := 1) (z := 31) (hI := d_M_with_1) (hw := w_2486) (hr := by decide) (hv := by decide) ?_
    refine xr_lmul (pc := 4) (hI := d_M_with_4) ?_
    refine xr_iload_n (pc := 5) (i := 2) (hI := d_M_with_5) (hi := rfl) (hl := rfl) ?_
    refine xr_i2l (pc := 6) (hI := d_M_with_6) ?_
    refine xr_ladd (pc := 7) (hI := d_M_with_7) ?_
    refine xr_lreturn (S := []) (pc := 8) (hI := d_M_with_8) (hr := rfl) ?_
    show xwp G m_M_digest (d + 219) 72 [xR 53, xL x1, xZ, xZ, xR x4, xI x5, xI x6, xI (xpl h x4 x6)] [xL (xw64 ((xw64 (x1 * 31)) + (xpl h x4 x6)))] _ _ _
    refine xr_lstore_n (pc := 72) (i := 1) (L9 := [xR 53, xL (xw64 ((xw64 (x1 * 31)) + (xpl h x4 x6))), xZ, xZ, xR x4, xI x5, xI x6, xI (xpl h x4 x6)]) (hI := d_M_digest_72) (hi := rfl) (hn := Nat.le_of_ble_eq_true rfl) (hL9 := rfl) ?_
    refine xr_iinc (pc := 73) (i := 6) (L9 := [xR 53, xL (xw64 ((xw64 (x1 * 31)) + (xpl h x4 x6))), xZ, xZ, xR x4, xI x5, xI (x6 + 1), xI (xpl h x4 x6)]) (hI := d_M_digest_73) (hl := rfl) (hn := Nat.le_of_ble_eq_true rfl) (hr := ⟨by clear hyp; omega, by clear hyp; omega⟩) (hL9 := rfl) ?_
    refine xr_goto (pc := 76) (tgt := 52) (hI := d_M_digest_76) (ht := by decide) ?_
    exact xr_drop (L9 := [xR 53, xL (xw64 ((xw64 (x1 * 31)) + (xpl h x4 x6))), xZ, xZ, xR x4, xI x5, xI (x6 + 1), xZ]) (xdrs (xdrs (xdrs (xdrs (xdrs (xdrs (xdrs (xdrz xdr0)))))))) hyp
theorem d_M_digest_82 : decode prog_14_method_116_code 82 = .ok (.iload 4, 2) := by decide +kernel
theorem d_M_digest_84 : decode prog_14_method_116_code 84 = .ok (.aload_n 0, 1) := by decide +kernel
theorem d_M_digest_85 : decode prog_14_method_116_code 85 = .ok (.getfield 176, 3) := by decide +kernel
theorem d_M_digest_88 : decode prog_14_method_116_code 88 = .ok (.if_icmp .ge 17, 3) := by decide +kernel
theorem d_M_digest_105 : decode prog_14_method_116_code 105 = .ok (.aload_n 0, 1) := by decide +kernel
theorem d_M_digest_106 : decode prog_14_method_116_code 106 = .ok (.getfield 217, 3) := by decide +kernel
theorem d_M_digest_109 : decode prog_14_method_116_code 109 = .ok (.invokestatic 240, 3) := by decide +kernel
theorem d_M_digest_91 : decode prog_14_method_116_code 91 = .ok (.aload_n 0, 1) := by decide +kernel
theorem d_M_digest_92 : decode prog_14_method_116_code 92 = .ok (.lload_n 1, 1) := by decide +kernel
theorem d_M_digest_93 : decode prog_14_method_116_code 93 = .ok (.iload 4, 2) := by decide +kernel
theorem d_M_digest_95 : decode prog_14_method_116_code 95 = .ok (.invokevirtual 477, 3) := by decide +kernel
theorem k_M_ofSegment : xCal m_M_ofSegment 2 := ⟨List.mem_append_right _ (List.mem_of_getElem? (i := 2490) (by decide +kernel)), w_15, Nat.le_of_ble_eq_true rfl, ⟨by decide +kernel, by decide +kernel⟩, by decide +kernel, by decide +kernel, rfl⟩
theorem w_2487 : Cond.methodLink "BeaconIndexModel" 477 ⟨"BeaconIndexModel", "ofSegment", "(JI)J"⟩ ∈ lw_tbl := List.mem_append_right _ (List.mem_of_getElem? (i := 2487) (by decide +kernel))
theorem w_2489 : Cond.instanceMethod ⟨"BeaconIndexModel", "ofSegment", "(JI)J"⟩ ∈ lw_tbl := List.mem_append_right _ (List.mem_of_getElem? (i := 2489) (by decide +kernel))
theorem sel_M_ofSegment : Cond.selects "BeaconIndexModel" ⟨"BeaconIndexModel", "ofSegment", "(JI)J"⟩ ⟨"BeaconIndexModel", "ofSegment", "(JI)J"⟩ ∈ lw_tbl := List.mem_append_left _ (by decide +kernel)
theorem v_M_digest_82 {G : XG} {d : Nat} {h : XH} {Q : XV → XH → Prop} {X : Nat → XH → Prop} {x1 x4 : Int} (F : xFix h) (hyp : (((xpl h 53 5) ≤ x4 → (xwp G m_M_lengthOf_J (d + 218) 0 [xL (xpl h 53 14), xZ, xZ] [] h (fun v9 h9 => xwp G m_M_digest (d + 219) 112 [xR 53, xL x1, xZ, xZ, xZ, xZ, xZ, xZ] (xpush v9 []) h9 Q X) X)) ∧ (¬ (xpl h 53 5) ≤ x4 → (xwp G m_M_ofSegment (d + 218) 0 [xR 53, xL x1, xZ, xI x4, xZ, xZ, xZ, xZ, xZ, xZ, xZ] [] h (fun v9 h9 => xwp G m_M_digest (d + 219) 98 [xR 53, xZ, xZ, xZ, xI x4, xZ, xZ, xZ] (xpush v9 []) h9 Q X) X)))) : xwp G m_M_digest (d + 219) 82 [xR 53, xL x1, xZ, xZ, xI x4, xZ, xZ, xZ] [] h Q X := by
  have hnx9 : (93 : Int) ≤ xnx h := F.2.2
  refine xr_okL (fun hl9 => ?_)
  have r_x1 : -9223372036854775808 ≤ x1 ∧ x1 ≤ 9223372036854775807 := hl9 (xL x1) (.tail _ (.head _)) (Nat.le_of_ble_eq_true rfl)
  have r_x4 : -2147483648 ≤ x4 ∧ x4 ≤ 2147483647 := hl9 (xI x4) (.tail _ (.tail _ (.tail _ (.tail _ (.head _))))) (Nat.le_of_ble_eq_true rfl)
  refine xr_iload (pc := 82) (i := 4) (hI := d_M_digest_82) (hl := rfl) ?_
  refine xr_aload_n (pc := 84) (i := 0) (hI := d_M_digest_84) (hi := rfl) (hl := rfl) ?_
  refine xg_getf (pc := 85) (ci := 11) (k := 5) (N := 38) (v9 := 0) (v := (xpl h 53 5)) (T := xF11) (hI := d_M_digest_85) (hw := w_1592) rfl xi11 (Or.inl rfl) (Nat.le_of_ble_eq_true rfl) (Nat.le_of_ble_eq_true rfl) rfl (ft_53 F) rfl (fun f1_ => ?_)
  replace f1_ : -2147483648 ≤ (xpl h 53 5) ∧ (xpl h 53 5) ≤ 2147483647 := f1_
  refine xr_icmp_ge (pc := 88) (tgt := 105) (hI := d_M_digest_88) (ht := by decide) (fun q9 => ?_) (fun q9 => ?_)
  · replace hyp := hyp.1 q9
    have q2_ := q9
    clear q9
    refine xr_aload_n (pc := 105) (i := 0) (hI := d_M_digest_105) (hi := rfl) (hl := rfl) ?_
    refine xg_getf (pc := 106) (ci := 11) (k := 14) (N := 38) (v9 := 1) (v := (xpl h 53 14)) (T := xF11) (hI := d_M_digest_106) (hw := w_1601) rfl xi11 (Or.inl rfl) (Nat.le_of_ble_eq_true rfl) (Nat.le_of_ble_eq_true rfl) rfl (ft_53 F) rfl (fun f3_ => ?_)
    replace f3_ : -9223372036854775808 ≤ (xpl h 53 14) ∧ (xpl h 53 14) ≤ 9223372036854775807 := f3_
    exact xq_callS (pc := 109) (index := 240) (K := m_M_lengthOf_J) (As := [xL (xpl h 53 14)]) (S := []) (L0 := [xL (xpl h 53 14), xZ, xZ]) (hI := d_M_digest_109) (hK := k_M_lengthOf_J) (hlk := w_2203) (hnoM := rfl) (hS8 := Nat.le_of_ble_eq_true rfl) (hstat := w_2204) (hlen := Nat.le_of_ble_eq_true rfl) (hst := rfl) (hL0 := rfl)  (xwp_mono hyp (fun v9 h9 q9 => xr_drop (L9 := [xR 53, xL x1, xZ, xZ, xZ, xZ, xZ, xZ]) (xdrs (xdrs (xdrs (xdrs (xdrz (xdrs (xdrs (xdrs xdr0)))))))) q9) (fun _ _ z9 => z9))
  · replace hyp := hyp.2 q9
    have q2_ := q9
    clear q9
    refine xr_aload_n (pc := 91) (i := 0) (hI := d_M_digest_91) (hi := rfl) (hl := rfl) ?_
    refine xr_lload_n (pc := 92) (i := 1) (hI := d_M_digest_92) (hi := rfl) (hl := rfl) ?_
    refine xr_iload (pc := 93) (i := 4) (hI := d_M_digest_93) (hl := rfl) ?_
    exact xq_callV (pc := 95) (index := 477) (K := m_M_ofSegment) (As := [xL x1, xI x4]) (S := []) (L0 := [xR 53, xL x1, xZ, xI x4, xZ, xZ, xZ, xZ, xZ, xZ, xZ]) (hI := d_M_digest_95) (hK := k_M_ofSegment) (hlk := w_2487) (hnoM := rfl) (hS8 := Nat.le_of_ble_eq_true rfl) (ci := 11) (N := 38) (C := "BeaconIndexModel") (T := xF11) (hc := rfl) (hci := Nat.le_of_ble_eq_true rfl) (htb := (ft_53 F)) (hinst := w_2489) (hsel := sel_M_ofSegment) (hlen := Nat.le_of_ble_eq_true rfl) (hst := rfl) (hL0 := rfl)  (xwp_mono hyp (fun v9 h9 q9 => xr_drop (L9 := [xR 53, xZ, xZ, xZ, xI x4, xZ, xZ, xZ]) (xdrs (xdrz (xdrs (xdrs (xdrs (xdrs (xdrs (xdrs xdr0)))))))) q9) (fun _ _ z9 => z9))
theorem d_M_digest_98 : decode prog_14_method_116_code 98 = .ok (.lstore_n 1, 1) := by decide +kernel
theorem d_M_digest_99 : decode prog_14_method_116_code 99 = .ok (.iinc 4 1, 3) := by decide +kernel
theorem d_M_digest_102 : decode prog_14_method_116_code 102 = .ok (.goto (-20), 3) := by decide +kernel
theorem v_M_digest_98 {G : XG} {d : Nat} {h : XH} {Q : XV → XH → Prop} {X : Nat → XH → Prop} {x4 s0 : Int} (F : xFix h) (hyp : xiR (x4 + 1) ∧ (xwp G m_M_digest (d + 219) 82 [xR 53, xL s0, xZ, xZ, xI (x4 + 1), xZ, xZ, xZ] [] h Q X)) : xwp G m_M_digest (d + 219) 98 [xR 53, xZ, xZ, xZ, xI x4, xZ, xZ, xZ] [xL s0] h Q X := by
  have hnx9 : (93 : Int) ≤ xnx h := F.2.2
  refine xr_okL (fun hl9 => ?_)
  have r_x4 : -2147483648 ≤ x4 ∧ x4 ≤ 2147483647 := hl9 (xI x4) (.tail _ (.tail _ (.tail _ (.tail _ (.head _))))) (Nat.le_of_ble_eq_true rfl)
  refine xr_okS (fun hs9 => ?_)
  have r_s0 : -9223372036854775808 ≤ s0 ∧ s0 ≤ 9223372036854775807 := hs9 (xL s0) (.head _)
  refine xr_lstore_n (pc := 98) (i := 1) (L9 := [xR 53, xL s0, xZ, xZ, xI x4, xZ, xZ, xZ]) (hI := d_M_digest_98) (hi := rfl) (hn := Nat.le_of_ble_eq_true rfl) (hL9 := rfl) ?_
  obtain ⟨c9, hyp⟩ := hyp
  refine xr_iinc (pc := 99) (i := 4) (L9 := [xR 53, xL s0, xZ, xZ, xI (x4 + 1), xZ, xZ, xZ]) (hI := d_M_digest_99) (hl := rfl) (hn := Nat.le_of_ble_eq_true rfl) (hr := c9) (hL9 := rfl) ?_
  refine xr_goto (pc := 102) (tgt := 82) (hI := d_M_digest_102) (ht := by decide) ?_
  exact hyp
theorem d_M_digest_112 : decode prog_14_method_116_code 112 = .ok (.istore 4, 2) := by decide +kernel
theorem d_M_digest_114 : decode prog_14_method_116_code 114 = .ok (.lload_n 1, 1) := by decide +kernel
theorem d_M_digest_115 : decode prog_14_method_116_code 115 = .ok (.iload 4, 2) := by decide +kernel
theorem d_M_digest_117 : decode prog_14_method_116_code 117 = .ok (.invokestatic 471, 3) := by decide +kernel
theorem d_M_digest_120 : decode prog_14_method_116_code 120 = .ok (.lstore_n 1, 1) := by decide +kernel
theorem d_M_digest_121 : decode prog_14_method_116_code 121 = .ok (.iconst 0, 1) := by decide +kernel
theorem d_M_digest_122 : decode prog_14_method_116_code 122 = .ok (.istore 5, 2) := by decide +kernel
theorem v_M_digest_112 {G : XG} {d : Nat} {h : XH} {Q : XV → XH → Prop} {X : Nat → XH → Prop} {x1 s0 : Int} (F : xFix h) (hyp : (xwp G m_M_digest (d + 219) 124 [xR 53, xL (xw64 ((xw64 (x1 * 31)) + s0)), xZ, xZ, xI s0, xI 0, xZ, xZ] [] h Q X)) : xwp G m_M_digest (d + 219) 112 [xR 53, xL x1, xZ, xZ, xZ, xZ, xZ, xZ] [xI s0] h Q X := by
  have hnx9 : (93 : Int) ≤ xnx h := F.2.2
  refine xr_okL (fun hl9 => ?_)
  have r_x1 : -9223372036854775808 ≤ x1 ∧ x1 ≤ 9223372036854775807 := hl9 (xL x1) (.tail _ (.head _)) (Nat.le_of_ble_eq_true rfl)
  refine xr_okS (fun hs9 => ?_)
  have r_s0 : -2147483648 ≤ s0 ∧ s0 ≤ 2147483647 := hs9 (xI s0) (.head _)
  refine xr_istore (pc := 112) (i := 4) (L9 := [xR 53, xL x1, xZ, xZ, xI s0, xZ, xZ, xZ]) (hI := d_M_digest_112) (hn := Nat.le_of_ble_eq_true rfl) (hL9 := rfl) ?_
  refine xr_lload_n (pc := 114) (i := 1) (hI := d_M_digest_114) (hi := rfl) (hl := rfl) ?_
  refine xr_iload (pc := 115) (i := 4) (hI := d_M_digest_115) (hl := rfl) ?_
  refine xq_callS (pc := 117) (index := 471) (K := m_M_with) (As := [xL x1, xI s0]) (S := []) (L0 := [xL x1, xZ, xI s0]) (hI := d_M_digest_117) (hK := k_M_with) (hlk := w_2483) (hnoM := rfl) (hS8 := Nat.le_of_ble_eq_true rfl) (hstat := w_2484) (hlen := Nat.le_of_ble_eq_true rfl) (hst := rfl) (hL0 := rfl)  ?_
  refine xr_lload_n (pc := 0) (i := 0) (hI := d_M_with_0) (hi := rfl) (hl := rfl) ?_
  refine xr_ldc2 (pc := 1) (z := 31) (hI := d_M_with_1) (hw := w_2486) (hr := by decide) (hv := by decide) ?_
  refine xr_lmul (pc := 4) (hI := d_M_with_4) ?_
  refine xr_iload_n (pc := 5) (i := 2) (hI := d_M_with_5) (hi := rfl) (hl := rfl) ?_
  refine xr_i2l (pc := 6) (hI := d_M_with_6) ?_
  refine xr_ladd (pc := 7) (hI := d_M_with_7) ?_
  refine xr_lreturn (S := []) (pc := 8) (hI := d_M_with_8) (hr := rfl) ?_
  show xwp G m_M_digest (d + 219) 120 [xR 53, xL x1, xZ, xZ, xI s0, xZ, xZ, xZ] [xL (xw64 ((xw64 (x1 * 31)) + s0))] _ _ _
  refine xr_lstore_n (pc := 120) (i := 1) (L9 := [xR 53, xL (xw64 ((xw64 (x1 * 31)) + s0)), xZ, xZ, xI s0, xZ, xZ, xZ]) (hI := d_M_digest_120) (hi := rfl) (hn := Nat.le_of_ble_eq_true rfl) (hL9 := rfl) ?_
  refine xr_iconst (pc := 121) (hI := d_M_digest_121) (hr := by decide) ?_
  refine xr_istore (pc := 122) (i := 5) (L9 := [xR 53, xL (xw64 ((xw64 (x1 * 31)) + s0)), xZ, xZ, xI s0, xI 0, xZ, xZ]) (hI := d_M_digest_122) (hn := Nat.le_of_ble_eq_true rfl) (hL9 := rfl) ?_
  exact hyp
theorem d_M_digest_124 : decode prog_14_method_116_code 124 = .ok (.iload 5, 2) := by decide +kernel
theorem d_M_digest_126 : decode prog_14_method_116_code 126 = .ok (.iload 4, 2) := by decide +kernel
theorem d_M_digest_128 : decode prog_14_method_116_code 128 = .ok (.if_icmp .ge 20, 3) := by decide +kernel
theorem d_M_digest_148 : decode prog_14_method_116_code 148 = .ok (.iconst 0, 1) := by decide +kernel
theorem d_M_digest_149 : decode prog_14_method_116_code 149 = .ok (.istore 5, 2) := by decide +kernel
theorem d_M_digest_131 : decode prog_14_method_116_code 131 = .ok (.lload_n 1, 1) := by decide +kernel
theorem d_M_digest_132 : decode prog_14_method_116_code 132 = .ok (.aload_n 0, 1) := by decide +kernel
theorem d_M_digest_133 : decode prog_14_method_116_code 133 = .ok (.iload 5, 2) := by decide +kernel
theorem d_M_digest_135 : decode prog_14_method_116_code 135 = .ok (.invokevirtual 480, 3) := by decide +kernel
theorem k_M_wordByte : xCal m_M_wordByte 1 := ⟨List.mem_append_right _ (List.mem_of_getElem? (i := 2215) (by decide +kernel)), w_15, Nat.le_of_ble_eq_true rfl, ⟨by decide +kernel, by decide +kernel⟩, by decide +kernel, by decide +kernel, rfl⟩
theorem w_2491 : Cond.methodLink "BeaconIndexModel" 480 ⟨"BeaconIndexModel", "wordByte", "(I)I"⟩ ∈ lw_tbl := List.mem_append_right _ (List.mem_of_getElem? (i := 2491) (by decide +kernel))
theorem w_2213 : Cond.instanceMethod ⟨"BeaconIndexModel", "wordByte", "(I)I"⟩ ∈ lw_tbl := List.mem_append_right _ (List.mem_of_getElem? (i := 2213) (by decide +kernel))
theorem w_2214 : Cond.selects "BeaconIndexModel" ⟨"BeaconIndexModel", "wordByte", "(I)I"⟩ ⟨"BeaconIndexModel", "wordByte", "(I)I"⟩ ∈ lw_tbl := List.mem_append_right _ (List.mem_of_getElem? (i := 2214) (by decide +kernel))
theorem v_M_digest_124 {G : XG} {d : Nat} {h : XH} {Q : XV → XH → Prop} {X : Nat → XH → Prop} {x1 x4 x5 : Int} (F : xFix h) (hyp : ((x4 ≤ x5 → (xwp G m_M_digest (d + 219) 151 [xR 53, xL x1, xZ, xZ, xZ, xI 0, xZ, xZ] [] h Q X)) ∧ (¬ x4 ≤ x5 → (xwp G m_M_wordByte (d + 218) 0 [xR 53, xI x5, xZ] [] h (fun v9 h9 => xwp G m_M_digest (d + 219) 138 [xR 53, xZ, xZ, xZ, xI x4, xI x5, xZ, xZ] (xpush v9 [xL x1]) h9 Q X) X)))) : xwp G m_M_digest (d + 219) 124 [xR 53, xL x1, xZ, xZ, xI x4, xI x5, xZ, xZ] [] h Q X := by
  have hnx9 : (93 : Int) ≤ xnx h := F.2.2
  refine xr_okL (fun hl9 => ?_)
  have r_x1 : -9223372036854775808 ≤ x1 ∧ x1 ≤ 9223372036854775807 := hl9 (xL x1) (.tail _ (.head _)) (Nat.le_of_ble_eq_true rfl)
  have r_x4 : -2147483648 ≤ x4 ∧ x4 ≤ 2147483647 := hl9 (xI x4) (.tail _ (.tail _ (.tail _ (.tail _ (.head _))))) (Nat.le_of_ble_eq_true rfl)
  have r_x5 : -2147483648 ≤ x5 ∧ x5 ≤ 2147483647 := hl9 (xI x5) (.tail _ (.tail _ (.tail _ (.tail _ (.tail _ (.head _)))))) (Nat.le_of_ble_eq_true rfl)
  refine xr_iload (pc := 124) (i := 5) (hI := d_M_digest_124) (hl := rfl) ?_
  refine xr_iload (pc := 126) (i := 4) (hI := d_M_digest_126) (hl := rfl) ?_
  refine xr_icmp_ge (pc := 128) (tgt := 148) (hI := d_M_digest_128) (ht := by decide) (fun q9 => ?_) (fun q9 => ?_)
  · replace hyp := hyp.1 q9
    have q1_ := q9
    clear q9
    refine xr_iconst (pc := 148) (hI := d_M_digest_148) (hr := by decide) ?_
    refine xr_istore (pc := 149) (i := 5) (L9 := [xR 53, xL x1, xZ, xZ, xI x4, xI 0, xZ, xZ]) (hI := d_M_digest_149) (hn := Nat.le_of_ble_eq_true rfl) (hL9 := rfl) ?_
    exact xr_drop (L9 := [xR 53, xL x1, xZ, xZ, xZ, xI 0, xZ, xZ]) (xdrs (xdrs (xdrs (xdrs (xdrz (xdrs (xdrs (xdrs xdr0)))))))) hyp
  · replace hyp := hyp.2 q9
    have q1_ := q9
    clear q9
    refine xr_lload_n (pc := 131) (i := 1) (hI := d_M_digest_131) (hi := rfl) (hl := rfl) ?_
    refine xr_aload_n (pc := 132) (i := 0) (hI := d_M_digest_132) (hi := rfl) (hl := rfl) ?_
    refine xr_iload (pc := 133) (i := 5) (hI := d_M_digest_133) (hl := rfl) ?_
    exact xq_callV (pc := 135) (index := 480) (K := m_M_wordByte) (As := [xI x5]) (S := [xL x1]) (L0 := [xR 53, xI x5, xZ]) (hI := d_M_digest_135) (hK := k_M_wordByte) (hlk := w_2491) (hnoM := rfl) (hS8 := Nat.le_of_ble_eq_true rfl) (ci := 11) (N := 38) (C := "BeaconIndexModel") (T := xF11) (hc := rfl) (hci := Nat.le_of_ble_eq_true rfl) (htb := (ft_53 F)) (hinst := w_2213) (hsel := w_2214) (hlen := Nat.le_of_ble_eq_true rfl) (hst := rfl) (hL0 := rfl)  (xwp_mono hyp (fun v9 h9 q9 => xr_drop (L9 := [xR 53, xZ, xZ, xZ, xI x4, xI x5, xZ, xZ]) (xdrs (xdrz (xdrs (xdrs (xdrs (xdrs (xdrs (xdrs xdr0)))))))) q9) (fun _ _ z9 => z9))
theorem d_M_digest_138 : decode prog_14_method_116_code 138 = .ok (.invokestatic 471, 3) := by decide +kernel
theorem d_M_digest_141 : decode prog_14_method_116_code 141 = .ok (.lstore_n 1, 1) := by decide +kernel
theorem d_M_digest_142 : decode prog_14_method_116_code 142 = .ok (.iinc 5 1, 3) := by decide +kernel
theorem d_M_digest_145 : decode prog_14_method_116_code 145 = .ok (.goto (-21), 3) := by decide +kernel
theorem v_M_digest_138 {G : XG} {d : Nat} {h : XH} {Q : XV → XH → Prop} {X : Nat → XH → Prop} {x4 x5 s0 s1 : Int} (F : xFix h) (hyp : xiR (x5 + 1) ∧ (xwp G m_M_digest (d + 219) 124 [xR 53, xL (xw64 ((xw64 (s1 * 31)) + s0)), xZ, xZ, xI x4, xI (x5 + 1), xZ, xZ] [] h Q X)) : xwp G m_M_digest (d + 219) 138 [xR 53, xZ, xZ, xZ, xI x4, xI x5, xZ, xZ] [xI s0, xL s1] h Q X := by
  have hnx9 : (93 : Int) ≤ xnx h := F.2.2
  refine xr_okL (fun hl9 => ?_)
  have r_x4 : -2147483648 ≤ x4 ∧ x4 ≤ 2147483647 := hl9 (xI x4) (.tail _ (.tail _ (.tail _ (.tail _ (.head _))))) (Nat.le_of_ble_eq_true rfl)
  have r_x5 : -2147483648 ≤ x5 ∧ x5 ≤ 2147483647 := hl9 (xI x5) (.tail _ (.tail _ (.tail _ (.tail _ (.tail _ (.head _)))))) (Nat.le_of_ble_eq_true rfl)
  refine xr_okS (fun hs9 => ?_)
  have r_s0 : -2147483648 ≤ s0 ∧ s0 ≤ 2147483647 := hs9 (xI s0) (.head _)
  have r_s1 : -9223372036854775808 ≤ s1 ∧ s1 ≤ 9223372036854775807 := hs9 (xL s1) (.tail _ (.head _))
  refine xq_callS (pc := 138) (index := 471) (K := m_M_with) (As := [xL s1, xI s0]) (S := []) (L0 := [xL s1, xZ, xI s0]) (hI := d_M_digest_138) (hK := k_M_with) (hlk := w_2483) (hnoM := rfl) (hS8 := Nat.le_of_ble_eq_true rfl) (hstat := w_2484) (hlen := Nat.le_of_ble_eq_true rfl) (hst := rfl) (hL0 := rfl)  ?_
  refine xr_lload_n (pc := 0) (i := 0) (hI := d_M_with_0) (hi := rfl) (hl := rfl) ?_
  refine xr_ldc2 (pc := 1) (z := 31) (hI := d_M_with_1) (hw := w_2486) (hr := by decide) (hv := by decide) ?_
  refine xr_lmul (pc := 4) (hI := d_M_with_4) ?_
  refine xr_iload_n (pc := 5) (i := 2) (hI := d_M_with_5) (hi := rfl) (hl := rfl) ?_
  refine xr_i2l (pc := 6) (hI := d_M_with_6) ?_
  refine xr_ladd (pc := 7) (hI := d_M_with_7) ?_
  refine xr_lreturn (S := []) (pc := 8) (hI := d_M_with_8) (hr := rfl) ?_
  show xwp G m_M_digest (d + 219) 141 [xR 53, xZ, xZ, xZ, xI x4, xI x5, xZ, xZ] [xL (xw64 ((xw64 (s1 * 31)) + s0))] _ _ _
  refine xr_lstore_n (pc := 141) (i := 1) (L9 := [xR 53, xL (xw64 ((xw64 (s1 * 31)) + s0)), xZ, xZ, xI x4, xI x5, xZ, xZ]) (hI := d_M_digest_141) (hi := rfl) (hn := Nat.le_of_ble_eq_true rfl) (hL9 := rfl) ?_
  obtain ⟨c9, hyp⟩ := hyp
  refine xr_iinc (pc := 142) (i := 5) (L9 := [xR 53, xL (xw64 ((xw64 (s1 * 31)) + s0)), xZ, xZ, xI x4, xI (x5 + 1), xZ, xZ]) (hI := d_M_digest_142) (hl := rfl) (hn := Nat.le_of_ble_eq_true rfl) (hr := c9) (hL9 := rfl) ?_
  refine xr_goto (pc := 145) (tgt := 124) (hI := d_M_digest_145) (ht := by decide) ?_
  exact hyp
theorem d_M_digest_151 : decode prog_14_method_116_code 151 = .ok (.iload 5, 2) := by decide +kernel
theorem d_M_digest_153 : decode prog_14_method_116_code 153 = .ok (.iconst 1, 1) := by decide +kernel
theorem d_M_digest_154 : decode prog_14_method_116_code 154 = .ok (.if_icmp .gt 33, 3) := by decide +kernel
theorem d_M_digest_187 : decode prog_14_method_116_code 187 = .ok (.lload_n 1, 1) := by decide +kernel
theorem d_M_digest_188 : decode prog_14_method_116_code 188 = .ok (.aload_n 0, 1) := by decide +kernel
theorem d_M_digest_189 : decode prog_14_method_116_code 189 = .ok (.getfield 448, 3) := by decide +kernel
theorem d_M_digest_192 : decode prog_14_method_116_code 192 = .ok (.ifCond .eq 7, 3) := by decide +kernel
theorem d_M_digest_199 : decode prog_14_method_116_code 199 = .ok (.iconst 0, 1) := by decide +kernel
theorem d_M_digest_195 : decode prog_14_method_116_code 195 = .ok (.iconst 1, 1) := by decide +kernel
theorem d_M_digest_196 : decode prog_14_method_116_code 196 = .ok (.goto 4, 3) := by decide +kernel
theorem d_M_digest_157 : decode prog_14_method_116_code 157 = .ok (.lload_n 1, 1) := by decide +kernel
theorem d_M_digest_158 : decode prog_14_method_116_code 158 = .ok (.aload_n 0, 1) := by decide +kernel
theorem d_M_digest_159 : decode prog_14_method_116_code 159 = .ok (.iload 5, 2) := by decide +kernel
theorem d_M_digest_161 : decode prog_14_method_116_code 161 = .ok (.invokevirtual 435, 3) := by decide +kernel
theorem v_M_digest_151 {G : XG} {d : Nat} {h : XH} {Q : XV → XH → Prop} {X : Nat → XH → Prop} {x1 x5 : Int} (F : xFix h) (hyp : (((1 : Int) < x5 → (((xpl h 53 18) = 0 → (xwp G m_M_digest (d + 219) 200 [xR 53, xZ, xZ, xZ, xZ, xZ, xZ, xZ] [xI 0, xL x1] h Q X)) ∧ (¬ (xpl h 53 18) = 0 → (xwp G m_M_digest (d + 219) 200 [xR 53, xZ, xZ, xZ, xZ, xZ, xZ, xZ] [xI 1, xL x1] h Q X)))) ∧ (¬ (1 : Int) < x5 → (xwp G m_M_manyWith (d + 218) 0 [xR 53, xI x5, xZ, xZ] [] h (fun v9 h9 => xwp G m_M_digest (d + 219) 164 [xR 53, xZ, xZ, xZ, xZ, xI x5, xZ, xZ] (xpush v9 [xL x1]) h9 Q X) X)))) : xwp G m_M_digest (d + 219) 151 [xR 53, xL x1, xZ, xZ, xZ, xI x5, xZ, xZ] [] h Q X := by
  have hnx9 : (93 : Int) ≤ xnx h := F.2.2
  refine xr_okL (fun hl9 => ?_)
  have r_x1 : -9223372036854775808 ≤ x1 ∧ x1 ≤ 9223372036854775807 := hl9 (xL x1) (.tail _ (.head _)) (Nat.le_of_ble_eq_true rfl)
  have r_x5 : -2147483648 ≤ x5 ∧ x5 ≤ 2147483647 := hl9 (xI x5) (.tail _ (.tail _ (.tail _ (.tail _ (.tail _ (.head _)))))) (Nat.le_of_ble_eq_true rfl)
  refine xr_iload (pc := 151) (i := 5) (hI := d_M_digest_151) (hl := rfl) ?_
  refine xr_iconst (pc := 153) (hI := d_M_digest_153) (hr := by decide) ?_
  refine xr_icmp_gt (pc := 154) (tgt := 187) (hI := d_M_digest_154) (ht := by decide) (fun q9 => ?_) (fun q9 => ?_)
  · replace hyp := hyp.1 q9
    have q1_ := q9
    clear q9
    refine xr_lload_n (pc := 187) (i := 1) (hI := d_M_digest_187) (hi := rfl) (hl := rfl) ?_
    refine xr_aload_n (pc := 188) (i := 0) (hI := d_M_digest_188) (hi := rfl) (hl := rfl) ?_
    refine xg_getfZ (pc := 189) (ci := 11) (k := 18) (N := 38) (v := (xpl h 53 18)) (T := xF11) (hI := d_M_digest_189) (hw := w_1605) rfl xi11 (Or.inl rfl) (Nat.le_of_ble_eq_true rfl) (Nat.le_of_ble_eq_true rfl) rfl (ft_53 F) rfl (fun f2_ => ?_)
    replace f2_ : 0 ≤ (xpl h 53 18) ∧ (xpl h 53 18) ≤ 1 := f2_
    refine xr_if_eq (pc := 192) (tgt := 199) (hI := d_M_digest_192) (ht := by decide) (fun q9 => ?_) (fun q9 => ?_)
    · replace hyp := hyp.1 q9
      have q3_ := q9
      clear q9
      refine xr_iconst (pc := 199) (hI := d_M_digest_199) (hr := by decide) ?_
      exact xr_drop (L9 := [xR 53, xZ, xZ, xZ, xZ, xZ, xZ, xZ]) (xdrs (xdrz (xdrs (xdrs (xdrs (xdrz (xdrs (xdrs xdr0)))))))) hyp
    · replace hyp := hyp.2 q9
      have q3_ := q9
      clear q9
      refine xr_iconst (pc := 195) (hI := d_M_digest_195) (hr := by decide) ?_
      refine xr_goto (pc := 196) (tgt := 200) (hI := d_M_digest_196) (ht := by decide) ?_
      exact xr_drop (L9 := [xR 53, xZ, xZ, xZ, xZ, xZ, xZ, xZ]) (xdrs (xdrz (xdrs (xdrs (xdrs (xdrz (xdrs (xdrs xdr0)))))))) hyp
  · replace hyp := hyp.2 q9
    have q1_ := q9
    clear q9
    refine xr_lload_n (pc := 157) (i := 1) (hI := d_M_digest_157) (hi := rfl) (hl := rfl) ?_
    refine xr_aload_n (pc := 158) (i := 0) (hI := d_M_digest_158) (hi := rfl) (hl := rfl) ?_
    refine xr_iload (pc := 159) (i := 5) (hI := d_M_digest_159) (hl := rfl) ?_
    exact xq_callV (pc := 161) (index := 435) (K := m_M_manyWith) (As := [xI x5]) (S := [xL x1]) (L0 := [xR 53, xI x5, xZ, xZ]) (hI := d_M_digest_161) (hK := k_M_manyWith) (hlk := w_2220) (hnoM := rfl) (hS8 := Nat.le_of_ble_eq_true rfl) (ci := 11) (N := 38) (C := "BeaconIndexModel") (T := xF11) (hc := rfl) (hci := Nat.le_of_ble_eq_true rfl) (htb := (ft_53 F)) (hinst := w_2222) (hsel := sel_M_manyWith) (hlen := Nat.le_of_ble_eq_true rfl) (hst := rfl) (hL0 := rfl)  (xwp_mono hyp (fun v9 h9 q9 => xr_drop (L9 := [xR 53, xZ, xZ, xZ, xZ, xI x5, xZ, xZ]) (xdrs (xdrz (xdrs (xdrs (xdrs (xdrs (xdrs (xdrs xdr0)))))))) q9) (fun _ _ z9 => z9))
theorem d_M_digest_164 : decode prog_14_method_116_code 164 = .ok (.invokestatic 471, 3) := by decide +kernel
theorem d_M_digest_167 : decode prog_14_method_116_code 167 = .ok (.aload_n 0, 1) := by decide +kernel
theorem d_M_digest_168 : decode prog_14_method_116_code 168 = .ok (.aload_n 0, 1) := by decide +kernel
theorem d_M_digest_169 : decode prog_14_method_116_code 169 = .ok (.iload 5, 2) := by decide +kernel
theorem d_M_digest_171 : decode prog_14_method_116_code 171 = .ok (.invokevirtual 435, 3) := by decide +kernel
theorem v_M_digest_164 {G : XG} {d : Nat} {h : XH} {Q : XV → XH → Prop} {X : Nat → XH → Prop} {x5 s0 s1 : Int} (F : xFix h) (hyp : (xwp G m_M_manyWith (d + 218) 0 [xR 53, xI x5, xZ, xZ] [] h (fun v9 h9 => xwp G m_M_digest (d + 219) 174 [xR 53, xZ, xZ, xZ, xZ, xI x5, xZ, xZ] (xpush v9 [xR 53, xL (xw64 ((xw64 (s1 * 31)) + s0))]) h9 Q X) X)) : xwp G m_M_digest (d + 219) 164 [xR 53, xZ, xZ, xZ, xZ, xI x5, xZ, xZ] [xI s0, xL s1] h Q X := by
  have hnx9 : (93 : Int) ≤ xnx h := F.2.2
  refine xr_okL (fun hl9 => ?_)
  have r_x5 : -2147483648 ≤ x5 ∧ x5 ≤ 2147483647 := hl9 (xI x5) (.tail _ (.tail _ (.tail _ (.tail _ (.tail _ (.head _)))))) (Nat.le_of_ble_eq_true rfl)
  refine xr_okS (fun hs9 => ?_)
  have r_s0 : -2147483648 ≤ s0 ∧ s0 ≤ 2147483647 := hs9 (xI s0) (.head _)
  have r_s1 : -9223372036854775808 ≤ s1 ∧ s1 ≤ 9223372036854775807 := hs9 (xL s1) (.tail _ (.head _))
  refine xq_callS (pc := 164) (index := 471) (K := m_M_with) (As := [xL s1, xI s0]) (S := []) (L0 := [xL s1, xZ, xI s0]) (hI := d_M_digest_164) (hK := k_M_with) (hlk := w_2483) (hnoM := rfl) (hS8 := Nat.le_of_ble_eq_true rfl) (hstat := w_2484) (hlen := Nat.le_of_ble_eq_true rfl) (hst := rfl) (hL0 := rfl)  ?_
  refine xr_lload_n (pc := 0) (i := 0) (hI := d_M_with_0) (hi := rfl) (hl := rfl) ?_
  refine xr_ldc2 (pc := 1) (z := 31) (hI := d_M_with_1) (hw := w_2486) (hr := by decide) (hv := by decide) ?_
  refine xr_lmul (pc := 4) (hI := d_M_with_4) ?_
  refine xr_iload_n (pc := 5) (i := 2) (hI := d_M_with_5) (hi := rfl) (hl := rfl) ?_
  refine xr_i2l (pc := 6) (hI := d_M_with_6) ?_
  refine xr_ladd (pc := 7) (hI := d_M_with_7) ?_
  refine xr_lreturn (S := []) (pc := 8) (hI := d_M_with_8) (hr := rfl) ?_
  show xwp G m_M_digest (d + 219) 167 [xR 53, xZ, xZ, xZ, xZ, xI x5, xZ, xZ] [xL (xw64 ((xw64 (s1 * 31)) + s0))] _ _ _
  refine xr_aload_n (pc := 167) (i := 0) (hI := d_M_digest_167) (hi := rfl) (hl := rfl) ?_
  refine xr_aload_n (pc := 168) (i := 0) (hI := d_M_digest_168) (hi := rfl) (hl := rfl) ?_
  refine xr_iload (pc := 169) (i := 5) (hI := d_M_digest_169) (hl := rfl) ?_
  exact xq_callV (pc := 171) (index := 435) (K := m_M_manyWith) (As := [xI x5]) (S := [xR 53, xL (xw64 ((xw64 (s1 * 31)) + s0))]) (L0 := [xR 53, xI x5, xZ, xZ]) (hI := d_M_digest_171) (hK := k_M_manyWith) (hlk := w_2220) (hnoM := rfl) (hS8 := Nat.le_of_ble_eq_true rfl) (ci := 11) (N := 38) (C := "BeaconIndexModel") (T := xF11) (hc := rfl) (hci := Nat.le_of_ble_eq_true rfl) (htb := (ft_53 F)) (hinst := w_2222) (hsel := sel_M_manyWith) (hlen := Nat.le_of_ble_eq_true rfl) (hst := rfl) (hL0 := rfl)  hyp
theorem d_M_digest_174 : decode prog_14_method_116_code 174 = .ok (.invokevirtual 370, 3) := by decide +kernel
theorem v_M_digest_174 {G : XG} {d : Nat} {h : XH} {Q : XV → XH → Prop} {X : Nat → XH → Prop} {x5 s0 s1 s2 : Int} (F : xFix h) (hyp : xtg h s1 = 11 ∧ (xwp G m_M_rarityOf (d + 218) 0 [xR s1, xI s0] [] h (fun v9 h9 => xwp G m_M_digest (d + 219) 177 [xR 53, xZ, xZ, xZ, xZ, xI x5, xZ, xZ] (xpush v9 [xL s2]) h9 Q X) X)) : xwp G m_M_digest (d + 219) 174 [xR 53, xZ, xZ, xZ, xZ, xI x5, xZ, xZ] [xI s0, xR s1, xL s2] h Q X := by
  have hnx9 : (93 : Int) ≤ xnx h := F.2.2
  refine xr_okL (fun hl9 => ?_)
  have r_x5 : -2147483648 ≤ x5 ∧ x5 ≤ 2147483647 := hl9 (xI x5) (.tail _ (.tail _ (.tail _ (.tail _ (.tail _ (.head _)))))) (Nat.le_of_ble_eq_true rfl)
  refine xr_okS (fun hs9 => ?_)
  have r_s0 : -2147483648 ≤ s0 ∧ s0 ≤ 2147483647 := hs9 (xI s0) (.head _)
  have r_s2 : -9223372036854775808 ≤ s2 ∧ s2 ≤ 9223372036854775807 := hs9 (xL s2) (.tail _ (.tail _ (.head _)))
  obtain ⟨c9, hyp⟩ := hyp
  have t1_ := c9
  clear c9
  exact xq_callV (pc := 174) (index := 370) (K := m_M_rarityOf) (As := [xI s0]) (S := [xL s2]) (L0 := [xR s1, xI s0]) (hI := d_M_digest_174) (hK := k_M_rarityOf) (hlk := w_2240) (hnoM := rfl) (hS8 := Nat.le_of_ble_eq_true rfl) (ci := 11) (N := 38) (C := "BeaconIndexModel") (T := xF11) (hc := rfl) (hci := Nat.le_of_ble_eq_true rfl) (htb := t1_) (hinst := w_2242) (hsel := sel_M_rarityOf) (hlen := Nat.le_of_ble_eq_true rfl) (hst := rfl) (hL0 := rfl)  hyp
theorem d_M_digest_177 : decode prog_14_method_116_code 177 = .ok (.invokestatic 471, 3) := by decide +kernel
theorem d_M_digest_180 : decode prog_14_method_116_code 180 = .ok (.lstore_n 1, 1) := by decide +kernel
theorem d_M_digest_181 : decode prog_14_method_116_code 181 = .ok (.iinc 5 1, 3) := by decide +kernel
theorem d_M_digest_184 : decode prog_14_method_116_code 184 = .ok (.goto (-33), 3) := by decide +kernel
theorem v_M_digest_177 {G : XG} {d : Nat} {h : XH} {Q : XV → XH → Prop} {X : Nat → XH → Prop} {x5 s0 s1 : Int} (F : xFix h) (hyp : xiR (x5 + 1) ∧ (xwp G m_M_digest (d + 219) 151 [xR 53, xL (xw64 ((xw64 (s1 * 31)) + s0)), xZ, xZ, xZ, xI (x5 + 1), xZ, xZ] [] h Q X)) : xwp G m_M_digest (d + 219) 177 [xR 53, xZ, xZ, xZ, xZ, xI x5, xZ, xZ] [xI s0, xL s1] h Q X := by
  have hnx9 : (93 : Int) ≤ xnx h := F.2.2
  refine xr_okL (fun hl9 => ?_)
  have r_x5 : -2147483648 ≤ x5 ∧ x5 ≤ 2147483647 := hl9 (xI x5) (.tail _ (.tail _ (.tail _ (.tail _ (.tail _ (.head _)))))) (Nat.le_of_ble_eq_true rfl)
  refine xr_okS (fun hs9 => ?_)
  have r_s0 : -2147483648 ≤ s0 ∧ s0 ≤ 2147483647 := hs9 (xI s0) (.head _)
  have r_s1 : -9223372036854775808 ≤ s1 ∧ s1 ≤ 9223372036854775807 := hs9 (xL s1) (.tail _ (.head _))
  refine xq_callS (pc := 177) (index := 471) (K := m_M_with) (As := [xL s1, xI s0]) (S := []) (L0 := [xL s1, xZ, xI s0]) (hI := d_M_digest_177) (hK := k_M_with) (hlk := w_2483) (hnoM := rfl) (hS8 := Nat.le_of_ble_eq_true rfl) (hstat := w_2484) (hlen := Nat.le_of_ble_eq_true rfl) (hst := rfl) (hL0 := rfl)  ?_
  refine xr_lload_n (pc := 0) (i := 0) (hI := d_M_with_0) (hi := rfl) (hl := rfl) ?_
  refine xr_ldc2 (pc := 1) (z := 31) (hI := d_M_with_1) (hw := w_2486) (hr := by decide) (hv := by decide) ?_
  refine xr_lmul (pc := 4) (hI := d_M_with_4) ?_
  refine xr_iload_n (pc := 5) (i := 2) (hI := d_M_with_5) (hi := rfl) (hl := rfl) ?_
  refine xr_i2l (pc := 6) (hI := d_M_with_6) ?_
  refine xr_ladd (pc := 7) (hI := d_M_with_7) ?_
  refine xr_lreturn (S := []) (pc := 8) (hI := d_M_with_8) (hr := rfl) ?_
  show xwp G m_M_digest (d + 219) 180 [xR 53, xZ, xZ, xZ, xZ, xI x5, xZ, xZ] [xL (xw64 ((xw64 (s1 * 31)) + s0))] _ _ _
  refine xr_lstore_n (pc := 180) (i := 1) (L9 := [xR 53, xL (xw64 ((xw64 (s1 * 31)) + s0)), xZ, xZ, xZ, xI x5, xZ, xZ]) (hI := d_M_digest_180) (hi := rfl) (hn := Nat.le_of_ble_eq_true rfl) (hL9 := rfl) ?_
  obtain ⟨c9, hyp⟩ := hyp
  refine xr_iinc (pc := 181) (i := 5) (L9 := [xR 53, xL (xw64 ((xw64 (s1 * 31)) + s0)), xZ, xZ, xZ, xI (x5 + 1), xZ, xZ]) (hI := d_M_digest_181) (hl := rfl) (hn := Nat.le_of_ble_eq_true rfl) (hr := c9) (hL9 := rfl) ?_
  refine xr_goto (pc := 184) (tgt := 151) (hI := d_M_digest_184) (ht := by decide) ?_
  exact hyp
theorem d_M_digest_200 : decode prog_14_method_116_code 200 = .ok (.invokestatic 471, 3) := by decide +kernel
theorem d_M_digest_203 : decode prog_14_method_116_code 203 = .ok (.lstore_n 1, 1) := by decide +kernel
theorem d_M_digest_204 : decode prog_14_method_116_code 204 = .ok (.aload_n 0, 1) := by decide +kernel
theorem d_M_digest_205 : decode prog_14_method_116_code 205 = .ok (.iconst 0, 1) := by decide +kernel
theorem d_M_digest_206 : decode prog_14_method_116_code 206 = .ok (.putfield 97, 3) := by decide +kernel
theorem d_M_digest_209 : decode prog_14_method_116_code 209 = .ok (.aload_n 0, 1) := by decide +kernel
theorem d_M_digest_210 : decode prog_14_method_116_code 210 = .ok (.getfield 448, 3) := by decide +kernel
theorem d_M_digest_213 : decode prog_14_method_116_code 213 = .ok (.ifCond .eq 11, 3) := by decide +kernel
theorem d_M_digest_224 : decode prog_14_method_116_code 224 = .ok (.lload_n 1, 1) := by decide +kernel
theorem d_M_digest_225 : decode prog_14_method_116_code 225 = .ok (.lreturn, 1) := by decide +kernel
theorem d_M_digest_216 : decode prog_14_method_116_code 216 = .ok (.aload_n 0, 1) := by decide +kernel
theorem d_M_digest_217 : decode prog_14_method_116_code 217 = .ok (.lload_n 1, 1) := by decide +kernel
theorem d_M_digest_218 : decode prog_14_method_116_code 218 = .ok (.invokevirtual 483, 3) := by decide +kernel
theorem k_M_ofQuestion : xCal m_M_ofQuestion 1 := ⟨List.mem_append_right _ (List.mem_of_getElem? (i := 2495) (by decide +kernel)), w_15, Nat.le_of_ble_eq_true rfl, ⟨by decide +kernel, by decide +kernel⟩, by decide +kernel, by decide +kernel, rfl⟩
theorem w_2492 : Cond.methodLink "BeaconIndexModel" 483 ⟨"BeaconIndexModel", "ofQuestion", "(J)J"⟩ ∈ lw_tbl := List.mem_append_right _ (List.mem_of_getElem? (i := 2492) (by decide +kernel))
theorem w_2494 : Cond.instanceMethod ⟨"BeaconIndexModel", "ofQuestion", "(J)J"⟩ ∈ lw_tbl := List.mem_append_right _ (List.mem_of_getElem? (i := 2494) (by decide +kernel))
theorem sel_M_ofQuestion : Cond.selects "BeaconIndexModel" ⟨"BeaconIndexModel", "ofQuestion", "(J)J"⟩ ⟨"BeaconIndexModel", "ofQuestion", "(J)J"⟩ ∈ lw_tbl := List.mem_append_left _ (by decide +kernel)
theorem v_M_digest_200 {G : XG} {d : Nat} {h : XH} {Q : XV → XH → Prop} {X : Nat → XH → Prop} {s0 s1 : Int} (F : xFix h) (hyp : (((xpl h 53 18) = 0 → (xFix (xst h 53 0 0) → Q (xL (xw64 ((xw64 (s1 * 31)) + s0))) (xst h 53 0 0))) ∧ (¬ (xpl h 53 18) = 0 → (xFix (xst h 53 0 0) → xwp G m_M_ofQuestion (d + 218) 0 [xR 53, xL (xw64 ((xw64 (s1 * 31)) + s0)), xZ, xZ, xZ, xZ, xZ] [] (xst h 53 0 0) (fun v9 h9 => xwp G m_M_digest (d + 219) 221 [xZ, xZ, xZ, xZ, xZ, xZ, xZ, xZ] (xpush v9 []) h9 Q X) X)))) : xwp G m_M_digest (d + 219) 200 [xR 53, xZ, xZ, xZ, xZ, xZ, xZ, xZ] [xI s0, xL s1] h Q X := by
  have hnx9 : (93 : Int) ≤ xnx h := F.2.2
  refine xr_okS (fun hs9 => ?_)
  have r_s0 : -2147483648 ≤ s0 ∧ s0 ≤ 2147483647 := hs9 (xI s0) (.head _)
  have r_s1 : -9223372036854775808 ≤ s1 ∧ s1 ≤ 9223372036854775807 := hs9 (xL s1) (.tail _ (.head _))
  refine xq_callS (pc := 200) (index := 471) (K := m_M_with) (As := [xL s1, xI s0]) (S := []) (L0 := [xL s1, xZ, xI s0]) (hI := d_M_digest_200) (hK := k_M_with) (hlk := w_2483) (hnoM := rfl) (hS8 := Nat.le_of_ble_eq_true rfl) (hstat := w_2484) (hlen := Nat.le_of_ble_eq_true rfl) (hst := rfl) (hL0 := rfl)  ?_
  refine xr_lload_n (pc := 0) (i := 0) (hI := d_M_with_0) (hi := rfl) (hl := rfl) ?_
  refine xr_ldc2 (pc := 1) (z := 31) (hI := d_M_with_1) (hw := w_2486) (hr := by decide) (hv := by decide) ?_
  refine xr_lmul (pc := 4) (hI := d_M_with_4) ?_
  refine xr_iload_n (pc := 5) (i := 2) (hI := d_M_with_5) (hi := rfl) (hl := rfl) ?_
  refine xr_i2l (pc := 6) (hI := d_M_with_6) ?_
  refine xr_ladd (pc := 7) (hI := d_M_with_7) ?_
  refine xr_lreturn (S := []) (pc := 8) (hI := d_M_with_8) (hr := rfl) ?_
  show xwp G m_M_digest (d + 219) 203 [xR 53, xZ, xZ, xZ, xZ, xZ, xZ, xZ] [xL (xw64 ((xw64 (s1 * 31)) + s0))] _ _ _
  refine xr_lstore_n (pc := 203) (i := 1) (L9 := [xR 53, xL (xw64 ((xw64 (s1 * 31)) + s0)), xZ, xZ, xZ, xZ, xZ, xZ]) (hI := d_M_digest_203) (hi := rfl) (hn := Nat.le_of_ble_eq_true rfl) (hL9 := rfl) ?_
  refine xr_aload_n (pc := 204) (i := 0) (hI := d_M_digest_204) (hi := rfl) (hl := rfl) ?_
  refine xr_iconst (pc := 205) (hI := d_M_digest_205) (hr := by decide) ?_
  refine xr_putf (pc := 206) (ci := 11) (k := 0) (N := 38) (v9 := 0) (T := xF11) (tF := xT11) (hI := d_M_digest_206) (hw := w_1587) rfl xi11 xt11 xn11 (Or.inl rfl) (Nat.le_of_ble_eq_true rfl) (Nat.le_of_ble_eq_true rfl) rfl xfit_i rfl (ft_53 F) (by decide) (fun z => z) ?_
  have F1_ : xFix (xst h 53 0 0) := F.stL xfk_53_0
  refine xr_aload_n (pc := 209) (i := 0) (hI := d_M_digest_209) (hi := rfl) (hl := rfl) ?_
  refine xg_getfZ (pc := 210) (ci := 11) (k := 18) (N := 38) (v := (xpl h 53 18)) (T := xF11) (hI := d_M_digest_210) (hw := w_1605) rfl xi11 (Or.inl rfl) (Nat.le_of_ble_eq_true rfl) (Nat.le_of_ble_eq_true rfl) rfl (ft_53 F1_) (xpl_ok (by decide)) (fun f2_ => ?_)
  replace f2_ : 0 ≤ (xpl h 53 18) ∧ (xpl h 53 18) ≤ 1 := f2_
  refine xr_if_eq (pc := 213) (tgt := 224) (hI := d_M_digest_213) (ht := by decide) (fun q9 => ?_) (fun q9 => ?_)
  · replace hyp := hyp.1 q9
    have q3_ := q9
    clear q9
    refine xr_lload_n (pc := 224) (i := 1) (hI := d_M_digest_224) (hi := rfl) (hl := rfl) ?_
    refine xr_lreturn (S := []) (pc := 225) (hI := d_M_digest_225) (hr := rfl) ?_
    exact hyp F1_
  · replace hyp := hyp.2 q9
    have q3_ := q9
    clear q9
    refine xr_aload_n (pc := 216) (i := 0) (hI := d_M_digest_216) (hi := rfl) (hl := rfl) ?_
    refine xr_lload_n (pc := 217) (i := 1) (hI := d_M_digest_217) (hi := rfl) (hl := rfl) ?_
    exact xq_callV (pc := 218) (index := 483) (K := m_M_ofQuestion) (As := [xL (xw64 ((xw64 (s1 * 31)) + s0))]) (S := []) (L0 := [xR 53, xL (xw64 ((xw64 (s1 * 31)) + s0)), xZ, xZ, xZ, xZ, xZ]) (hI := d_M_digest_218) (hK := k_M_ofQuestion) (hlk := w_2492) (hnoM := rfl) (hS8 := Nat.le_of_ble_eq_true rfl) (ci := 11) (N := 38) (C := "BeaconIndexModel") (T := xF11) (hc := rfl) (hci := Nat.le_of_ble_eq_true rfl) (htb := (ft_53 F1_)) (hinst := w_2494) (hsel := sel_M_ofQuestion) (hlen := Nat.le_of_ble_eq_true rfl) (hst := rfl) (hL0 := rfl)  (xwp_mono (hyp F1_) (fun v9 h9 q9 => xr_drop (L9 := [xZ, xZ, xZ, xZ, xZ, xZ, xZ, xZ]) (xdrz (xdrz (xdrs (xdrs (xdrs (xdrs (xdrs (xdrs xdr0)))))))) q9) (fun _ _ z9 => z9))
theorem d_M_digest_221 : decode prog_14_method_116_code 221 = .ok (.goto 4, 3) := by decide +kernel
theorem v_M_digest_221 {G : XG} {d : Nat} {h : XH} {Q : XV → XH → Prop} {X : Nat → XH → Prop} {s0 : Int} (F : xFix h) (hyp : (Q (xL s0) h)) : xwp G m_M_digest (d + 219) 221 [xZ, xZ, xZ, xZ, xZ, xZ, xZ, xZ] [xL s0] h Q X := by
  have hnx9 : (93 : Int) ≤ xnx h := F.2.2
  refine xr_okS (fun hs9 => ?_)
  have r_s0 : -9223372036854775808 ≤ s0 ∧ s0 ≤ 9223372036854775807 := hs9 (xL s0) (.head _)
  refine xr_goto (pc := 221) (tgt := 225) (hI := d_M_digest_221) (ht := by decide) ?_
  refine xr_lreturn (S := []) (pc := 225) (hI := d_M_digest_225) (hr := rfl) ?_
  exact hyp

end
