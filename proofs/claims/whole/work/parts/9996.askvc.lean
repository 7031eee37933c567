/-! ===== askvc ===== -/
section
abbrev m_MQ_init : XM := (⟨"BeaconIndexModel$Question", "<init>", "()V"⟩, prog_15_method_1_code, 1, none, [])
theorem d_MQ_init_0 : decode prog_15_method_1_code 0 = .ok (.aload_n 0, 1) := by decide +kernel
theorem d_MQ_init_1 : decode prog_15_method_1_code 1 = .ok (.invokespecial 3, 3) := by decide +kernel
theorem w_1535 : Cond.methodLink "BeaconIndexModel$Question" 3 ⟨"java/lang/Object", "<init>", "()V"⟩ ∈ lw_tbl := List.mem_append_right _ (List.mem_of_getElem? (i := 1535) (by decide +kernel))
theorem d_MQ_init_4 : decode prog_15_method_1_code 4 = .ok (.aload_n 0, 1) := by decide +kernel
theorem d_MQ_init_5 : decode prog_15_method_1_code 5 = .ok (.bipush 41, 2) := by decide +kernel
theorem d_MQ_init_7 : decode prog_15_method_1_code 7 = .ok (.newarray .int, 2) := by decide +kernel
theorem d_MQ_init_9 : decode prog_15_method_1_code 9 = .ok (.putfield 9, 3) := by decide +kernel
theorem w_1537 : Cond.fieldLink "BeaconIndexModel$Question" 9 "BeaconIndexModel$Question" "inside" "[I" ∈ lw_tbl := List.mem_append_right _ (List.mem_of_getElem? (i := 1537) (by decide +kernel))
theorem v_MQ_init_0 {G : XG} {d : Nat} {h : XH} {Q : XV → XH → Prop} {X : Nat → XH → Prop} {x0 : Int} (F : xFix h) (p0 : 93 ≤ x0) (hyp : xnx h + 1 ≤ xKC ∧ xsl h + 41 ≤ xKS ∧ xtg (xmk h 100 41 (fun _ => 0)) x0 = 12 ∧ (xFix (xst (xmk h 100 41 (fun _ => 0)) x0 1 (xnx h)) → xwp G m_MQ_init (d + 2) 12 [xR x0] [] (xst (xmk h 100 41 (fun _ => 0)) x0 1 (xnx h)) Q X)) : xwp G m_MQ_init (d + 2) 0 [xR x0] [] h Q X := by
  have hnx9 : (93 : Int) ≤ xnx h := F.2.2
  refine xr_aload_n (pc := 0) (i := 0) (hI := d_MQ_init_0) (hi := rfl) (hl := rfl) ?_
  refine xr_objInit (pc := 1) (hI := d_MQ_init_1) w_1535 w_46 w_objc (by clear hyp; omega) (Nat.le_add_left_of_le (by decide)) (Nat.le_of_ble_eq_true rfl) ?_
  refine xr_aload_n (pc := 4) (i := 0) (hI := d_MQ_init_4) (hi := rfl) (hl := rfl) ?_
  refine xr_bipush (pc := 5) (hI := d_MQ_init_5) (hr := by decide) (hv := by decide) ?_
  obtain ⟨c8, c9, hyp⟩ := hyp
  refine xr_newarray (pc := 7) (t := 100) (hI := d_MQ_init_7) rfl w_79 rfl (Nat.le_of_ble_eq_true rfl) (Nat.le_of_ble_eq_true rfl) (by decide) (fun _ => rfl) (xok_z rfl) (by decide) (by decide) c8 c9 ?_
  have F1_ : xFix (xmk h 100 41 (fun _ => 0)) := F.mk
  have f2_ : (93 : Int) ≤ xnx h := F.nx
  have f3_ : (93 : Int) ≤ xnx (xmk h 100 41 (fun _ => 0)) := F1_.nx
  have f4_ : xnx (xmk h 100 41 (fun _ => 0)) = xnx h + 1 := xnx_mk _ _ _ _
  show xwp G m_MQ_init (d + 2) 9 [xR x0] [xR (xnx h), xR x0] (xmk h 100 41 (fun _ => 0)) _ _
  obtain ⟨c9, hyp⟩ := hyp
  have t5_ := c9
  clear c9
  refine xr_putfF (pc := 9) (ci := 12) (k := 1) (N := 13) (v9 := 2) (T := xF12) (tF := xT12) (hI := d_MQ_init_9) (hw := w_1537) rfl xi12 xt12 xn12 (Or.inl rfl) (Nat.le_of_ble_eq_true rfl) (Nat.le_of_ble_eq_true rfl) rfl (xfit_a _) rfl rfl rfl t5_ (by clear hyp; omega) (fun z => z) ?_
  have F6_ : xFix (xst (xmk h 100 41 (fun _ => 0)) x0 1 (xnx h)) := F1_.stD (by clear hyp; omega)
  exact (hyp F6_)
theorem d_MQ_init_12 : decode prog_15_method_1_code 12 = .ok (.aload_n 0, 1) := by decide +kernel
theorem d_MQ_init_13 : decode prog_15_method_1_code 13 = .ok (.bipush 41, 2) := by decide +kernel
theorem d_MQ_init_15 : decode prog_15_method_1_code 15 = .ok (.newarray .int, 2) := by decide +kernel
theorem d_MQ_init_17 : decode prog_15_method_1_code 17 = .ok (.putfield 15, 3) := by decide +kernel
theorem w_1539 : Cond.fieldLink "BeaconIndexModel$Question" 15 "BeaconIndexModel$Question" "sign" "[I" ∈ lw_tbl := List.mem_append_right _ (List.mem_of_getElem? (i := 1539) (by decide +kernel))
theorem v_MQ_init_12 {G : XG} {d : Nat} {h : XH} {Q : XV → XH → Prop} {X : Nat → XH → Prop} {x0 : Int} (F : xFix h) (p0 : 93 ≤ x0) (hyp : xnx h + 1 ≤ xKC ∧ xsl h + 41 ≤ xKS ∧ xtg (xmk h 100 41 (fun _ => 0)) x0 = 12 ∧ (xFix (xst (xmk h 100 41 (fun _ => 0)) x0 2 (xnx h)) → xwp G m_MQ_init (d + 2) 20 [xR x0] [] (xst (xmk h 100 41 (fun _ => 0)) x0 2 (xnx h)) Q X)) : xwp G m_MQ_init (d + 2) 12 [xR x0] [] h Q X := by
  have hnx9 : (93 : Int) ≤ xnx h := F.2.2
  refine xr_aload_n (pc := 12) (i := 0) (hI := d_MQ_init_12) (hi := rfl) (hl := rfl) ?_
  refine xr_bipush (pc := 13) (hI := d_MQ_init_13) (hr := by decide) (hv := by decide) ?_
  obtain ⟨c8, c9, hyp⟩ := hyp
  refine xr_newarray (pc := 15) (t := 100) (hI := d_MQ_init_15) rfl w_79 rfl (Nat.le_of_ble_eq_true rfl) (Nat.le_of_ble_eq_true rfl) (by decide) (fun _ => rfl) (xok_z rfl) (by decide) (by decide) c8 c9 ?_
  have F1_ : xFix (xmk h 100 41 (fun _ => 0)) := F.mk
  have f2_ : (93 : Int) ≤ xnx h := F.nx
  have f3_ : (93 : Int) ≤ xnx (xmk h 100 41 (fun _ => 0)) := F1_.nx
  have f4_ : xnx (xmk h 100 41 (fun _ => 0)) = xnx h + 1 := xnx_mk _ _ _ _
  show xwp G m_MQ_init (d + 2) 17 [xR x0] [xR (xnx h), xR x0] (xmk h 100 41 (fun _ => 0)) _ _
  obtain ⟨c9, hyp⟩ := hyp
  have t5_ := c9
  clear c9
  refine xr_putfF (pc := 17) (ci := 12) (k := 2) (N := 13) (v9 := 2) (T := xF12) (tF := xT12) (hI := d_MQ_init_17) (hw := w_1539) rfl xi12 xt12 xn12 (Or.inl rfl) (Nat.le_of_ble_eq_true rfl) (Nat.le_of_ble_eq_true rfl) rfl (xfit_a _) rfl rfl rfl t5_ (by clear hyp; omega) (fun z => z) ?_
  have F6_ : xFix (xst (xmk h 100 41 (fun _ => 0)) x0 2 (xnx h)) := F1_.stD (by clear hyp; omega)
  exact (hyp F6_)
theorem d_MQ_init_20 : decode prog_15_method_1_code 20 = .ok (.aload_n 0, 1) := by decide +kernel
theorem d_MQ_init_21 : decode prog_15_method_1_code 21 = .ok (.bipush 41, 2) := by decide +kernel
theorem d_MQ_init_23 : decode prog_15_method_1_code 23 = .ok (.newarray .int, 2) := by decide +kernel
theorem d_MQ_init_25 : decode prog_15_method_1_code 25 = .ok (.putfield 18, 3) := by decide +kernel
theorem w_1541 : Cond.fieldLink "BeaconIndexModel$Question" 18 "BeaconIndexModel$Question" "times" "[I" ∈ lw_tbl := List.mem_append_right _ (List.mem_of_getElem? (i := 1541) (by decide +kernel))
theorem v_MQ_init_20 {G : XG} {d : Nat} {h : XH} {Q : XV → XH → Prop} {X : Nat → XH → Prop} {x0 : Int} (F : xFix h) (p0 : 93 ≤ x0) (hyp : xnx h + 1 ≤ xKC ∧ xsl h + 41 ≤ xKS ∧ xtg (xmk h 100 41 (fun _ => 0)) x0 = 12 ∧ (xFix (xst (xmk h 100 41 (fun _ => 0)) x0 3 (xnx h)) → xwp G m_MQ_init (d + 2) 28 [xR x0] [] (xst (xmk h 100 41 (fun _ => 0)) x0 3 (xnx h)) Q X)) : xwp G m_MQ_init (d + 2) 20 [xR x0] [] h Q X := by
  have hnx9 : (93 : Int) ≤ xnx h := F.2.2
  refine xr_aload_n (pc := 20) (i := 0) (hI := d_MQ_init_20) (hi := rfl) (hl := rfl) ?_
  refine xr_bipush (pc := 21) (hI := d_MQ_init_21) (hr := by decide) (hv := by decide) ?_
  obtain ⟨c8, c9, hyp⟩ := hyp
  refine xr_newarray (pc := 23) (t := 100) (hI := d_MQ_init_23) rfl w_79 rfl (Nat.le_of_ble_eq_true rfl) (Nat.le_of_ble_eq_true rfl) (by decide) (fun _ => rfl) (xok_z rfl) (by decide) (by decide) c8 c9 ?_
  have F1_ : xFix (xmk h 100 41 (fun _ => 0)) := F.mk
  have f2_ : (93 : Int) ≤ xnx h := F.nx
  have f3_ : (93 : Int) ≤ xnx (xmk h 100 41 (fun _ => 0)) := F1_.nx
  have f4_ : xnx (xmk h 100 41 (fun _ => 0)) = xnx h + 1 := xnx_mk _ _ _ _
  show xwp G m_MQ_init (d + 2) 25 [xR x0] [xR (xnx h), xR x0] (xmk h 100 41 (fun _ => 0)) _ _
  obtain ⟨c9, hyp⟩ := hyp
  have t5_ := c9
  clear c9
  refine xr_putfF (pc := 25) (ci := 12) (k := 3) (N := 13) (v9 := 2) (T := xF12) (tF := xT12) (hI := d_MQ_init_25) (hw := w_1541) rfl xi12 xt12 xn12 (Or.inl rfl) (Nat.le_of_ble_eq_true rfl) (Nat.le_of_ble_eq_true rfl) rfl (xfit_a _) rfl rfl rfl t5_ (by clear hyp; omega) (fun z => z) ?_
  have F6_ : xFix (xst (xmk h 100 41 (fun _ => 0)) x0 3 (xnx h)) := F1_.stD (by clear hyp; omega)
  exact (hyp F6_)
theorem d_MQ_init_28 : decode prog_15_method_1_code 28 = .ok (.aload_n 0, 1) := by decide +kernel
theorem d_MQ_init_29 : decode prog_15_method_1_code 29 = .ok (.bipush 41, 2) := by decide +kernel
theorem d_MQ_init_31 : decode prog_15_method_1_code 31 = .ok (.newarray .int, 2) := by decide +kernel
theorem d_MQ_init_33 : decode prog_15_method_1_code 33 = .ok (.putfield 21, 3) := by decide +kernel
theorem w_1543 : Cond.fieldLink "BeaconIndexModel$Question" 21 "BeaconIndexModel$Question" "field" "[I" ∈ lw_tbl := List.mem_append_right _ (List.mem_of_getElem? (i := 1543) (by decide +kernel))
theorem v_MQ_init_28 {G : XG} {d : Nat} {h : XH} {Q : XV → XH → Prop} {X : Nat → XH → Prop} {x0 : Int} (F : xFix h) (p0 : 93 ≤ x0) (hyp : xnx h + 1 ≤ xKC ∧ xsl h + 41 ≤ xKS ∧ xtg (xmk h 100 41 (fun _ => 0)) x0 = 12 ∧ (xFix (xst (xmk h 100 41 (fun _ => 0)) x0 4 (xnx h)) → xwp G m_MQ_init (d + 2) 36 [xR x0] [] (xst (xmk h 100 41 (fun _ => 0)) x0 4 (xnx h)) Q X)) : xwp G m_MQ_init (d + 2) 28 [xR x0] [] h Q X := by
  have hnx9 : (93 : Int) ≤ xnx h := F.2.2
  refine xr_aload_n (pc := 28) (i := 0) (hI := d_MQ_init_28) (hi := rfl) (hl := rfl) ?_
  refine xr_bipush (pc := 29) (hI := d_MQ_init_29) (hr := by decide) (hv := by decide) ?_
  obtain ⟨c8, c9, hyp⟩ := hyp
  refine xr_newarray (pc := 31) (t := 100) (hI := d_MQ_init_31) rfl w_79 rfl (Nat.le_of_ble_eq_true rfl) (Nat.le_of_ble_eq_true rfl) (by decide) (fun _ => rfl) (xok_z rfl) (by decide) (by decide) c8 c9 ?_
  have F1_ : xFix (xmk h 100 41 (fun _ => 0)) := F.mk
  have f2_ : (93 : Int) ≤ xnx h := F.nx
  have f3_ : (93 : Int) ≤ xnx (xmk h 100 41 (fun _ => 0)) := F1_.nx
  have f4_ : xnx (xmk h 100 41 (fun _ => 0)) = xnx h + 1 := xnx_mk _ _ _ _
  show xwp G m_MQ_init (d + 2) 33 [xR x0] [xR (xnx h), xR x0] (xmk h 100 41 (fun _ => 0)) _ _
  obtain ⟨c9, hyp⟩ := hyp
  have t5_ := c9
  clear c9
  refine xr_putfF (pc := 33) (ci := 12) (k := 4) (N := 13) (v9 := 2) (T := xF12) (tF := xT12) (hI := d_MQ_init_33) (hw := w_1543) rfl xi12 xt12 xn12 (Or.inl rfl) (Nat.le_of_ble_eq_true rfl) (Nat.le_of_ble_eq_true rfl) rfl (xfit_a _) rfl rfl rfl t5_ (by clear hyp; omega) (fun z => z) ?_
  have F6_ : xFix (xst (xmk h 100 41 (fun _ => 0)) x0 4 (xnx h)) := F1_.stD (by clear hyp; omega)
  exact (hyp F6_)
theorem d_MQ_init_36 : decode prog_15_method_1_code 36 = .ok (.aload_n 0, 1) := by decide +kernel
theorem d_MQ_init_37 : decode prog_15_method_1_code 37 = .ok (.bipush 41, 2) := by decide +kernel
theorem d_MQ_init_39 : decode prog_15_method_1_code 39 = .ok (.newarray .int, 2) := by decide +kernel
theorem d_MQ_init_41 : decode prog_15_method_1_code 41 = .ok (.putfield 24, 3) := by decide +kernel
theorem w_1545 : Cond.fieldLink "BeaconIndexModel$Question" 24 "BeaconIndexModel$Question" "unit" "[I" ∈ lw_tbl := List.mem_append_right _ (List.mem_of_getElem? (i := 1545) (by decide +kernel))
theorem v_MQ_init_36 {G : XG} {d : Nat} {h : XH} {Q : XV → XH → Prop} {X : Nat → XH → Prop} {x0 : Int} (F : xFix h) (p0 : 93 ≤ x0) (hyp : xnx h + 1 ≤ xKC ∧ xsl h + 41 ≤ xKS ∧ xtg (xmk h 100 41 (fun _ => 0)) x0 = 12 ∧ (xFix (xst (xmk h 100 41 (fun _ => 0)) x0 5 (xnx h)) → xwp G m_MQ_init (d + 2) 44 [xR x0] [] (xst (xmk h 100 41 (fun _ => 0)) x0 5 (xnx h)) Q X)) : xwp G m_MQ_init (d + 2) 36 [xR x0] [] h Q X := by
  have hnx9 : (93 : Int) ≤ xnx h := F.2.2
  refine xr_aload_n (pc := 36) (i := 0) (hI := d_MQ_init_36) (hi := rfl) (hl := rfl) ?_
  refine xr_bipush (pc := 37) (hI := d_MQ_init_37) (hr := by decide) (hv := by decide) ?_
  obtain ⟨c8, c9, hyp⟩ := hyp
  refine xr_newarray (pc := 39) (t := 100) (hI := d_MQ_init_39) rfl w_79 rfl (Nat.le_of_ble_eq_true rfl) (Nat.le_of_ble_eq_true rfl) (by decide) (fun _ => rfl) (xok_z rfl) (by decide) (by decide) c8 c9 ?_
  have F1_ : xFix (xmk h 100 41 (fun _ => 0)) := F.mk
  have f2_ : (93 : Int) ≤ xnx h := F.nx
  have f3_ : (93 : Int) ≤ xnx (xmk h 100 41 (fun _ => 0)) := F1_.nx
  have f4_ : xnx (xmk h 100 41 (fun _ => 0)) = xnx h + 1 := xnx_mk _ _ _ _
  show xwp G m_MQ_init (d + 2) 41 [xR x0] [xR (xnx h), xR x0] (xmk h 100 41 (fun _ => 0)) _ _
  obtain ⟨c9, hyp⟩ := hyp
  have t5_ := c9
  clear c9
  refine xr_putfF (pc := 41) (ci := 12) (k := 5) (N := 13) (v9 := 2) (T := xF12) (tF := xT12) (hI := d_MQ_init_41) (hw := w_1545) rfl xi12 xt12 xn12 (Or.inl rfl) (Nat.le_of_ble_eq_true rfl) (Nat.le_of_ble_eq_true rfl) rfl (xfit_a _) rfl rfl rfl t5_ (by clear hyp; omega) (fun z => z) ?_
  have F6_ : xFix (xst (xmk h 100 41 (fun _ => 0)) x0 5 (xnx h)) := F1_.stD (by clear hyp; omega)
  exact (hyp F6_)
theorem d_MQ_init_44 : decode prog_15_method_1_code 44 = .ok (.aload_n 0, 1) := by decide +kernel
theorem d_MQ_init_45 : decode prog_15_method_1_code 45 = .ok (.bipush 41, 2) := by decide +kernel
theorem d_MQ_init_47 : decode prog_15_method_1_code 47 = .ok (.newarray .int, 2) := by decide +kernel
theorem d_MQ_init_49 : decode prog_15_method_1_code 49 = .ok (.putfield 27, 3) := by decide +kernel
theorem w_1547 : Cond.fieldLink "BeaconIndexModel$Question" 27 "BeaconIndexModel$Question" "from" "[I" ∈ lw_tbl := List.mem_append_right _ (List.mem_of_getElem? (i := 1547) (by decide +kernel))
theorem v_MQ_init_44 {G : XG} {d : Nat} {h : XH} {Q : XV → XH → Prop} {X : Nat → XH → Prop} {x0 : Int} (F : xFix h) (p0 : 93 ≤ x0) (hyp : xnx h + 1 ≤ xKC ∧ xsl h + 41 ≤ xKS ∧ xtg (xmk h 100 41 (fun _ => 0)) x0 = 12 ∧ (xFix (xst (xmk h 100 41 (fun _ => 0)) x0 6 (xnx h)) → xwp G m_MQ_init (d + 2) 52 [xR x0] [] (xst (xmk h 100 41 (fun _ => 0)) x0 6 (xnx h)) Q X)) : xwp G m_MQ_init (d + 2) 44 [xR x0] [] h Q X := by
  have hnx9 : (93 : Int) ≤ xnx h := F.2.2
  refine xr_aload_n (pc := 44) (i := 0) (hI := d_MQ_init_44) (hi := rfl) (hl := rfl) ?_
  refine xr_bipush (pc := 45) (hI := d_MQ_init_45) (hr := by decide) (hv := by decide) ?_
  obtain ⟨c8, c9, hyp⟩ := hyp
  refine xr_newarray (pc := 47) (t := 100) (hI := d_MQ_init_47) rfl w_79 rfl (Nat.le_of_ble_eq_true rfl) (Nat.le_of_ble_eq_true rfl) (by decide) (fun _ => rfl) (xok_z rfl) (by decide) (by decide) c8 c9 ?_
  have F1_ : xFix (xmk h 100 41 (fun _ => 0)) := F.mk
  have f2_ : (93 : Int) ≤ xnx h := F.nx
  have f3_ : (93 : Int) ≤ xnx (xmk h 100 41 (fun _ => 0)) := F1_.nx
  have f4_ : xnx (xmk h 100 41 (fun _ => 0)) = xnx h + 1 := xnx_mk _ _ _ _
  show xwp G m_MQ_init (d + 2) 49 [xR x0] [xR (xnx h), xR x0] (xmk h 100 41 (fun _ => 0)) _ _
  obtain ⟨c9, hyp⟩ := hyp
  have t5_ := c9
  clear c9
  refine xr_putfF (pc := 49) (ci := 12) (k := 6) (N := 13) (v9 := 2) (T := xF12) (tF := xT12) (hI := d_MQ_init_49) (hw := w_1547) rfl xi12 xt12 xn12 (Or.inl rfl) (Nat.le_of_ble_eq_true rfl) (Nat.le_of_ble_eq_true rfl) rfl (xfit_a _) rfl rfl rfl t5_ (by clear hyp; omega) (fun z => z) ?_
  have F6_ : xFix (xst (xmk h 100 41 (fun _ => 0)) x0 6 (xnx h)) := F1_.stD (by clear hyp; omega)
  exact (hyp F6_)
theorem d_MQ_init_52 : decode prog_15_method_1_code 52 = .ok (.aload_n 0, 1) := by decide +kernel
theorem d_MQ_init_53 : decode prog_15_method_1_code 53 = .ok (.bipush 41, 2) := by decide +kernel
theorem d_MQ_init_55 : decode prog_15_method_1_code 55 = .ok (.newarray .int, 2) := by decide +kernel
theorem d_MQ_init_57 : decode prog_15_method_1_code 57 = .ok (.putfield 30, 3) := by decide +kernel
theorem w_1549 : Cond.fieldLink "BeaconIndexModel$Question" 30 "BeaconIndexModel$Question" "many" "[I" ∈ lw_tbl := List.mem_append_right _ (List.mem_of_getElem? (i := 1549) (by decide +kernel))
theorem v_MQ_init_52 {G : XG} {d : Nat} {h : XH} {Q : XV → XH → Prop} {X : Nat → XH → Prop} {x0 : Int} (F : xFix h) (p0 : 93 ≤ x0) (hyp : xnx h + 1 ≤ xKC ∧ xsl h + 41 ≤ xKS ∧ xtg (xmk h 100 41 (fun _ => 0)) x0 = 12 ∧ (xFix (xst (xmk h 100 41 (fun _ => 0)) x0 7 (xnx h)) → xwp G m_MQ_init (d + 2) 60 [xR x0] [] (xst (xmk h 100 41 (fun _ => 0)) x0 7 (xnx h)) Q X)) : xwp G m_MQ_init (d + 2) 52 [xR x0] [] h Q X := by
  have hnx9 : (93 : Int) ≤ xnx h := F.2.2
  refine xr_aload_n (pc := 52) (i := 0) (hI := d_MQ_init_52) (hi := rfl) (hl := rfl) ?_
  refine xr_bipush (pc := 53) (hI := d_MQ_init_53) (hr := by decide) (hv := by decide) ?_
  obtain ⟨c8, c9, hyp⟩ := hyp
  refine xr_newarray (pc := 55) (t := 100) (hI := d_MQ_init_55) rfl w_79 rfl (Nat.le_of_ble_eq_true rfl) (Nat.le_of_ble_eq_true rfl) (by decide) (fun _ => rfl) (xok_z rfl) (by decide) (by decide) c8 c9 ?_
  have F1_ : xFix (xmk h 100 41 (fun _ => 0)) := F.mk
  have f2_ : (93 : Int) ≤ xnx h := F.nx
  have f3_ : (93 : Int) ≤ xnx (xmk h 100 41 (fun _ => 0)) := F1_.nx
  have f4_ : xnx (xmk h 100 41 (fun _ => 0)) = xnx h + 1 := xnx_mk _ _ _ _
  show xwp G m_MQ_init (d + 2) 57 [xR x0] [xR (xnx h), xR x0] (xmk h 100 41 (fun _ => 0)) _ _
  obtain ⟨c9, hyp⟩ := hyp
  have t5_ := c9
  clear c9
  refine xr_putfF (pc := 57) (ci := 12) (k := 7) (N := 13) (v9 := 2) (T := xF12) (tF := xT12) (hI := d_MQ_init_57) (hw := w_1549) rfl xi12 xt12 xn12 (Or.inl rfl) (Nat.le_of_ble_eq_true rfl) (Nat.le_of_ble_eq_true rfl) rfl (xfit_a _) rfl rfl rfl t5_ (by clear hyp; omega) (fun z => z) ?_
  have F6_ : xFix (xst (xmk h 100 41 (fun _ => 0)) x0 7 (xnx h)) := F1_.stD (by clear hyp; omega)
  exact (hyp F6_)
theorem d_MQ_init_60 : decode prog_15_method_1_code 60 = .ok (.aload_n 0, 1) := by decide +kernel
theorem d_MQ_init_61 : decode prog_15_method_1_code 61 = .ok (.bipush 41, 2) := by decide +kernel
theorem d_MQ_init_63 : decode prog_15_method_1_code 63 = .ok (.newarray .int, 2) := by decide +kernel
theorem d_MQ_init_65 : decode prog_15_method_1_code 65 = .ok (.putfield 33, 3) := by decide +kernel
theorem w_1551 : Cond.fieldLink "BeaconIndexModel$Question" 33 "BeaconIndexModel$Question" "runs" "[I" ∈ lw_tbl := List.mem_append_right _ (List.mem_of_getElem? (i := 1551) (by decide +kernel))
theorem v_MQ_init_60 {G : XG} {d : Nat} {h : XH} {Q : XV → XH → Prop} {X : Nat → XH → Prop} {x0 : Int} (F : xFix h) (p0 : 93 ≤ x0) (hyp : xnx h + 1 ≤ xKC ∧ xsl h + 41 ≤ xKS ∧ xtg (xmk h 100 41 (fun _ => 0)) x0 = 12 ∧ (xFix (xst (xmk h 100 41 (fun _ => 0)) x0 8 (xnx h)) → xwp G m_MQ_init (d + 2) 68 [xR x0] [] (xst (xmk h 100 41 (fun _ => 0)) x0 8 (xnx h)) Q X)) : xwp G m_MQ_init (d + 2) 60 [xR x0] [] h Q X := by
  have hnx9 : (93 : Int) ≤ xnx h := F.2.2
  refine xr_aload_n (pc := 60) (i := 0) (hI := d_MQ_init_60) (hi := rfl) (hl := rfl) ?_
  refine xr_bipush (pc := 61) (hI := d_MQ_init_61) (hr := by decide) (hv := by decide) ?_
  obtain ⟨c8, c9, hyp⟩ := hyp
  refine xr_newarray (pc := 63) (t := 100) (hI := d_MQ_init_63) rfl w_79 rfl (Nat.le_of_ble_eq_true rfl) (Nat.le_of_ble_eq_true rfl) (by decide) (fun _ => rfl) (xok_z rfl) (by decide) (by decide) c8 c9 ?_
  have F1_ : xFix (xmk h 100 41 (fun _ => 0)) := F.mk
  have f2_ : (93 : Int) ≤ xnx h := F.nx
  have f3_ : (93 : Int) ≤ xnx (xmk h 100 41 (fun _ => 0)) := F1_.nx
  have f4_ : xnx (xmk h 100 41 (fun _ => 0)) = xnx h + 1 := xnx_mk _ _ _ _
  show xwp G m_MQ_init (d + 2) 65 [xR x0] [xR (xnx h), xR x0] (xmk h 100 41 (fun _ => 0)) _ _
  obtain ⟨c9, hyp⟩ := hyp
  have t5_ := c9
  clear c9
  refine xr_putfF (pc := 65) (ci := 12) (k := 8) (N := 13) (v9 := 2) (T := xF12) (tF := xT12) (hI := d_MQ_init_65) (hw := w_1551) rfl xi12 xt12 xn12 (Or.inl rfl) (Nat.le_of_ble_eq_true rfl) (Nat.le_of_ble_eq_true rfl) rfl (xfit_a _) rfl rfl rfl t5_ (by clear hyp; omega) (fun z => z) ?_
  have F6_ : xFix (xst (xmk h 100 41 (fun _ => 0)) x0 8 (xnx h)) := F1_.stD (by clear hyp; omega)
  exact (hyp F6_)
theorem d_MQ_init_68 : decode prog_15_method_1_code 68 = .ok (.aload_n 0, 1) := by decide +kernel
theorem d_MQ_init_69 : decode prog_15_method_1_code 69 = .ok (.bipush 41, 2) := by decide +kernel
theorem d_MQ_init_71 : decode prog_15_method_1_code 71 = .ok (.newarray .int, 2) := by decide +kernel
theorem d_MQ_init_73 : decode prog_15_method_1_code 73 = .ok (.putfield 36, 3) := by decide +kernel
theorem w_1553 : Cond.fieldLink "BeaconIndexModel$Question" 36 "BeaconIndexModel$Question" "near" "[I" ∈ lw_tbl := List.mem_append_right _ (List.mem_of_getElem? (i := 1553) (by decide +kernel))
theorem v_MQ_init_68 {G : XG} {d : Nat} {h : XH} {Q : XV → XH → Prop} {X : Nat → XH → Prop} {x0 : Int} (F : xFix h) (p0 : 93 ≤ x0) (hyp : xnx h + 1 ≤ xKC ∧ xsl h + 41 ≤ xKS ∧ xtg (xmk h 100 41 (fun _ => 0)) x0 = 12 ∧ (xFix (xst (xmk h 100 41 (fun _ => 0)) x0 9 (xnx h)) → xwp G m_MQ_init (d + 2) 76 [xR x0] [] (xst (xmk h 100 41 (fun _ => 0)) x0 9 (xnx h)) Q X)) : xwp G m_MQ_init (d + 2) 68 [xR x0] [] h Q X := by
  have hnx9 : (93 : Int) ≤ xnx h := F.2.2
  refine xr_aload_n (pc := 68) (i := 0) (hI := d_MQ_init_68) (hi := rfl) (hl := rfl) ?_
  refine xr_bipush (pc := 69) (hI := d_MQ_init_69) (hr := by decide) (hv := by decide) ?_
  obtain ⟨c8, c9, hyp⟩ := hyp
  refine xr_newarray (pc := 71) (t := 100) (hI := d_MQ_init_71) rfl w_79 rfl (Nat.le_of_ble_eq_true rfl) (Nat.le_of_ble_eq_true rfl) (by decide) (fun _ => rfl) (xok_z rfl) (by decide) (by decide) c8 c9 ?_
  have F1_ : xFix (xmk h 100 41 (fun _ => 0)) := F.mk
  have f2_ : (93 : Int) ≤ xnx h := F.nx
  have f3_ : (93 : Int) ≤ xnx (xmk h 100 41 (fun _ => 0)) := F1_.nx
  have f4_ : xnx (xmk h 100 41 (fun _ => 0)) = xnx h + 1 := xnx_mk _ _ _ _
  show xwp G m_MQ_init (d + 2) 73 [xR x0] [xR (xnx h), xR x0] (xmk h 100 41 (fun _ => 0)) _ _
  obtain ⟨c9, hyp⟩ := hyp
  have t5_ := c9
  clear c9
  refine xr_putfF (pc := 73) (ci := 12) (k := 9) (N := 13) (v9 := 2) (T := xF12) (tF := xT12) (hI := d_MQ_init_73) (hw := w_1553) rfl xi12 xt12 xn12 (Or.inl rfl) (Nat.le_of_ble_eq_true rfl) (Nat.le_of_ble_eq_true rfl) rfl (xfit_a _) rfl rfl rfl t5_ (by clear hyp; omega) (fun z => z) ?_
  have F6_ : xFix (xst (xmk h 100 41 (fun _ => 0)) x0 9 (xnx h)) := F1_.stD (by clear hyp; omega)
  exact (hyp F6_)
theorem d_MQ_init_76 : decode prog_15_method_1_code 76 = .ok (.aload_n 0, 1) := by decide +kernel
theorem d_MQ_init_77 : decode prog_15_method_1_code 77 = .ok (.bipush 42, 2) := by decide +kernel
theorem d_MQ_init_79 : decode prog_15_method_1_code 79 = .ok (.newarray .long, 2) := by decide +kernel
theorem d_MQ_init_81 : decode prog_15_method_1_code 81 = .ok (.putfield 39, 3) := by decide +kernel
theorem w_1556 : Cond.fieldLink "BeaconIndexModel$Question" 39 "BeaconIndexModel$Question" "word" "[J" ∈ lw_tbl := List.mem_append_right _ (List.mem_of_getElem? (i := 1556) (by decide +kernel))
theorem v_MQ_init_76 {G : XG} {d : Nat} {h : XH} {Q : XV → XH → Prop} {X : Nat → XH → Prop} {x0 : Int} (F : xFix h) (p0 : 93 ≤ x0) (hyp : xnx h + 1 ≤ xKC ∧ xsl h + 42 ≤ xKS ∧ xtg (xmk h 101 42 (fun _ => 0)) x0 = 12 ∧ (xFix (xst (xmk h 101 42 (fun _ => 0)) x0 11 (xnx h)) → xwp G m_MQ_init (d + 2) 84 [xR x0] [] (xst (xmk h 101 42 (fun _ => 0)) x0 11 (xnx h)) Q X)) : xwp G m_MQ_init (d + 2) 76 [xR x0] [] h Q X := by
  have hnx9 : (93 : Int) ≤ xnx h := F.2.2
  refine xr_aload_n (pc := 76) (i := 0) (hI := d_MQ_init_76) (hi := rfl) (hl := rfl) ?_
  refine xr_bipush (pc := 77) (hI := d_MQ_init_77) (hr := by decide) (hv := by decide) ?_
  obtain ⟨c8, c9, hyp⟩ := hyp
  refine xr_newarray (pc := 79) (t := 101) (hI := d_MQ_init_79) rfl w_80 rfl (Nat.le_of_ble_eq_true rfl) (Nat.le_of_ble_eq_true rfl) (by decide) (fun _ => rfl) (xok_z rfl) (by decide) (by decide) c8 c9 ?_
  have F1_ : xFix (xmk h 101 42 (fun _ => 0)) := F.mk
  have f2_ : (93 : Int) ≤ xnx h := F.nx
  have f3_ : (93 : Int) ≤ xnx (xmk h 101 42 (fun _ => 0)) := F1_.nx
  have f4_ : xnx (xmk h 101 42 (fun _ => 0)) = xnx h + 1 := xnx_mk _ _ _ _
  show xwp G m_MQ_init (d + 2) 81 [xR x0] [xR (xnx h), xR x0] (xmk h 101 42 (fun _ => 0)) _ _
  obtain ⟨c9, hyp⟩ := hyp
  have t5_ := c9
  clear c9
  refine xr_putfF (pc := 81) (ci := 12) (k := 11) (N := 13) (v9 := 2) (T := xF12) (tF := xT12) (hI := d_MQ_init_81) (hw := w_1556) rfl xi12 xt12 xn12 (Or.inl rfl) (Nat.le_of_ble_eq_true rfl) (Nat.le_of_ble_eq_true rfl) rfl (xfit_a _) rfl rfl rfl t5_ (by clear hyp; omega) (fun z => z) ?_
  have F6_ : xFix (xst (xmk h 101 42 (fun _ => 0)) x0 11 (xnx h)) := F1_.stD (by clear hyp; omega)
  exact (hyp F6_)
theorem d_MQ_init_84 : decode prog_15_method_1_code 84 = .ok (.aload_n 0, 1) := by decide +kernel
theorem d_MQ_init_85 : decode prog_15_method_1_code 85 = .ok (.bipush 42, 2) := by decide +kernel
theorem d_MQ_init_87 : decode prog_15_method_1_code 87 = .ok (.newarray .int, 2) := by decide +kernel
theorem d_MQ_init_89 : decode prog_15_method_1_code 89 = .ok (.putfield 43, 3) := by decide +kernel
theorem w_1558 : Cond.fieldLink "BeaconIndexModel$Question" 43 "BeaconIndexModel$Question" "number" "[I" ∈ lw_tbl := List.mem_append_right _ (List.mem_of_getElem? (i := 1558) (by decide +kernel))
theorem v_MQ_init_84 {G : XG} {d : Nat} {h : XH} {Q : XV → XH → Prop} {X : Nat → XH → Prop} {x0 : Int} (F : xFix h) (p0 : 93 ≤ x0) (hyp : xnx h + 1 ≤ xKC ∧ xsl h + 42 ≤ xKS ∧ xtg (xmk h 100 42 (fun _ => 0)) x0 = 12 ∧ (xFix (xst (xmk h 100 42 (fun _ => 0)) x0 12 (xnx h)) → xwp G m_MQ_init (d + 2) 92 [xZ] [] (xst (xmk h 100 42 (fun _ => 0)) x0 12 (xnx h)) Q X)) : xwp G m_MQ_init (d + 2) 84 [xR x0] [] h Q X := by
  have hnx9 : (93 : Int) ≤ xnx h := F.2.2
  refine xr_aload_n (pc := 84) (i := 0) (hI := d_MQ_init_84) (hi := rfl) (hl := rfl) ?_
  refine xr_bipush (pc := 85) (hI := d_MQ_init_85) (hr := by decide) (hv := by decide) ?_
  obtain ⟨c8, c9, hyp⟩ := hyp
  refine xr_newarray (pc := 87) (t := 100) (hI := d_MQ_init_87) rfl w_79 rfl (Nat.le_of_ble_eq_true rfl) (Nat.le_of_ble_eq_true rfl) (by decide) (fun _ => rfl) (xok_z rfl) (by decide) (by decide) c8 c9 ?_
  have F1_ : xFix (xmk h 100 42 (fun _ => 0)) := F.mk
  have f2_ : (93 : Int) ≤ xnx h := F.nx
  have f3_ : (93 : Int) ≤ xnx (xmk h 100 42 (fun _ => 0)) := F1_.nx
  have f4_ : xnx (xmk h 100 42 (fun _ => 0)) = xnx h + 1 := xnx_mk _ _ _ _
  show xwp G m_MQ_init (d + 2) 89 [xR x0] [xR (xnx h), xR x0] (xmk h 100 42 (fun _ => 0)) _ _
  obtain ⟨c9, hyp⟩ := hyp
  have t5_ := c9
  clear c9
  refine xr_putfF (pc := 89) (ci := 12) (k := 12) (N := 13) (v9 := 2) (T := xF12) (tF := xT12) (hI := d_MQ_init_89) (hw := w_1558) rfl xi12 xt12 xn12 (Or.inl rfl) (Nat.le_of_ble_eq_true rfl) (Nat.le_of_ble_eq_true rfl) rfl (xfit_a _) rfl rfl rfl t5_ (by clear hyp; omega) (fun z => z) ?_
  have F6_ : xFix (xst (xmk h 100 42 (fun _ => 0)) x0 12 (xnx h)) := F1_.stD (by clear hyp; omega)
  exact xr_drop (L9 := [xZ]) (xdrz xdr0) (hyp F6_)
theorem d_MQ_init_92 : decode prog_15_method_1_code 92 = .ok (.return_, 1) := by decide +kernel
theorem v_MQ_init_92 {G : XG} {d : Nat} {h : XH} {Q : XV → XH → Prop} {X : Nat → XH → Prop} (F : xFix h) (hyp : (Q xN h)) : xwp G m_MQ_init (d + 2) 92 [xZ] [] h Q X := by
  have hnx9 : (93 : Int) ≤ xnx h := F.2.2
  refine xr_return (S := []) (pc := 92) (hI := d_MQ_init_92) (hr := rfl) ?_
  exact hyp
abbrev m_M_ask : XM := (⟨"BeaconIndexModel", "ask", "()I"⟩, prog_14_method_101_code, 2, (some .int), [])
theorem d_M_ask_0 : decode prog_14_method_101_code 0 = .ok (.aload_n 0, 1) := by decide +kernel
theorem d_M_ask_1 : decode prog_14_method_101_code 1 = .ok (.iconst 0, 1) := by decide +kernel
theorem d_M_ask_2 : decode prog_14_method_101_code 2 = .ok (.putfield 97, 3) := by decide +kernel
theorem d_M_ask_5 : decode prog_14_method_101_code 5 = .ok (.aload_n 0, 1) := by decide +kernel
theorem d_M_ask_6 : decode prog_14_method_101_code 6 = .ok (.invokevirtual 445, 3) := by decide +kernel
theorem k_M_cut : xCal m_M_cut 0 := ⟨List.mem_append_right _ (List.mem_of_getElem? (i := 2262) (by decide +kernel)), w_15, Nat.le_of_ble_eq_true rfl, ⟨by decide +kernel, by decide +kernel⟩, by decide +kernel, by decide +kernel, rfl⟩
theorem w_2259 : Cond.methodLink "BeaconIndexModel" 445 ⟨"BeaconIndexModel", "cut", "()V"⟩ ∈ lw_tbl := List.mem_append_right _ (List.mem_of_getElem? (i := 2259) (by decide +kernel))
theorem w_2261 : Cond.instanceMethod ⟨"BeaconIndexModel", "cut", "()V"⟩ ∈ lw_tbl := List.mem_append_right _ (List.mem_of_getElem? (i := 2261) (by decide +kernel))
theorem sel_M_cut : Cond.selects "BeaconIndexModel" ⟨"BeaconIndexModel", "cut", "()V"⟩ ⟨"BeaconIndexModel", "cut", "()V"⟩ ∈ lw_tbl := List.mem_append_left _ (by decide +kernel)
theorem v_M_ask_0 {G : XG} {d : Nat} {h : XH} {Q : XV → XH → Prop} {X : Nat → XH → Prop} (F : xFix h) (hyp : (xFix (xst h 53 0 0) → xwp G m_M_cut (d + 11) 0 [xR 53, xZ, xZ] [] (xst h 53 0 0) (fun v9 h9 => xwp G m_M_ask (d + 12) 9 [xR 53, xZ] (xpush v9 []) h9 Q X) X)) : xwp G m_M_ask (d + 12) 0 [xR 53, xZ] [] h Q X := by
  have hnx9 : (93 : Int) ≤ xnx h := F.2.2
  refine xr_aload_n (pc := 0) (i := 0) (hI := d_M_ask_0) (hi := rfl) (hl := rfl) ?_
  refine xr_iconst (pc := 1) (hI := d_M_ask_1) (hr := by decide) ?_
  refine xr_putf (pc := 2) (ci := 11) (k := 0) (N := 38) (v9 := 0) (T := xF11) (tF := xT11) (hI := d_M_ask_2) (hw := w_1587) rfl xi11 xt11 xn11 (Or.inl rfl) (Nat.le_of_ble_eq_true rfl) (Nat.le_of_ble_eq_true rfl) rfl xfit_i rfl (ft_53 F) (by decide) (fun z => z) ?_
  have F1_ : xFix (xst h 53 0 0) := F.stL xfk_53_0
  refine xr_aload_n (pc := 5) (i := 0) (hI := d_M_ask_5) (hi := rfl) (hl := rfl) ?_
  exact xq_callV (pc := 6) (index := 445) (K := m_M_cut) (As := []) (S := []) (L0 := [xR 53, xZ, xZ]) (hI := d_M_ask_6) (hK := k_M_cut) (hlk := w_2259) (hnoM := rfl) (hS8 := Nat.le_of_ble_eq_true rfl) (ci := 11) (N := 38) (C := "BeaconIndexModel") (T := xF11) (hc := rfl) (hci := Nat.le_of_ble_eq_true rfl) (htb := (ft_53 F1_)) (hinst := w_2261) (hsel := sel_M_cut) (hlen := Nat.le_of_ble_eq_true rfl) (hst := rfl) (hL0 := rfl)  (hyp F1_)
theorem d_M_ask_9 : decode prog_14_method_101_code 9 = .ok (.aload_n 0, 1) := by decide +kernel
theorem d_M_ask_10 : decode prog_14_method_101_code 10 = .ok (.iconst 0, 1) := by decide +kernel
theorem d_M_ask_11 : decode prog_14_method_101_code 11 = .ok (.putfield 258, 3) := by decide +kernel
theorem d_M_ask_14 : decode prog_14_method_101_code 14 = .ok (.aload_n 0, 1) := by decide +kernel
theorem d_M_ask_15 : decode prog_14_method_101_code 15 = .ok (.iconst 0, 1) := by decide +kernel
theorem d_M_ask_16 : decode prog_14_method_101_code 16 = .ok (.putfield 301, 3) := by decide +kernel
theorem d_M_ask_19 : decode prog_14_method_101_code 19 = .ok (.aload_n 0, 1) := by decide +kernel
theorem d_M_ask_20 : decode prog_14_method_101_code 20 = .ok (.new 48, 3) := by decide +kernel
theorem w_1530 : Cond.classLink "BeaconIndexModel" 48 "BeaconIndexModel$Question" ∈ lw_tbl := List.mem_append_right _ (List.mem_of_getElem? (i := 1530) (by decide +kernel))
theorem w_16 : Cond.initialized "BeaconIndexModel$Question" ∈ lw_tbl := List.mem_append_right _ (List.mem_of_getElem? (i := 16) (by decide +kernel))
theorem xdf12 : ∀ (G : XG) (k : Nat), k < 13 → defaultValue (xT12 k) = xcv G (xfty 12 k, xdef 12 (k : Int)) := fun G k hk => by
  match k, hk with
  | 0, _ => rfl
  | 1, _ => rfl
  | 2, _ => rfl
  | 3, _ => rfl
  | 4, _ => rfl
  | 5, _ => rfl
  | 6, _ => rfl
  | 7, _ => rfl
  | 8, _ => rfl
  | 9, _ => rfl
  | 10, _ => rfl
  | 11, _ => rfl
  | 12, _ => rfl
  | n + 13, hk => exact absurd hk (by omega)
theorem xd712 : ∀ k, k < 13 → xfty 12 k < 7 := by decide +kernel
theorem d_M_ask_23 : decode prog_14_method_101_code 23 = .ok (.dup, 1) := by decide +kernel
theorem d_M_ask_24 : decode prog_14_method_101_code 24 = .ok (.invokespecial 50, 3) := by decide +kernel
theorem k_MQ_init : xCal m_MQ_init 0 := ⟨List.mem_append_right _ (List.mem_of_getElem? (i := 1534) (by decide +kernel)), w_16, Nat.le_of_ble_eq_true rfl, ⟨by decide +kernel, by decide +kernel⟩, by decide +kernel, by decide +kernel, rfl⟩
theorem w_1533 : Cond.instanceMethod ⟨"BeaconIndexModel$Question", "<init>", "()V"⟩ ∈ lw_tbl := List.mem_append_right _ (List.mem_of_getElem? (i := 1533) (by decide +kernel))
theorem w_1532 : Cond.methodLinkNest "BeaconIndexModel" 50 ⟨"BeaconIndexModel$Question", "<init>", "()V"⟩ "BeaconIndexModel" ∈ lw_tbl := List.mem_append_right _ (List.mem_of_getElem? (i := 1532) (by decide +kernel))
theorem v_M_ask_9 {G : XG} {d : Nat} {h : XH} {Q : XV → XH → Prop} {X : Nat → XH → Prop} (F : xFix h) (hyp : xnx (xst (xst h 53 24 0) 53 25 0) + 1 ≤ xKC ∧ xsl (xst (xst h 53 24 0) 53 25 0) + 13 ≤ xKS ∧ (xFix (xmk (xst (xst h 53 24 0) 53 25 0) 12 13 (xdef 12)) → xwp G m_MQ_init (d + 11) 0 [xR (xnx (xst (xst h 53 24 0) 53 25 0))] [] (xmk (xst (xst h 53 24 0) 53 25 0) 12 13 (xdef 12)) (fun v9 h9 => xwp G m_M_ask (d + 12) 27 [xR 53, xZ] (xpush v9 [xR (xnx (xst (xst h 53 24 0) 53 25 0)), xR 53]) h9 Q X) X)) : xwp G m_M_ask (d + 12) 9 [xR 53, xZ] [] h Q X := by
  have hnx9 : (93 : Int) ≤ xnx h := F.2.2
  refine xr_aload_n (pc := 9) (i := 0) (hI := d_M_ask_9) (hi := rfl) (hl := rfl) ?_
  refine xr_iconst (pc := 10) (hI := d_M_ask_10) (hr := by decide) ?_
  refine xr_putf (pc := 11) (ci := 11) (k := 24) (N := 38) (v9 := 0) (T := xF11) (tF := xT11) (hI := d_M_ask_11) (hw := w_1611) rfl xi11 xt11 xn11 (Or.inl rfl) (Nat.le_of_ble_eq_true rfl) (Nat.le_of_ble_eq_true rfl) rfl xfit_i rfl (ft_53 F) (by decide) (fun z => z) ?_
  have F1_ : xFix (xst h 53 24 0) := F.stL xfk_53_24
  refine xr_aload_n (pc := 14) (i := 0) (hI := d_M_ask_14) (hi := rfl) (hl := rfl) ?_
  refine xr_iconst (pc := 15) (hI := d_M_ask_15) (hr := by decide) ?_
  refine xr_putf (pc := 16) (ci := 11) (k := 25) (N := 38) (v9 := 0) (T := xF11) (tF := xT11) (hI := d_M_ask_16) (hw := w_1612) rfl xi11 xt11 xn11 (Or.inl rfl) (Nat.le_of_ble_eq_true rfl) (Nat.le_of_ble_eq_true rfl) rfl xfit_i rfl (ft_53 F1_) (by decide) (fun z => z) ?_
  have F2_ : xFix (xst (xst h 53 24 0) 53 25 0) := F1_.stL xfk_53_25
  refine xr_aload_n (pc := 19) (i := 0) (hI := d_M_ask_19) (hi := rfl) (hl := rfl) ?_
  obtain ⟨c8, c9, hyp⟩ := hyp
  refine xr_new (pc := 20) (ci := 12) (N := 13) (T := xF12) (tF := xT12) (hI := d_M_ask_20) w_1530 xj12 w_16 rfl xi12 xt12 (Nat.le_of_ble_eq_true rfl) xd712 xdf12 c8 c9 ?_
  have F3_ : xFix (xmk (xst (xst h 53 24 0) 53 25 0) 12 13 (xdef 12)) := F2_.mk
  have f4_ : (93 : Int) ≤ xnx (xst (xst h 53 24 0) 53 25 0) := F2_.nx
  have f5_ : (93 : Int) ≤ xnx (xmk (xst (xst h 53 24 0) 53 25 0) 12 13 (xdef 12)) := F3_.nx
  have f6_ : xnx (xmk (xst (xst h 53 24 0) 53 25 0) 12 13 (xdef 12)) = xnx (xst (xst h 53 24 0) 53 25 0) + 1 := xnx_mk _ _ _ _
  show xwp G m_M_ask (d + 12) 23 [xR 53, xZ] [xR (xnx (xst (xst h 53 24 0) 53 25 0)), xR 53] (xmk (xst (xst h 53 24 0) 53 25 0) 12 13 (xdef 12)) _ _
  refine xr_dup (pc := 23) (hI := d_M_ask_23) (hv := rfl) ?_
  exact xq_callIN (pc := 24) (index := 50) (K := m_MQ_init) (As := []) (S := [xR (xnx (xst (xst h 53 24 0) 53 25 0)), xR 53]) (L0 := [xR (xnx (xst (xst h 53 24 0) 53 25 0))]) (hI := d_M_ask_24) (hK := k_MQ_init) (hlk := w_1532) (hnoM := rfl) (hS8 := Nat.le_of_ble_eq_true rfl) (hb0 := (by clear hyp; omega)) (hinst := w_1533) (hname := rfl) (hret := rfl) (hlen := Nat.le_of_ble_eq_true rfl) (hst := rfl) (hL0 := rfl)  (hyp F3_)
theorem d_M_ask_27 : decode prog_14_method_101_code 27 = .ok (.putfield 55, 3) := by decide +kernel
theorem xtk_11_20 : xfTK 11 20 = true := by decide +kernel
theorem d_M_ask_30 : decode prog_14_method_101_code 30 = .ok (.aload_n 0, 1) := by decide +kernel
theorem d_M_ask_31 : decode prog_14_method_101_code 31 = .ok (.iconst (-1), 1) := by decide +kernel
theorem d_M_ask_32 : decode prog_14_method_101_code 32 = .ok (.iconst 2, 1) := by decide +kernel
theorem d_M_ask_33 : decode prog_14_method_101_code 33 = .ok (.invokevirtual 307, 3) := by decide +kernel
theorem v_M_ask_27 {G : XG} {d : Nat} {h : XH} {Q : XV → XH → Prop} {X : Nat → XH → Prop} {s0 s1 : Int} (F : xFix h) (hyp : xtg h s1 = 11 ∧ 0 ≤ s1 ∧ (xFix (xst h s1 20 s0) → xwp G m_M_isQuestion (d + 11) 0 [xR 53, xI (-1), xI 2] [] (xst h s1 20 s0) (fun v9 h9 => xwp G m_M_ask (d + 12) 36 [xR 53, xZ] (xpush v9 []) h9 Q X) X)) : xwp G m_M_ask (d + 12) 27 [xR 53, xZ] [xR s0, xR s1] h Q X := by
  have hnx9 : (93 : Int) ≤ xnx h := F.2.2
  obtain ⟨c9, hyp⟩ := hyp
  have t1_ := c9
  clear c9
  obtain ⟨c2_, hyp⟩ := hyp
  refine xr_putf (pc := 27) (ci := 11) (k := 20) (N := 38) (v9 := 2) (T := xF11) (tF := xT11) (hI := d_M_ask_27) (hw := w_1607) rfl xi11 xt11 xn11 (Or.inl rfl) (Nat.le_of_ble_eq_true rfl) (Nat.le_of_ble_eq_true rfl) rfl (xfit_o _) rfl t1_ c2_ (fun z => z) ?_
  have F3_ : xFix (xst h s1 20 s0) := F.stT (t := 11) c2_ t1_ xtk_11_20
  refine xr_aload_n (pc := 30) (i := 0) (hI := d_M_ask_30) (hi := rfl) (hl := rfl) ?_
  refine xr_iconst (pc := 31) (hI := d_M_ask_31) (hr := by decide) ?_
  refine xr_iconst (pc := 32) (hI := d_M_ask_32) (hr := by decide) ?_
  exact xq_callV (pc := 33) (index := 307) (K := m_M_isQuestion) (As := [xI (-1), xI 2]) (S := []) (L0 := [xR 53, xI (-1), xI 2]) (hI := d_M_ask_33) (hK := k_M_isQuestion) (hlk := w_2314) (hnoM := rfl) (hS8 := Nat.le_of_ble_eq_true rfl) (ci := 11) (N := 38) (C := "BeaconIndexModel") (T := xF11) (hc := rfl) (hci := Nat.le_of_ble_eq_true rfl) (htb := (ft_53 F3_)) (hinst := w_2316) (hsel := sel_M_isQuestion) (hlen := Nat.le_of_ble_eq_true rfl) (hst := rfl) (hL0 := rfl)  (hyp F3_)
theorem d_M_ask_36 : decode prog_14_method_101_code 36 = .ok (.istore_n 1, 1) := by decide +kernel
theorem d_M_ask_37 : decode prog_14_method_101_code 37 = .ok (.aload_n 0, 1) := by decide +kernel
theorem d_M_ask_38 : decode prog_14_method_101_code 38 = .ok (.iconst 0, 1) := by decide +kernel
theorem d_M_ask_39 : decode prog_14_method_101_code 39 = .ok (.putfield 105, 3) := by decide +kernel
theorem d_M_ask_42 : decode prog_14_method_101_code 42 = .ok (.iload_n 1, 1) := by decide +kernel
theorem d_M_ask_43 : decode prog_14_method_101_code 43 = .ok (.ifCond .ne 13, 3) := by decide +kernel
theorem d_M_ask_56 : decode prog_14_method_101_code 56 = .ok (.aload_n 0, 1) := by decide +kernel
theorem d_M_ask_57 : decode prog_14_method_101_code 57 = .ok (.aload_n 0, 1) := by decide +kernel
theorem d_M_ask_58 : decode prog_14_method_101_code 58 = .ok (.getfield 55, 3) := by decide +kernel
theorem d_M_ask_61 : decode prog_14_method_101_code 61 = .ok (.putfield 51, 3) := by decide +kernel
theorem w_1606 : Cond.fieldLink "BeaconIndexModel" 51 "BeaconIndexModel" "question" "LBeaconIndexModel$Question;" ∈ lw_tbl := List.mem_append_right _ (List.mem_of_getElem? (i := 1606) (by decide +kernel))
theorem xfk_53_19 : xfree 53 19 = true := by decide +kernel
theorem d_M_ask_64 : decode prog_14_method_101_code 64 = .ok (.aload_n 0, 1) := by decide +kernel
theorem d_M_ask_65 : decode prog_14_method_101_code 65 = .ok (.iconst 1, 1) := by decide +kernel
theorem d_M_ask_66 : decode prog_14_method_101_code 66 = .ok (.putfield 448, 3) := by decide +kernel
theorem w_1605 : Cond.fieldLink "BeaconIndexModel" 448 "BeaconIndexModel" "isAsked" "Z" ∈ lw_tbl := List.mem_append_right _ (List.mem_of_getElem? (i := 1605) (by decide +kernel))
theorem xfk_53_18 : xfree 53 18 = true := by decide +kernel
theorem d_M_ask_69 : decode prog_14_method_101_code 69 = .ok (.aload_n 0, 1) := by decide +kernel
theorem d_M_ask_70 : decode prog_14_method_101_code 70 = .ok (.iconst 0, 1) := by decide +kernel
theorem d_M_ask_71 : decode prog_14_method_101_code 71 = .ok (.putfield 200, 3) := by decide +kernel
theorem d_M_ask_74 : decode prog_14_method_101_code 74 = .ok (.iconst (-1), 1) := by decide +kernel
theorem d_M_ask_75 : decode prog_14_method_101_code 75 = .ok (.ireturn, 1) := by decide +kernel
theorem d_M_ask_46 : decode prog_14_method_101_code 46 = .ok (.aload_n 0, 1) := by decide +kernel
theorem d_M_ask_47 : decode prog_14_method_101_code 47 = .ok (.getfield 61, 3) := by decide +kernel
theorem d_M_ask_50 : decode prog_14_method_101_code 50 = .ok (.aload_n 0, 1) := by decide +kernel
theorem d_M_ask_51 : decode prog_14_method_101_code 51 = .ok (.getfield 258, 3) := by decide +kernel
theorem d_M_ask_54 : decode prog_14_method_101_code 54 = .ok (.iaload, 1) := by decide +kernel
theorem d_M_ask_55 : decode prog_14_method_101_code 55 = .ok (.ireturn, 1) := by decide +kernel
theorem v_M_ask_36 {G : XG} {d : Nat} {h : XH} {Q : XV → XH → Prop} {X : Nat → XH → Prop} {s0 : Int} (F : xFix h) (hyp : ((s0 = 0 → 0 ≤ (xpl h 53 24) ∧ (xpl h 53 24) < 41 ∧ (xFix (xst h 53 2 0) → Q (xI (xpl h 79 (xpl h 53 24))) (xst h 53 2 0))) ∧ (¬ s0 = 0 → (xFix (xst (xst (xst (xst h 53 2 0) 53 19 (xpl h 53 20)) 53 18 1) 53 26 0) → Q (xI (-1)) (xst (xst (xst (xst h 53 2 0) 53 19 (xpl h 53 20)) 53 18 1) 53 26 0))))) : xwp G m_M_ask (d + 12) 36 [xR 53, xZ] [xI s0] h Q X := by
  have hnx9 : (93 : Int) ≤ xnx h := F.2.2
  refine xr_okS (fun hs9 => ?_)
  have r_s0 : -2147483648 ≤ s0 ∧ s0 ≤ 2147483647 := hs9 (xI s0) (.head _)
  refine xr_istore_n (pc := 36) (i := 1) (L9 := [xR 53, xI s0]) (hI := d_M_ask_36) (hi := rfl) (hn := Nat.le_of_ble_eq_true rfl) (hL9 := rfl) ?_
  refine xr_aload_n (pc := 37) (i := 0) (hI := d_M_ask_37) (hi := rfl) (hl := rfl) ?_
  refine xr_iconst (pc := 38) (hI := d_M_ask_38) (hr := by decide) ?_
  refine xr_putf (pc := 39) (ci := 11) (k := 2) (N := 38) (v9 := 0) (T := xF11) (tF := xT11) (hI := d_M_ask_39) (hw := w_1589) rfl xi11 xt11 xn11 (Or.inl rfl) (Nat.le_of_ble_eq_true rfl) (Nat.le_of_ble_eq_true rfl) rfl xfit_i rfl (ft_53 F) (by decide) (fun z => z) ?_
  have F1_ : xFix (xst h 53 2 0) := F.stL xfk_53_2
  refine xr_iload_n (pc := 42) (i := 1) (hI := d_M_ask_42) (hi := rfl) (hl := rfl) ?_
  refine xr_if_ne (pc := 43) (tgt := 56) (hI := d_M_ask_43) (ht := by decide) (fun q9 => ?_) (fun q9 => ?_)
  · replace hyp := hyp.2 q9
    have q2_ := q9
    clear q9
    refine xr_aload_n (pc := 56) (i := 0) (hI := d_M_ask_56) (hi := rfl) (hl := rfl) ?_
    refine xr_aload_n (pc := 57) (i := 0) (hI := d_M_ask_57) (hi := rfl) (hl := rfl) ?_
    refine xg_getf (pc := 58) (ci := 11) (k := 20) (N := 38) (v9 := 2) (v := (xpl h 53 20)) (T := xF11) (hI := d_M_ask_58) (hw := w_1607) rfl xi11 (Or.inl rfl) (Nat.le_of_ble_eq_true rfl) (Nat.le_of_ble_eq_true rfl) rfl (ft_53 F1_) (xpl_ok (by decide)) (fun f3_ => ?_)
    clear f3_
    refine xr_putf (pc := 61) (ci := 11) (k := 19) (N := 38) (v9 := 2) (T := xF11) (tF := xT11) (hI := d_M_ask_61) (hw := w_1606) rfl xi11 xt11 xn11 (Or.inl rfl) (Nat.le_of_ble_eq_true rfl) (Nat.le_of_ble_eq_true rfl) rfl (xfit_o _) rfl (ft_53 F1_) (by decide) (fun z => z) ?_
    have F4_ : xFix (xst (xst h 53 2 0) 53 19 (xpl h 53 20)) := F1_.stL xfk_53_19
    refine xr_aload_n (pc := 64) (i := 0) (hI := d_M_ask_64) (hi := rfl) (hl := rfl) ?_
    refine xr_iconst (pc := 65) (hI := d_M_ask_65) (hr := by decide) ?_
    refine xr_putf (pc := 66) (ci := 11) (k := 18) (N := 38) (v9 := 0) (T := xF11) (tF := xT11) (hI := d_M_ask_66) (hw := w_1605) rfl xi11 xt11 xn11 (Or.inl rfl) (Nat.le_of_ble_eq_true rfl) (Nat.le_of_ble_eq_true rfl) rfl xfit_z rfl (ft_53 F4_) (by decide) (fun _ => (by decide : (0 : Int) ≤ 1 ∧ (1 : Int) ≤ 1)) ?_
    have F5_ : xFix (xst (xst (xst h 53 2 0) 53 19 (xpl h 53 20)) 53 18 1) := F4_.stL xfk_53_18
    refine xr_aload_n (pc := 69) (i := 0) (hI := d_M_ask_69) (hi := rfl) (hl := rfl) ?_
    refine xr_iconst (pc := 70) (hI := d_M_ask_70) (hr := by decide) ?_
    refine xr_putf (pc := 71) (ci := 11) (k := 26) (N := 38) (v9 := 0) (T := xF11) (tF := xT11) (hI := d_M_ask_71) (hw := w_1613) rfl xi11 xt11 xn11 (Or.inl rfl) (Nat.le_of_ble_eq_true rfl) (Nat.le_of_ble_eq_true rfl) rfl xfit_z rfl (ft_53 F5_) (by decide) (fun _ => (by decide : (0 : Int) ≤ 0 ∧ (0 : Int) ≤ 1)) ?_
    have F6_ : xFix (xst (xst (xst (xst h 53 2 0) 53 19 (xpl h 53 20)) 53 18 1) 53 26 0) := F5_.stL xfk_53_26
    refine xr_iconst (pc := 74) (hI := d_M_ask_74) (hr := by decide) ?_
    refine xr_ireturn (S := []) (pc := 75) (hI := d_M_ask_75) (hr := rfl) ?_
    exact hyp F6_
  · replace hyp := hyp.1 q9
    have q2_ := q9
    clear q9
    refine xr_aload_n (pc := 46) (i := 0) (hI := d_M_ask_46) (hi := rfl) (hl := rfl) ?_
    refine xg_getf (pc := 47) (ci := 11) (k := 22) (N := 38) (v9 := 2) (v := 79) (T := xF11) (hI := d_M_ask_47) (hw := w_1609) rfl xi11 (Or.inl rfl) (Nat.le_of_ble_eq_true rfl) (Nat.le_of_ble_eq_true rfl) rfl (ft_53 F1_) (fp_53_22 F1_) (fun f7_ => ?_)
    clear f7_
    refine xr_aload_n (pc := 50) (i := 0) (hI := d_M_ask_50) (hi := rfl) (hl := rfl) ?_
    refine xg_getf (pc := 51) (ci := 11) (k := 24) (N := 38) (v9 := 0) (v := (xpl h 53 24)) (T := xF11) (hI := d_M_ask_51) (hw := w_1611) rfl xi11 (Or.inl rfl) (Nat.le_of_ble_eq_true rfl) (Nat.le_of_ble_eq_true rfl) rfl (ft_53 F1_) (xpl_ok (by decide)) (fun f8_ => ?_)
    replace f8_ : -2147483648 ≤ (xpl h 53 24) ∧ (xpl h 53 24) ≤ 2147483647 := f8_
    obtain ⟨c9_, hyp⟩ := hyp
    obtain ⟨c10_, hyp⟩ := hyp
    refine xg_iaload (pc := 54) (v := (xpl h 79 (xpl h 53 24))) (hI := d_M_ask_54) (ft_79 F1_) c9_ (xlt_of (fl_79 F1_) c10_) (xpl_oa (by decide)) (fun f11_ => ?_)
    replace f11_ : -2147483648 ≤ (xpl h 79 (xpl h 53 24)) ∧ (xpl h 79 (xpl h 53 24)) ≤ 2147483647 := f11_
    refine xr_ireturn (S := []) (pc := 55) (hI := d_M_ask_55) (hr := rfl) ?_
    exact hyp F1_

end
