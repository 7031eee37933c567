/-! ===== prvc ===== -/
section
abbrev m_M_isNumber : XM := (⟨"BeaconIndexModel", "isNumber", "([II)Z"⟩, prog_14_method_49_code, 3, (some .boolean), [])
theorem d_M_isNumber_0 : decode prog_14_method_49_code 0 = .ok (.aload_n 1, 1) := by decide +kernel
theorem d_M_isNumber_1 : decode prog_14_method_49_code 1 = .ok (.iload_n 2, 1) := by decide +kernel
theorem d_M_isNumber_2 : decode prog_14_method_49_code 2 = .ok (.aload_n 0, 1) := by decide +kernel
theorem d_M_isNumber_3 : decode prog_14_method_49_code 3 = .ok (.invokevirtual 264, 3) := by decide +kernel
theorem k_M_number : xCal m_M_number 0 := ⟨List.mem_append_right _ (List.mem_of_getElem? (i := 2351) (by decide +kernel)), w_15, Nat.le_of_ble_eq_true rfl, ⟨by decide +kernel, by decide +kernel⟩, by decide +kernel, by decide +kernel, rfl⟩
theorem w_2348 : Cond.methodLink "BeaconIndexModel" 264 ⟨"BeaconIndexModel", "number", "()I"⟩ ∈ lw_tbl := List.mem_append_right _ (List.mem_of_getElem? (i := 2348) (by decide +kernel))
theorem w_2350 : Cond.instanceMethod ⟨"BeaconIndexModel", "number", "()I"⟩ ∈ lw_tbl := List.mem_append_right _ (List.mem_of_getElem? (i := 2350) (by decide +kernel))
theorem sel_M_number : Cond.selects "BeaconIndexModel" ⟨"BeaconIndexModel", "number", "()I"⟩ ⟨"BeaconIndexModel", "number", "()I"⟩ ∈ lw_tbl := List.mem_append_left _ (by decide +kernel)
theorem v_M_isNumber_0 {G : XG} {d : Nat} {h : XH} {Q : XV → XH → Prop} {X : Nat → XH → Prop} {x1 x2 : Int} (F : xFix h) (hyp : (xwp G m_M_number (d + 2) 0 [xR 53, xZ, xZ] [] h (fun v9 h9 => xwp G m_M_isNumber (d + 3) 6 [xR 53, xR x1, xI x2] (xpush v9 [xI x2, xR x1]) h9 Q X) X)) : xwp G m_M_isNumber (d + 3) 0 [xR 53, xR x1, xI x2] [] h Q X := by
  have hnx9 : (93 : Int) ≤ xnx h := F.2.2
  refine xr_okL (fun hl9 => ?_)
  have r_x2 : -2147483648 ≤ x2 ∧ x2 ≤ 2147483647 := hl9 (xI x2) (.tail _ (.tail _ (.head _))) (Nat.le_of_ble_eq_true rfl)
  refine xr_aload_n (pc := 0) (i := 1) (hI := d_M_isNumber_0) (hi := rfl) (hl := rfl) ?_
  refine xr_iload_n (pc := 1) (i := 2) (hI := d_M_isNumber_1) (hi := rfl) (hl := rfl) ?_
  refine xr_aload_n (pc := 2) (i := 0) (hI := d_M_isNumber_2) (hi := rfl) (hl := rfl) ?_
  exact xq_callV (pc := 3) (index := 264) (K := m_M_number) (As := []) (S := [xI x2, xR x1]) (L0 := [xR 53, xZ, xZ]) (hI := d_M_isNumber_3) (hK := k_M_number) (hlk := w_2348) (hnoM := rfl) (hS8 := Nat.le_of_ble_eq_true rfl) (ci := 11) (N := 38) (C := "BeaconIndexModel") (T := xF11) (hc := rfl) (hci := Nat.le_of_ble_eq_true rfl) (htb := (ft_53 F)) (hinst := w_2350) (hsel := sel_M_number) (hlen := Nat.le_of_ble_eq_true rfl) (hst := rfl) (hL0 := rfl)  hyp
theorem d_M_isNumber_6 : decode prog_14_method_49_code 6 = .ok (.iastore, 1) := by decide +kernel
theorem d_M_isNumber_7 : decode prog_14_method_49_code 7 = .ok (.aload_n 0, 1) := by decide +kernel
theorem d_M_isNumber_8 : decode prog_14_method_49_code 8 = .ok (.dup, 1) := by decide +kernel
theorem d_M_isNumber_9 : decode prog_14_method_49_code 9 = .ok (.getfield 258, 3) := by decide +kernel
theorem d_M_isNumber_12 : decode prog_14_method_49_code 12 = .ok (.aload_n 1, 1) := by decide +kernel
theorem d_M_isNumber_13 : decode prog_14_method_49_code 13 = .ok (.iload_n 2, 1) := by decide +kernel
theorem d_M_isNumber_14 : decode prog_14_method_49_code 14 = .ok (.iaload, 1) := by decide +kernel
theorem d_M_isNumber_15 : decode prog_14_method_49_code 15 = .ok (.iconst (-1), 1) := by decide +kernel
theorem d_M_isNumber_16 : decode prog_14_method_49_code 16 = .ok (.if_icmp .ne 7, 3) := by decide +kernel
theorem d_M_isNumber_23 : decode prog_14_method_49_code 23 = .ok (.iconst 1, 1) := by decide +kernel
theorem d_M_isNumber_19 : decode prog_14_method_49_code 19 = .ok (.iconst 0, 1) := by decide +kernel
theorem d_M_isNumber_20 : decode prog_14_method_49_code 20 = .ok (.goto 4, 3) := by decide +kernel
theorem v_M_isNumber_6 {G : XG} {d : Nat} {h : XH} {Q : XV → XH → Prop} {X : Nat → XH → Prop} {x1 x2 s0 s1 s2 : Int} (F : xFix h) (hyp : xtg h s2 = 100 ∧ 0 ≤ s2 ∧ 0 ≤ s1 ∧ s1 < (xln h s2) ∧ xtg h x1 = 100 ∧ 0 ≤ x2 ∧ x2 < (xln h x1) ∧ (((xpl (xst h s2 s1 s0) x1 x2) = (-1) → (xFix (xst h s2 s1 s0) → xwp G m_M_isNumber (d + 3) 24 [xZ, xR x1, xI x2] [xI 0, xI (xpl h 53 24), xR 53] (xst h s2 s1 s0) Q X)) ∧ (¬ (xpl (xst h s2 s1 s0) x1 x2) = (-1) → (xFix (xst h s2 s1 s0) → xwp G m_M_isNumber (d + 3) 24 [xZ, xR x1, xI x2] [xI 1, xI (xpl h 53 24), xR 53] (xst h s2 s1 s0) Q X)))) : xwp G m_M_isNumber (d + 3) 6 [xR 53, xR x1, xI x2] [xI s0, xI s1, xR s2] h Q X := by
  have hnx9 : (93 : Int) ≤ xnx h := F.2.2
  refine xr_okL (fun hl9 => ?_)
  have r_x2 : -2147483648 ≤ x2 ∧ x2 ≤ 2147483647 := hl9 (xI x2) (.tail _ (.tail _ (.head _))) (Nat.le_of_ble_eq_true rfl)
  refine xr_okS (fun hs9 => ?_)
  have r_s0 : -2147483648 ≤ s0 ∧ s0 ≤ 2147483647 := hs9 (xI s0) (.head _)
  have r_s1 : -2147483648 ≤ s1 ∧ s1 ≤ 2147483647 := hs9 (xI s1) (.tail _ (.head _))
  obtain ⟨c9, hyp⟩ := hyp
  have t1_ := c9
  clear c9
  obtain ⟨c2_, hyp⟩ := hyp
  obtain ⟨c3_, hyp⟩ := hyp
  obtain ⟨c4_, hyp⟩ := hyp
  refine xr_iastore (pc := 6) (hI := d_M_isNumber_6) t1_ c2_ c3_ (xlt_of rfl c4_) ?_
  have F5_ : xFix (xst h s2 s1 s0) := F.stTA (t := 100) c2_ t1_ xta_100
  refine xr_aload_n (pc := 7) (i := 0) (hI := d_M_isNumber_7) (hi := rfl) (hl := rfl) ?_
  refine xr_dup (pc := 8) (hI := d_M_isNumber_8) (hv := rfl) ?_
  refine xg_getf (pc := 9) (ci := 11) (k := 24) (N := 38) (v9 := 0) (v := (xpl h 53 24)) (T := xF11) (hI := d_M_isNumber_9) (hw := w_1611) rfl xi11 (Or.inl rfl) (Nat.le_of_ble_eq_true rfl) (Nat.le_of_ble_eq_true rfl) rfl (ft_53 F5_) (xpl_oa (xne_tag (have z9 := (ft_53 F5_); z9) t1_ (by decide))) (fun f6_ => ?_)
  replace f6_ : -2147483648 ≤ (xpl h 53 24) ∧ (xpl h 53 24) ≤ 2147483647 := f6_
  refine xr_aload_n (pc := 12) (i := 1) (hI := d_M_isNumber_12) (hi := rfl) (hl := rfl) ?_
  refine xr_iload_n (pc := 13) (i := 2) (hI := d_M_isNumber_13) (hi := rfl) (hl := rfl) ?_
  obtain ⟨c9, hyp⟩ := hyp
  have t7_ := c9
  clear c9
  obtain ⟨c8_, hyp⟩ := hyp
  obtain ⟨c9_, hyp⟩ := hyp
  refine xg_iaload (pc := 14) (v := (xpl (xst h s2 s1 s0) x1 x2)) (hI := d_M_isNumber_14) t7_ c8_ (xlt_of (show xln (xst h s2 s1 s0) x1 = xln h x1 from rfl) c9_) rfl (fun f10_ => ?_)
  replace f10_ : -2147483648 ≤ (xpl (xst h s2 s1 s0) x1 x2) ∧ (xpl (xst h s2 s1 s0) x1 x2) ≤ 2147483647 := f10_
  refine xr_iconst (pc := 15) (hI := d_M_isNumber_15) (hr := by decide) ?_
  refine xr_icmp_ne (pc := 16) (tgt := 23) (hI := d_M_isNumber_16) (ht := by decide) (fun q9 => ?_) (fun q9 => ?_)
  · replace hyp := hyp.2 q9
    have q11_ := q9
    clear q9
    refine xr_iconst (pc := 23) (hI := d_M_isNumber_23) (hr := by decide) ?_
    exact xr_drop (L9 := [xZ, xR x1, xI x2]) (xdrz (xdrs (xdrs xdr0))) (hyp F5_)
  · replace hyp := hyp.1 q9
    have q11_ := q9
    clear q9
    refine xr_iconst (pc := 19) (hI := d_M_isNumber_19) (hr := by decide) ?_
    refine xr_goto (pc := 20) (tgt := 24) (hI := d_M_isNumber_20) (ht := by decide) ?_
    exact xr_drop (L9 := [xZ, xR x1, xI x2]) (xdrz (xdrs (xdrs xdr0))) (hyp F5_)
theorem d_M_isNumber_24 : decode prog_14_method_49_code 24 = .ok (.iadd, 1) := by decide +kernel
theorem d_M_isNumber_25 : decode prog_14_method_49_code 25 = .ok (.putfield 258, 3) := by decide +kernel
theorem xtk_11_24 : xfTK 11 24 = true := by decide +kernel
theorem d_M_isNumber_28 : decode prog_14_method_49_code 28 = .ok (.aload_n 1, 1) := by decide +kernel
theorem d_M_isNumber_29 : decode prog_14_method_49_code 29 = .ok (.iload_n 2, 1) := by decide +kernel
theorem d_M_isNumber_30 : decode prog_14_method_49_code 30 = .ok (.iaload, 1) := by decide +kernel
theorem d_M_isNumber_31 : decode prog_14_method_49_code 31 = .ok (.iconst (-1), 1) := by decide +kernel
theorem d_M_isNumber_32 : decode prog_14_method_49_code 32 = .ok (.if_icmp .eq 7, 3) := by decide +kernel
theorem d_M_isNumber_39 : decode prog_14_method_49_code 39 = .ok (.iconst 0, 1) := by decide +kernel
theorem d_M_isNumber_40 : decode prog_14_method_49_code 40 = .ok (.ireturn, 1) := by decide +kernel
theorem d_M_isNumber_35 : decode prog_14_method_49_code 35 = .ok (.iconst 1, 1) := by decide +kernel
theorem d_M_isNumber_36 : decode prog_14_method_49_code 36 = .ok (.goto 4, 3) := by decide +kernel
theorem v_M_isNumber_24 {G : XG} {d : Nat} {h : XH} {Q : XV → XH → Prop} {X : Nat → XH → Prop} {x1 x2 s0 s1 s2 : Int} (F : xFix h) (hyp : xiR (s1 + s0) ∧ xtg h s2 = 11 ∧ 0 ≤ s2 ∧ xtg h x1 = 100 ∧ 0 ≤ x2 ∧ x2 < (xln h x1) ∧ (((xpl h x1 x2) = (-1) → (xFix (xst h s2 24 (s1 + s0)) → Q (xI 0) (xst h s2 24 (s1 + s0)))) ∧ (¬ (xpl h x1 x2) = (-1) → (xFix (xst h s2 24 (s1 + s0)) → Q (xI 1) (xst h s2 24 (s1 + s0)))))) : xwp G m_M_isNumber (d + 3) 24 [xZ, xR x1, xI x2] [xI s0, xI s1, xR s2] h Q X := by
  have hnx9 : (93 : Int) ≤ xnx h := F.2.2
  refine xr_okL (fun hl9 => ?_)
  have r_x2 : -2147483648 ≤ x2 ∧ x2 ≤ 2147483647 := hl9 (xI x2) (.tail _ (.tail _ (.head _))) (Nat.le_of_ble_eq_true rfl)
  refine xr_okS (fun hs9 => ?_)
  have r_s0 : -2147483648 ≤ s0 ∧ s0 ≤ 2147483647 := hs9 (xI s0) (.head _)
  have r_s1 : -2147483648 ≤ s1 ∧ s1 ≤ 2147483647 := hs9 (xI s1) (.tail _ (.head _))
  obtain ⟨c9, hyp⟩ := hyp
  refine xr_iadd (pc := 24) (hI := d_M_isNumber_24) (hr := c9) ?_
  obtain ⟨c9, hyp⟩ := hyp
  have t1_ := c9
  clear c9
  obtain ⟨c2_, hyp⟩ := hyp
  refine xr_putf (pc := 25) (ci := 11) (k := 24) (N := 38) (v9 := 0) (T := xF11) (tF := xT11) (hI := d_M_isNumber_25) (hw := w_1611) rfl xi11 xt11 xn11 (Or.inl rfl) (Nat.le_of_ble_eq_true rfl) (Nat.le_of_ble_eq_true rfl) rfl xfit_i rfl t1_ c2_ (fun z => z) ?_
  have F3_ : xFix (xst h s2 24 (s1 + s0)) := F.stT (t := 11) c2_ t1_ xtk_11_24
  refine xr_aload_n (pc := 28) (i := 1) (hI := d_M_isNumber_28) (hi := rfl) (hl := rfl) ?_
  refine xr_iload_n (pc := 29) (i := 2) (hI := d_M_isNumber_29) (hi := rfl) (hl := rfl) ?_
  obtain ⟨c9, hyp⟩ := hyp
  have t4_ := c9
  clear c9
  obtain ⟨c5_, hyp⟩ := hyp
  obtain ⟨c6_, hyp⟩ := hyp
  refine xg_iaload (pc := 30) (v := (xpl h x1 x2)) (hI := d_M_isNumber_30) t4_ c5_ (xlt_of (show xln (xst h s2 24 (s1 + s0)) x1 = xln h x1 from rfl) c6_) (xpl_oa (xne_tag t4_ t1_ (by decide))) (fun f7_ => ?_)
  replace f7_ : -2147483648 ≤ (xpl h x1 x2) ∧ (xpl h x1 x2) ≤ 2147483647 := f7_
  refine xr_iconst (pc := 31) (hI := d_M_isNumber_31) (hr := by decide) ?_
  refine xr_icmp_eq (pc := 32) (tgt := 39) (hI := d_M_isNumber_32) (ht := by decide) (fun q9 => ?_) (fun q9 => ?_)
  · replace hyp := hyp.1 q9
    have q8_ := q9
    clear q9
    refine xr_iconst (pc := 39) (hI := d_M_isNumber_39) (hr := by decide) ?_
    refine xr_ireturnT (S := []) (pc := 40) (hI := d_M_isNumber_40) (hr := rfl) (xnar_z (by decide)) ?_
    exact hyp F3_
  · replace hyp := hyp.2 q9
    have q8_ := q9
    clear q9
    refine xr_iconst (pc := 35) (hI := d_M_isNumber_35) (hr := by decide) ?_
    refine xr_goto (pc := 36) (tgt := 40) (hI := d_M_isNumber_36) (ht := by decide) ?_
    refine xr_ireturnT (S := []) (pc := 40) (hI := d_M_isNumber_40) (hr := rfl) (xnar_z (by decide)) ?_
    exact hyp F3_
abbrev m_M_isQuestion : XM := (⟨"BeaconIndexModel", "isQuestion", "(II)Z"⟩, prog_14_method_50_code, 3, (some .boolean), [])
theorem d_M_isQuestion_0 : decode prog_14_method_50_code 0 = .ok (.aload_n 0, 1) := by decide +kernel
theorem d_M_isQuestion_1 : decode prog_14_method_50_code 1 = .ok (.iload_n 1, 1) := by decide +kernel
theorem d_M_isQuestion_2 : decode prog_14_method_50_code 2 = .ok (.iload_n 2, 1) := by decide +kernel
theorem d_M_isQuestion_3 : decode prog_14_method_50_code 3 = .ok (.invokevirtual 267, 3) := by decide +kernel
abbrev m_M_isPart : XM := (⟨"BeaconIndexModel", "isPart", "(II)Z"⟩, prog_14_method_51_code, 6, (some .boolean), [])
theorem k_M_isPart : xCal m_M_isPart 2 := ⟨List.mem_append_right _ (List.mem_of_getElem? (i := 2321) (by decide +kernel)), w_15, Nat.le_of_ble_eq_true rfl, ⟨by decide +kernel, by decide +kernel⟩, by decide +kernel, by decide +kernel, rfl⟩
theorem w_2318 : Cond.methodLink "BeaconIndexModel" 267 ⟨"BeaconIndexModel", "isPart", "(II)Z"⟩ ∈ lw_tbl := List.mem_append_right _ (List.mem_of_getElem? (i := 2318) (by decide +kernel))
theorem w_2320 : Cond.instanceMethod ⟨"BeaconIndexModel", "isPart", "(II)Z"⟩ ∈ lw_tbl := List.mem_append_right _ (List.mem_of_getElem? (i := 2320) (by decide +kernel))
theorem sel_M_isPart : Cond.selects "BeaconIndexModel" ⟨"BeaconIndexModel", "isPart", "(II)Z"⟩ ⟨"BeaconIndexModel", "isPart", "(II)Z"⟩ ∈ lw_tbl := List.mem_append_left _ (by decide +kernel)
theorem v_M_isQuestion_0 {G : XG} {d : Nat} {h : XH} {Q : XV → XH → Prop} {X : Nat → XH → Prop} {x1 x2 : Int} (F : xFix h) (hyp : (xwp G m_M_isPart (d + 10) 0 [xR 53, xI x1, xI x2, xZ, xZ, xZ] [] h (fun v9 h9 => xwp G m_M_isQuestion (d + 11) 6 [xR 53, xI x1, xI x2] (xpush v9 []) h9 Q X) X)) : xwp G m_M_isQuestion (d + 11) 0 [xR 53, xI x1, xI x2] [] h Q X := by
  have hnx9 : (93 : Int) ≤ xnx h := F.2.2
  refine xr_okL (fun hl9 => ?_)
  have r_x1 : -2147483648 ≤ x1 ∧ x1 ≤ 2147483647 := hl9 (xI x1) (.tail _ (.head _)) (Nat.le_of_ble_eq_true rfl)
  have r_x2 : -2147483648 ≤ x2 ∧ x2 ≤ 2147483647 := hl9 (xI x2) (.tail _ (.tail _ (.head _))) (Nat.le_of_ble_eq_true rfl)
  refine xr_aload_n (pc := 0) (i := 0) (hI := d_M_isQuestion_0) (hi := rfl) (hl := rfl) ?_
  refine xr_iload_n (pc := 1) (i := 1) (hI := d_M_isQuestion_1) (hi := rfl) (hl := rfl) ?_
  refine xr_iload_n (pc := 2) (i := 2) (hI := d_M_isQuestion_2) (hi := rfl) (hl := rfl) ?_
  exact xq_callV (pc := 3) (index := 267) (K := m_M_isPart) (As := [xI x1, xI x2]) (S := []) (L0 := [xR 53, xI x1, xI x2, xZ, xZ, xZ]) (hI := d_M_isQuestion_3) (hK := k_M_isPart) (hlk := w_2318) (hnoM := rfl) (hS8 := Nat.le_of_ble_eq_true rfl) (ci := 11) (N := 38) (C := "BeaconIndexModel") (T := xF11) (hc := rfl) (hci := Nat.le_of_ble_eq_true rfl) (htb := (ft_53 F)) (hinst := w_2320) (hsel := sel_M_isPart) (hlen := Nat.le_of_ble_eq_true rfl) (hst := rfl) (hL0 := rfl)  hyp
theorem d_M_isQuestion_6 : decode prog_14_method_50_code 6 = .ok (.ifCond .ne 5, 3) := by decide +kernel
theorem d_M_isQuestion_11 : decode prog_14_method_50_code 11 = .ok (.aload_n 0, 1) := by decide +kernel
theorem d_M_isQuestion_12 : decode prog_14_method_50_code 12 = .ok (.iload_n 1, 1) := by decide +kernel
theorem d_M_isQuestion_13 : decode prog_14_method_50_code 13 = .ok (.iconst (-1), 1) := by decide +kernel
theorem d_M_isQuestion_14 : decode prog_14_method_50_code 14 = .ok (.if_icmp .ne 9, 3) := by decide +kernel
theorem d_M_isQuestion_23 : decode prog_14_method_50_code 23 = .ok (.bipush 41, 2) := by decide +kernel
theorem d_M_isQuestion_25 : decode prog_14_method_50_code 25 = .ok (.invokevirtual 261, 3) := by decide +kernel
theorem d_M_isQuestion_17 : decode prog_14_method_50_code 17 = .ok (.sipush 400, 3) := by decide +kernel
theorem d_M_isQuestion_20 : decode prog_14_method_50_code 20 = .ok (.goto 5, 3) := by decide +kernel
theorem d_M_isQuestion_9 : decode prog_14_method_50_code 9 = .ok (.iconst 0, 1) := by decide +kernel
theorem d_M_isQuestion_10 : decode prog_14_method_50_code 10 = .ok (.ireturn, 1) := by decide +kernel
theorem v_M_isQuestion_6 {G : XG} {d : Nat} {h : XH} {Q : XV → XH → Prop} {X : Nat → XH → Prop} {x1 x2 s0 : Int} (F : xFix h) (hyp : ((s0 = 0 → (Q (xI 0) h)) ∧ (¬ s0 = 0 → ((x1 = (-1) → (xwp G m_M_is (d + 10) 0 [xR 53, xI 400] [] h (fun v9 h9 => xwp G m_M_isQuestion (d + 11) 28 [xR 53, xI x1, xI x2] (xpush v9 []) h9 Q X) X)) ∧ (¬ x1 = (-1) → (xwp G m_M_is (d + 10) 0 [xR 53, xI 41] [] h (fun v9 h9 => xwp G m_M_isQuestion (d + 11) 28 [xR 53, xI x1, xI x2] (xpush v9 []) h9 Q X) X)))))) : xwp G m_M_isQuestion (d + 11) 6 [xR 53, xI x1, xI x2] [xI s0] h Q X := by
  have hnx9 : (93 : Int) ≤ xnx h := F.2.2
  refine xr_okL (fun hl9 => ?_)
  have r_x1 : -2147483648 ≤ x1 ∧ x1 ≤ 2147483647 := hl9 (xI x1) (.tail _ (.head _)) (Nat.le_of_ble_eq_true rfl)
  have r_x2 : -2147483648 ≤ x2 ∧ x2 ≤ 2147483647 := hl9 (xI x2) (.tail _ (.tail _ (.head _))) (Nat.le_of_ble_eq_true rfl)
  refine xr_okS (fun hs9 => ?_)
  have r_s0 : -2147483648 ≤ s0 ∧ s0 ≤ 2147483647 := hs9 (xI s0) (.head _)
  refine xr_if_ne (pc := 6) (tgt := 11) (hI := d_M_isQuestion_6) (ht := by decide) (fun q9 => ?_) (fun q9 => ?_)
  · replace hyp := hyp.2 q9
    have q1_ := q9
    clear q9
    refine xr_aload_n (pc := 11) (i := 0) (hI := d_M_isQuestion_11) (hi := rfl) (hl := rfl) ?_
    refine xr_iload_n (pc := 12) (i := 1) (hI := d_M_isQuestion_12) (hi := rfl) (hl := rfl) ?_
    refine xr_iconst (pc := 13) (hI := d_M_isQuestion_13) (hr := by decide) ?_
    refine xr_icmp_ne (pc := 14) (tgt := 23) (hI := d_M_isQuestion_14) (ht := by decide) (fun q9 => ?_) (fun q9 => ?_)
    · replace hyp := hyp.2 q9
      have q2_ := q9
      clear q9
      refine xr_bipush (pc := 23) (hI := d_M_isQuestion_23) (hr := by decide) (hv := by decide) ?_
      exact xq_callV (pc := 25) (index := 261) (K := m_M_is) (As := [xI 41]) (S := []) (L0 := [xR 53, xI 41]) (hI := d_M_isQuestion_25) (hK := k_M_is) (hlk := w_2322) (hnoM := rfl) (hS8 := Nat.le_of_ble_eq_true rfl) (ci := 11) (N := 38) (C := "BeaconIndexModel") (T := xF11) (hc := rfl) (hci := Nat.le_of_ble_eq_true rfl) (htb := (ft_53 F)) (hinst := w_2324) (hsel := sel_M_is) (hlen := Nat.le_of_ble_eq_true rfl) (hst := rfl) (hL0 := rfl)  hyp
    · replace hyp := hyp.1 q9
      have q2_ := q9
      clear q9
      refine xr_sipush (pc := 17) (hI := d_M_isQuestion_17) (hr := by decide) (hv := by decide) ?_
      refine xr_goto (pc := 20) (tgt := 25) (hI := d_M_isQuestion_20) (ht := by decide) ?_
      exact xq_callV (pc := 25) (index := 261) (K := m_M_is) (As := [xI 400]) (S := []) (L0 := [xR 53, xI 400]) (hI := d_M_isQuestion_25) (hK := k_M_is) (hlk := w_2322) (hnoM := rfl) (hS8 := Nat.le_of_ble_eq_true rfl) (ci := 11) (N := 38) (C := "BeaconIndexModel") (T := xF11) (hc := rfl) (hci := Nat.le_of_ble_eq_true rfl) (htb := (ft_53 F)) (hinst := w_2324) (hsel := sel_M_is) (hlen := Nat.le_of_ble_eq_true rfl) (hst := rfl) (hL0 := rfl)  hyp
  · replace hyp := hyp.1 q9
    have q1_ := q9
    clear q9
    refine xr_iconst (pc := 9) (hI := d_M_isQuestion_9) (hr := by decide) ?_
    refine xr_ireturnT (S := []) (pc := 10) (hI := d_M_isQuestion_10) (hr := rfl) (xnar_z (by decide)) ?_
    exact hyp
theorem d_M_isQuestion_28 : decode prog_14_method_50_code 28 = .ok (.ifCond .eq (-28), 3) := by decide +kernel
theorem d_M_isQuestion_31 : decode prog_14_method_50_code 31 = .ok (.iconst 1, 1) := by decide +kernel
theorem d_M_isQuestion_32 : decode prog_14_method_50_code 32 = .ok (.ireturn, 1) := by decide +kernel
theorem v_M_isQuestion_28 {G : XG} {d : Nat} {h : XH} {Q : XV → XH → Prop} {X : Nat → XH → Prop} {x1 x2 s0 : Int} (F : xFix h) (hyp : ((s0 = 0 → (xwp G m_M_isQuestion (d + 11) 0 [xR 53, xI x1, xI x2] [] h Q X)) ∧ (¬ s0 = 0 → (Q (xI 1) h)))) : xwp G m_M_isQuestion (d + 11) 28 [xR 53, xI x1, xI x2] [xI s0] h Q X := by
  have hnx9 : (93 : Int) ≤ xnx h := F.2.2
  refine xr_okL (fun hl9 => ?_)
  have r_x1 : -2147483648 ≤ x1 ∧ x1 ≤ 2147483647 := hl9 (xI x1) (.tail _ (.head _)) (Nat.le_of_ble_eq_true rfl)
  have r_x2 : -2147483648 ≤ x2 ∧ x2 ≤ 2147483647 := hl9 (xI x2) (.tail _ (.tail _ (.head _))) (Nat.le_of_ble_eq_true rfl)
  refine xr_okS (fun hs9 => ?_)
  have r_s0 : -2147483648 ≤ s0 ∧ s0 ≤ 2147483647 := hs9 (xI s0) (.head _)
  refine xr_if_eq (pc := 28) (tgt := 0) (hI := d_M_isQuestion_28) (ht := by decide) (fun q9 => ?_) (fun q9 => ?_)
  · replace hyp := hyp.1 q9
    have q1_ := q9
    clear q9
    exact hyp
  · replace hyp := hyp.2 q9
    have q1_ := q9
    clear q9
    refine xr_iconst (pc := 31) (hI := d_M_isQuestion_31) (hr := by decide) ?_
    refine xr_ireturnT (S := []) (pc := 32) (hI := d_M_isQuestion_32) (hr := rfl) (xnar_z (by decide)) ?_
    exact hyp
theorem d_M_isPart_0 : decode prog_14_method_51_code 0 = .ok (.aload_n 0, 1) := by decide +kernel
theorem d_M_isPart_1 : decode prog_14_method_51_code 1 = .ok (.getfield 55, 3) := by decide +kernel
theorem w_1607 : Cond.fieldLink "BeaconIndexModel" 55 "BeaconIndexModel" "reading" "LBeaconIndexModel$Question;" ∈ lw_tbl := List.mem_append_right _ (List.mem_of_getElem? (i := 1607) (by decide +kernel))
theorem d_M_isPart_4 : decode prog_14_method_51_code 4 = .ok (.getfield 271, 3) := by decide +kernel
theorem w_1536 : Cond.fieldLinkNest "BeaconIndexModel" 271 "BeaconIndexModel$Question" "parts" "I" "BeaconIndexModel" ∈ lw_tbl := List.mem_append_right _ (List.mem_of_getElem? (i := 1536) (by decide +kernel))
theorem d_M_isPart_7 : decode prog_14_method_51_code 7 = .ok (.istore_n 3, 1) := by decide +kernel
theorem d_M_isPart_8 : decode prog_14_method_51_code 8 = .ok (.aload_n 0, 1) := by decide +kernel
theorem d_M_isPart_9 : decode prog_14_method_51_code 9 = .ok (.getfield 55, 3) := by decide +kernel
theorem d_M_isPart_12 : decode prog_14_method_51_code 12 = .ok (.dup, 1) := by decide +kernel
theorem d_M_isPart_13 : decode prog_14_method_51_code 13 = .ok (.getfield 271, 3) := by decide +kernel
theorem d_M_isPart_16 : decode prog_14_method_51_code 16 = .ok (.iconst 1, 1) := by decide +kernel
theorem d_M_isPart_17 : decode prog_14_method_51_code 17 = .ok (.iadd, 1) := by decide +kernel
theorem d_M_isPart_18 : decode prog_14_method_51_code 18 = .ok (.putfield 271, 3) := by decide +kernel
theorem xtk_12_0 : xfTK 12 0 = true := by decide +kernel
theorem d_M_isPart_21 : decode prog_14_method_51_code 21 = .ok (.aload_n 0, 1) := by decide +kernel
theorem d_M_isPart_22 : decode prog_14_method_51_code 22 = .ok (.getfield 55, 3) := by decide +kernel
theorem d_M_isPart_25 : decode prog_14_method_51_code 25 = .ok (.getfield 274, 3) := by decide +kernel
theorem w_1538 : Cond.fieldLinkNest "BeaconIndexModel" 274 "BeaconIndexModel$Question" "inside" "[I" "BeaconIndexModel" ∈ lw_tbl := List.mem_append_right _ (List.mem_of_getElem? (i := 1538) (by decide +kernel))
theorem d_M_isPart_28 : decode prog_14_method_51_code 28 = .ok (.iload_n 3, 1) := by decide +kernel
theorem d_M_isPart_29 : decode prog_14_method_51_code 29 = .ok (.iload_n 1, 1) := by decide +kernel
theorem d_M_isPart_30 : decode prog_14_method_51_code 30 = .ok (.iastore, 1) := by decide +kernel
theorem d_M_isPart_31 : decode prog_14_method_51_code 31 = .ok (.aload_n 0, 1) := by decide +kernel
theorem d_M_isPart_32 : decode prog_14_method_51_code 32 = .ok (.getfield 55, 3) := by decide +kernel
theorem d_M_isPart_35 : decode prog_14_method_51_code 35 = .ok (.getfield 277, 3) := by decide +kernel
theorem w_1542 : Cond.fieldLinkNest "BeaconIndexModel" 277 "BeaconIndexModel$Question" "times" "[I" "BeaconIndexModel" ∈ lw_tbl := List.mem_append_right _ (List.mem_of_getElem? (i := 1542) (by decide +kernel))
theorem d_M_isPart_38 : decode prog_14_method_51_code 38 = .ok (.iload_n 3, 1) := by decide +kernel
theorem d_M_isPart_39 : decode prog_14_method_51_code 39 = .ok (.iconst 1, 1) := by decide +kernel
theorem d_M_isPart_40 : decode prog_14_method_51_code 40 = .ok (.iastore, 1) := by decide +kernel
theorem d_M_isPart_41 : decode prog_14_method_51_code 41 = .ok (.aload_n 0, 1) := by decide +kernel
theorem d_M_isPart_42 : decode prog_14_method_51_code 42 = .ok (.getfield 55, 3) := by decide +kernel
theorem d_M_isPart_45 : decode prog_14_method_51_code 45 = .ok (.getfield 279, 3) := by decide +kernel
theorem w_1544 : Cond.fieldLinkNest "BeaconIndexModel" 279 "BeaconIndexModel$Question" "field" "[I" "BeaconIndexModel" ∈ lw_tbl := List.mem_append_right _ (List.mem_of_getElem? (i := 1544) (by decide +kernel))
theorem d_M_isPart_48 : decode prog_14_method_51_code 48 = .ok (.iload_n 3, 1) := by decide +kernel
theorem d_M_isPart_49 : decode prog_14_method_51_code 49 = .ok (.iload_n 2, 1) := by decide +kernel
theorem d_M_isPart_50 : decode prog_14_method_51_code 50 = .ok (.iastore, 1) := by decide +kernel
theorem d_M_isPart_51 : decode prog_14_method_51_code 51 = .ok (.aload_n 0, 1) := by decide +kernel
theorem d_M_isPart_52 : decode prog_14_method_51_code 52 = .ok (.getfield 55, 3) := by decide +kernel
theorem d_M_isPart_55 : decode prog_14_method_51_code 55 = .ok (.getfield 282, 3) := by decide +kernel
theorem w_1548 : Cond.fieldLinkNest "BeaconIndexModel" 282 "BeaconIndexModel$Question" "from" "[I" "BeaconIndexModel" ∈ lw_tbl := List.mem_append_right _ (List.mem_of_getElem? (i := 1548) (by decide +kernel))
theorem d_M_isPart_58 : decode prog_14_method_51_code 58 = .ok (.iload_n 3, 1) := by decide +kernel
theorem d_M_isPart_59 : decode prog_14_method_51_code 59 = .ok (.aload_n 0, 1) := by decide +kernel
theorem d_M_isPart_60 : decode prog_14_method_51_code 60 = .ok (.getfield 55, 3) := by decide +kernel
theorem d_M_isPart_63 : decode prog_14_method_51_code 63 = .ok (.getfield 283, 3) := by decide +kernel
theorem w_1555 : Cond.fieldLinkNest "BeaconIndexModel" 283 "BeaconIndexModel$Question" "size" "I" "BeaconIndexModel" ∈ lw_tbl := List.mem_append_right _ (List.mem_of_getElem? (i := 1555) (by decide +kernel))
theorem d_M_isPart_66 : decode prog_14_method_51_code 66 = .ok (.iastore, 1) := by decide +kernel
theorem d_M_isPart_67 : decode prog_14_method_51_code 67 = .ok (.aload_n 0, 1) := by decide +kernel
theorem d_M_isPart_68 : decode prog_14_method_51_code 68 = .ok (.bipush 43, 2) := by decide +kernel
theorem d_M_isPart_70 : decode prog_14_method_51_code 70 = .ok (.invokevirtual 261, 3) := by decide +kernel
theorem v_M_isPart_0 {G : XG} {d : Nat} {h : XH} {Q : XV → XH → Prop} {X : Nat → XH → Prop} {x1 x2 : Int} (F : xFix h) (hyp : xtg h (xpl h 53 20) = 12 ∧ xiR ((xpl h (xpl h 53 20) 0) + 1) ∧ 0 ≤ (xpl h 53 20) ∧ xtg h (xpl h (xpl h 53 20) 1) = 100 ∧ 0 ≤ (xpl h (xpl h 53 20) 1) ∧ 0 ≤ (xpl h (xpl h 53 20) 0) ∧ (xpl h (xpl h 53 20) 0) < (xln h (xpl h (xpl h 53 20) 1)) ∧ xtg h (xpl h (xpl h 53 20) 3) = 100 ∧ 0 ≤ (xpl h (xpl h 53 20) 3) ∧ (xpl h (xpl h 53 20) 0) < (xln h (xpl h (xpl h 53 20) 3)) ∧ xtg h (xpl h (xpl h 53 20) 4) = 100 ∧ 0 ≤ (xpl h (xpl h 53 20) 4) ∧ (xpl h (xpl h 53 20) 0) < (xln h (xpl h (xpl h 53 20) 4)) ∧ xtg h (xpl h (xpl h 53 20) 6) = 100 ∧ 0 ≤ (xpl h (xpl h 53 20) 6) ∧ (xpl h (xpl h 53 20) 0) < (xln h (xpl h (xpl h 53 20) 6)) ∧ (xFix (xst (xst (xst (xst (xst h (xpl h 53 20) 0 ((xpl h (xpl h 53 20) 0) + 1)) (xpl h (xpl h 53 20) 1) (xpl h (xpl h 53 20) 0) x1) (xpl h (xpl h 53 20) 3) (xpl h (xpl h 53 20) 0) 1) (xpl h (xpl h 53 20) 4) (xpl h (xpl h 53 20) 0) x2) (xpl h (xpl h 53 20) 6) (xpl h (xpl h 53 20) 0) (xpl h (xpl h 53 20) 10)) → xwp G m_M_is (d + 9) 0 [xR 53, xI 43] [] (xst (xst (xst (xst (xst h (xpl h 53 20) 0 ((xpl h (xpl h 53 20) 0) + 1)) (xpl h (xpl h 53 20) 1) (xpl h (xpl h 53 20) 0) x1) (xpl h (xpl h 53 20) 3) (xpl h (xpl h 53 20) 0) 1) (xpl h (xpl h 53 20) 4) (xpl h (xpl h 53 20) 0) x2) (xpl h (xpl h 53 20) 6) (xpl h (xpl h 53 20) 0) (xpl h (xpl h 53 20) 10)) (fun v9 h9 => xwp G m_M_isPart (d + 10) 73 [xR 53, xZ, xZ, xI (xpl h (xpl h 53 20) 0), xZ, xZ] (xpush v9 []) h9 Q X) X)) : xwp G m_M_isPart (d + 10) 0 [xR 53, xI x1, xI x2, xZ, xZ, xZ] [] h Q X := by
  have hnx9 : (93 : Int) ≤ xnx h := F.2.2
  refine xr_okL (fun hl9 => ?_)
  have r_x1 : -2147483648 ≤ x1 ∧ x1 ≤ 2147483647 := hl9 (xI x1) (.tail _ (.head _)) (Nat.le_of_ble_eq_true rfl)
  have r_x2 : -2147483648 ≤ x2 ∧ x2 ≤ 2147483647 := hl9 (xI x2) (.tail _ (.tail _ (.head _))) (Nat.le_of_ble_eq_true rfl)
  refine xr_aload_n (pc := 0) (i := 0) (hI := d_M_isPart_0) (hi := rfl) (hl := rfl) ?_
  refine xg_getf (pc := 1) (ci := 11) (k := 20) (N := 38) (v9 := 2) (v := (xpl h 53 20)) (T := xF11) (hI := d_M_isPart_1) (hw := w_1607) rfl xi11 (Or.inl rfl) (Nat.le_of_ble_eq_true rfl) (Nat.le_of_ble_eq_true rfl) rfl (ft_53 F) rfl (fun f1_ => ?_)
  clear f1_
  obtain ⟨c9, hyp⟩ := hyp
  have t2_ := c9
  clear c9
  refine xg_getfN (pc := 4) (ci := 12) (k := 0) (N := 13) (v9 := 0) (v := (xpl h (xpl h 53 20) 0)) (T := xF12) (hI := d_M_isPart_4) (hw := w_1536) rfl xi12 (Or.inl rfl) (Nat.le_of_ble_eq_true rfl) (Nat.le_of_ble_eq_true rfl) rfl t2_ rfl (fun f3_ => ?_)
  replace f3_ : -2147483648 ≤ (xpl h (xpl h 53 20) 0) ∧ (xpl h (xpl h 53 20) 0) ≤ 2147483647 := f3_
  refine xr_istore_n (pc := 7) (i := 3) (L9 := [xR 53, xI x1, xI x2, xI (xpl h (xpl h 53 20) 0), xZ, xZ]) (hI := d_M_isPart_7) (hi := rfl) (hn := Nat.le_of_ble_eq_true rfl) (hL9 := rfl) ?_
  refine xr_aload_n (pc := 8) (i := 0) (hI := d_M_isPart_8) (hi := rfl) (hl := rfl) ?_
  refine xg_getf (pc := 9) (ci := 11) (k := 20) (N := 38) (v9 := 2) (v := (xpl h 53 20)) (T := xF11) (hI := d_M_isPart_9) (hw := w_1607) rfl xi11 (Or.inl rfl) (Nat.le_of_ble_eq_true rfl) (Nat.le_of_ble_eq_true rfl) rfl (ft_53 F) rfl (fun f4_ => ?_)
  clear f4_
  refine xr_dup (pc := 12) (hI := d_M_isPart_12) (hv := rfl) ?_
  refine xg_getfN (pc := 13) (ci := 12) (k := 0) (N := 13) (v9 := 0) (v := (xpl h (xpl h 53 20) 0)) (T := xF12) (hI := d_M_isPart_13) (hw := w_1536) rfl xi12 (Or.inl rfl) (Nat.le_of_ble_eq_true rfl) (Nat.le_of_ble_eq_true rfl) rfl t2_ rfl (fun f5_ => ?_)
  replace f5_ : -2147483648 ≤ (xpl h (xpl h 53 20) 0) ∧ (xpl h (xpl h 53 20) 0) ≤ 2147483647 := f5_
  refine xr_iconst (pc := 16) (hI := d_M_isPart_16) (hr := by decide) ?_
  obtain ⟨c9, hyp⟩ := hyp
  refine xr_iadd (pc := 17) (hI := d_M_isPart_17) (hr := c9) ?_
  obtain ⟨c6_, hyp⟩ := hyp
  refine xr_putfN (pc := 18) (ci := 12) (k := 0) (N := 13) (v9 := 0) (T := xF12) (tF := xT12) (hI := d_M_isPart_18) (hw := w_1536) rfl xi12 xt12 xn12 (Or.inl rfl) (Nat.le_of_ble_eq_true rfl) (Nat.le_of_ble_eq_true rfl) rfl xfit_i rfl t2_ c6_ (fun z => z) ?_
  have F7_ : xFix (xst h (xpl h 53 20) 0 ((xpl h (xpl h 53 20) 0) + 1)) := F.stT (t := 12) c6_ t2_ xtk_12_0
  refine xr_aload_n (pc := 21) (i := 0) (hI := d_M_isPart_21) (hi := rfl) (hl := rfl) ?_
  refine xg_getf (pc := 22) (ci := 11) (k := 20) (N := 38) (v9 := 2) (v := (xpl h 53 20)) (T := xF11) (hI := d_M_isPart_22) (hw := w_1607) rfl xi11 (Or.inl rfl) (Nat.le_of_ble_eq_true rfl) (Nat.le_of_ble_eq_true rfl) rfl (ft_53 F7_) (xpl_oa (xne_tag (have z9 := (ft_53 F7_); z9) t2_ (by decide))) (fun f8_ => ?_)
  clear f8_
  refine xg_getfN (pc := 25) (ci := 12) (k := 1) (N := 13) (v9 := 2) (v := (xpl h (xpl h 53 20) 1)) (T := xF12) (hI := d_M_isPart_25) (hw := w_1538) rfl xi12 (Or.inl rfl) (Nat.le_of_ble_eq_true rfl) (Nat.le_of_ble_eq_true rfl) rfl t2_ (xpl_ok (by decide)) (fun f9_ => ?_)
  clear f9_
  refine xr_iload_n (pc := 28) (i := 3) (hI := d_M_isPart_28) (hi := rfl) (hl := rfl) ?_
  refine xr_iload_n (pc := 29) (i := 1) (hI := d_M_isPart_29) (hi := rfl) (hl := rfl) ?_
  obtain ⟨c9, hyp⟩ := hyp
  have t10_ := c9
  clear c9
  obtain ⟨c11_, hyp⟩ := hyp
  obtain ⟨c12_, hyp⟩ := hyp
  obtain ⟨c13_, hyp⟩ := hyp
  refine xr_iastore (pc := 30) (hI := d_M_isPart_30) t10_ c11_ c12_ (xlt_of (show xln (xst h (xpl h 53 20) 0 ((xpl h (xpl h 53 20) 0) + 1)) (xpl h (xpl h 53 20) 1) = xln h (xpl h (xpl h 53 20) 1) from rfl) c13_) ?_
  have F14_ : xFix (xst (xst h (xpl h 53 20) 0 ((xpl h (xpl h 53 20) 0) + 1)) (xpl h (xpl h 53 20) 1) (xpl h (xpl h 53 20) 0) x1) := F7_.stTA (t := 100) c11_ t10_ xta_100
  refine xr_aload_n (pc := 31) (i := 0) (hI := d_M_isPart_31) (hi := rfl) (hl := rfl) ?_
  refine xg_getf (pc := 32) (ci := 11) (k := 20) (N := 38) (v9 := 2) (v := (xpl h 53 20)) (T := xF11) (hI := d_M_isPart_32) (hw := w_1607) rfl xi11 (Or.inl rfl) (Nat.le_of_ble_eq_true rfl) (Nat.le_of_ble_eq_true rfl) rfl (ft_53 F14_) (Eq.trans (xpl_oa (xne_tag (have z9 := (ft_53 F14_); z9) t10_ (by decide))) (xpl_oa (xne_tag (have z9 := (ft_53 F14_); z9) t2_ (by decide)))) (fun f15_ => ?_)
  clear f15_
  refine xg_getfN (pc := 35) (ci := 12) (k := 3) (N := 13) (v9 := 2) (v := (xpl h (xpl h 53 20) 3)) (T := xF12) (hI := d_M_isPart_35) (hw := w_1542) rfl xi12 (Or.inl rfl) (Nat.le_of_ble_eq_true rfl) (Nat.le_of_ble_eq_true rfl) rfl t2_ (Eq.trans (xpl_oa (xne_tag t2_ t10_ (by decide))) (xpl_ok (by decide))) (fun f16_ => ?_)
  clear f16_
  refine xr_iload_n (pc := 38) (i := 3) (hI := d_M_isPart_38) (hi := rfl) (hl := rfl) ?_
  refine xr_iconst (pc := 39) (hI := d_M_isPart_39) (hr := by decide) ?_
  obtain ⟨c9, hyp⟩ := hyp
  have t17_ := c9
  clear c9
  obtain ⟨c18_, hyp⟩ := hyp
  obtain ⟨c19_, hyp⟩ := hyp
  refine xr_iastore (pc := 40) (hI := d_M_isPart_40) t17_ c18_ (by clear hyp; omega) (xlt_of (show xln (xst (xst h (xpl h 53 20) 0 ((xpl h (xpl h 53 20) 0) + 1)) (xpl h (xpl h 53 20) 1) (xpl h (xpl h 53 20) 0) x1) (xpl h (xpl h 53 20) 3) = xln h (xpl h (xpl h 53 20) 3) from rfl) c19_) ?_
  have F20_ : xFix (xst (xst (xst h (xpl h 53 20) 0 ((xpl h (xpl h 53 20) 0) + 1)) (xpl h (xpl h 53 20) 1) (xpl h (xpl h 53 20) 0) x1) (xpl h (xpl h 53 20) 3) (xpl h (xpl h 53 20) 0) 1) := F14_.stTA (t := 100) c18_ t17_ xta_100
  refine xr_aload_n (pc := 41) (i := 0) (hI := d_M_isPart_41) (hi := rfl) (hl := rfl) ?_
  refine xg_getf (pc := 42) (ci := 11) (k := 20) (N := 38) (v9 := 2) (v := (xpl h 53 20)) (T := xF11) (hI := d_M_isPart_42) (hw := w_1607) rfl xi11 (Or.inl rfl) (Nat.le_of_ble_eq_true rfl) (Nat.le_of_ble_eq_true rfl) rfl (ft_53 F20_) (Eq.trans (xpl_oa (xne_tag (have z9 := (ft_53 F20_); z9) t17_ (by decide))) (Eq.trans (xpl_oa (xne_tag (have z9 := (ft_53 F20_); z9) t10_ (by decide))) (xpl_oa (xne_tag (have z9 := (ft_53 F20_); z9) t2_ (by decide))))) (fun f21_ => ?_)
  clear f21_
  refine xg_getfN (pc := 45) (ci := 12) (k := 4) (N := 13) (v9 := 2) (v := (xpl h (xpl h 53 20) 4)) (T := xF12) (hI := d_M_isPart_45) (hw := w_1544) rfl xi12 (Or.inl rfl) (Nat.le_of_ble_eq_true rfl) (Nat.le_of_ble_eq_true rfl) rfl t2_ (Eq.trans (xpl_oa (xne_tag t2_ t17_ (by decide))) (Eq.trans (xpl_oa (xne_tag t2_ t10_ (by decide))) (xpl_ok (by decide)))) (fun f22_ => ?_)
  clear f22_
  refine xr_iload_n (pc := 48) (i := 3) (hI := d_M_isPart_48) (hi := rfl) (hl := rfl) ?_
  refine xr_iload_n (pc := 49) (i := 2) (hI := d_M_isPart_49) (hi := rfl) (hl := rfl) ?_
  obtain ⟨c9, hyp⟩ := hyp
  have t23_ := c9
  clear c9
  obtain ⟨c24_, hyp⟩ := hyp
  obtain ⟨c25_, hyp⟩ := hyp
  refine xr_iastore (pc := 50) (hI := d_M_isPart_50) t23_ c24_ (by clear hyp; omega) (xlt_of (show xln (xst (xst (xst h (xpl h 53 20) 0 ((xpl h (xpl h 53 20) 0) + 1)) (xpl h (xpl h 53 20) 1) (xpl h (xpl h 53 20) 0) x1) (xpl h (xpl h 53 20) 3) (xpl h (xpl h 53 20) 0) 1) (xpl h (xpl h 53 20) 4) = xln h (xpl h (xpl h 53 20) 4) from rfl) c25_) ?_
  have F26_ : xFix (xst (xst (xst (xst h (xpl h 53 20) 0 ((xpl h (xpl h 53 20) 0) + 1)) (xpl h (xpl h 53 20) 1) (xpl h (xpl h 53 20) 0) x1) (xpl h (xpl h 53 20) 3) (xpl h (xpl h 53 20) 0) 1) (xpl h (xpl h 53 20) 4) (xpl h (xpl h 53 20) 0) x2) := F20_.stTA (t := 100) c24_ t23_ xta_100
  refine xr_aload_n (pc := 51) (i := 0) (hI := d_M_isPart_51) (hi := rfl) (hl := rfl) ?_
  refine xg_getf (pc := 52) (ci := 11) (k := 20) (N := 38) (v9 := 2) (v := (xpl h 53 20)) (T := xF11) (hI := d_M_isPart_52) (hw := w_1607) rfl xi11 (Or.inl rfl) (Nat.le_of_ble_eq_true rfl) (Nat.le_of_ble_eq_true rfl) rfl (ft_53 F26_) (Eq.trans (xpl_oa (xne_tag (have z9 := (ft_53 F26_); z9) t23_ (by decide))) (Eq.trans (xpl_oa (xne_tag (have z9 := (ft_53 F26_); z9) t17_ (by decide))) (Eq.trans (xpl_oa (xne_tag (have z9 := (ft_53 F26_); z9) t10_ (by decide))) (xpl_oa (xne_tag (have z9 := (ft_53 F26_); z9) t2_ (by decide)))))) (fun f27_ => ?_)
  clear f27_
  refine xg_getfN (pc := 55) (ci := 12) (k := 6) (N := 13) (v9 := 2) (v := (xpl h (xpl h 53 20) 6)) (T := xF12) (hI := d_M_isPart_55) (hw := w_1548) rfl xi12 (Or.inl rfl) (Nat.le_of_ble_eq_true rfl) (Nat.le_of_ble_eq_true rfl) rfl t2_ (Eq.trans (xpl_oa (xne_tag t2_ t23_ (by decide))) (Eq.trans (xpl_oa (xne_tag t2_ t17_ (by decide))) (Eq.trans (xpl_oa (xne_tag t2_ t10_ (by decide))) (xpl_ok (by decide))))) (fun f28_ => ?_)
  clear f28_
  refine xr_iload_n (pc := 58) (i := 3) (hI := d_M_isPart_58) (hi := rfl) (hl := rfl) ?_
  refine xr_aload_n (pc := 59) (i := 0) (hI := d_M_isPart_59) (hi := rfl) (hl := rfl) ?_
  refine xg_getf (pc := 60) (ci := 11) (k := 20) (N := 38) (v9 := 2) (v := (xpl h 53 20)) (T := xF11) (hI := d_M_isPart_60) (hw := w_1607) rfl xi11 (Or.inl rfl) (Nat.le_of_ble_eq_true rfl) (Nat.le_of_ble_eq_true rfl) rfl (ft_53 F26_) (Eq.trans (xpl_oa (xne_tag (have z9 := (ft_53 F26_); z9) t23_ (by decide))) (Eq.trans (xpl_oa (xne_tag (have z9 := (ft_53 F26_); z9) t17_ (by decide))) (Eq.trans (xpl_oa (xne_tag (have z9 := (ft_53 F26_); z9) t10_ (by decide))) (xpl_oa (xne_tag (have z9 := (ft_53 F26_); z9) t2_ (by decide)))))) (fun f29_ => ?_)
  clear f29_
  refine xg_getfN (pc := 63) (ci := 12) (k := 10) (N := 13) (v9 := 0) (v := (xpl h (xpl h 53 20) 10)) (T := xF12) (hI := d_M_isPart_63) (hw := w_1555) rfl xi12 (Or.inl rfl) (Nat.le_of_ble_eq_true rfl) (Nat.le_of_ble_eq_true rfl) rfl t2_ (Eq.trans (xpl_oa (xne_tag t2_ t23_ (by decide))) (Eq.trans (xpl_oa (xne_tag t2_ t17_ (by decide))) (Eq.trans (xpl_oa (xne_tag t2_ t10_ (by decide))) (xpl_ok (by decide))))) (fun f30_ => ?_)
  replace f30_ : -2147483648 ≤ (xpl h (xpl h 53 20) 10) ∧ (xpl h (xpl h 53 20) 10) ≤ 2147483647 := f30_
  obtain ⟨c9, hyp⟩ := hyp
  have t31_ := c9
  clear c9
  obtain ⟨c32_, hyp⟩ := hyp
  obtain ⟨c33_, hyp⟩ := hyp
  refine xr_iastore (pc := 66) (hI := d_M_isPart_66) t31_ c32_ (by clear hyp; omega) (xlt_of (show xln (xst (xst (xst (xst h (xpl h 53 20) 0 ((xpl h (xpl h 53 20) 0) + 1)) (xpl h (xpl h 53 20) 1) (xpl h (xpl h 53 20) 0) x1) (xpl h (xpl h 53 20) 3) (xpl h (xpl h 53 20) 0) 1) (xpl h (xpl h 53 20) 4) (xpl h (xpl h 53 20) 0) x2) (xpl h (xpl h 53 20) 6) = xln h (xpl h (xpl h 53 20) 6) from rfl) c33_) ?_
  have F34_ : xFix (xst (xst (xst (xst (xst h (xpl h 53 20) 0 ((xpl h (xpl h 53 20) 0) + 1)) (xpl h (xpl h 53 20) 1) (xpl h (xpl h 53 20) 0) x1) (xpl h (xpl h 53 20) 3) (xpl h (xpl h 53 20) 0) 1) (xpl h (xpl h 53 20) 4) (xpl h (xpl h 53 20) 0) x2) (xpl h (xpl h 53 20) 6) (xpl h (xpl h 53 20) 0) (xpl h (xpl h 53 20) 10)) := F26_.stTA (t := 100) c32_ t31_ xta_100
  refine xr_aload_n (pc := 67) (i := 0) (hI := d_M_isPart_67) (hi := rfl) (hl := rfl) ?_
  refine xr_bipush (pc := 68) (hI := d_M_isPart_68) (hr := by decide) (hv := by decide) ?_
  exact xq_callV (pc := 70) (index := 261) (K := m_M_is) (As := [xI 43]) (S := []) (L0 := [xR 53, xI 43]) (hI := d_M_isPart_70) (hK := k_M_is) (hlk := w_2322) (hnoM := rfl) (hS8 := Nat.le_of_ble_eq_true rfl) (ci := 11) (N := 38) (C := "BeaconIndexModel") (T := xF11) (hc := rfl) (hci := Nat.le_of_ble_eq_true rfl) (htb := (ft_53 F34_)) (hinst := w_2324) (hsel := sel_M_is) (hlen := Nat.le_of_ble_eq_true rfl) (hst := rfl) (hL0 := rfl)  (xwp_mono (hyp F34_) (fun v9 h9 q9 => xr_drop (L9 := [xR 53, xZ, xZ, xI (xpl h (xpl h 53 20) 0), xZ, xZ]) (xdrs (xdrz (xdrz (xdrs (xdrs (xdrs xdr0)))))) q9) (fun _ _ z9 => z9))
theorem d_M_isPart_73 : decode prog_14_method_51_code 73 = .ok (.ifCond .ne 12, 3) := by decide +kernel
theorem d_M_isPart_76 : decode prog_14_method_51_code 76 = .ok (.aload_n 0, 1) := by decide +kernel
theorem d_M_isPart_77 : decode prog_14_method_51_code 77 = .ok (.bipush 45, 2) := by decide +kernel
theorem d_M_isPart_79 : decode prog_14_method_51_code 79 = .ok (.invokevirtual 261, 3) := by decide +kernel
theorem v_M_isPart_73 {G : XG} {d : Nat} {h : XH} {Q : XV → XH → Prop} {X : Nat → XH → Prop} {x3 s0 : Int} (F : xFix h) (hyp : ((s0 = 0 → (xwp G m_M_is (d + 9) 0 [xR 53, xI 45] [] h (fun v9 h9 => xwp G m_M_isPart (d + 10) 82 [xR 53, xZ, xZ, xI x3, xZ, xZ] (xpush v9 []) h9 Q X) X)) ∧ (¬ s0 = 0 → (xwp G m_M_isPart (d + 10) 85 [xR 53, xZ, xZ, xI x3, xZ, xZ] [] h Q X)))) : xwp G m_M_isPart (d + 10) 73 [xR 53, xZ, xZ, xI x3, xZ, xZ] [xI s0] h Q X := by
  have hnx9 : (93 : Int) ≤ xnx h := F.2.2
  refine xr_okL (fun hl9 => ?_)
  have r_x3 : -2147483648 ≤ x3 ∧ x3 ≤ 2147483647 := hl9 (xI x3) (.tail _ (.tail _ (.tail _ (.head _)))) (Nat.le_of_ble_eq_true rfl)
  refine xr_okS (fun hs9 => ?_)
  have r_s0 : -2147483648 ≤ s0 ∧ s0 ≤ 2147483647 := hs9 (xI s0) (.head _)
  refine xr_if_ne (pc := 73) (tgt := 85) (hI := d_M_isPart_73) (ht := by decide) (fun q9 => ?_) (fun q9 => ?_)
  · replace hyp := hyp.2 q9
    have q1_ := q9
    clear q9
    exact hyp
  · replace hyp := hyp.1 q9
    have q1_ := q9
    clear q9
    refine xr_aload_n (pc := 76) (i := 0) (hI := d_M_isPart_76) (hi := rfl) (hl := rfl) ?_
    refine xr_bipush (pc := 77) (hI := d_M_isPart_77) (hr := by decide) (hv := by decide) ?_
    exact xq_callV (pc := 79) (index := 261) (K := m_M_is) (As := [xI 45]) (S := []) (L0 := [xR 53, xI 45]) (hI := d_M_isPart_79) (hK := k_M_is) (hlk := w_2322) (hnoM := rfl) (hS8 := Nat.le_of_ble_eq_true rfl) (ci := 11) (N := 38) (C := "BeaconIndexModel") (T := xF11) (hc := rfl) (hci := Nat.le_of_ble_eq_true rfl) (htb := (ft_53 F)) (hinst := w_2324) (hsel := sel_M_is) (hlen := Nat.le_of_ble_eq_true rfl) (hst := rfl) (hL0 := rfl)  hyp
theorem d_M_isPart_82 : decode prog_14_method_51_code 82 = .ok (.ifCond .eq 31, 3) := by decide +kernel
theorem d_M_isPart_113 : decode prog_14_method_51_code 113 = .ok (.aload_n 0, 1) := by decide +kernel
theorem d_M_isPart_114 : decode prog_14_method_51_code 114 = .ok (.sipush 300, 3) := by decide +kernel
theorem d_M_isPart_117 : decode prog_14_method_51_code 117 = .ok (.invokevirtual 261, 3) := by decide +kernel
theorem v_M_isPart_82 {G : XG} {d : Nat} {h : XH} {Q : XV → XH → Prop} {X : Nat → XH → Prop} {x3 s0 : Int} (F : xFix h) (hyp : ((s0 = 0 → (xwp G m_M_is (d + 9) 0 [xR 53, xI 300] [] h (fun v9 h9 => xwp G m_M_isPart (d + 10) 120 [xR 53, xZ, xZ, xI x3, xZ, xZ] (xpush v9 []) h9 Q X) X)) ∧ (¬ s0 = 0 → (xwp G m_M_isPart (d + 10) 85 [xR 53, xZ, xZ, xI x3, xZ, xZ] [] h Q X)))) : xwp G m_M_isPart (d + 10) 82 [xR 53, xZ, xZ, xI x3, xZ, xZ] [xI s0] h Q X := by
  have hnx9 : (93 : Int) ≤ xnx h := F.2.2
  refine xr_okL (fun hl9 => ?_)
  have r_x3 : -2147483648 ≤ x3 ∧ x3 ≤ 2147483647 := hl9 (xI x3) (.tail _ (.tail _ (.tail _ (.head _)))) (Nat.le_of_ble_eq_true rfl)
  refine xr_okS (fun hs9 => ?_)
  have r_s0 : -2147483648 ≤ s0 ∧ s0 ≤ 2147483647 := hs9 (xI s0) (.head _)
  refine xr_if_eq (pc := 82) (tgt := 113) (hI := d_M_isPart_82) (ht := by decide) (fun q9 => ?_) (fun q9 => ?_)
  · replace hyp := hyp.1 q9
    have q1_ := q9
    clear q9
    refine xr_aload_n (pc := 113) (i := 0) (hI := d_M_isPart_113) (hi := rfl) (hl := rfl) ?_
    refine xr_sipush (pc := 114) (hI := d_M_isPart_114) (hr := by decide) (hv := by decide) ?_
    exact xq_callV (pc := 117) (index := 261) (K := m_M_is) (As := [xI 300]) (S := []) (L0 := [xR 53, xI 300]) (hI := d_M_isPart_117) (hK := k_M_is) (hlk := w_2322) (hnoM := rfl) (hS8 := Nat.le_of_ble_eq_true rfl) (ci := 11) (N := 38) (C := "BeaconIndexModel") (T := xF11) (hc := rfl) (hci := Nat.le_of_ble_eq_true rfl) (htb := (ft_53 F)) (hinst := w_2324) (hsel := sel_M_is) (hlen := Nat.le_of_ble_eq_true rfl) (hst := rfl) (hL0 := rfl)  hyp
  · replace hyp := hyp.2 q9
    have q1_ := q9
    clear q9
    exact hyp
theorem d_M_isPart_85 : decode prog_14_method_51_code 85 = .ok (.aload_n 0, 1) := by decide +kernel
theorem d_M_isPart_86 : decode prog_14_method_51_code 86 = .ok (.getfield 55, 3) := by decide +kernel
theorem d_M_isPart_89 : decode prog_14_method_51_code 89 = .ok (.getfield 284, 3) := by decide +kernel
theorem w_1540 : Cond.fieldLinkNest "BeaconIndexModel" 284 "BeaconIndexModel$Question" "sign" "[I" "BeaconIndexModel" ∈ lw_tbl := List.mem_append_right _ (List.mem_of_getElem? (i := 1540) (by decide +kernel))
theorem d_M_isPart_92 : decode prog_14_method_51_code 92 = .ok (.iload_n 3, 1) := by decide +kernel
theorem d_M_isPart_93 : decode prog_14_method_51_code 93 = .ok (.aload_n 0, 1) := by decide +kernel
theorem d_M_isPart_94 : decode prog_14_method_51_code 94 = .ok (.getfield 58, 3) := by decide +kernel
theorem d_M_isPart_97 : decode prog_14_method_51_code 97 = .ok (.aload_n 0, 1) := by decide +kernel
theorem d_M_isPart_98 : decode prog_14_method_51_code 98 = .ok (.getfield 258, 3) := by decide +kernel
theorem d_M_isPart_101 : decode prog_14_method_51_code 101 = .ok (.iaload, 1) := by decide +kernel
theorem d_M_isPart_102 : decode prog_14_method_51_code 102 = .ok (.iastore, 1) := by decide +kernel
theorem d_M_isPart_103 : decode prog_14_method_51_code 103 = .ok (.aload_n 0, 1) := by decide +kernel
theorem d_M_isPart_104 : decode prog_14_method_51_code 104 = .ok (.dup, 1) := by decide +kernel
theorem d_M_isPart_105 : decode prog_14_method_51_code 105 = .ok (.getfield 258, 3) := by decide +kernel
theorem d_M_isPart_108 : decode prog_14_method_51_code 108 = .ok (.iconst 1, 1) := by decide +kernel
theorem d_M_isPart_109 : decode prog_14_method_51_code 109 = .ok (.iadd, 1) := by decide +kernel
theorem d_M_isPart_110 : decode prog_14_method_51_code 110 = .ok (.putfield 258, 3) := by decide +kernel
theorem v_M_isPart_85 {G : XG} {d : Nat} {h : XH} {Q : XV → XH → Prop} {X : Nat → XH → Prop} {x3 : Int} (F : xFix h) (hyp : xtg h (xpl h 53 20) = 12 ∧ 0 ≤ (xpl h 53 24) ∧ (xpl h 53 24) < 41 ∧ xtg h (xpl h (xpl h 53 20) 2) = 100 ∧ 0 ≤ (xpl h (xpl h 53 20) 2) ∧ 0 ≤ x3 ∧ x3 < (xln h (xpl h (xpl h 53 20) 2)) ∧ (xFix (xst (xst h (xpl h (xpl h 53 20) 2) x3 (xpl h 78 (xpl h 53 24))) 53 24 ((xpl h 53 24) + 1)) → xwp G m_M_is (d + 9) 0 [xR 53, xI 300] [] (xst (xst h (xpl h (xpl h 53 20) 2) x3 (xpl h 78 (xpl h 53 24))) 53 24 ((xpl h 53 24) + 1)) (fun v9 h9 => xwp G m_M_isPart (d + 10) 120 [xR 53, xZ, xZ, xI x3, xZ, xZ] (xpush v9 []) h9 Q X) X)) : xwp G m_M_isPart (d + 10) 85 [xR 53, xZ, xZ, xI x3, xZ, xZ] [] h Q X := by
  have hnx9 : (93 : Int) ≤ xnx h := F.2.2
  refine xr_okL (fun hl9 => ?_)
  have r_x3 : -2147483648 ≤ x3 ∧ x3 ≤ 2147483647 := hl9 (xI x3) (.tail _ (.tail _ (.tail _ (.head _)))) (Nat.le_of_ble_eq_true rfl)
  refine xr_aload_n (pc := 85) (i := 0) (hI := d_M_isPart_85) (hi := rfl) (hl := rfl) ?_
  refine xg_getf (pc := 86) (ci := 11) (k := 20) (N := 38) (v9 := 2) (v := (xpl h 53 20)) (T := xF11) (hI := d_M_isPart_86) (hw := w_1607) rfl xi11 (Or.inl rfl) (Nat.le_of_ble_eq_true rfl) (Nat.le_of_ble_eq_true rfl) rfl (ft_53 F) rfl (fun f1_ => ?_)
  clear f1_
  obtain ⟨c9, hyp⟩ := hyp
  have t2_ := c9
  clear c9
  refine xg_getfN (pc := 89) (ci := 12) (k := 2) (N := 13) (v9 := 2) (v := (xpl h (xpl h 53 20) 2)) (T := xF12) (hI := d_M_isPart_89) (hw := w_1540) rfl xi12 (Or.inl rfl) (Nat.le_of_ble_eq_true rfl) (Nat.le_of_ble_eq_true rfl) rfl t2_ rfl (fun f3_ => ?_)
  clear f3_
  refine xr_iload_n (pc := 92) (i := 3) (hI := d_M_isPart_92) (hi := rfl) (hl := rfl) ?_
  refine xr_aload_n (pc := 93) (i := 0) (hI := d_M_isPart_93) (hi := rfl) (hl := rfl) ?_
  refine xg_getf (pc := 94) (ci := 11) (k := 21) (N := 38) (v9 := 2) (v := 78) (T := xF11) (hI := d_M_isPart_94) (hw := w_1608) rfl xi11 (Or.inl rfl) (Nat.le_of_ble_eq_true rfl) (Nat.le_of_ble_eq_true rfl) rfl (ft_53 F) (fp_53_21 F) (fun f4_ => ?_)
  clear f4_
  refine xr_aload_n (pc := 97) (i := 0) (hI := d_M_isPart_97) (hi := rfl) (hl := rfl) ?_
  refine xg_getf (pc := 98) (ci := 11) (k := 24) (N := 38) (v9 := 0) (v := (xpl h 53 24)) (T := xF11) (hI := d_M_isPart_98) (hw := w_1611) rfl xi11 (Or.inl rfl) (Nat.le_of_ble_eq_true rfl) (Nat.le_of_ble_eq_true rfl) rfl (ft_53 F) rfl (fun f5_ => ?_)
  replace f5_ : -2147483648 ≤ (xpl h 53 24) ∧ (xpl h 53 24) ≤ 2147483647 := f5_
  obtain ⟨c6_, hyp⟩ := hyp
  obtain ⟨c7_, hyp⟩ := hyp
  refine xg_iaload (pc := 101) (v := (xpl h 78 (xpl h 53 24))) (hI := d_M_isPart_101) (ft_78 F) c6_ (xlt_of (fl_78 F) c7_) rfl (fun f8_ => ?_)
  replace f8_ : -2147483648 ≤ (xpl h 78 (xpl h 53 24)) ∧ (xpl h 78 (xpl h 53 24)) ≤ 2147483647 := f8_
  obtain ⟨c9, hyp⟩ := hyp
  have t9_ := c9
  clear c9
  obtain ⟨c10_, hyp⟩ := hyp
  obtain ⟨c11_, hyp⟩ := hyp
  obtain ⟨c12_, hyp⟩ := hyp
  refine xr_iastore (pc := 102) (hI := d_M_isPart_102) t9_ c10_ c11_ (xlt_of rfl c12_) ?_
  have F13_ : xFix (xst h (xpl h (xpl h 53 20) 2) x3 (xpl h 78 (xpl h 53 24))) := F.stTA (t := 100) c10_ t9_ xta_100
  refine xr_aload_n (pc := 103) (i := 0) (hI := d_M_isPart_103) (hi := rfl) (hl := rfl) ?_
  refine xr_dup (pc := 104) (hI := d_M_isPart_104) (hv := rfl) ?_
  refine xg_getf (pc := 105) (ci := 11) (k := 24) (N := 38) (v9 := 0) (v := (xpl h 53 24)) (T := xF11) (hI := d_M_isPart_105) (hw := w_1611) rfl xi11 (Or.inl rfl) (Nat.le_of_ble_eq_true rfl) (Nat.le_of_ble_eq_true rfl) rfl (ft_53 F13_) (xpl_oa (xne_tag (have z9 := (ft_53 F13_); z9) t9_ (by decide))) (fun f14_ => ?_)
  replace f14_ : -2147483648 ≤ (xpl h 53 24) ∧ (xpl h 53 24) ≤ 2147483647 := f14_
  refine xr_iconst (pc := 108) (hI := d_M_isPart_108) (hr := by decide) ?_
  refine xr_iadd (pc := 109) (hI := d_M_isPart_109) (hr := ⟨by clear hyp; omega, by clear hyp; omega⟩) ?_
  refine xr_putf (pc := 110) (ci := 11) (k := 24) (N := 38) (v9 := 0) (T := xF11) (tF := xT11) (hI := d_M_isPart_110) (hw := w_1611) rfl xi11 xt11 xn11 (Or.inl rfl) (Nat.le_of_ble_eq_true rfl) (Nat.le_of_ble_eq_true rfl) rfl xfit_i rfl (ft_53 F13_) (by decide) (fun z => z) ?_
  have F15_ : xFix (xst (xst h (xpl h (xpl h 53 20) 2) x3 (xpl h 78 (xpl h 53 24))) 53 24 ((xpl h 53 24) + 1)) := F13_.stL xfk_53_24
  refine xr_aload_n (pc := 113) (i := 0) (hI := d_M_isPart_113) (hi := rfl) (hl := rfl) ?_
  refine xr_sipush (pc := 114) (hI := d_M_isPart_114) (hr := by decide) (hv := by decide) ?_
  exact xq_callV (pc := 117) (index := 261) (K := m_M_is) (As := [xI 300]) (S := []) (L0 := [xR 53, xI 300]) (hI := d_M_isPart_117) (hK := k_M_is) (hlk := w_2322) (hnoM := rfl) (hS8 := Nat.le_of_ble_eq_true rfl) (ci := 11) (N := 38) (C := "BeaconIndexModel") (T := xF11) (hc := rfl) (hci := Nat.le_of_ble_eq_true rfl) (htb := (ft_53 F15_)) (hinst := w_2324) (hsel := sel_M_is) (hlen := Nat.le_of_ble_eq_true rfl) (hst := rfl) (hL0 := rfl)  (hyp F15_)
theorem d_M_isPart_120 : decode prog_14_method_51_code 120 = .ok (.ifCond .eq 35, 3) := by decide +kernel
theorem d_M_isPart_155 : decode prog_14_method_51_code 155 = .ok (.iconst 0, 1) := by decide +kernel
theorem d_M_isPart_156 : decode prog_14_method_51_code 156 = .ok (.istore 4, 2) := by decide +kernel
theorem d_M_isPart_158 : decode prog_14_method_51_code 158 = .ok (.aload_n 0, 1) := by decide +kernel
theorem d_M_isPart_159 : decode prog_14_method_51_code 159 = .ok (.sipush 300, 3) := by decide +kernel
theorem d_M_isPart_162 : decode prog_14_method_51_code 162 = .ok (.invokevirtual 261, 3) := by decide +kernel
theorem d_M_isPart_123 : decode prog_14_method_51_code 123 = .ok (.aload_n 0, 1) := by decide +kernel
theorem d_M_isPart_124 : decode prog_14_method_51_code 124 = .ok (.aload_n 0, 1) := by decide +kernel
theorem d_M_isPart_125 : decode prog_14_method_51_code 125 = .ok (.getfield 61, 3) := by decide +kernel
theorem d_M_isPart_128 : decode prog_14_method_51_code 128 = .ok (.aload_n 0, 1) := by decide +kernel
theorem d_M_isPart_129 : decode prog_14_method_51_code 129 = .ok (.getfield 258, 3) := by decide +kernel
theorem d_M_isPart_132 : decode prog_14_method_51_code 132 = .ok (.iaload, 1) := by decide +kernel
theorem d_M_isPart_133 : decode prog_14_method_51_code 133 = .ok (.aload_n 0, 1) := by decide +kernel
theorem d_M_isPart_134 : decode prog_14_method_51_code 134 = .ok (.getfield 64, 3) := by decide +kernel
theorem d_M_isPart_137 : decode prog_14_method_51_code 137 = .ok (.aload_n 0, 1) := by decide +kernel
theorem d_M_isPart_138 : decode prog_14_method_51_code 138 = .ok (.getfield 258, 3) := by decide +kernel
theorem d_M_isPart_141 : decode prog_14_method_51_code 141 = .ok (.iaload, 1) := by decide +kernel
theorem d_M_isPart_142 : decode prog_14_method_51_code 142 = .ok (.ldc_w 287, 3) := by decide +kernel
theorem d_M_isPart_145 : decode prog_14_method_51_code 145 = .ok (.invokevirtual 129, 3) := by decide +kernel
theorem v_M_isPart_120 {G : XG} {d : Nat} {h : XH} {Q : XV → XH → Prop} {X : Nat → XH → Prop} {x3 s0 : Int} (F : xFix h) (hyp : ((s0 = 0 → (xwp G m_M_is (d + 9) 0 [xR 53, xI 300] [] h (fun v9 h9 => xwp G m_M_isPart (d + 10) 165 [xR 53, xZ, xZ, xI x3, xI 0, xZ] (xpush v9 []) h9 Q X) X)) ∧ (¬ s0 = 0 → 0 ≤ (xpl h 53 24) ∧ (xpl h 53 24) < 41 ∧ (xwp G m_M_isRun (d + 9) 0 [xR 53, xI (xpl h 79 (xpl h 53 24)), xI (xpl h 80 (xpl h 53 24)), xR (-62), xZ] [] h (fun v9 h9 => xwp G m_M_isPart (d + 10) 148 [xR 53, xZ, xZ, xI x3, xZ, xZ] (xpush v9 []) h9 Q X) X)))) : xwp G m_M_isPart (d + 10) 120 [xR 53, xZ, xZ, xI x3, xZ, xZ] [xI s0] h Q X := by
  have hnx9 : (93 : Int) ≤ xnx h := F.2.2
  refine xr_okL (fun hl9 => ?_)
  have r_x3 : -2147483648 ≤ x3 ∧ x3 ≤ 2147483647 := hl9 (xI x3) (.tail _ (.tail _ (.tail _ (.head _)))) (Nat.le_of_ble_eq_true rfl)
  refine xr_okS (fun hs9 => ?_)
  have r_s0 : -2147483648 ≤ s0 ∧ s0 ≤ 2147483647 := hs9 (xI s0) (.head _)
  refine xr_if_eq (pc := 120) (tgt := 155) (hI := d_M_isPart_120) (ht := by decide) (fun q9 => ?_) (fun q9 => ?_)
  · replace hyp := hyp.1 q9
    have q1_ := q9
    clear q9
    refine xr_iconst (pc := 155) (hI := d_M_isPart_155) (hr := by decide) ?_
    refine xr_istore (pc := 156) (i := 4) (L9 := [xR 53, xZ, xZ, xI x3, xI 0, xZ]) (hI := d_M_isPart_156) (hn := Nat.le_of_ble_eq_true rfl) (hL9 := rfl) ?_
    refine xr_aload_n (pc := 158) (i := 0) (hI := d_M_isPart_158) (hi := rfl) (hl := rfl) ?_
    refine xr_sipush (pc := 159) (hI := d_M_isPart_159) (hr := by decide) (hv := by decide) ?_
    exact xq_callV (pc := 162) (index := 261) (K := m_M_is) (As := [xI 300]) (S := []) (L0 := [xR 53, xI 300]) (hI := d_M_isPart_162) (hK := k_M_is) (hlk := w_2322) (hnoM := rfl) (hS8 := Nat.le_of_ble_eq_true rfl) (ci := 11) (N := 38) (C := "BeaconIndexModel") (T := xF11) (hc := rfl) (hci := Nat.le_of_ble_eq_true rfl) (htb := (ft_53 F)) (hinst := w_2324) (hsel := sel_M_is) (hlen := Nat.le_of_ble_eq_true rfl) (hst := rfl) (hL0 := rfl)  hyp
  · replace hyp := hyp.2 q9
    have q1_ := q9
    clear q9
    refine xr_aload_n (pc := 123) (i := 0) (hI := d_M_isPart_123) (hi := rfl) (hl := rfl) ?_
    refine xr_aload_n (pc := 124) (i := 0) (hI := d_M_isPart_124) (hi := rfl) (hl := rfl) ?_
    refine xg_getf (pc := 125) (ci := 11) (k := 22) (N := 38) (v9 := 2) (v := 79) (T := xF11) (hI := d_M_isPart_125) (hw := w_1609) rfl xi11 (Or.inl rfl) (Nat.le_of_ble_eq_true rfl) (Nat.le_of_ble_eq_true rfl) rfl (ft_53 F) (fp_53_22 F) (fun f2_ => ?_)
    clear f2_
    refine xr_aload_n (pc := 128) (i := 0) (hI := d_M_isPart_128) (hi := rfl) (hl := rfl) ?_
    refine xg_getf (pc := 129) (ci := 11) (k := 24) (N := 38) (v9 := 0) (v := (xpl h 53 24)) (T := xF11) (hI := d_M_isPart_129) (hw := w_1611) rfl xi11 (Or.inl rfl) (Nat.le_of_ble_eq_true rfl) (Nat.le_of_ble_eq_true rfl) rfl (ft_53 F) rfl (fun f3_ => ?_)
    replace f3_ : -2147483648 ≤ (xpl h 53 24) ∧ (xpl h 53 24) ≤ 2147483647 := f3_
    obtain ⟨c4_, hyp⟩ := hyp
    obtain ⟨c5_, hyp⟩ := hyp
    refine xg_iaload (pc := 132) (v := (xpl h 79 (xpl h 53 24))) (hI := d_M_isPart_132) (ft_79 F) c4_ (xlt_of (fl_79 F) c5_) rfl (fun f6_ => ?_)
    replace f6_ : -2147483648 ≤ (xpl h 79 (xpl h 53 24)) ∧ (xpl h 79 (xpl h 53 24)) ≤ 2147483647 := f6_
    refine xr_aload_n (pc := 133) (i := 0) (hI := d_M_isPart_133) (hi := rfl) (hl := rfl) ?_
    refine xg_getf (pc := 134) (ci := 11) (k := 23) (N := 38) (v9 := 2) (v := 80) (T := xF11) (hI := d_M_isPart_134) (hw := w_1610) rfl xi11 (Or.inl rfl) (Nat.le_of_ble_eq_true rfl) (Nat.le_of_ble_eq_true rfl) rfl (ft_53 F) (fp_53_23 F) (fun f7_ => ?_)
    clear f7_
    refine xr_aload_n (pc := 137) (i := 0) (hI := d_M_isPart_137) (hi := rfl) (hl := rfl) ?_
    refine xg_getf (pc := 138) (ci := 11) (k := 24) (N := 38) (v9 := 0) (v := (xpl h 53 24)) (T := xF11) (hI := d_M_isPart_138) (hw := w_1611) rfl xi11 (Or.inl rfl) (Nat.le_of_ble_eq_true rfl) (Nat.le_of_ble_eq_true rfl) rfl (ft_53 F) rfl (fun f8_ => ?_)
    replace f8_ : -2147483648 ≤ (xpl h 53 24) ∧ (xpl h 53 24) ≤ 2147483647 := f8_
    refine xg_iaload (pc := 141) (v := (xpl h 80 (xpl h 53 24))) (hI := d_M_isPart_141) (ft_80 F) (by clear hyp; omega) (xlt_of (fl_80 F) (by clear hyp; omega)) rfl (fun f9_ => ?_)
    replace f9_ : -2147483648 ≤ (xpl h 80 (xpl h 53 24)) ∧ (xpl h 80 (xpl h 53 24)) ≤ 2147483647 := f9_
    refine xr_ldcSw (pc := 142) (z := (-62)) (tx := "title") (k0 := 60) (hI := d_M_isPart_142) (hm := by decide +kernel) (hz0 := by decide) ?_
    exact xq_callV (pc := 145) (index := 129) (K := m_M_isRun) (As := [xI (xpl h 79 (xpl h 53 24)), xI (xpl h 80 (xpl h 53 24)), xR (-62)]) (S := []) (L0 := [xR 53, xI (xpl h 79 (xpl h 53 24)), xI (xpl h 80 (xpl h 53 24)), xR (-62), xZ]) (hI := d_M_isPart_145) (hK := k_M_isRun) (hlk := w_1771) (hnoM := rfl) (hS8 := Nat.le_of_ble_eq_true rfl) (ci := 11) (N := 38) (C := "BeaconIndexModel") (T := xF11) (hc := rfl) (hci := Nat.le_of_ble_eq_true rfl) (htb := (ft_53 F)) (hinst := w_1773) (hsel := sel_M_isRun) (hlen := Nat.le_of_ble_eq_true rfl) (hst := rfl) (hL0 := rfl)  hyp
theorem d_M_isPart_148 : decode prog_14_method_51_code 148 = .ok (.ifCond .eq 7, 3) := by decide +kernel
theorem d_M_isPart_151 : decode prog_14_method_51_code 151 = .ok (.iconst 1, 1) := by decide +kernel
theorem d_M_isPart_152 : decode prog_14_method_51_code 152 = .ok (.goto 4, 3) := by decide +kernel
theorem v_M_isPart_148 {G : XG} {d : Nat} {h : XH} {Q : XV → XH → Prop} {X : Nat → XH → Prop} {x3 s0 : Int} (F : xFix h) (hyp : ((s0 = 0 → (xwp G m_M_is (d + 9) 0 [xR 53, xI 300] [] h (fun v9 h9 => xwp G m_M_isPart (d + 10) 165 [xR 53, xZ, xZ, xI x3, xI 0, xZ] (xpush v9 []) h9 Q X) X)) ∧ (¬ s0 = 0 → (xwp G m_M_is (d + 9) 0 [xR 53, xI 300] [] h (fun v9 h9 => xwp G m_M_isPart (d + 10) 165 [xR 53, xZ, xZ, xI x3, xI 1, xZ] (xpush v9 []) h9 Q X) X)))) : xwp G m_M_isPart (d + 10) 148 [xR 53, xZ, xZ, xI x3, xZ, xZ] [xI s0] h Q X := by
  have hnx9 : (93 : Int) ≤ xnx h := F.2.2
  refine xr_okL (fun hl9 => ?_)
  have r_x3 : -2147483648 ≤ x3 ∧ x3 ≤ 2147483647 := hl9 (xI x3) (.tail _ (.tail _ (.tail _ (.head _)))) (Nat.le_of_ble_eq_true rfl)
  refine xr_okS (fun hs9 => ?_)
  have r_s0 : -2147483648 ≤ s0 ∧ s0 ≤ 2147483647 := hs9 (xI s0) (.head _)
  refine xr_if_eq (pc := 148) (tgt := 155) (hI := d_M_isPart_148) (ht := by decide) (fun q9 => ?_) (fun q9 => ?_)
  · replace hyp := hyp.1 q9
    have q1_ := q9
    clear q9
    refine xr_iconst (pc := 155) (hI := d_M_isPart_155) (hr := by decide) ?_
    refine xr_istore (pc := 156) (i := 4) (L9 := [xR 53, xZ, xZ, xI x3, xI 0, xZ]) (hI := d_M_isPart_156) (hn := Nat.le_of_ble_eq_true rfl) (hL9 := rfl) ?_
    refine xr_aload_n (pc := 158) (i := 0) (hI := d_M_isPart_158) (hi := rfl) (hl := rfl) ?_
    refine xr_sipush (pc := 159) (hI := d_M_isPart_159) (hr := by decide) (hv := by decide) ?_
    exact xq_callV (pc := 162) (index := 261) (K := m_M_is) (As := [xI 300]) (S := []) (L0 := [xR 53, xI 300]) (hI := d_M_isPart_162) (hK := k_M_is) (hlk := w_2322) (hnoM := rfl) (hS8 := Nat.le_of_ble_eq_true rfl) (ci := 11) (N := 38) (C := "BeaconIndexModel") (T := xF11) (hc := rfl) (hci := Nat.le_of_ble_eq_true rfl) (htb := (ft_53 F)) (hinst := w_2324) (hsel := sel_M_is) (hlen := Nat.le_of_ble_eq_true rfl) (hst := rfl) (hL0 := rfl)  hyp
  · replace hyp := hyp.2 q9
    have q1_ := q9
    clear q9
    refine xr_iconst (pc := 151) (hI := d_M_isPart_151) (hr := by decide) ?_
    refine xr_goto (pc := 152) (tgt := 156) (hI := d_M_isPart_152) (ht := by decide) ?_
    refine xr_istore (pc := 156) (i := 4) (L9 := [xR 53, xZ, xZ, xI x3, xI 1, xZ]) (hI := d_M_isPart_156) (hn := Nat.le_of_ble_eq_true rfl) (hL9 := rfl) ?_
    refine xr_aload_n (pc := 158) (i := 0) (hI := d_M_isPart_158) (hi := rfl) (hl := rfl) ?_
    refine xr_sipush (pc := 159) (hI := d_M_isPart_159) (hr := by decide) (hv := by decide) ?_
    exact xq_callV (pc := 162) (index := 261) (K := m_M_is) (As := [xI 300]) (S := []) (L0 := [xR 53, xI 300]) (hI := d_M_isPart_162) (hK := k_M_is) (hlk := w_2322) (hnoM := rfl) (hS8 := Nat.le_of_ble_eq_true rfl) (ci := 11) (N := 38) (C := "BeaconIndexModel") (T := xF11) (hc := rfl) (hci := Nat.le_of_ble_eq_true rfl) (htb := (ft_53 F)) (hinst := w_2324) (hsel := sel_M_is) (hlen := Nat.le_of_ble_eq_true rfl) (hst := rfl) (hL0 := rfl)  hyp
theorem d_M_isPart_165 : decode prog_14_method_51_code 165 = .ok (.ifCond .eq 35, 3) := by decide +kernel
theorem d_M_isPart_168 : decode prog_14_method_51_code 168 = .ok (.aload_n 0, 1) := by decide +kernel
theorem d_M_isPart_169 : decode prog_14_method_51_code 169 = .ok (.aload_n 0, 1) := by decide +kernel
theorem d_M_isPart_170 : decode prog_14_method_51_code 170 = .ok (.getfield 61, 3) := by decide +kernel
theorem d_M_isPart_173 : decode prog_14_method_51_code 173 = .ok (.aload_n 0, 1) := by decide +kernel
theorem d_M_isPart_174 : decode prog_14_method_51_code 174 = .ok (.getfield 258, 3) := by decide +kernel
theorem d_M_isPart_177 : decode prog_14_method_51_code 177 = .ok (.iaload, 1) := by decide +kernel
theorem d_M_isPart_178 : decode prog_14_method_51_code 178 = .ok (.aload_n 0, 1) := by decide +kernel
theorem d_M_isPart_179 : decode prog_14_method_51_code 179 = .ok (.getfield 64, 3) := by decide +kernel
theorem d_M_isPart_182 : decode prog_14_method_51_code 182 = .ok (.aload_n 0, 1) := by decide +kernel
theorem d_M_isPart_183 : decode prog_14_method_51_code 183 = .ok (.getfield 258, 3) := by decide +kernel
theorem d_M_isPart_186 : decode prog_14_method_51_code 186 = .ok (.iaload, 1) := by decide +kernel
theorem d_M_isPart_187 : decode prog_14_method_51_code 187 = .ok (.ldc_w 289, 3) := by decide +kernel
theorem d_M_isPart_190 : decode prog_14_method_51_code 190 = .ok (.invokevirtual 129, 3) := by decide +kernel
theorem v_M_isPart_165 {G : XG} {d : Nat} {h : XH} {Q : XV → XH → Prop} {X : Nat → XH → Prop} {x3 x4 s0 : Int} (F : xFix h) (hyp : ((s0 = 0 → (xwp G m_M_isPart (d + 10) 200 [xR 53, xZ, xZ, xI x3, xI x4, xZ] [] h Q X)) ∧ (¬ s0 = 0 → 0 ≤ (xpl h 53 24) ∧ (xpl h 53 24) < 41 ∧ (xwp G m_M_isRun (d + 9) 0 [xR 53, xI (xpl h 79 (xpl h 53 24)), xI (xpl h 80 (xpl h 53 24)), xR (-64), xZ] [] h (fun v9 h9 => xwp G m_M_isPart (d + 10) 193 [xR 53, xZ, xZ, xI x3, xI x4, xZ] (xpush v9 []) h9 Q X) X)))) : xwp G m_M_isPart (d + 10) 165 [xR 53, xZ, xZ, xI x3, xI x4, xZ] [xI s0] h Q X := by
  have hnx9 : (93 : Int) ≤ xnx h := F.2.2
  refine xr_okL (fun hl9 => ?_)
  have r_x3 : -2147483648 ≤ x3 ∧ x3 ≤ 2147483647 := hl9 (xI x3) (.tail _ (.tail _ (.tail _ (.head _)))) (Nat.le_of_ble_eq_true rfl)
  have r_x4 : -2147483648 ≤ x4 ∧ x4 ≤ 2147483647 := hl9 (xI x4) (.tail _ (.tail _ (.tail _ (.tail _ (.head _))))) (Nat.le_of_ble_eq_true rfl)
  refine xr_okS (fun hs9 => ?_)
  have r_s0 : -2147483648 ≤ s0 ∧ s0 ≤ 2147483647 := hs9 (xI s0) (.head _)
  refine xr_if_eq (pc := 165) (tgt := 200) (hI := d_M_isPart_165) (ht := by decide) (fun q9 => ?_) (fun q9 => ?_)
  · replace hyp := hyp.1 q9
    have q1_ := q9
    clear q9
    exact hyp
  · replace hyp := hyp.2 q9
    have q1_ := q9
    clear q9
    refine xr_aload_n (pc := 168) (i := 0) (hI := d_M_isPart_168) (hi := rfl) (hl := rfl) ?_
    refine xr_aload_n (pc := 169) (i := 0) (hI := d_M_isPart_169) (hi := rfl) (hl := rfl) ?_
    refine xg_getf (pc := 170) (ci := 11) (k := 22) (N := 38) (v9 := 2) (v := 79) (T := xF11) (hI := d_M_isPart_170) (hw := w_1609) rfl xi11 (Or.inl rfl) (Nat.le_of_ble_eq_true rfl) (Nat.le_of_ble_eq_true rfl) rfl (ft_53 F) (fp_53_22 F) (fun f2_ => ?_)
    clear f2_
    refine xr_aload_n (pc := 173) (i := 0) (hI := d_M_isPart_173) (hi := rfl) (hl := rfl) ?_
    refine xg_getf (pc := 174) (ci := 11) (k := 24) (N := 38) (v9 := 0) (v := (xpl h 53 24)) (T := xF11) (hI := d_M_isPart_174) (hw := w_1611) rfl xi11 (Or.inl rfl) (Nat.le_of_ble_eq_true rfl) (Nat.le_of_ble_eq_true rfl) rfl (ft_53 F) rfl (fun f3_ => ?_)
    replace f3_ : -2147483648 ≤ (xpl h 53 24) ∧ (xpl h 53 24) ≤ 2147483647 := f3_
    obtain ⟨c4_, hyp⟩ := hyp
    obtain ⟨c5_, hyp⟩ := hyp
    refine xg_iaload (pc := 177) (v := (xpl h 79 (xpl h 53 24))) (hI := d_M_isPart_177) (ft_79 F) c4_ (xlt_of (fl_79 F) c5_) rfl (fun f6_ => ?_)
    replace f6_ : -2147483648 ≤ (xpl h 79 (xpl h 53 24)) ∧ (xpl h 79 (xpl h 53 24)) ≤ 2147483647 := f6_
    refine xr_aload_n (pc := 178) (i := 0) (hI := d_M_isPart_178) (hi := rfl) (hl := rfl) ?_
    refine xg_getf (pc := 179) (ci := 11) (k := 23) (N := 38) (v9 := 2) (v := 80) (T := xF11) (hI := d_M_isPart_179) (hw := w_1610) rfl xi11 (Or.inl rfl) (Nat.le_of_ble_eq_true rfl) (Nat.le_of_ble_eq_true rfl) rfl (ft_53 F) (fp_53_23 F) (fun f7_ => ?_)
    clear f7_
    refine xr_aload_n (pc := 182) (i := 0) (hI := d_M_isPart_182) (hi := rfl) (hl := rfl) ?_
    refine xg_getf (pc := 183) (ci := 11) (k := 24) (N := 38) (v9 := 0) (v := (xpl h 53 24)) (T := xF11) (hI := d_M_isPart_183) (hw := w_1611) rfl xi11 (Or.inl rfl) (Nat.le_of_ble_eq_true rfl) (Nat.le_of_ble_eq_true rfl) rfl (ft_53 F) rfl (fun f8_ => ?_)
    replace f8_ : -2147483648 ≤ (xpl h 53 24) ∧ (xpl h 53 24) ≤ 2147483647 := f8_
    refine xg_iaload (pc := 186) (v := (xpl h 80 (xpl h 53 24))) (hI := d_M_isPart_186) (ft_80 F) (by clear hyp; omega) (xlt_of (fl_80 F) (by clear hyp; omega)) rfl (fun f9_ => ?_)
    replace f9_ : -2147483648 ≤ (xpl h 80 (xpl h 53 24)) ∧ (xpl h 80 (xpl h 53 24)) ≤ 2147483647 := f9_
    refine xr_ldcSw (pc := 187) (z := (-64)) (tx := "body") (k0 := 62) (hI := d_M_isPart_187) (hm := by decide +kernel) (hz0 := by decide) ?_
    exact xq_callV (pc := 190) (index := 129) (K := m_M_isRun) (As := [xI (xpl h 79 (xpl h 53 24)), xI (xpl h 80 (xpl h 53 24)), xR (-64)]) (S := []) (L0 := [xR 53, xI (xpl h 79 (xpl h 53 24)), xI (xpl h 80 (xpl h 53 24)), xR (-64), xZ]) (hI := d_M_isPart_190) (hK := k_M_isRun) (hlk := w_1771) (hnoM := rfl) (hS8 := Nat.le_of_ble_eq_true rfl) (ci := 11) (N := 38) (C := "BeaconIndexModel") (T := xF11) (hc := rfl) (hci := Nat.le_of_ble_eq_true rfl) (htb := (ft_53 F)) (hinst := w_1773) (hsel := sel_M_isRun) (hlen := Nat.le_of_ble_eq_true rfl) (hst := rfl) (hL0 := rfl)  hyp
theorem d_M_isPart_193 : decode prog_14_method_51_code 193 = .ok (.ifCond .eq 7, 3) := by decide +kernel
theorem d_M_isPart_196 : decode prog_14_method_51_code 196 = .ok (.iconst 1, 1) := by decide +kernel
theorem d_M_isPart_197 : decode prog_14_method_51_code 197 = .ok (.goto 4, 3) := by decide +kernel
theorem v_M_isPart_193 {G : XG} {d : Nat} {h : XH} {Q : XV → XH → Prop} {X : Nat → XH → Prop} {x3 x4 s0 : Int} (F : xFix h) (hyp : ((s0 = 0 → (xwp G m_M_isPart (d + 10) 200 [xR 53, xZ, xZ, xI x3, xI x4, xZ] [] h Q X)) ∧ (¬ s0 = 0 → (xwp G m_M_isPart (d + 10) 201 [xR 53, xZ, xZ, xI x3, xI x4, xZ] [xI 1] h Q X)))) : xwp G m_M_isPart (d + 10) 193 [xR 53, xZ, xZ, xI x3, xI x4, xZ] [xI s0] h Q X := by
  have hnx9 : (93 : Int) ≤ xnx h := F.2.2
  refine xr_okL (fun hl9 => ?_)
  have r_x3 : -2147483648 ≤ x3 ∧ x3 ≤ 2147483647 := hl9 (xI x3) (.tail _ (.tail _ (.tail _ (.head _)))) (Nat.le_of_ble_eq_true rfl)
  have r_x4 : -2147483648 ≤ x4 ∧ x4 ≤ 2147483647 := hl9 (xI x4) (.tail _ (.tail _ (.tail _ (.tail _ (.head _))))) (Nat.le_of_ble_eq_true rfl)
  refine xr_okS (fun hs9 => ?_)
  have r_s0 : -2147483648 ≤ s0 ∧ s0 ≤ 2147483647 := hs9 (xI s0) (.head _)
  refine xr_if_eq (pc := 193) (tgt := 200) (hI := d_M_isPart_193) (ht := by decide) (fun q9 => ?_) (fun q9 => ?_)
  · replace hyp := hyp.1 q9
    have q1_ := q9
    clear q9
    exact hyp
  · replace hyp := hyp.2 q9
    have q1_ := q9
    clear q9
    refine xr_iconst (pc := 196) (hI := d_M_isPart_196) (hr := by decide) ?_
    refine xr_goto (pc := 197) (tgt := 201) (hI := d_M_isPart_197) (ht := by decide) ?_
    exact hyp
theorem d_M_isPart_200 : decode prog_14_method_51_code 200 = .ok (.iconst 0, 1) := by decide +kernel
theorem v_M_isPart_200 {G : XG} {d : Nat} {h : XH} {Q : XV → XH → Prop} {X : Nat → XH → Prop} {x3 x4 : Int} (F : xFix h) (hyp : (xwp G m_M_isPart (d + 10) 201 [xR 53, xZ, xZ, xI x3, xI x4, xZ] [xI 0] h Q X)) : xwp G m_M_isPart (d + 10) 200 [xR 53, xZ, xZ, xI x3, xI x4, xZ] [] h Q X := by
  have hnx9 : (93 : Int) ≤ xnx h := F.2.2
  refine xr_okL (fun hl9 => ?_)
  have r_x3 : -2147483648 ≤ x3 ∧ x3 ≤ 2147483647 := hl9 (xI x3) (.tail _ (.tail _ (.tail _ (.head _)))) (Nat.le_of_ble_eq_true rfl)
  have r_x4 : -2147483648 ≤ x4 ∧ x4 ≤ 2147483647 := hl9 (xI x4) (.tail _ (.tail _ (.tail _ (.tail _ (.head _))))) (Nat.le_of_ble_eq_true rfl)
  refine xr_iconst (pc := 200) (hI := d_M_isPart_200) (hr := by decide) ?_
  exact hyp
theorem d_M_isPart_201 : decode prog_14_method_51_code 201 = .ok (.istore 5, 2) := by decide +kernel
theorem d_M_isPart_203 : decode prog_14_method_51_code 203 = .ok (.iload 4, 2) := by decide +kernel
theorem d_M_isPart_205 : decode prog_14_method_51_code 205 = .ok (.ifCond .ne 8, 3) := by decide +kernel
theorem d_M_isPart_208 : decode prog_14_method_51_code 208 = .ok (.iload 5, 2) := by decide +kernel
theorem d_M_isPart_210 : decode prog_14_method_51_code 210 = .ok (.ifCond .eq 48, 3) := by decide +kernel
theorem d_M_isPart_258 : decode prog_14_method_51_code 258 = .ok (.aload_n 0, 1) := by decide +kernel
theorem d_M_isPart_259 : decode prog_14_method_51_code 259 = .ok (.iload_n 3, 1) := by decide +kernel
theorem d_M_isPart_260 : decode prog_14_method_51_code 260 = .ok (.invokevirtual 291, 3) := by decide +kernel
abbrev m_M_isCore : XM := (⟨"BeaconIndexModel", "isCore", "(I)Z"⟩, prog_14_method_52_code, 2, (some .boolean), [])
theorem k_M_isCore : xCal m_M_isCore 1 := ⟨List.mem_append_right _ (List.mem_of_getElem? (i := 2331) (by decide +kernel)), w_15, Nat.le_of_ble_eq_true rfl, ⟨by decide +kernel, by decide +kernel⟩, by decide +kernel, by decide +kernel, rfl⟩
theorem w_2328 : Cond.methodLink "BeaconIndexModel" 291 ⟨"BeaconIndexModel", "isCore", "(I)Z"⟩ ∈ lw_tbl := List.mem_append_right _ (List.mem_of_getElem? (i := 2328) (by decide +kernel))
theorem w_2330 : Cond.instanceMethod ⟨"BeaconIndexModel", "isCore", "(I)Z"⟩ ∈ lw_tbl := List.mem_append_right _ (List.mem_of_getElem? (i := 2330) (by decide +kernel))
theorem sel_M_isCore : Cond.selects "BeaconIndexModel" ⟨"BeaconIndexModel", "isCore", "(I)Z"⟩ ⟨"BeaconIndexModel", "isCore", "(I)Z"⟩ ∈ lw_tbl := List.mem_append_left _ (by decide +kernel)
theorem v_M_isPart_201 {G : XG} {d : Nat} {h : XH} {Q : XV → XH → Prop} {X : Nat → XH → Prop} {x3 x4 s0 : Int} (F : xFix h) (hyp : ((x4 = 0 → ((s0 = 0 → (xwp G m_M_isCore (d + 9) 0 [xR 53, xI x3] [] h (fun v9 h9 => xwp G m_M_isPart (d + 10) 263 [xR 53, xZ, xZ, xI x3, xZ, xZ] (xpush v9 []) h9 Q X) X)) ∧ (¬ s0 = 0 → (xwp G m_M_isPart (d + 10) 213 [xR 53, xZ, xZ, xI x3, xI x4, xZ] [] h Q X)))) ∧ (¬ x4 = 0 → (xwp G m_M_isPart (d + 10) 213 [xR 53, xZ, xZ, xI x3, xI x4, xZ] [] h Q X)))) : xwp G m_M_isPart (d + 10) 201 [xR 53, xZ, xZ, xI x3, xI x4, xZ] [xI s0] h Q X := by
  have hnx9 : (93 : Int) ≤ xnx h := F.2.2
  refine xr_okL (fun hl9 => ?_)
  have r_x3 : -2147483648 ≤ x3 ∧ x3 ≤ 2147483647 := hl9 (xI x3) (.tail _ (.tail _ (.tail _ (.head _)))) (Nat.le_of_ble_eq_true rfl)
  have r_x4 : -2147483648 ≤ x4 ∧ x4 ≤ 2147483647 := hl9 (xI x4) (.tail _ (.tail _ (.tail _ (.tail _ (.head _))))) (Nat.le_of_ble_eq_true rfl)
  refine xr_okS (fun hs9 => ?_)
  have r_s0 : -2147483648 ≤ s0 ∧ s0 ≤ 2147483647 := hs9 (xI s0) (.head _)
  refine xr_istore (pc := 201) (i := 5) (L9 := [xR 53, xZ, xZ, xI x3, xI x4, xI s0]) (hI := d_M_isPart_201) (hn := Nat.le_of_ble_eq_true rfl) (hL9 := rfl) ?_
  refine xr_iload (pc := 203) (i := 4) (hI := d_M_isPart_203) (hl := rfl) ?_
  refine xr_if_ne (pc := 205) (tgt := 213) (hI := d_M_isPart_205) (ht := by decide) (fun q9 => ?_) (fun q9 => ?_)
  · replace hyp := hyp.2 q9
    have q1_ := q9
    clear q9
    exact xr_drop (L9 := [xR 53, xZ, xZ, xI x3, xI x4, xZ]) (xdrs (xdrs (xdrs (xdrs (xdrs (xdrz xdr0)))))) hyp
  · replace hyp := hyp.1 q9
    have q1_ := q9
    clear q9
    refine xr_iload (pc := 208) (i := 5) (hI := d_M_isPart_208) (hl := rfl) ?_
    refine xr_if_eq (pc := 210) (tgt := 258) (hI := d_M_isPart_210) (ht := by decide) (fun q9 => ?_) (fun q9 => ?_)
    · replace hyp := hyp.1 q9
      have q2_ := q9
      clear q9
      refine xr_aload_n (pc := 258) (i := 0) (hI := d_M_isPart_258) (hi := rfl) (hl := rfl) ?_
      refine xr_iload_n (pc := 259) (i := 3) (hI := d_M_isPart_259) (hi := rfl) (hl := rfl) ?_
      exact xq_callV (pc := 260) (index := 291) (K := m_M_isCore) (As := [xI x3]) (S := []) (L0 := [xR 53, xI x3]) (hI := d_M_isPart_260) (hK := k_M_isCore) (hlk := w_2328) (hnoM := rfl) (hS8 := Nat.le_of_ble_eq_true rfl) (ci := 11) (N := 38) (C := "BeaconIndexModel") (T := xF11) (hc := rfl) (hci := Nat.le_of_ble_eq_true rfl) (htb := (ft_53 F)) (hinst := w_2330) (hsel := sel_M_isCore) (hlen := Nat.le_of_ble_eq_true rfl) (hst := rfl) (hL0 := rfl)  (xwp_mono hyp (fun v9 h9 q9 => xr_drop (L9 := [xR 53, xZ, xZ, xI x3, xZ, xZ]) (xdrs (xdrs (xdrs (xdrs (xdrz (xdrz xdr0)))))) q9) (fun _ _ z9 => z9))
    · replace hyp := hyp.2 q9
      have q2_ := q9
      clear q9
      exact xr_drop (L9 := [xR 53, xZ, xZ, xI x3, xI x4, xZ]) (xdrs (xdrs (xdrs (xdrs (xdrs (xdrz xdr0)))))) hyp
theorem d_M_isPart_213 : decode prog_14_method_51_code 213 = .ok (.aload_n 0, 1) := by decide +kernel
theorem d_M_isPart_214 : decode prog_14_method_51_code 214 = .ok (.getfield 58, 3) := by decide +kernel
theorem d_M_isPart_217 : decode prog_14_method_51_code 217 = .ok (.aload_n 0, 1) := by decide +kernel
theorem d_M_isPart_218 : decode prog_14_method_51_code 218 = .ok (.getfield 258, 3) := by decide +kernel
theorem d_M_isPart_221 : decode prog_14_method_51_code 221 = .ok (.iconst 1, 1) := by decide +kernel
theorem d_M_isPart_222 : decode prog_14_method_51_code 222 = .ok (.iadd, 1) := by decide +kernel
theorem d_M_isPart_223 : decode prog_14_method_51_code 223 = .ok (.iaload, 1) := by decide +kernel
theorem d_M_isPart_224 : decode prog_14_method_51_code 224 = .ok (.bipush 58, 2) := by decide +kernel
theorem d_M_isPart_226 : decode prog_14_method_51_code 226 = .ok (.if_icmp .ne 32, 3) := by decide +kernel
theorem d_M_isPart_229 : decode prog_14_method_51_code 229 = .ok (.aload_n 0, 1) := by decide +kernel
theorem d_M_isPart_230 : decode prog_14_method_51_code 230 = .ok (.getfield 55, 3) := by decide +kernel
theorem d_M_isPart_233 : decode prog_14_method_51_code 233 = .ok (.getfield 279, 3) := by decide +kernel
theorem d_M_isPart_236 : decode prog_14_method_51_code 236 = .ok (.iload_n 3, 1) := by decide +kernel
theorem d_M_isPart_237 : decode prog_14_method_51_code 237 = .ok (.iload 4, 2) := by decide +kernel
theorem d_M_isPart_239 : decode prog_14_method_51_code 239 = .ok (.ifCond .eq 7, 3) := by decide +kernel
theorem d_M_isPart_246 : decode prog_14_method_51_code 246 = .ok (.iconst 1, 1) := by decide +kernel
theorem d_M_isPart_242 : decode prog_14_method_51_code 242 = .ok (.iconst 0, 1) := by decide +kernel
theorem d_M_isPart_243 : decode prog_14_method_51_code 243 = .ok (.goto 4, 3) := by decide +kernel
theorem v_M_isPart_213 {G : XG} {d : Nat} {h : XH} {Q : XV → XH → Prop} {X : Nat → XH → Prop} {x3 x4 : Int} (F : xFix h) (hyp : xiR ((xpl h 53 24) + 1) ∧ 0 ≤ ((xpl h 53 24) + 1) ∧ ((xpl h 53 24) + 1) < 41 ∧ (((xpl h 78 ((xpl h 53 24) + 1)) = 58 → xtg h (xpl h 53 20) = 12 ∧ ((x4 = 0 → (xwp G m_M_isPart (d + 10) 247 [xR 53, xZ, xZ, xI x3, xZ, xZ] [xI 1, xI x3, xR (xpl h (xpl h 53 20) 4)] h Q X)) ∧ (¬ x4 = 0 → (xwp G m_M_isPart (d + 10) 247 [xR 53, xZ, xZ, xI x3, xZ, xZ] [xI 0, xI x3, xR (xpl h (xpl h 53 20) 4)] h Q X)))) ∧ (¬ (xpl h 78 ((xpl h 53 24) + 1)) = 58 → (xwp G m_M_isCore (d + 9) 0 [xR 53, xI x3] [] h (fun v9 h9 => xwp G m_M_isPart (d + 10) 263 [xR 53, xZ, xZ, xI x3, xZ, xZ] (xpush v9 []) h9 Q X) X)))) : xwp G m_M_isPart (d + 10) 213 [xR 53, xZ, xZ, xI x3, xI x4, xZ] [] h Q X := by
  have hnx9 : (93 : Int) ≤ xnx h := F.2.2
  refine xr_okL (fun hl9 => ?_)
  have r_x3 : -2147483648 ≤ x3 ∧ x3 ≤ 2147483647 := hl9 (xI x3) (.tail _ (.tail _ (.tail _ (.head _)))) (Nat.le_of_ble_eq_true rfl)
  have r_x4 : -2147483648 ≤ x4 ∧ x4 ≤ 2147483647 := hl9 (xI x4) (.tail _ (.tail _ (.tail _ (.tail _ (.head _))))) (Nat.le_of_ble_eq_true rfl)
  refine xr_aload_n (pc := 213) (i := 0) (hI := d_M_isPart_213) (hi := rfl) (hl := rfl) ?_
  refine xg_getf (pc := 214) (ci := 11) (k := 21) (N := 38) (v9 := 2) (v := 78) (T := xF11) (hI := d_M_isPart_214) (hw := w_1608) rfl xi11 (Or.inl rfl) (Nat.le_of_ble_eq_true rfl) (Nat.le_of_ble_eq_true rfl) rfl (ft_53 F) (fp_53_21 F) (fun f1_ => ?_)
  clear f1_
  refine xr_aload_n (pc := 217) (i := 0) (hI := d_M_isPart_217) (hi := rfl) (hl := rfl) ?_
  refine xg_getf (pc := 218) (ci := 11) (k := 24) (N := 38) (v9 := 0) (v := (xpl h 53 24)) (T := xF11) (hI := d_M_isPart_218) (hw := w_1611) rfl xi11 (Or.inl rfl) (Nat.le_of_ble_eq_true rfl) (Nat.le_of_ble_eq_true rfl) rfl (ft_53 F) rfl (fun f2_ => ?_)
  replace f2_ : -2147483648 ≤ (xpl h 53 24) ∧ (xpl h 53 24) ≤ 2147483647 := f2_
  refine xr_iconst (pc := 221) (hI := d_M_isPart_221) (hr := by decide) ?_
  obtain ⟨c9, hyp⟩ := hyp
  refine xr_iadd (pc := 222) (hI := d_M_isPart_222) (hr := c9) ?_
  obtain ⟨c3_, hyp⟩ := hyp
  obtain ⟨c4_, hyp⟩ := hyp
  refine xg_iaload (pc := 223) (v := (xpl h 78 ((xpl h 53 24) + 1))) (hI := d_M_isPart_223) (ft_78 F) c3_ (xlt_of (fl_78 F) c4_) rfl (fun f5_ => ?_)
  replace f5_ : -2147483648 ≤ (xpl h 78 ((xpl h 53 24) + 1)) ∧ (xpl h 78 ((xpl h 53 24) + 1)) ≤ 2147483647 := f5_
  refine xr_bipush (pc := 224) (hI := d_M_isPart_224) (hr := by decide) (hv := by decide) ?_
  refine xr_icmp_ne (pc := 226) (tgt := 258) (hI := d_M_isPart_226) (ht := by decide) (fun q9 => ?_) (fun q9 => ?_)
  · replace hyp := hyp.2 q9
    have q6_ := q9
    clear q9
    refine xr_aload_n (pc := 258) (i := 0) (hI := d_M_isPart_258) (hi := rfl) (hl := rfl) ?_
    refine xr_iload_n (pc := 259) (i := 3) (hI := d_M_isPart_259) (hi := rfl) (hl := rfl) ?_
    exact xq_callV (pc := 260) (index := 291) (K := m_M_isCore) (As := [xI x3]) (S := []) (L0 := [xR 53, xI x3]) (hI := d_M_isPart_260) (hK := k_M_isCore) (hlk := w_2328) (hnoM := rfl) (hS8 := Nat.le_of_ble_eq_true rfl) (ci := 11) (N := 38) (C := "BeaconIndexModel") (T := xF11) (hc := rfl) (hci := Nat.le_of_ble_eq_true rfl) (htb := (ft_53 F)) (hinst := w_2330) (hsel := sel_M_isCore) (hlen := Nat.le_of_ble_eq_true rfl) (hst := rfl) (hL0 := rfl)  (xwp_mono hyp (fun v9 h9 q9 => xr_drop (L9 := [xR 53, xZ, xZ, xI x3, xZ, xZ]) (xdrs (xdrs (xdrs (xdrs (xdrz (xdrs xdr0)))))) q9) (fun _ _ z9 => z9))
  · replace hyp := hyp.1 q9
    have q6_ := q9
    clear q9
    refine xr_aload_n (pc := 229) (i := 0) (hI := d_M_isPart_229) (hi := rfl) (hl := rfl) ?_
    refine xg_getf (pc := 230) (ci := 11) (k := 20) (N := 38) (v9 := 2) (v := (xpl h 53 20)) (T := xF11) (hI := d_M_isPart_230) (hw := w_1607) rfl xi11 (Or.inl rfl) (Nat.le_of_ble_eq_true rfl) (Nat.le_of_ble_eq_true rfl) rfl (ft_53 F) rfl (fun f7_ => ?_)
    clear f7_
    obtain ⟨c9, hyp⟩ := hyp
    have t8_ := c9
    clear c9
    refine xg_getfN (pc := 233) (ci := 12) (k := 4) (N := 13) (v9 := 2) (v := (xpl h (xpl h 53 20) 4)) (T := xF12) (hI := d_M_isPart_233) (hw := w_1544) rfl xi12 (Or.inl rfl) (Nat.le_of_ble_eq_true rfl) (Nat.le_of_ble_eq_true rfl) rfl t8_ rfl (fun f9_ => ?_)
    clear f9_
    refine xr_iload_n (pc := 236) (i := 3) (hI := d_M_isPart_236) (hi := rfl) (hl := rfl) ?_
    refine xr_iload (pc := 237) (i := 4) (hI := d_M_isPart_237) (hl := rfl) ?_
    refine xr_if_eq (pc := 239) (tgt := 246) (hI := d_M_isPart_239) (ht := by decide) (fun q9 => ?_) (fun q9 => ?_)
    · replace hyp := hyp.1 q9
      have q10_ := q9
      clear q9
      refine xr_iconst (pc := 246) (hI := d_M_isPart_246) (hr := by decide) ?_
      exact xr_drop (L9 := [xR 53, xZ, xZ, xI x3, xZ, xZ]) (xdrs (xdrs (xdrs (xdrs (xdrz (xdrs xdr0)))))) hyp
    · replace hyp := hyp.2 q9
      have q10_ := q9
      clear q9
      refine xr_iconst (pc := 242) (hI := d_M_isPart_242) (hr := by decide) ?_
      refine xr_goto (pc := 243) (tgt := 247) (hI := d_M_isPart_243) (ht := by decide) ?_
      exact xr_drop (L9 := [xR 53, xZ, xZ, xI x3, xZ, xZ]) (xdrs (xdrs (xdrs (xdrs (xdrz (xdrs xdr0)))))) hyp
theorem d_M_isPart_247 : decode prog_14_method_51_code 247 = .ok (.iastore, 1) := by decide +kernel
theorem d_M_isPart_248 : decode prog_14_method_51_code 248 = .ok (.aload_n 0, 1) := by decide +kernel
theorem d_M_isPart_249 : decode prog_14_method_51_code 249 = .ok (.dup, 1) := by decide +kernel
theorem d_M_isPart_250 : decode prog_14_method_51_code 250 = .ok (.getfield 258, 3) := by decide +kernel
theorem d_M_isPart_253 : decode prog_14_method_51_code 253 = .ok (.iconst 2, 1) := by decide +kernel
theorem d_M_isPart_254 : decode prog_14_method_51_code 254 = .ok (.iadd, 1) := by decide +kernel
theorem d_M_isPart_255 : decode prog_14_method_51_code 255 = .ok (.putfield 258, 3) := by decide +kernel
theorem v_M_isPart_247 {G : XG} {d : Nat} {h : XH} {Q : XV → XH → Prop} {X : Nat → XH → Prop} {x3 s0 s1 s2 : Int} (F : xFix h) (hyp : xtg h s2 = 100 ∧ 0 ≤ s2 ∧ 0 ≤ s1 ∧ s1 < (xln h s2) ∧ xiR ((xpl h 53 24) + 2) ∧ (xFix (xst (xst h s2 s1 s0) 53 24 ((xpl h 53 24) + 2)) → xwp G m_M_isCore (d + 9) 0 [xR 53, xI x3] [] (xst (xst h s2 s1 s0) 53 24 ((xpl h 53 24) + 2)) (fun v9 h9 => xwp G m_M_isPart (d + 10) 263 [xR 53, xZ, xZ, xI x3, xZ, xZ] (xpush v9 []) h9 Q X) X)) : xwp G m_M_isPart (d + 10) 247 [xR 53, xZ, xZ, xI x3, xZ, xZ] [xI s0, xI s1, xR s2] h Q X := by
  have hnx9 : (93 : Int) ≤ xnx h := F.2.2
  refine xr_okL (fun hl9 => ?_)
  have r_x3 : -2147483648 ≤ x3 ∧ x3 ≤ 2147483647 := hl9 (xI x3) (.tail _ (.tail _ (.tail _ (.head _)))) (Nat.le_of_ble_eq_true rfl)
  refine xr_okS (fun hs9 => ?_)
  have r_s0 : -2147483648 ≤ s0 ∧ s0 ≤ 2147483647 := hs9 (xI s0) (.head _)
  have r_s1 : -2147483648 ≤ s1 ∧ s1 ≤ 2147483647 := hs9 (xI s1) (.tail _ (.head _))
  obtain ⟨c9, hyp⟩ := hyp
  have t1_ := c9
  clear c9
  obtain ⟨c2_, hyp⟩ := hyp
  obtain ⟨c3_, hyp⟩ := hyp
  obtain ⟨c4_, hyp⟩ := hyp
  refine xr_iastore (pc := 247) (hI := d_M_isPart_247) t1_ c2_ c3_ (xlt_of rfl c4_) ?_
  have F5_ : xFix (xst h s2 s1 s0) := F.stTA (t := 100) c2_ t1_ xta_100
  refine xr_aload_n (pc := 248) (i := 0) (hI := d_M_isPart_248) (hi := rfl) (hl := rfl) ?_
  refine xr_dup (pc := 249) (hI := d_M_isPart_249) (hv := rfl) ?_
  refine xg_getf (pc := 250) (ci := 11) (k := 24) (N := 38) (v9 := 0) (v := (xpl h 53 24)) (T := xF11) (hI := d_M_isPart_250) (hw := w_1611) rfl xi11 (Or.inl rfl) (Nat.le_of_ble_eq_true rfl) (Nat.le_of_ble_eq_true rfl) rfl (ft_53 F5_) (xpl_oa (xne_tag (have z9 := (ft_53 F5_); z9) t1_ (by decide))) (fun f6_ => ?_)
  replace f6_ : -2147483648 ≤ (xpl h 53 24) ∧ (xpl h 53 24) ≤ 2147483647 := f6_
  refine xr_iconst (pc := 253) (hI := d_M_isPart_253) (hr := by decide) ?_
  obtain ⟨c9, hyp⟩ := hyp
  refine xr_iadd (pc := 254) (hI := d_M_isPart_254) (hr := c9) ?_
  refine xr_putf (pc := 255) (ci := 11) (k := 24) (N := 38) (v9 := 0) (T := xF11) (tF := xT11) (hI := d_M_isPart_255) (hw := w_1611) rfl xi11 xt11 xn11 (Or.inl rfl) (Nat.le_of_ble_eq_true rfl) (Nat.le_of_ble_eq_true rfl) rfl xfit_i rfl (ft_53 F5_) (by decide) (fun z => z) ?_
  have F7_ : xFix (xst (xst h s2 s1 s0) 53 24 ((xpl h 53 24) + 2)) := F5_.stL xfk_53_24
  refine xr_aload_n (pc := 258) (i := 0) (hI := d_M_isPart_258) (hi := rfl) (hl := rfl) ?_
  refine xr_iload_n (pc := 259) (i := 3) (hI := d_M_isPart_259) (hi := rfl) (hl := rfl) ?_
  exact xq_callV (pc := 260) (index := 291) (K := m_M_isCore) (As := [xI x3]) (S := []) (L0 := [xR 53, xI x3]) (hI := d_M_isPart_260) (hK := k_M_isCore) (hlk := w_2328) (hnoM := rfl) (hS8 := Nat.le_of_ble_eq_true rfl) (ci := 11) (N := 38) (C := "BeaconIndexModel") (T := xF11) (hc := rfl) (hci := Nat.le_of_ble_eq_true rfl) (htb := (ft_53 F7_)) (hinst := w_2330) (hsel := sel_M_isCore) (hlen := Nat.le_of_ble_eq_true rfl) (hst := rfl) (hL0 := rfl)  (hyp F7_)
theorem d_M_isPart_263 : decode prog_14_method_51_code 263 = .ok (.ifCond .eq 31, 3) := by decide +kernel
theorem d_M_isPart_294 : decode prog_14_method_51_code 294 = .ok (.iconst 0, 1) := by decide +kernel
theorem d_M_isPart_295 : decode prog_14_method_51_code 295 = .ok (.ireturn, 1) := by decide +kernel
theorem d_M_isPart_266 : decode prog_14_method_51_code 266 = .ok (.aload_n 0, 1) := by decide +kernel
theorem d_M_isPart_267 : decode prog_14_method_51_code 267 = .ok (.bipush 94, 2) := by decide +kernel
theorem d_M_isPart_269 : decode prog_14_method_51_code 269 = .ok (.invokevirtual 294, 3) := by decide +kernel
theorem k_M_eat : xCal m_M_eat 1 := ⟨List.mem_append_right _ (List.mem_of_getElem? (i := 2335) (by decide +kernel)), w_15, Nat.le_of_ble_eq_true rfl, ⟨by decide +kernel, by decide +kernel⟩, by decide +kernel, by decide +kernel, rfl⟩
theorem w_2332 : Cond.methodLink "BeaconIndexModel" 294 ⟨"BeaconIndexModel", "eat", "(I)Z"⟩ ∈ lw_tbl := List.mem_append_right _ (List.mem_of_getElem? (i := 2332) (by decide +kernel))
theorem w_2334 : Cond.instanceMethod ⟨"BeaconIndexModel", "eat", "(I)Z"⟩ ∈ lw_tbl := List.mem_append_right _ (List.mem_of_getElem? (i := 2334) (by decide +kernel))
theorem sel_M_eat : Cond.selects "BeaconIndexModel" ⟨"BeaconIndexModel", "eat", "(I)Z"⟩ ⟨"BeaconIndexModel", "eat", "(I)Z"⟩ ∈ lw_tbl := List.mem_append_left _ (by decide +kernel)
theorem v_M_isPart_263 {G : XG} {d : Nat} {h : XH} {Q : XV → XH → Prop} {X : Nat → XH → Prop} {x3 s0 : Int} (F : xFix h) (hyp : ((s0 = 0 → (Q (xI 0) h)) ∧ (¬ s0 = 0 → (xwp G m_M_eat (d + 9) 0 [xR 53, xI 94] [] h (fun v9 h9 => xwp G m_M_isPart (d + 10) 272 [xR 53, xZ, xZ, xI x3, xZ, xZ] (xpush v9 []) h9 Q X) X)))) : xwp G m_M_isPart (d + 10) 263 [xR 53, xZ, xZ, xI x3, xZ, xZ] [xI s0] h Q X := by
  have hnx9 : (93 : Int) ≤ xnx h := F.2.2
  refine xr_okL (fun hl9 => ?_)
  have r_x3 : -2147483648 ≤ x3 ∧ x3 ≤ 2147483647 := hl9 (xI x3) (.tail _ (.tail _ (.tail _ (.head _)))) (Nat.le_of_ble_eq_true rfl)
  refine xr_okS (fun hs9 => ?_)
  have r_s0 : -2147483648 ≤ s0 ∧ s0 ≤ 2147483647 := hs9 (xI s0) (.head _)
  refine xr_if_eq (pc := 263) (tgt := 294) (hI := d_M_isPart_263) (ht := by decide) (fun q9 => ?_) (fun q9 => ?_)
  · replace hyp := hyp.1 q9
    have q1_ := q9
    clear q9
    refine xr_iconst (pc := 294) (hI := d_M_isPart_294) (hr := by decide) ?_
    refine xr_ireturnT (S := []) (pc := 295) (hI := d_M_isPart_295) (hr := rfl) (xnar_z (by decide)) ?_
    exact hyp
  · replace hyp := hyp.2 q9
    have q1_ := q9
    clear q9
    refine xr_aload_n (pc := 266) (i := 0) (hI := d_M_isPart_266) (hi := rfl) (hl := rfl) ?_
    refine xr_bipush (pc := 267) (hI := d_M_isPart_267) (hr := by decide) (hv := by decide) ?_
    exact xq_callV (pc := 269) (index := 294) (K := m_M_eat) (As := [xI 94]) (S := []) (L0 := [xR 53, xI 94]) (hI := d_M_isPart_269) (hK := k_M_eat) (hlk := w_2332) (hnoM := rfl) (hS8 := Nat.le_of_ble_eq_true rfl) (ci := 11) (N := 38) (C := "BeaconIndexModel") (T := xF11) (hc := rfl) (hci := Nat.le_of_ble_eq_true rfl) (htb := (ft_53 F)) (hinst := w_2334) (hsel := sel_M_eat) (hlen := Nat.le_of_ble_eq_true rfl) (hst := rfl) (hL0 := rfl)  hyp
theorem d_M_isPart_272 : decode prog_14_method_51_code 272 = .ok (.ifCond .eq 18, 3) := by decide +kernel
theorem d_M_isPart_290 : decode prog_14_method_51_code 290 = .ok (.iconst 1, 1) := by decide +kernel
theorem d_M_isPart_291 : decode prog_14_method_51_code 291 = .ok (.goto 4, 3) := by decide +kernel
theorem d_M_isPart_275 : decode prog_14_method_51_code 275 = .ok (.aload_n 0, 1) := by decide +kernel
theorem d_M_isPart_276 : decode prog_14_method_51_code 276 = .ok (.aload_n 0, 1) := by decide +kernel
theorem d_M_isPart_277 : decode prog_14_method_51_code 277 = .ok (.getfield 55, 3) := by decide +kernel
theorem d_M_isPart_280 : decode prog_14_method_51_code 280 = .ok (.getfield 277, 3) := by decide +kernel
theorem d_M_isPart_283 : decode prog_14_method_51_code 283 = .ok (.iload_n 3, 1) := by decide +kernel
theorem d_M_isPart_284 : decode prog_14_method_51_code 284 = .ok (.invokevirtual 297, 3) := by decide +kernel
theorem k_M_isNumber : xCal m_M_isNumber 2 := ⟨List.mem_append_right _ (List.mem_of_getElem? (i := 2347) (by decide +kernel)), w_15, Nat.le_of_ble_eq_true rfl, ⟨by decide +kernel, by decide +kernel⟩, by decide +kernel, by decide +kernel, rfl⟩
theorem w_2344 : Cond.methodLink "BeaconIndexModel" 297 ⟨"BeaconIndexModel", "isNumber", "([II)Z"⟩ ∈ lw_tbl := List.mem_append_right _ (List.mem_of_getElem? (i := 2344) (by decide +kernel))
theorem w_2346 : Cond.instanceMethod ⟨"BeaconIndexModel", "isNumber", "([II)Z"⟩ ∈ lw_tbl := List.mem_append_right _ (List.mem_of_getElem? (i := 2346) (by decide +kernel))
theorem sel_M_isNumber : Cond.selects "BeaconIndexModel" ⟨"BeaconIndexModel", "isNumber", "([II)Z"⟩ ⟨"BeaconIndexModel", "isNumber", "([II)Z"⟩ ∈ lw_tbl := List.mem_append_left _ (by decide +kernel)
theorem v_M_isPart_272 {G : XG} {d : Nat} {h : XH} {Q : XV → XH → Prop} {X : Nat → XH → Prop} {x3 s0 : Int} (F : xFix h) (hyp : ((s0 = 0 → (Q (xI 1) h)) ∧ (¬ s0 = 0 → xtg h (xpl h 53 20) = 12 ∧ (xwp G m_M_isNumber (d + 9) 0 [xR 53, xR (xpl h (xpl h 53 20) 3), xI x3] [] h (fun v9 h9 => xwp G m_M_isPart (d + 10) 287 [xZ, xZ, xZ, xZ, xZ, xZ] (xpush v9 []) h9 Q X) X)))) : xwp G m_M_isPart (d + 10) 272 [xR 53, xZ, xZ, xI x3, xZ, xZ] [xI s0] h Q X := by
  have hnx9 : (93 : Int) ≤ xnx h := F.2.2
  refine xr_okL (fun hl9 => ?_)
  have r_x3 : -2147483648 ≤ x3 ∧ x3 ≤ 2147483647 := hl9 (xI x3) (.tail _ (.tail _ (.tail _ (.head _)))) (Nat.le_of_ble_eq_true rfl)
  refine xr_okS (fun hs9 => ?_)
  have r_s0 : -2147483648 ≤ s0 ∧ s0 ≤ 2147483647 := hs9 (xI s0) (.head _)
  refine xr_if_eq (pc := 272) (tgt := 290) (hI := d_M_isPart_272) (ht := by decide) (fun q9 => ?_) (fun q9 => ?_)
  · replace hyp := hyp.1 q9
    have q1_ := q9
    clear q9
    refine xr_iconst (pc := 290) (hI := d_M_isPart_290) (hr := by decide) ?_
    refine xr_goto (pc := 291) (tgt := 295) (hI := d_M_isPart_291) (ht := by decide) ?_
    refine xr_ireturnT (S := []) (pc := 295) (hI := d_M_isPart_295) (hr := rfl) (xnar_z (by decide)) ?_
    exact hyp
  · replace hyp := hyp.2 q9
    have q1_ := q9
    clear q9
    refine xr_aload_n (pc := 275) (i := 0) (hI := d_M_isPart_275) (hi := rfl) (hl := rfl) ?_
    refine xr_aload_n (pc := 276) (i := 0) (hI := d_M_isPart_276) (hi := rfl) (hl := rfl) ?_
    refine xg_getf (pc := 277) (ci := 11) (k := 20) (N := 38) (v9 := 2) (v := (xpl h 53 20)) (T := xF11) (hI := d_M_isPart_277) (hw := w_1607) rfl xi11 (Or.inl rfl) (Nat.le_of_ble_eq_true rfl) (Nat.le_of_ble_eq_true rfl) rfl (ft_53 F) rfl (fun f2_ => ?_)
    clear f2_
    obtain ⟨c9, hyp⟩ := hyp
    have t3_ := c9
    clear c9
    refine xg_getfN (pc := 280) (ci := 12) (k := 3) (N := 13) (v9 := 2) (v := (xpl h (xpl h 53 20) 3)) (T := xF12) (hI := d_M_isPart_280) (hw := w_1542) rfl xi12 (Or.inl rfl) (Nat.le_of_ble_eq_true rfl) (Nat.le_of_ble_eq_true rfl) rfl t3_ rfl (fun f4_ => ?_)
    clear f4_
    refine xr_iload_n (pc := 283) (i := 3) (hI := d_M_isPart_283) (hi := rfl) (hl := rfl) ?_
    exact xq_callV (pc := 284) (index := 297) (K := m_M_isNumber) (As := [xR (xpl h (xpl h 53 20) 3), xI x3]) (S := []) (L0 := [xR 53, xR (xpl h (xpl h 53 20) 3), xI x3]) (hI := d_M_isPart_284) (hK := k_M_isNumber) (hlk := w_2344) (hnoM := rfl) (hS8 := Nat.le_of_ble_eq_true rfl) (ci := 11) (N := 38) (C := "BeaconIndexModel") (T := xF11) (hc := rfl) (hci := Nat.le_of_ble_eq_true rfl) (htb := (ft_53 F)) (hinst := w_2346) (hsel := sel_M_isNumber) (hlen := Nat.le_of_ble_eq_true rfl) (hst := rfl) (hL0 := rfl)  (xwp_mono hyp (fun v9 h9 q9 => xr_drop (L9 := [xZ, xZ, xZ, xZ, xZ, xZ]) (xdrz (xdrs (xdrs (xdrz (xdrs (xdrs xdr0)))))) q9) (fun _ _ z9 => z9))
theorem d_M_isPart_287 : decode prog_14_method_51_code 287 = .ok (.ifCond .eq 7, 3) := by decide +kernel
theorem v_M_isPart_287 {G : XG} {d : Nat} {h : XH} {Q : XV → XH → Prop} {X : Nat → XH → Prop} {s0 : Int} (F : xFix h) (hyp : ((s0 = 0 → (Q (xI 0) h)) ∧ (¬ s0 = 0 → (Q (xI 1) h)))) : xwp G m_M_isPart (d + 10) 287 [xZ, xZ, xZ, xZ, xZ, xZ] [xI s0] h Q X := by
  have hnx9 : (93 : Int) ≤ xnx h := F.2.2
  refine xr_okS (fun hs9 => ?_)
  have r_s0 : -2147483648 ≤ s0 ∧ s0 ≤ 2147483647 := hs9 (xI s0) (.head _)
  refine xr_if_eq (pc := 287) (tgt := 294) (hI := d_M_isPart_287) (ht := by decide) (fun q9 => ?_) (fun q9 => ?_)
  · replace hyp := hyp.1 q9
    have q1_ := q9
    clear q9
    refine xr_iconst (pc := 294) (hI := d_M_isPart_294) (hr := by decide) ?_
    refine xr_ireturnT (S := []) (pc := 295) (hI := d_M_isPart_295) (hr := rfl) (xnar_z (by decide)) ?_
    exact hyp
  · replace hyp := hyp.2 q9
    have q1_ := q9
    clear q9
    refine xr_iconst (pc := 290) (hI := d_M_isPart_290) (hr := by decide) ?_
    refine xr_goto (pc := 291) (tgt := 295) (hI := d_M_isPart_291) (ht := by decide) ?_
    refine xr_ireturnT (S := []) (pc := 295) (hI := d_M_isPart_295) (hr := rfl) (xnar_z (by decide)) ?_
    exact hyp
theorem d_M_isCore_0 : decode prog_14_method_52_code 0 = .ok (.aload_n 0, 1) := by decide +kernel
theorem d_M_isCore_1 : decode prog_14_method_52_code 1 = .ok (.bipush 40, 2) := by decide +kernel
theorem d_M_isCore_3 : decode prog_14_method_52_code 3 = .ok (.invokevirtual 261, 3) := by decide +kernel
theorem v_M_isCore_0 {G : XG} {d : Nat} {h : XH} {Q : XV → XH → Prop} {X : Nat → XH → Prop} {x1 : Int} (F : xFix h) (hyp : (xwp G m_M_is (d + 8) 0 [xR 53, xI 40] [] h (fun v9 h9 => xwp G m_M_isCore (d + 9) 6 [xR 53, xI x1] (xpush v9 []) h9 Q X) X)) : xwp G m_M_isCore (d + 9) 0 [xR 53, xI x1] [] h Q X := by
  have hnx9 : (93 : Int) ≤ xnx h := F.2.2
  refine xr_okL (fun hl9 => ?_)
  have r_x1 : -2147483648 ≤ x1 ∧ x1 ≤ 2147483647 := hl9 (xI x1) (.tail _ (.head _)) (Nat.le_of_ble_eq_true rfl)
  refine xr_aload_n (pc := 0) (i := 0) (hI := d_M_isCore_0) (hi := rfl) (hl := rfl) ?_
  refine xr_bipush (pc := 1) (hI := d_M_isCore_1) (hr := by decide) (hv := by decide) ?_
  exact xq_callV (pc := 3) (index := 261) (K := m_M_is) (As := [xI 40]) (S := []) (L0 := [xR 53, xI 40]) (hI := d_M_isCore_3) (hK := k_M_is) (hlk := w_2322) (hnoM := rfl) (hS8 := Nat.le_of_ble_eq_true rfl) (ci := 11) (N := 38) (C := "BeaconIndexModel") (T := xF11) (hc := rfl) (hci := Nat.le_of_ble_eq_true rfl) (htb := (ft_53 F)) (hinst := w_2324) (hsel := sel_M_is) (hlen := Nat.le_of_ble_eq_true rfl) (hst := rfl) (hL0 := rfl)  hyp
theorem d_M_isCore_6 : decode prog_14_method_52_code 6 = .ok (.ifCond .eq 79, 3) := by decide +kernel
theorem d_M_isCore_85 : decode prog_14_method_52_code 85 = .ok (.aload_n 0, 1) := by decide +kernel
theorem d_M_isCore_86 : decode prog_14_method_52_code 86 = .ok (.bipush 34, 2) := by decide +kernel
theorem d_M_isCore_88 : decode prog_14_method_52_code 88 = .ok (.invokevirtual 294, 3) := by decide +kernel
theorem d_M_isCore_9 : decode prog_14_method_52_code 9 = .ok (.aload_n 0, 1) := by decide +kernel
theorem d_M_isCore_10 : decode prog_14_method_52_code 10 = .ok (.getfield 301, 3) := by decide +kernel
theorem w_1612 : Cond.fieldLink "BeaconIndexModel" 301 "BeaconIndexModel" "open" "I" ∈ lw_tbl := List.mem_append_right _ (List.mem_of_getElem? (i := 1612) (by decide +kernel))
theorem d_M_isCore_13 : decode prog_14_method_52_code 13 = .ok (.iconst 4, 1) := by decide +kernel
theorem d_M_isCore_14 : decode prog_14_method_52_code 14 = .ok (.if_icmp .ne 5, 3) := by decide +kernel
theorem d_M_isCore_19 : decode prog_14_method_52_code 19 = .ok (.aload_n 0, 1) := by decide +kernel
theorem d_M_isCore_20 : decode prog_14_method_52_code 20 = .ok (.dup, 1) := by decide +kernel
theorem d_M_isCore_21 : decode prog_14_method_52_code 21 = .ok (.getfield 301, 3) := by decide +kernel
theorem d_M_isCore_24 : decode prog_14_method_52_code 24 = .ok (.iconst 1, 1) := by decide +kernel
theorem d_M_isCore_25 : decode prog_14_method_52_code 25 = .ok (.iadd, 1) := by decide +kernel
theorem d_M_isCore_26 : decode prog_14_method_52_code 26 = .ok (.putfield 301, 3) := by decide +kernel
theorem xfk_53_25 : xfree 53 25 = true := by decide +kernel
theorem d_M_isCore_29 : decode prog_14_method_52_code 29 = .ok (.aload_n 0, 1) := by decide +kernel
theorem d_M_isCore_30 : decode prog_14_method_52_code 30 = .ok (.dup, 1) := by decide +kernel
theorem d_M_isCore_31 : decode prog_14_method_52_code 31 = .ok (.getfield 258, 3) := by decide +kernel
theorem d_M_isCore_34 : decode prog_14_method_52_code 34 = .ok (.iconst 1, 1) := by decide +kernel
theorem d_M_isCore_35 : decode prog_14_method_52_code 35 = .ok (.iadd, 1) := by decide +kernel
theorem d_M_isCore_36 : decode prog_14_method_52_code 36 = .ok (.putfield 258, 3) := by decide +kernel
theorem d_M_isCore_39 : decode prog_14_method_52_code 39 = .ok (.aload_n 0, 1) := by decide +kernel
theorem d_M_isCore_40 : decode prog_14_method_52_code 40 = .ok (.getfield 55, 3) := by decide +kernel
theorem d_M_isCore_43 : decode prog_14_method_52_code 43 = .ok (.getfield 304, 3) := by decide +kernel
theorem w_1546 : Cond.fieldLinkNest "BeaconIndexModel" 304 "BeaconIndexModel$Question" "unit" "[I" "BeaconIndexModel" ∈ lw_tbl := List.mem_append_right _ (List.mem_of_getElem? (i := 1546) (by decide +kernel))
theorem d_M_isCore_46 : decode prog_14_method_52_code 46 = .ok (.iload_n 1, 1) := by decide +kernel
theorem d_M_isCore_47 : decode prog_14_method_52_code 47 = .ok (.iconst 2, 1) := by decide +kernel
theorem d_M_isCore_48 : decode prog_14_method_52_code 48 = .ok (.iastore, 1) := by decide +kernel
theorem d_M_isCore_49 : decode prog_14_method_52_code 49 = .ok (.aload_n 0, 1) := by decide +kernel
theorem d_M_isCore_50 : decode prog_14_method_52_code 50 = .ok (.iload_n 1, 1) := by decide +kernel
theorem d_M_isCore_51 : decode prog_14_method_52_code 51 = .ok (.aload_n 0, 1) := by decide +kernel
theorem d_M_isCore_52 : decode prog_14_method_52_code 52 = .ok (.getfield 55, 3) := by decide +kernel
theorem d_M_isCore_55 : decode prog_14_method_52_code 55 = .ok (.getfield 279, 3) := by decide +kernel
theorem d_M_isCore_58 : decode prog_14_method_52_code 58 = .ok (.iload_n 1, 1) := by decide +kernel
theorem d_M_isCore_59 : decode prog_14_method_52_code 59 = .ok (.iaload, 1) := by decide +kernel
theorem d_M_isCore_60 : decode prog_14_method_52_code 60 = .ok (.invokevirtual 307, 3) := by decide +kernel
theorem k_M_isQuestion : xCal m_M_isQuestion 2 := ⟨List.mem_append_right _ (List.mem_of_getElem? (i := 2317) (by decide +kernel)), w_15, Nat.le_of_ble_eq_true rfl, ⟨by decide +kernel, by decide +kernel⟩, by decide +kernel, by decide +kernel, rfl⟩
theorem w_2314 : Cond.methodLink "BeaconIndexModel" 307 ⟨"BeaconIndexModel", "isQuestion", "(II)Z"⟩ ∈ lw_tbl := List.mem_append_right _ (List.mem_of_getElem? (i := 2314) (by decide +kernel))
theorem w_2316 : Cond.instanceMethod ⟨"BeaconIndexModel", "isQuestion", "(II)Z"⟩ ∈ lw_tbl := List.mem_append_right _ (List.mem_of_getElem? (i := 2316) (by decide +kernel))
theorem sel_M_isQuestion : Cond.selects "BeaconIndexModel" ⟨"BeaconIndexModel", "isQuestion", "(II)Z"⟩ ⟨"BeaconIndexModel", "isQuestion", "(II)Z"⟩ ∈ lw_tbl := List.mem_append_left _ (by decide +kernel)
theorem d_M_isCore_17 : decode prog_14_method_52_code 17 = .ok (.iconst 0, 1) := by decide +kernel
theorem d_M_isCore_18 : decode prog_14_method_52_code 18 = .ok (.ireturn, 1) := by decide +kernel
theorem v_M_isCore_6 {G : XG} {d : Nat} {h : XH} {Q : XV → XH → Prop} {X : Nat → XH → Prop} {x1 s0 : Int} (F : xFix h) (hyp : ((s0 = 0 → (xwp G m_M_eat (d + 8) 0 [xR 53, xI 34] [] h (fun v9 h9 => xwp G m_M_isCore (d + 9) 91 [xR 53, xI x1] (xpush v9 []) h9 Q X) X)) ∧ (¬ s0 = 0 → (((xpl h 53 25) = 4 → (Q (xI 0) h)) ∧ (¬ (xpl h 53 25) = 4 → xiR ((xpl h 53 25) + 1) ∧ xiR ((xpl h 53 24) + 1) ∧ xtg h (xpl h 53 20) = 12 ∧ xtg h (xpl h (xpl h 53 20) 5) = 100 ∧ 0 ≤ (xpl h (xpl h 53 20) 5) ∧ 0 ≤ x1 ∧ x1 < (xln h (xpl h (xpl h 53 20) 5)) ∧ xtg h (xpl h (xpl h 53 20) 4) = 100 ∧ x1 < (xln h (xpl h (xpl h 53 20) 4)) ∧ (xFix (xst (xst (xst h 53 25 ((xpl h 53 25) + 1)) 53 24 ((xpl h 53 24) + 1)) (xpl h (xpl h 53 20) 5) x1 2) → xwp G m_M_isQuestion (d + 8) 0 [xR 53, xI x1, xI (xpl (xst (xst (xst h 53 25 ((xpl h 53 25) + 1)) 53 24 ((xpl h 53 24) + 1)) (xpl h (xpl h 53 20) 5) x1 2) (xpl h (xpl h 53 20) 4) x1)] [] (xst (xst (xst h 53 25 ((xpl h 53 25) + 1)) 53 24 ((xpl h 53 24) + 1)) (xpl h (xpl h 53 20) 5) x1 2) (fun v9 h9 => xwp G m_M_isCore (d + 9) 63 [xR 53, xZ] (xpush v9 []) h9 Q X) X)))))) : xwp G m_M_isCore (d + 9) 6 [xR 53, xI x1] [xI s0] h Q X := by
  have hnx9 : (93 : Int) ≤ xnx h := F.2.2
  refine xr_okL (fun hl9 => ?_)
  have r_x1 : -2147483648 ≤ x1 ∧ x1 ≤ 2147483647 := hl9 (xI x1) (.tail _ (.head _)) (Nat.le_of_ble_eq_true rfl)
  refine xr_okS (fun hs9 => ?_)
  have r_s0 : -2147483648 ≤ s0 ∧ s0 ≤ 2147483647 := hs9 (xI s0) (.head _)
  refine xr_if_eq (pc := 6) (tgt := 85) (hI := d_M_isCore_6) (ht := by decide) (fun q9 => ?_) (fun q9 => ?_)
  · replace hyp := hyp.1 q9
    have q1_ := q9
    clear q9
    refine xr_aload_n (pc := 85) (i := 0) (hI := d_M_isCore_85) (hi := rfl) (hl := rfl) ?_
    refine xr_bipush (pc := 86) (hI := d_M_isCore_86) (hr := by decide) (hv := by decide) ?_
    exact xq_callV (pc := 88) (index := 294) (K := m_M_eat) (As := [xI 34]) (S := []) (L0 := [xR 53, xI 34]) (hI := d_M_isCore_88) (hK := k_M_eat) (hlk := w_2332) (hnoM := rfl) (hS8 := Nat.le_of_ble_eq_true rfl) (ci := 11) (N := 38) (C := "BeaconIndexModel") (T := xF11) (hc := rfl) (hci := Nat.le_of_ble_eq_true rfl) (htb := (ft_53 F)) (hinst := w_2334) (hsel := sel_M_eat) (hlen := Nat.le_of_ble_eq_true rfl) (hst := rfl) (hL0 := rfl)  hyp
  · replace hyp := hyp.2 q9
    have q1_ := q9
    clear q9
    refine xr_aload_n (pc := 9) (i := 0) (hI := d_M_isCore_9) (hi := rfl) (hl := rfl) ?_
    refine xg_getf (pc := 10) (ci := 11) (k := 25) (N := 38) (v9 := 0) (v := (xpl h 53 25)) (T := xF11) (hI := d_M_isCore_10) (hw := w_1612) rfl xi11 (Or.inl rfl) (Nat.le_of_ble_eq_true rfl) (Nat.le_of_ble_eq_true rfl) rfl (ft_53 F) rfl (fun f2_ => ?_)
    replace f2_ : -2147483648 ≤ (xpl h 53 25) ∧ (xpl h 53 25) ≤ 2147483647 := f2_
    refine xr_iconst (pc := 13) (hI := d_M_isCore_13) (hr := by decide) ?_
    refine xr_icmp_ne (pc := 14) (tgt := 19) (hI := d_M_isCore_14) (ht := by decide) (fun q9 => ?_) (fun q9 => ?_)
    · replace hyp := hyp.2 q9
      have q3_ := q9
      clear q9
      refine xr_aload_n (pc := 19) (i := 0) (hI := d_M_isCore_19) (hi := rfl) (hl := rfl) ?_
      refine xr_dup (pc := 20) (hI := d_M_isCore_20) (hv := rfl) ?_
      refine xg_getf (pc := 21) (ci := 11) (k := 25) (N := 38) (v9 := 0) (v := (xpl h 53 25)) (T := xF11) (hI := d_M_isCore_21) (hw := w_1612) rfl xi11 (Or.inl rfl) (Nat.le_of_ble_eq_true rfl) (Nat.le_of_ble_eq_true rfl) rfl (ft_53 F) rfl (fun f4_ => ?_)
      replace f4_ : -2147483648 ≤ (xpl h 53 25) ∧ (xpl h 53 25) ≤ 2147483647 := f4_
      refine xr_iconst (pc := 24) (hI := d_M_isCore_24) (hr := by decide) ?_
      obtain ⟨c9, hyp⟩ := hyp
      refine xr_iadd (pc := 25) (hI := d_M_isCore_25) (hr := c9) ?_
      refine xr_putf (pc := 26) (ci := 11) (k := 25) (N := 38) (v9 := 0) (T := xF11) (tF := xT11) (hI := d_M_isCore_26) (hw := w_1612) rfl xi11 xt11 xn11 (Or.inl rfl) (Nat.le_of_ble_eq_true rfl) (Nat.le_of_ble_eq_true rfl) rfl xfit_i rfl (ft_53 F) (by decide) (fun z => z) ?_
      have F5_ : xFix (xst h 53 25 ((xpl h 53 25) + 1)) := F.stL xfk_53_25
      refine xr_aload_n (pc := 29) (i := 0) (hI := d_M_isCore_29) (hi := rfl) (hl := rfl) ?_
      refine xr_dup (pc := 30) (hI := d_M_isCore_30) (hv := rfl) ?_
      refine xg_getf (pc := 31) (ci := 11) (k := 24) (N := 38) (v9 := 0) (v := (xpl h 53 24)) (T := xF11) (hI := d_M_isCore_31) (hw := w_1611) rfl xi11 (Or.inl rfl) (Nat.le_of_ble_eq_true rfl) (Nat.le_of_ble_eq_true rfl) rfl (ft_53 F5_) (xpl_ok (by decide)) (fun f6_ => ?_)
      replace f6_ : -2147483648 ≤ (xpl h 53 24) ∧ (xpl h 53 24) ≤ 2147483647 := f6_
      refine xr_iconst (pc := 34) (hI := d_M_isCore_34) (hr := by decide) ?_
      obtain ⟨c9, hyp⟩ := hyp
      refine xr_iadd (pc := 35) (hI := d_M_isCore_35) (hr := c9) ?_
      refine xr_putf (pc := 36) (ci := 11) (k := 24) (N := 38) (v9 := 0) (T := xF11) (tF := xT11) (hI := d_M_isCore_36) (hw := w_1611) rfl xi11 xt11 xn11 (Or.inl rfl) (Nat.le_of_ble_eq_true rfl) (Nat.le_of_ble_eq_true rfl) rfl xfit_i rfl (ft_53 F5_) (by decide) (fun z => z) ?_
      have F7_ : xFix (xst (xst h 53 25 ((xpl h 53 25) + 1)) 53 24 ((xpl h 53 24) + 1)) := F5_.stL xfk_53_24
      refine xr_aload_n (pc := 39) (i := 0) (hI := d_M_isCore_39) (hi := rfl) (hl := rfl) ?_
      refine xg_getf (pc := 40) (ci := 11) (k := 20) (N := 38) (v9 := 2) (v := (xpl h 53 20)) (T := xF11) (hI := d_M_isCore_40) (hw := w_1607) rfl xi11 (Or.inl rfl) (Nat.le_of_ble_eq_true rfl) (Nat.le_of_ble_eq_true rfl) rfl (ft_53 F7_) (Eq.trans (xpl_ok (by decide)) (xpl_ok (by decide))) (fun f8_ => ?_)
      clear f8_
      obtain ⟨c9, hyp⟩ := hyp
      have t9_ := c9
      clear c9
      refine xg_getfN (pc := 43) (ci := 12) (k := 5) (N := 13) (v9 := 2) (v := (xpl h (xpl h 53 20) 5)) (T := xF12) (hI := d_M_isCore_43) (hw := w_1546) rfl xi12 (Or.inl rfl) (Nat.le_of_ble_eq_true rfl) (Nat.le_of_ble_eq_true rfl) rfl t9_ (Eq.trans (xpl_oa (xne_tag t9_ (have z9 := (ft_53 F7_); z9) (by decide))) (xpl_oa (xne_tag t9_ (have z9 := (ft_53 F7_); z9) (by decide)))) (fun f10_ => ?_)
      clear f10_
      refine xr_iload_n (pc := 46) (i := 1) (hI := d_M_isCore_46) (hi := rfl) (hl := rfl) ?_
      refine xr_iconst (pc := 47) (hI := d_M_isCore_47) (hr := by decide) ?_
      obtain ⟨c9, hyp⟩ := hyp
      have t11_ := c9
      clear c9
      obtain ⟨c12_, hyp⟩ := hyp
      obtain ⟨c13_, hyp⟩ := hyp
      obtain ⟨c14_, hyp⟩ := hyp
      refine xr_iastore (pc := 48) (hI := d_M_isCore_48) t11_ c12_ c13_ (xlt_of (show xln (xst (xst h 53 25 ((xpl h 53 25) + 1)) 53 24 ((xpl h 53 24) + 1)) (xpl h (xpl h 53 20) 5) = xln h (xpl h (xpl h 53 20) 5) from rfl) c14_) ?_
      have F15_ : xFix (xst (xst (xst h 53 25 ((xpl h 53 25) + 1)) 53 24 ((xpl h 53 24) + 1)) (xpl h (xpl h 53 20) 5) x1 2) := F7_.stTA (t := 100) c12_ t11_ xta_100
      refine xr_aload_n (pc := 49) (i := 0) (hI := d_M_isCore_49) (hi := rfl) (hl := rfl) ?_
      refine xr_iload_n (pc := 50) (i := 1) (hI := d_M_isCore_50) (hi := rfl) (hl := rfl) ?_
      refine xr_aload_n (pc := 51) (i := 0) (hI := d_M_isCore_51) (hi := rfl) (hl := rfl) ?_
      refine xg_getf (pc := 52) (ci := 11) (k := 20) (N := 38) (v9 := 2) (v := (xpl h 53 20)) (T := xF11) (hI := d_M_isCore_52) (hw := w_1607) rfl xi11 (Or.inl rfl) (Nat.le_of_ble_eq_true rfl) (Nat.le_of_ble_eq_true rfl) rfl (ft_53 F15_) (Eq.trans (xpl_oa (xne_tag (have z9 := (ft_53 F15_); z9) t11_ (by decide))) (Eq.trans (xpl_ok (by decide)) (xpl_ok (by decide)))) (fun f16_ => ?_)
      clear f16_
      refine xg_getfN (pc := 55) (ci := 12) (k := 4) (N := 13) (v9 := 2) (v := (xpl h (xpl h 53 20) 4)) (T := xF12) (hI := d_M_isCore_55) (hw := w_1544) rfl xi12 (Or.inl rfl) (Nat.le_of_ble_eq_true rfl) (Nat.le_of_ble_eq_true rfl) rfl t9_ (Eq.trans (xpl_oa (xne_tag t9_ t11_ (by decide))) (Eq.trans (xpl_oa (xne_tag t9_ (have z9 := (ft_53 F15_); z9) (by decide))) (xpl_oa (xne_tag t9_ (have z9 := (ft_53 F15_); z9) (by decide))))) (fun f17_ => ?_)
      clear f17_
      refine xr_iload_n (pc := 58) (i := 1) (hI := d_M_isCore_58) (hi := rfl) (hl := rfl) ?_
      obtain ⟨c9, hyp⟩ := hyp
      have t18_ := c9
      clear c9
      obtain ⟨c19_, hyp⟩ := hyp
      refine xg_iaload (pc := 59) (v := (xpl (xst (xst (xst h 53 25 ((xpl h 53 25) + 1)) 53 24 ((xpl h 53 24) + 1)) (xpl h (xpl h 53 20) 5) x1 2) (xpl h (xpl h 53 20) 4) x1)) (hI := d_M_isCore_59) t18_ (by clear hyp; omega) (xlt_of (show xln (xst (xst (xst h 53 25 ((xpl h 53 25) + 1)) 53 24 ((xpl h 53 24) + 1)) (xpl h (xpl h 53 20) 5) x1 2) (xpl h (xpl h 53 20) 4) = xln h (xpl h (xpl h 53 20) 4) from rfl) c19_) rfl (fun f20_ => ?_)
      replace f20_ : -2147483648 ≤ (xpl (xst (xst (xst h 53 25 ((xpl h 53 25) + 1)) 53 24 ((xpl h 53 24) + 1)) (xpl h (xpl h 53 20) 5) x1 2) (xpl h (xpl h 53 20) 4) x1) ∧ (xpl (xst (xst (xst h 53 25 ((xpl h 53 25) + 1)) 53 24 ((xpl h 53 24) + 1)) (xpl h (xpl h 53 20) 5) x1 2) (xpl h (xpl h 53 20) 4) x1) ≤ 2147483647 := f20_
      exact xq_callV (pc := 60) (index := 307) (K := m_M_isQuestion) (As := [xI x1, xI (xpl (xst (xst (xst h 53 25 ((xpl h 53 25) + 1)) 53 24 ((xpl h 53 24) + 1)) (xpl h (xpl h 53 20) 5) x1 2) (xpl h (xpl h 53 20) 4) x1)]) (S := []) (L0 := [xR 53, xI x1, xI (xpl (xst (xst (xst h 53 25 ((xpl h 53 25) + 1)) 53 24 ((xpl h 53 24) + 1)) (xpl h (xpl h 53 20) 5) x1 2) (xpl h (xpl h 53 20) 4) x1)]) (hI := d_M_isCore_60) (hK := k_M_isQuestion) (hlk := w_2314) (hnoM := rfl) (hS8 := Nat.le_of_ble_eq_true rfl) (ci := 11) (N := 38) (C := "BeaconIndexModel") (T := xF11) (hc := rfl) (hci := Nat.le_of_ble_eq_true rfl) (htb := (ft_53 F15_)) (hinst := w_2316) (hsel := sel_M_isQuestion) (hlen := Nat.le_of_ble_eq_true rfl) (hst := rfl) (hL0 := rfl)  (xwp_mono (hyp F15_) (fun v9 h9 q9 => xr_drop (L9 := [xR 53, xZ]) (xdrs (xdrz xdr0)) q9) (fun _ _ z9 => z9))
    · replace hyp := hyp.1 q9
      have q3_ := q9
      clear q9
      refine xr_iconst (pc := 17) (hI := d_M_isCore_17) (hr := by decide) ?_
      refine xr_ireturnT (S := []) (pc := 18) (hI := d_M_isCore_18) (hr := rfl) (xnar_z (by decide)) ?_
      exact hyp
theorem d_M_isCore_63 : decode prog_14_method_52_code 63 = .ok (.ifCond .ne 5, 3) := by decide +kernel
theorem d_M_isCore_68 : decode prog_14_method_52_code 68 = .ok (.aload_n 0, 1) := by decide +kernel
theorem d_M_isCore_69 : decode prog_14_method_52_code 69 = .ok (.dup, 1) := by decide +kernel
theorem d_M_isCore_70 : decode prog_14_method_52_code 70 = .ok (.getfield 301, 3) := by decide +kernel
theorem d_M_isCore_73 : decode prog_14_method_52_code 73 = .ok (.iconst 1, 1) := by decide +kernel
theorem d_M_isCore_74 : decode prog_14_method_52_code 74 = .ok (.isub, 1) := by decide +kernel
theorem d_M_isCore_75 : decode prog_14_method_52_code 75 = .ok (.putfield 301, 3) := by decide +kernel
theorem d_M_isCore_78 : decode prog_14_method_52_code 78 = .ok (.aload_n 0, 1) := by decide +kernel
theorem d_M_isCore_79 : decode prog_14_method_52_code 79 = .ok (.bipush 41, 2) := by decide +kernel
theorem d_M_isCore_81 : decode prog_14_method_52_code 81 = .ok (.invokevirtual 294, 3) := by decide +kernel
theorem d_M_isCore_66 : decode prog_14_method_52_code 66 = .ok (.iconst 0, 1) := by decide +kernel
theorem d_M_isCore_67 : decode prog_14_method_52_code 67 = .ok (.ireturn, 1) := by decide +kernel
theorem v_M_isCore_63 {G : XG} {d : Nat} {h : XH} {Q : XV → XH → Prop} {X : Nat → XH → Prop} {s0 : Int} (F : xFix h) (hyp : ((s0 = 0 → (Q (xI 0) h)) ∧ (¬ s0 = 0 → xiR ((xpl h 53 25) - 1) ∧ (xFix (xst h 53 25 ((xpl h 53 25) - 1)) → xwp G m_M_eat (d + 8) 0 [xR 53, xI 41] [] (xst h 53 25 ((xpl h 53 25) - 1)) (fun v9 h9 => xwp G m_M_isCore (d + 9) 84 [xZ, xZ] (xpush v9 []) h9 Q X) X)))) : xwp G m_M_isCore (d + 9) 63 [xR 53, xZ] [xI s0] h Q X := by
  have hnx9 : (93 : Int) ≤ xnx h := F.2.2
  refine xr_okS (fun hs9 => ?_)
  have r_s0 : -2147483648 ≤ s0 ∧ s0 ≤ 2147483647 := hs9 (xI s0) (.head _)
  refine xr_if_ne (pc := 63) (tgt := 68) (hI := d_M_isCore_63) (ht := by decide) (fun q9 => ?_) (fun q9 => ?_)
  · replace hyp := hyp.2 q9
    have q1_ := q9
    clear q9
    refine xr_aload_n (pc := 68) (i := 0) (hI := d_M_isCore_68) (hi := rfl) (hl := rfl) ?_
    refine xr_dup (pc := 69) (hI := d_M_isCore_69) (hv := rfl) ?_
    refine xg_getf (pc := 70) (ci := 11) (k := 25) (N := 38) (v9 := 0) (v := (xpl h 53 25)) (T := xF11) (hI := d_M_isCore_70) (hw := w_1612) rfl xi11 (Or.inl rfl) (Nat.le_of_ble_eq_true rfl) (Nat.le_of_ble_eq_true rfl) rfl (ft_53 F) rfl (fun f2_ => ?_)
    replace f2_ : -2147483648 ≤ (xpl h 53 25) ∧ (xpl h 53 25) ≤ 2147483647 := f2_
    refine xr_iconst (pc := 73) (hI := d_M_isCore_73) (hr := by decide) ?_
    obtain ⟨c9, hyp⟩ := hyp
    refine xr_isub (pc := 74) (hI := d_M_isCore_74) (hr := c9) ?_
    refine xr_putf (pc := 75) (ci := 11) (k := 25) (N := 38) (v9 := 0) (T := xF11) (tF := xT11) (hI := d_M_isCore_75) (hw := w_1612) rfl xi11 xt11 xn11 (Or.inl rfl) (Nat.le_of_ble_eq_true rfl) (Nat.le_of_ble_eq_true rfl) rfl xfit_i rfl (ft_53 F) (by decide) (fun z => z) ?_
    have F3_ : xFix (xst h 53 25 ((xpl h 53 25) - 1)) := F.stL xfk_53_25
    refine xr_aload_n (pc := 78) (i := 0) (hI := d_M_isCore_78) (hi := rfl) (hl := rfl) ?_
    refine xr_bipush (pc := 79) (hI := d_M_isCore_79) (hr := by decide) (hv := by decide) ?_
    exact xq_callV (pc := 81) (index := 294) (K := m_M_eat) (As := [xI 41]) (S := []) (L0 := [xR 53, xI 41]) (hI := d_M_isCore_81) (hK := k_M_eat) (hlk := w_2332) (hnoM := rfl) (hS8 := Nat.le_of_ble_eq_true rfl) (ci := 11) (N := 38) (C := "BeaconIndexModel") (T := xF11) (hc := rfl) (hci := Nat.le_of_ble_eq_true rfl) (htb := (ft_53 F3_)) (hinst := w_2334) (hsel := sel_M_eat) (hlen := Nat.le_of_ble_eq_true rfl) (hst := rfl) (hL0 := rfl)  (xwp_mono (hyp F3_) (fun v9 h9 q9 => xr_drop (L9 := [xZ, xZ]) (xdrz (xdrs xdr0)) q9) (fun _ _ z9 => z9))
  · replace hyp := hyp.1 q9
    have q1_ := q9
    clear q9
    refine xr_iconst (pc := 66) (hI := d_M_isCore_66) (hr := by decide) ?_
    refine xr_ireturnT (S := []) (pc := 67) (hI := d_M_isCore_67) (hr := rfl) (xnar_z (by decide)) ?_
    exact hyp
theorem d_M_isCore_84 : decode prog_14_method_52_code 84 = .ok (.ireturn, 1) := by decide +kernel
theorem v_M_isCore_84 {G : XG} {d : Nat} {h : XH} {Q : XV → XH → Prop} {X : Nat → XH → Prop} {s0 : Int} (F : xFix h) (hyp : (0 ≤ s0 ∧ s0 ≤ 1) ∧ (Q (xI s0) h)) : xwp G m_M_isCore (d + 9) 84 [xZ, xZ] [xI s0] h Q X := by
  have hnx9 : (93 : Int) ≤ xnx h := F.2.2
  refine xr_okS (fun hs9 => ?_)
  have r_s0 : -2147483648 ≤ s0 ∧ s0 ≤ 2147483647 := hs9 (xI s0) (.head _)
  obtain ⟨c9, hyp⟩ := hyp
  refine xr_ireturnT (S := []) (pc := 84) (hI := d_M_isCore_84) (hr := rfl) (xnar_z c9) ?_
  exact hyp
theorem d_M_isCore_91 : decode prog_14_method_52_code 91 = .ok (.ifCond .eq 69, 3) := by decide +kernel
theorem d_M_isCore_160 : decode prog_14_method_52_code 160 = .ok (.aload_n 0, 1) := by decide +kernel
theorem d_M_isCore_161 : decode prog_14_method_52_code 161 = .ok (.sipush 300, 3) := by decide +kernel
theorem d_M_isCore_164 : decode prog_14_method_52_code 164 = .ok (.invokevirtual 261, 3) := by decide +kernel
theorem v_M_isCore_91 {G : XG} {d : Nat} {h : XH} {Q : XV → XH → Prop} {X : Nat → XH → Prop} {x1 s0 : Int} (F : xFix h) (hyp : ((s0 = 0 → (xwp G m_M_is (d + 8) 0 [xR 53, xI 300] [] h (fun v9 h9 => xwp G m_M_isCore (d + 9) 167 [xR 53, xI x1] (xpush v9 []) h9 Q X) X)) ∧ (¬ s0 = 0 → (xwp G m_M_isCore (d + 9) 94 [xR 53, xI x1] [] h Q X)))) : xwp G m_M_isCore (d + 9) 91 [xR 53, xI x1] [xI s0] h Q X := by
  have hnx9 : (93 : Int) ≤ xnx h := F.2.2
  refine xr_okL (fun hl9 => ?_)
  have r_x1 : -2147483648 ≤ x1 ∧ x1 ≤ 2147483647 := hl9 (xI x1) (.tail _ (.head _)) (Nat.le_of_ble_eq_true rfl)
  refine xr_okS (fun hs9 => ?_)
  have r_s0 : -2147483648 ≤ s0 ∧ s0 ≤ 2147483647 := hs9 (xI s0) (.head _)
  refine xr_if_eq (pc := 91) (tgt := 160) (hI := d_M_isCore_91) (ht := by decide) (fun q9 => ?_) (fun q9 => ?_)
  · replace hyp := hyp.1 q9
    have q1_ := q9
    clear q9
    refine xr_aload_n (pc := 160) (i := 0) (hI := d_M_isCore_160) (hi := rfl) (hl := rfl) ?_
    refine xr_sipush (pc := 161) (hI := d_M_isCore_161) (hr := by decide) (hv := by decide) ?_
    exact xq_callV (pc := 164) (index := 261) (K := m_M_is) (As := [xI 300]) (S := []) (L0 := [xR 53, xI 300]) (hI := d_M_isCore_164) (hK := k_M_is) (hlk := w_2322) (hnoM := rfl) (hS8 := Nat.le_of_ble_eq_true rfl) (ci := 11) (N := 38) (C := "BeaconIndexModel") (T := xF11) (hc := rfl) (hci := Nat.le_of_ble_eq_true rfl) (htb := (ft_53 F)) (hinst := w_2324) (hsel := sel_M_is) (hlen := Nat.le_of_ble_eq_true rfl) (hst := rfl) (hL0 := rfl)  hyp
  · replace hyp := hyp.2 q9
    have q1_ := q9
    clear q9
    exact hyp
theorem d_M_isCore_94 : decode prog_14_method_52_code 94 = .ok (.aload_n 0, 1) := by decide +kernel
theorem d_M_isCore_95 : decode prog_14_method_52_code 95 = .ok (.sipush 300, 3) := by decide +kernel
theorem d_M_isCore_98 : decode prog_14_method_52_code 98 = .ok (.invokevirtual 261, 3) := by decide +kernel
theorem v_M_isCore_94 {G : XG} {d : Nat} {h : XH} {Q : XV → XH → Prop} {X : Nat → XH → Prop} {x1 : Int} (F : xFix h) (hyp : (xwp G m_M_is (d + 8) 0 [xR 53, xI 300] [] h (fun v9 h9 => xwp G m_M_isCore (d + 9) 101 [xR 53, xI x1] (xpush v9 []) h9 Q X) X)) : xwp G m_M_isCore (d + 9) 94 [xR 53, xI x1] [] h Q X := by
  have hnx9 : (93 : Int) ≤ xnx h := F.2.2
  refine xr_okL (fun hl9 => ?_)
  have r_x1 : -2147483648 ≤ x1 ∧ x1 ≤ 2147483647 := hl9 (xI x1) (.tail _ (.head _)) (Nat.le_of_ble_eq_true rfl)
  refine xr_aload_n (pc := 94) (i := 0) (hI := d_M_isCore_94) (hi := rfl) (hl := rfl) ?_
  refine xr_sipush (pc := 95) (hI := d_M_isCore_95) (hr := by decide) (hv := by decide) ?_
  exact xq_callV (pc := 98) (index := 261) (K := m_M_is) (As := [xI 300]) (S := []) (L0 := [xR 53, xI 300]) (hI := d_M_isCore_98) (hK := k_M_is) (hlk := w_2322) (hnoM := rfl) (hS8 := Nat.le_of_ble_eq_true rfl) (ci := 11) (N := 38) (C := "BeaconIndexModel") (T := xF11) (hc := rfl) (hci := Nat.le_of_ble_eq_true rfl) (htb := (ft_53 F)) (hinst := w_2324) (hsel := sel_M_is) (hlen := Nat.le_of_ble_eq_true rfl) (hst := rfl) (hL0 := rfl)  hyp
theorem d_M_isCore_101 : decode prog_14_method_52_code 101 = .ok (.ifCond .ne 5, 3) := by decide +kernel
theorem d_M_isCore_106 : decode prog_14_method_52_code 106 = .ok (.aload_n 0, 1) := by decide +kernel
theorem d_M_isCore_107 : decode prog_14_method_52_code 107 = .ok (.iload_n 1, 1) := by decide +kernel
theorem d_M_isCore_108 : decode prog_14_method_52_code 108 = .ok (.invokevirtual 310, 3) := by decide +kernel
abbrev m_M_run : XM := (⟨"BeaconIndexModel", "run", "(I)V"⟩, prog_14_method_54_code, 2, none, [])
theorem k_M_run : xCal m_M_run 1 := ⟨List.mem_append_right _ (List.mem_of_getElem? (i := 2339) (by decide +kernel)), w_15, Nat.le_of_ble_eq_true rfl, ⟨by decide +kernel, by decide +kernel⟩, by decide +kernel, by decide +kernel, rfl⟩
theorem w_2336 : Cond.methodLink "BeaconIndexModel" 310 ⟨"BeaconIndexModel", "run", "(I)V"⟩ ∈ lw_tbl := List.mem_append_right _ (List.mem_of_getElem? (i := 2336) (by decide +kernel))
theorem w_2338 : Cond.instanceMethod ⟨"BeaconIndexModel", "run", "(I)V"⟩ ∈ lw_tbl := List.mem_append_right _ (List.mem_of_getElem? (i := 2338) (by decide +kernel))
theorem sel_M_run : Cond.selects "BeaconIndexModel" ⟨"BeaconIndexModel", "run", "(I)V"⟩ ⟨"BeaconIndexModel", "run", "(I)V"⟩ ∈ lw_tbl := List.mem_append_left _ (by decide +kernel)
theorem d_M_isCore_104 : decode prog_14_method_52_code 104 = .ok (.iconst 0, 1) := by decide +kernel
theorem d_M_isCore_105 : decode prog_14_method_52_code 105 = .ok (.ireturn, 1) := by decide +kernel
theorem v_M_isCore_101 {G : XG} {d : Nat} {h : XH} {Q : XV → XH → Prop} {X : Nat → XH → Prop} {x1 s0 : Int} (F : xFix h) (hyp : ((s0 = 0 → (Q (xI 0) h)) ∧ (¬ s0 = 0 → (xwp G m_M_run (d + 8) 0 [xR 53, xI x1] [] h (fun v9 h9 => xwp G m_M_isCore (d + 9) 111 [xR 53, xI x1] (xpush v9 []) h9 Q X) X)))) : xwp G m_M_isCore (d + 9) 101 [xR 53, xI x1] [xI s0] h Q X := by
  have hnx9 : (93 : Int) ≤ xnx h := F.2.2
  refine xr_okL (fun hl9 => ?_)
  have r_x1 : -2147483648 ≤ x1 ∧ x1 ≤ 2147483647 := hl9 (xI x1) (.tail _ (.head _)) (Nat.le_of_ble_eq_true rfl)
  refine xr_okS (fun hs9 => ?_)
  have r_s0 : -2147483648 ≤ s0 ∧ s0 ≤ 2147483647 := hs9 (xI s0) (.head _)
  refine xr_if_ne (pc := 101) (tgt := 106) (hI := d_M_isCore_101) (ht := by decide) (fun q9 => ?_) (fun q9 => ?_)
  · replace hyp := hyp.2 q9
    have q1_ := q9
    clear q9
    refine xr_aload_n (pc := 106) (i := 0) (hI := d_M_isCore_106) (hi := rfl) (hl := rfl) ?_
    refine xr_iload_n (pc := 107) (i := 1) (hI := d_M_isCore_107) (hi := rfl) (hl := rfl) ?_
    exact xq_callV (pc := 108) (index := 310) (K := m_M_run) (As := [xI x1]) (S := []) (L0 := [xR 53, xI x1]) (hI := d_M_isCore_108) (hK := k_M_run) (hlk := w_2336) (hnoM := rfl) (hS8 := Nat.le_of_ble_eq_true rfl) (ci := 11) (N := 38) (C := "BeaconIndexModel") (T := xF11) (hc := rfl) (hci := Nat.le_of_ble_eq_true rfl) (htb := (ft_53 F)) (hinst := w_2338) (hsel := sel_M_run) (hlen := Nat.le_of_ble_eq_true rfl) (hst := rfl) (hL0 := rfl)  hyp
  · replace hyp := hyp.1 q9
    have q1_ := q9
    clear q9
    refine xr_iconst (pc := 104) (hI := d_M_isCore_104) (hr := by decide) ?_
    refine xr_ireturnT (S := []) (pc := 105) (hI := d_M_isCore_105) (hr := rfl) (xnar_z (by decide)) ?_
    exact hyp
theorem d_M_isCore_111 : decode prog_14_method_52_code 111 = .ok (.aload_n 0, 1) := by decide +kernel
theorem d_M_isCore_112 : decode prog_14_method_52_code 112 = .ok (.bipush 34, 2) := by decide +kernel
theorem d_M_isCore_114 : decode prog_14_method_52_code 114 = .ok (.invokevirtual 261, 3) := by decide +kernel
theorem v_M_isCore_111 {G : XG} {d : Nat} {h : XH} {Q : XV → XH → Prop} {X : Nat → XH → Prop} {x1 : Int} (F : xFix h) (hyp : (xwp G m_M_is (d + 8) 0 [xR 53, xI 34] [] h (fun v9 h9 => xwp G m_M_isCore (d + 9) 117 [xR 53, xI x1] (xpush v9 []) h9 Q X) X)) : xwp G m_M_isCore (d + 9) 111 [xR 53, xI x1] [] h Q X := by
  have hnx9 : (93 : Int) ≤ xnx h := F.2.2
  refine xr_okL (fun hl9 => ?_)
  have r_x1 : -2147483648 ≤ x1 ∧ x1 ≤ 2147483647 := hl9 (xI x1) (.tail _ (.head _)) (Nat.le_of_ble_eq_true rfl)
  refine xr_aload_n (pc := 111) (i := 0) (hI := d_M_isCore_111) (hi := rfl) (hl := rfl) ?_
  refine xr_bipush (pc := 112) (hI := d_M_isCore_112) (hr := by decide) (hv := by decide) ?_
  exact xq_callV (pc := 114) (index := 261) (K := m_M_is) (As := [xI 34]) (S := []) (L0 := [xR 53, xI 34]) (hI := d_M_isCore_114) (hK := k_M_is) (hlk := w_2322) (hnoM := rfl) (hS8 := Nat.le_of_ble_eq_true rfl) (ci := 11) (N := 38) (C := "BeaconIndexModel") (T := xF11) (hc := rfl) (hci := Nat.le_of_ble_eq_true rfl) (htb := (ft_53 F)) (hinst := w_2324) (hsel := sel_M_is) (hlen := Nat.le_of_ble_eq_true rfl) (hst := rfl) (hL0 := rfl)  hyp
theorem d_M_isCore_117 : decode prog_14_method_52_code 117 = .ok (.ifCond .eq (-23), 3) := by decide +kernel
theorem d_M_isCore_120 : decode prog_14_method_52_code 120 = .ok (.aload_n 0, 1) := by decide +kernel
theorem d_M_isCore_121 : decode prog_14_method_52_code 121 = .ok (.dup, 1) := by decide +kernel
theorem d_M_isCore_122 : decode prog_14_method_52_code 122 = .ok (.getfield 258, 3) := by decide +kernel
theorem d_M_isCore_125 : decode prog_14_method_52_code 125 = .ok (.iconst 1, 1) := by decide +kernel
theorem d_M_isCore_126 : decode prog_14_method_52_code 126 = .ok (.iadd, 1) := by decide +kernel
theorem d_M_isCore_127 : decode prog_14_method_52_code 127 = .ok (.putfield 258, 3) := by decide +kernel
theorem d_M_isCore_130 : decode prog_14_method_52_code 130 = .ok (.aload_n 0, 1) := by decide +kernel
theorem d_M_isCore_131 : decode prog_14_method_52_code 131 = .ok (.bipush 126, 2) := by decide +kernel
theorem d_M_isCore_133 : decode prog_14_method_52_code 133 = .ok (.invokevirtual 294, 3) := by decide +kernel
theorem v_M_isCore_117 {G : XG} {d : Nat} {h : XH} {Q : XV → XH → Prop} {X : Nat → XH → Prop} {x1 s0 : Int} (F : xFix h) (hyp : ((s0 = 0 → (xwp G m_M_isCore (d + 9) 94 [xR 53, xI x1] [] h Q X)) ∧ (¬ s0 = 0 → xiR ((xpl h 53 24) + 1) ∧ (xFix (xst h 53 24 ((xpl h 53 24) + 1)) → xwp G m_M_eat (d + 8) 0 [xR 53, xI 126] [] (xst h 53 24 ((xpl h 53 24) + 1)) (fun v9 h9 => xwp G m_M_isCore (d + 9) 136 [xR 53, xI x1] (xpush v9 []) h9 Q X) X)))) : xwp G m_M_isCore (d + 9) 117 [xR 53, xI x1] [xI s0] h Q X := by
  have hnx9 : (93 : Int) ≤ xnx h := F.2.2
  refine xr_okL (fun hl9 => ?_)
  have r_x1 : -2147483648 ≤ x1 ∧ x1 ≤ 2147483647 := hl9 (xI x1) (.tail _ (.head _)) (Nat.le_of_ble_eq_true rfl)
  refine xr_okS (fun hs9 => ?_)
  have r_s0 : -2147483648 ≤ s0 ∧ s0 ≤ 2147483647 := hs9 (xI s0) (.head _)
  refine xr_if_eq (pc := 117) (tgt := 94) (hI := d_M_isCore_117) (ht := by decide) (fun q9 => ?_) (fun q9 => ?_)
  · replace hyp := hyp.1 q9
    have q1_ := q9
    clear q9
    exact hyp
  · replace hyp := hyp.2 q9
    have q1_ := q9
    clear q9
    refine xr_aload_n (pc := 120) (i := 0) (hI := d_M_isCore_120) (hi := rfl) (hl := rfl) ?_
    refine xr_dup (pc := 121) (hI := d_M_isCore_121) (hv := rfl) ?_
    refine xg_getf (pc := 122) (ci := 11) (k := 24) (N := 38) (v9 := 0) (v := (xpl h 53 24)) (T := xF11) (hI := d_M_isCore_122) (hw := w_1611) rfl xi11 (Or.inl rfl) (Nat.le_of_ble_eq_true rfl) (Nat.le_of_ble_eq_true rfl) rfl (ft_53 F) rfl (fun f2_ => ?_)
    replace f2_ : -2147483648 ≤ (xpl h 53 24) ∧ (xpl h 53 24) ≤ 2147483647 := f2_
    refine xr_iconst (pc := 125) (hI := d_M_isCore_125) (hr := by decide) ?_
    obtain ⟨c9, hyp⟩ := hyp
    refine xr_iadd (pc := 126) (hI := d_M_isCore_126) (hr := c9) ?_
    refine xr_putf (pc := 127) (ci := 11) (k := 24) (N := 38) (v9 := 0) (T := xF11) (tF := xT11) (hI := d_M_isCore_127) (hw := w_1611) rfl xi11 xt11 xn11 (Or.inl rfl) (Nat.le_of_ble_eq_true rfl) (Nat.le_of_ble_eq_true rfl) rfl xfit_i rfl (ft_53 F) (by decide) (fun z => z) ?_
    have F3_ : xFix (xst h 53 24 ((xpl h 53 24) + 1)) := F.stL xfk_53_24
    refine xr_aload_n (pc := 130) (i := 0) (hI := d_M_isCore_130) (hi := rfl) (hl := rfl) ?_
    refine xr_bipush (pc := 131) (hI := d_M_isCore_131) (hr := by decide) (hv := by decide) ?_
    exact xq_callV (pc := 133) (index := 294) (K := m_M_eat) (As := [xI 126]) (S := []) (L0 := [xR 53, xI 126]) (hI := d_M_isCore_133) (hK := k_M_eat) (hlk := w_2332) (hnoM := rfl) (hS8 := Nat.le_of_ble_eq_true rfl) (ci := 11) (N := 38) (C := "BeaconIndexModel") (T := xF11) (hc := rfl) (hci := Nat.le_of_ble_eq_true rfl) (htb := (ft_53 F3_)) (hinst := w_2334) (hsel := sel_M_eat) (hlen := Nat.le_of_ble_eq_true rfl) (hst := rfl) (hL0 := rfl)  (hyp F3_)
theorem d_M_isCore_136 : decode prog_14_method_52_code 136 = .ok (.ifCond .eq 18, 3) := by decide +kernel
theorem d_M_isCore_154 : decode prog_14_method_52_code 154 = .ok (.iconst 1, 1) := by decide +kernel
theorem d_M_isCore_155 : decode prog_14_method_52_code 155 = .ok (.goto 4, 3) := by decide +kernel
theorem d_M_isCore_159 : decode prog_14_method_52_code 159 = .ok (.ireturn, 1) := by decide +kernel
theorem d_M_isCore_139 : decode prog_14_method_52_code 139 = .ok (.aload_n 0, 1) := by decide +kernel
theorem d_M_isCore_140 : decode prog_14_method_52_code 140 = .ok (.aload_n 0, 1) := by decide +kernel
theorem d_M_isCore_141 : decode prog_14_method_52_code 141 = .ok (.getfield 55, 3) := by decide +kernel
theorem d_M_isCore_144 : decode prog_14_method_52_code 144 = .ok (.getfield 313, 3) := by decide +kernel
theorem w_1554 : Cond.fieldLinkNest "BeaconIndexModel" 313 "BeaconIndexModel$Question" "near" "[I" "BeaconIndexModel" ∈ lw_tbl := List.mem_append_right _ (List.mem_of_getElem? (i := 1554) (by decide +kernel))
theorem d_M_isCore_147 : decode prog_14_method_52_code 147 = .ok (.iload_n 1, 1) := by decide +kernel
theorem d_M_isCore_148 : decode prog_14_method_52_code 148 = .ok (.invokevirtual 297, 3) := by decide +kernel
theorem v_M_isCore_136 {G : XG} {d : Nat} {h : XH} {Q : XV → XH → Prop} {X : Nat → XH → Prop} {x1 s0 : Int} (F : xFix h) (hyp : ((s0 = 0 → (Q (xI 1) h)) ∧ (¬ s0 = 0 → xtg h (xpl h 53 20) = 12 ∧ (xwp G m_M_isNumber (d + 8) 0 [xR 53, xR (xpl h (xpl h 53 20) 9), xI x1] [] h (fun v9 h9 => xwp G m_M_isCore (d + 9) 151 [xZ, xZ] (xpush v9 []) h9 Q X) X)))) : xwp G m_M_isCore (d + 9) 136 [xR 53, xI x1] [xI s0] h Q X := by
  have hnx9 : (93 : Int) ≤ xnx h := F.2.2
  refine xr_okL (fun hl9 => ?_)
  have r_x1 : -2147483648 ≤ x1 ∧ x1 ≤ 2147483647 := hl9 (xI x1) (.tail _ (.head _)) (Nat.le_of_ble_eq_true rfl)
  refine xr_okS (fun hs9 => ?_)
  have r_s0 : -2147483648 ≤ s0 ∧ s0 ≤ 2147483647 := hs9 (xI s0) (.head _)
  refine xr_if_eq (pc := 136) (tgt := 154) (hI := d_M_isCore_136) (ht := by decide) (fun q9 => ?_) (fun q9 => ?_)
  · replace hyp := hyp.1 q9
    have q1_ := q9
    clear q9
    refine xr_iconst (pc := 154) (hI := d_M_isCore_154) (hr := by decide) ?_
    refine xr_goto (pc := 155) (tgt := 159) (hI := d_M_isCore_155) (ht := by decide) ?_
    refine xr_ireturnT (S := []) (pc := 159) (hI := d_M_isCore_159) (hr := rfl) (xnar_z (by decide)) ?_
    exact hyp
  · replace hyp := hyp.2 q9
    have q1_ := q9
    clear q9
    refine xr_aload_n (pc := 139) (i := 0) (hI := d_M_isCore_139) (hi := rfl) (hl := rfl) ?_
    refine xr_aload_n (pc := 140) (i := 0) (hI := d_M_isCore_140) (hi := rfl) (hl := rfl) ?_
    refine xg_getf (pc := 141) (ci := 11) (k := 20) (N := 38) (v9 := 2) (v := (xpl h 53 20)) (T := xF11) (hI := d_M_isCore_141) (hw := w_1607) rfl xi11 (Or.inl rfl) (Nat.le_of_ble_eq_true rfl) (Nat.le_of_ble_eq_true rfl) rfl (ft_53 F) rfl (fun f2_ => ?_)
    clear f2_
    obtain ⟨c9, hyp⟩ := hyp
    have t3_ := c9
    clear c9
    refine xg_getfN (pc := 144) (ci := 12) (k := 9) (N := 13) (v9 := 2) (v := (xpl h (xpl h 53 20) 9)) (T := xF12) (hI := d_M_isCore_144) (hw := w_1554) rfl xi12 (Or.inl rfl) (Nat.le_of_ble_eq_true rfl) (Nat.le_of_ble_eq_true rfl) rfl t3_ rfl (fun f4_ => ?_)
    clear f4_
    refine xr_iload_n (pc := 147) (i := 1) (hI := d_M_isCore_147) (hi := rfl) (hl := rfl) ?_
    exact xq_callV (pc := 148) (index := 297) (K := m_M_isNumber) (As := [xR (xpl h (xpl h 53 20) 9), xI x1]) (S := []) (L0 := [xR 53, xR (xpl h (xpl h 53 20) 9), xI x1]) (hI := d_M_isCore_148) (hK := k_M_isNumber) (hlk := w_2344) (hnoM := rfl) (hS8 := Nat.le_of_ble_eq_true rfl) (ci := 11) (N := 38) (C := "BeaconIndexModel") (T := xF11) (hc := rfl) (hci := Nat.le_of_ble_eq_true rfl) (htb := (ft_53 F)) (hinst := w_2346) (hsel := sel_M_isNumber) (hlen := Nat.le_of_ble_eq_true rfl) (hst := rfl) (hL0 := rfl)  (xwp_mono hyp (fun v9 h9 q9 => xr_drop (L9 := [xZ, xZ]) (xdrz (xdrz xdr0)) q9) (fun _ _ z9 => z9))
theorem d_M_isCore_151 : decode prog_14_method_52_code 151 = .ok (.ifCond .eq 7, 3) := by decide +kernel
theorem d_M_isCore_158 : decode prog_14_method_52_code 158 = .ok (.iconst 0, 1) := by decide +kernel
theorem v_M_isCore_151 {G : XG} {d : Nat} {h : XH} {Q : XV → XH → Prop} {X : Nat → XH → Prop} {s0 : Int} (F : xFix h) (hyp : ((s0 = 0 → (Q (xI 0) h)) ∧ (¬ s0 = 0 → (Q (xI 1) h)))) : xwp G m_M_isCore (d + 9) 151 [xZ, xZ] [xI s0] h Q X := by
  have hnx9 : (93 : Int) ≤ xnx h := F.2.2
  refine xr_okS (fun hs9 => ?_)
  have r_s0 : -2147483648 ≤ s0 ∧ s0 ≤ 2147483647 := hs9 (xI s0) (.head _)
  refine xr_if_eq (pc := 151) (tgt := 158) (hI := d_M_isCore_151) (ht := by decide) (fun q9 => ?_) (fun q9 => ?_)
  · replace hyp := hyp.1 q9
    have q1_ := q9
    clear q9
    refine xr_iconst (pc := 158) (hI := d_M_isCore_158) (hr := by decide) ?_
    refine xr_ireturnT (S := []) (pc := 159) (hI := d_M_isCore_159) (hr := rfl) (xnar_z (by decide)) ?_
    exact hyp
  · replace hyp := hyp.2 q9
    have q1_ := q9
    clear q9
    refine xr_iconst (pc := 154) (hI := d_M_isCore_154) (hr := by decide) ?_
    refine xr_goto (pc := 155) (tgt := 159) (hI := d_M_isCore_155) (ht := by decide) ?_
    refine xr_ireturnT (S := []) (pc := 159) (hI := d_M_isCore_159) (hr := rfl) (xnar_z (by decide)) ?_
    exact hyp
theorem d_M_isCore_167 : decode prog_14_method_52_code 167 = .ok (.ifCond .ne 5, 3) := by decide +kernel
theorem d_M_isCore_172 : decode prog_14_method_52_code 172 = .ok (.aload_n 0, 1) := by decide +kernel
theorem d_M_isCore_173 : decode prog_14_method_52_code 173 = .ok (.getfield 58, 3) := by decide +kernel
theorem d_M_isCore_176 : decode prog_14_method_52_code 176 = .ok (.aload_n 0, 1) := by decide +kernel
theorem d_M_isCore_177 : decode prog_14_method_52_code 177 = .ok (.getfield 258, 3) := by decide +kernel
theorem d_M_isCore_180 : decode prog_14_method_52_code 180 = .ok (.iconst 1, 1) := by decide +kernel
theorem d_M_isCore_181 : decode prog_14_method_52_code 181 = .ok (.iadd, 1) := by decide +kernel
theorem d_M_isCore_182 : decode prog_14_method_52_code 182 = .ok (.iaload, 1) := by decide +kernel
theorem d_M_isCore_183 : decode prog_14_method_52_code 183 = .ok (.bipush 42, 2) := by decide +kernel
theorem d_M_isCore_185 : decode prog_14_method_52_code 185 = .ok (.if_icmp .ne 11, 3) := by decide +kernel
theorem d_M_isCore_196 : decode prog_14_method_52_code 196 = .ok (.aload_n 0, 1) := by decide +kernel
theorem d_M_isCore_197 : decode prog_14_method_52_code 197 = .ok (.iload_n 1, 1) := by decide +kernel
theorem d_M_isCore_198 : decode prog_14_method_52_code 198 = .ok (.invokevirtual 310, 3) := by decide +kernel
theorem d_M_isCore_188 : decode prog_14_method_52_code 188 = .ok (.aload_n 0, 1) := by decide +kernel
theorem d_M_isCore_189 : decode prog_14_method_52_code 189 = .ok (.iload_n 1, 1) := by decide +kernel
theorem d_M_isCore_190 : decode prog_14_method_52_code 190 = .ok (.invokevirtual 316, 3) := by decide +kernel
abbrev m_M_star : XM := (⟨"BeaconIndexModel", "star", "(I)V"⟩, prog_14_method_55_code, 5, none, [])
theorem k_M_star : xCal m_M_star 1 := ⟨List.mem_append_right _ (List.mem_of_getElem? (i := 2355) (by decide +kernel)), w_15, Nat.le_of_ble_eq_true rfl, ⟨by decide +kernel, by decide +kernel⟩, by decide +kernel, by decide +kernel, rfl⟩
theorem w_2352 : Cond.methodLink "BeaconIndexModel" 316 ⟨"BeaconIndexModel", "star", "(I)V"⟩ ∈ lw_tbl := List.mem_append_right _ (List.mem_of_getElem? (i := 2352) (by decide +kernel))
theorem w_2354 : Cond.instanceMethod ⟨"BeaconIndexModel", "star", "(I)V"⟩ ∈ lw_tbl := List.mem_append_right _ (List.mem_of_getElem? (i := 2354) (by decide +kernel))
theorem sel_M_star : Cond.selects "BeaconIndexModel" ⟨"BeaconIndexModel", "star", "(I)V"⟩ ⟨"BeaconIndexModel", "star", "(I)V"⟩ ∈ lw_tbl := List.mem_append_left _ (by decide +kernel)
theorem d_M_isCore_170 : decode prog_14_method_52_code 170 = .ok (.iconst 0, 1) := by decide +kernel
theorem d_M_isCore_171 : decode prog_14_method_52_code 171 = .ok (.ireturn, 1) := by decide +kernel
theorem v_M_isCore_167 {G : XG} {d : Nat} {h : XH} {Q : XV → XH → Prop} {X : Nat → XH → Prop} {x1 s0 : Int} (F : xFix h) (hyp : ((s0 = 0 → (Q (xI 0) h)) ∧ (¬ s0 = 0 → xiR ((xpl h 53 24) + 1) ∧ 0 ≤ ((xpl h 53 24) + 1) ∧ ((xpl h 53 24) + 1) < 41 ∧ (((xpl h 78 ((xpl h 53 24) + 1)) = 42 → (xwp G m_M_star (d + 8) 0 [xR 53, xI x1, xZ, xZ, xZ] [] h (fun v9 h9 => xwp G m_M_isCore (d + 9) 193 [xZ, xZ] (xpush v9 []) h9 Q X) X)) ∧ (¬ (xpl h 78 ((xpl h 53 24) + 1)) = 42 → (xwp G m_M_run (d + 8) 0 [xR 53, xI x1] [] h (fun v9 h9 => xwp G m_M_isCore (d + 9) 201 [xZ, xZ] (xpush v9 []) h9 Q X) X)))))) : xwp G m_M_isCore (d + 9) 167 [xR 53, xI x1] [xI s0] h Q X := by
  have hnx9 : (93 : Int) ≤ xnx h := F.2.2
  refine xr_okL (fun hl9 => ?_)
  have r_x1 : -2147483648 ≤ x1 ∧ x1 ≤ 2147483647 := hl9 (xI x1) (.tail _ (.head _)) (Nat.le_of_ble_eq_true rfl)
  refine xr_okS (fun hs9 => ?_)
  have r_s0 : -2147483648 ≤ s0 ∧ s0 ≤ 2147483647 := hs9 (xI s0) (.head _)
  refine xr_if_ne (pc := 167) (tgt := 172) (hI := d_M_isCore_167) (ht := by decide) (fun q9 => ?_) (fun q9 => ?_)
  · replace hyp := hyp.2 q9
    have q1_ := q9
    clear q9
    refine xr_aload_n (pc := 172) (i := 0) (hI := d_M_isCore_172) (hi := rfl) (hl := rfl) ?_
    refine xg_getf (pc := 173) (ci := 11) (k := 21) (N := 38) (v9 := 2) (v := 78) (T := xF11) (hI := d_M_isCore_173) (hw := w_1608) rfl xi11 (Or.inl rfl) (Nat.le_of_ble_eq_true rfl) (Nat.le_of_ble_eq_true rfl) rfl (ft_53 F) (fp_53_21 F) (fun f2_ => ?_)
    clear f2_
    refine xr_aload_n (pc := 176) (i := 0) (hI := d_M_isCore_176) (hi := rfl) (hl := rfl) ?_
    refine xg_getf (pc := 177) (ci := 11) (k := 24) (N := 38) (v9 := 0) (v := (xpl h 53 24)) (T := xF11) (hI := d_M_isCore_177) (hw := w_1611) rfl xi11 (Or.inl rfl) (Nat.le_of_ble_eq_true rfl) (Nat.le_of_ble_eq_true rfl) rfl (ft_53 F) rfl (fun f3_ => ?_)
    replace f3_ : -2147483648 ≤ (xpl h 53 24) ∧ (xpl h 53 24) ≤ 2147483647 := f3_
    refine xr_iconst (pc := 180) (hI := d_M_isCore_180) (hr := by decide) ?_
    obtain ⟨c9, hyp⟩ := hyp
    refine xr_iadd (pc := 181) (hI := d_M_isCore_181) (hr := c9) ?_
    obtain ⟨c4_, hyp⟩ := hyp
    obtain ⟨c5_, hyp⟩ := hyp
    refine xg_iaload (pc := 182) (v := (xpl h 78 ((xpl h 53 24) + 1))) (hI := d_M_isCore_182) (ft_78 F) c4_ (xlt_of (fl_78 F) c5_) rfl (fun f6_ => ?_)
    replace f6_ : -2147483648 ≤ (xpl h 78 ((xpl h 53 24) + 1)) ∧ (xpl h 78 ((xpl h 53 24) + 1)) ≤ 2147483647 := f6_
    refine xr_bipush (pc := 183) (hI := d_M_isCore_183) (hr := by decide) (hv := by decide) ?_
    refine xr_icmp_ne (pc := 185) (tgt := 196) (hI := d_M_isCore_185) (ht := by decide) (fun q9 => ?_) (fun q9 => ?_)
    · replace hyp := hyp.2 q9
      have q7_ := q9
      clear q9
      refine xr_aload_n (pc := 196) (i := 0) (hI := d_M_isCore_196) (hi := rfl) (hl := rfl) ?_
      refine xr_iload_n (pc := 197) (i := 1) (hI := d_M_isCore_197) (hi := rfl) (hl := rfl) ?_
      exact xq_callV (pc := 198) (index := 310) (K := m_M_run) (As := [xI x1]) (S := []) (L0 := [xR 53, xI x1]) (hI := d_M_isCore_198) (hK := k_M_run) (hlk := w_2336) (hnoM := rfl) (hS8 := Nat.le_of_ble_eq_true rfl) (ci := 11) (N := 38) (C := "BeaconIndexModel") (T := xF11) (hc := rfl) (hci := Nat.le_of_ble_eq_true rfl) (htb := (ft_53 F)) (hinst := w_2338) (hsel := sel_M_run) (hlen := Nat.le_of_ble_eq_true rfl) (hst := rfl) (hL0 := rfl)  (xwp_mono hyp (fun v9 h9 q9 => xr_drop (L9 := [xZ, xZ]) (xdrz (xdrz xdr0)) q9) (fun _ _ z9 => z9))
    · replace hyp := hyp.1 q9
      have q7_ := q9
      clear q9
      refine xr_aload_n (pc := 188) (i := 0) (hI := d_M_isCore_188) (hi := rfl) (hl := rfl) ?_
      refine xr_iload_n (pc := 189) (i := 1) (hI := d_M_isCore_189) (hi := rfl) (hl := rfl) ?_
      exact xq_callV (pc := 190) (index := 316) (K := m_M_star) (As := [xI x1]) (S := []) (L0 := [xR 53, xI x1, xZ, xZ, xZ]) (hI := d_M_isCore_190) (hK := k_M_star) (hlk := w_2352) (hnoM := rfl) (hS8 := Nat.le_of_ble_eq_true rfl) (ci := 11) (N := 38) (C := "BeaconIndexModel") (T := xF11) (hc := rfl) (hci := Nat.le_of_ble_eq_true rfl) (htb := (ft_53 F)) (hinst := w_2354) (hsel := sel_M_star) (hlen := Nat.le_of_ble_eq_true rfl) (hst := rfl) (hL0 := rfl)  (xwp_mono hyp (fun v9 h9 q9 => xr_drop (L9 := [xZ, xZ]) (xdrz (xdrz xdr0)) q9) (fun _ _ z9 => z9))
  · replace hyp := hyp.1 q9
    have q1_ := q9
    clear q9
    refine xr_iconst (pc := 170) (hI := d_M_isCore_170) (hr := by decide) ?_
    refine xr_ireturnT (S := []) (pc := 171) (hI := d_M_isCore_171) (hr := rfl) (xnar_z (by decide)) ?_
    exact hyp
theorem d_M_isCore_193 : decode prog_14_method_52_code 193 = .ok (.goto 8, 3) := by decide +kernel
theorem v_M_isCore_193 {G : XG} {d : Nat} {h : XH} {Q : XV → XH → Prop} {X : Nat → XH → Prop} (F : xFix h) (hyp : (xwp G m_M_isCore (d + 9) 201 [xZ, xZ] [] h Q X)) : xwp G m_M_isCore (d + 9) 193 [xZ, xZ] [] h Q X := by
  have hnx9 : (93 : Int) ≤ xnx h := F.2.2
  refine xr_goto (pc := 193) (tgt := 201) (hI := d_M_isCore_193) (ht := by decide) ?_
  exact hyp
theorem d_M_isCore_201 : decode prog_14_method_52_code 201 = .ok (.iconst 1, 1) := by decide +kernel
theorem d_M_isCore_202 : decode prog_14_method_52_code 202 = .ok (.ireturn, 1) := by decide +kernel
theorem v_M_isCore_201 {G : XG} {d : Nat} {h : XH} {Q : XV → XH → Prop} {X : Nat → XH → Prop} (F : xFix h) (hyp : (Q (xI 1) h)) : xwp G m_M_isCore (d + 9) 201 [xZ, xZ] [] h Q X := by
  have hnx9 : (93 : Int) ≤ xnx h := F.2.2
  refine xr_iconst (pc := 201) (hI := d_M_isCore_201) (hr := by decide) ?_
  refine xr_ireturnT (S := []) (pc := 202) (hI := d_M_isCore_202) (hr := rfl) (xnar_z (by decide)) ?_
  exact hyp
abbrev m_M_put : XM := (⟨"BeaconIndexModel", "put", "(JI)V"⟩, prog_14_method_53_code, 4, none, [])
theorem d_M_put_0 : decode prog_14_method_53_code 0 = .ok (.aload_n 0, 1) := by decide +kernel
theorem d_M_put_1 : decode prog_14_method_53_code 1 = .ok (.getfield 55, 3) := by decide +kernel
theorem d_M_put_4 : decode prog_14_method_53_code 4 = .ok (.getfield 319, 3) := by decide +kernel
theorem w_1557 : Cond.fieldLinkNest "BeaconIndexModel" 319 "BeaconIndexModel$Question" "word" "[J" "BeaconIndexModel" ∈ lw_tbl := List.mem_append_right _ (List.mem_of_getElem? (i := 1557) (by decide +kernel))
theorem d_M_put_7 : decode prog_14_method_53_code 7 = .ok (.aload_n 0, 1) := by decide +kernel
theorem d_M_put_8 : decode prog_14_method_53_code 8 = .ok (.getfield 55, 3) := by decide +kernel
theorem d_M_put_11 : decode prog_14_method_53_code 11 = .ok (.getfield 283, 3) := by decide +kernel
theorem d_M_put_14 : decode prog_14_method_53_code 14 = .ok (.lload_n 1, 1) := by decide +kernel
theorem d_M_put_15 : decode prog_14_method_53_code 15 = .ok (.lastore, 1) := by decide +kernel
theorem d_M_put_16 : decode prog_14_method_53_code 16 = .ok (.aload_n 0, 1) := by decide +kernel
theorem d_M_put_17 : decode prog_14_method_53_code 17 = .ok (.getfield 55, 3) := by decide +kernel
theorem d_M_put_20 : decode prog_14_method_53_code 20 = .ok (.getfield 321, 3) := by decide +kernel
theorem w_1559 : Cond.fieldLinkNest "BeaconIndexModel" 321 "BeaconIndexModel$Question" "number" "[I" "BeaconIndexModel" ∈ lw_tbl := List.mem_append_right _ (List.mem_of_getElem? (i := 1559) (by decide +kernel))
theorem d_M_put_23 : decode prog_14_method_53_code 23 = .ok (.aload_n 0, 1) := by decide +kernel
theorem d_M_put_24 : decode prog_14_method_53_code 24 = .ok (.getfield 55, 3) := by decide +kernel
theorem d_M_put_27 : decode prog_14_method_53_code 27 = .ok (.getfield 283, 3) := by decide +kernel
theorem d_M_put_30 : decode prog_14_method_53_code 30 = .ok (.iload_n 3, 1) := by decide +kernel
theorem d_M_put_31 : decode prog_14_method_53_code 31 = .ok (.iastore, 1) := by decide +kernel
theorem d_M_put_32 : decode prog_14_method_53_code 32 = .ok (.aload_n 0, 1) := by decide +kernel
theorem d_M_put_33 : decode prog_14_method_53_code 33 = .ok (.getfield 55, 3) := by decide +kernel
theorem d_M_put_36 : decode prog_14_method_53_code 36 = .ok (.dup, 1) := by decide +kernel
theorem d_M_put_37 : decode prog_14_method_53_code 37 = .ok (.getfield 283, 3) := by decide +kernel
theorem d_M_put_40 : decode prog_14_method_53_code 40 = .ok (.iconst 1, 1) := by decide +kernel
theorem d_M_put_41 : decode prog_14_method_53_code 41 = .ok (.iadd, 1) := by decide +kernel
theorem d_M_put_42 : decode prog_14_method_53_code 42 = .ok (.putfield 283, 3) := by decide +kernel
theorem xtk_12_10 : xfTK 12 10 = true := by decide +kernel
theorem d_M_put_45 : decode prog_14_method_53_code 45 = .ok (.return_, 1) := by decide +kernel
theorem v_M_put_0 {G : XG} {d : Nat} {h : XH} {Q : XV → XH → Prop} {X : Nat → XH → Prop} {x1 x3 : Int} (F : xFix h) (hyp : xtg h (xpl h 53 20) = 12 ∧ xtg h (xpl h (xpl h 53 20) 11) = 101 ∧ 0 ≤ (xpl h (xpl h 53 20) 11) ∧ 0 ≤ (xpl h (xpl h 53 20) 10) ∧ (xpl h (xpl h 53 20) 10) < (xln h (xpl h (xpl h 53 20) 11)) ∧ xtg h (xpl h (xpl h 53 20) 12) = 100 ∧ 0 ≤ (xpl h (xpl h 53 20) 12) ∧ (xpl h (xpl h 53 20) 10) < (xln h (xpl h (xpl h 53 20) 12)) ∧ xiR ((xpl h (xpl h 53 20) 10) + 1) ∧ 0 ≤ (xpl h 53 20) ∧ (xFix (xst (xst (xst h (xpl h (xpl h 53 20) 11) (xpl h (xpl h 53 20) 10) x1) (xpl h (xpl h 53 20) 12) (xpl h (xpl h 53 20) 10) x3) (xpl h 53 20) 10 ((xpl h (xpl h 53 20) 10) + 1)) → Q xN (xst (xst (xst h (xpl h (xpl h 53 20) 11) (xpl h (xpl h 53 20) 10) x1) (xpl h (xpl h 53 20) 12) (xpl h (xpl h 53 20) 10) x3) (xpl h 53 20) 10 ((xpl h (xpl h 53 20) 10) + 1)))) : xwp G m_M_put (d + 1) 0 [xR 53, xL x1, xZ, xI x3] [] h Q X := by
  have hnx9 : (93 : Int) ≤ xnx h := F.2.2
  refine xr_okL (fun hl9 => ?_)
  have r_x1 : -9223372036854775808 ≤ x1 ∧ x1 ≤ 9223372036854775807 := hl9 (xL x1) (.tail _ (.head _)) (Nat.le_of_ble_eq_true rfl)
  have r_x3 : -2147483648 ≤ x3 ∧ x3 ≤ 2147483647 := hl9 (xI x3) (.tail _ (.tail _ (.tail _ (.head _)))) (Nat.le_of_ble_eq_true rfl)
  refine xr_aload_n (pc := 0) (i := 0) (hI := d_M_put_0) (hi := rfl) (hl := rfl) ?_
  refine xg_getf (pc := 1) (ci := 11) (k := 20) (N := 38) (v9 := 2) (v := (xpl h 53 20)) (T := xF11) (hI := d_M_put_1) (hw := w_1607) rfl xi11 (Or.inl rfl) (Nat.le_of_ble_eq_true rfl) (Nat.le_of_ble_eq_true rfl) rfl (ft_53 F) rfl (fun f1_ => ?_)
  clear f1_
  obtain ⟨c9, hyp⟩ := hyp
  have t2_ := c9
  clear c9
  refine xg_getfN (pc := 4) (ci := 12) (k := 11) (N := 13) (v9 := 2) (v := (xpl h (xpl h 53 20) 11)) (T := xF12) (hI := d_M_put_4) (hw := w_1557) rfl xi12 (Or.inl rfl) (Nat.le_of_ble_eq_true rfl) (Nat.le_of_ble_eq_true rfl) rfl t2_ rfl (fun f3_ => ?_)
  clear f3_
  refine xr_aload_n (pc := 7) (i := 0) (hI := d_M_put_7) (hi := rfl) (hl := rfl) ?_
  refine xg_getf (pc := 8) (ci := 11) (k := 20) (N := 38) (v9 := 2) (v := (xpl h 53 20)) (T := xF11) (hI := d_M_put_8) (hw := w_1607) rfl xi11 (Or.inl rfl) (Nat.le_of_ble_eq_true rfl) (Nat.le_of_ble_eq_true rfl) rfl (ft_53 F) rfl (fun f4_ => ?_)
  clear f4_
  refine xg_getfN (pc := 11) (ci := 12) (k := 10) (N := 13) (v9 := 0) (v := (xpl h (xpl h 53 20) 10)) (T := xF12) (hI := d_M_put_11) (hw := w_1555) rfl xi12 (Or.inl rfl) (Nat.le_of_ble_eq_true rfl) (Nat.le_of_ble_eq_true rfl) rfl t2_ rfl (fun f5_ => ?_)
  replace f5_ : -2147483648 ≤ (xpl h (xpl h 53 20) 10) ∧ (xpl h (xpl h 53 20) 10) ≤ 2147483647 := f5_
  refine xr_lload_n (pc := 14) (i := 1) (hI := d_M_put_14) (hi := rfl) (hl := rfl) ?_
  obtain ⟨c9, hyp⟩ := hyp
  have t6_ := c9
  clear c9
  obtain ⟨c7_, hyp⟩ := hyp
  obtain ⟨c8_, hyp⟩ := hyp
  obtain ⟨c9_, hyp⟩ := hyp
  refine xr_lastore (pc := 15) (hI := d_M_put_15) t6_ c7_ c8_ (xlt_of rfl c9_) ?_
  have F10_ : xFix (xst h (xpl h (xpl h 53 20) 11) (xpl h (xpl h 53 20) 10) x1) := F.stTA (t := 101) c7_ t6_ xta_101
  refine xr_aload_n (pc := 16) (i := 0) (hI := d_M_put_16) (hi := rfl) (hl := rfl) ?_
  refine xg_getf (pc := 17) (ci := 11) (k := 20) (N := 38) (v9 := 2) (v := (xpl h 53 20)) (T := xF11) (hI := d_M_put_17) (hw := w_1607) rfl xi11 (Or.inl rfl) (Nat.le_of_ble_eq_true rfl) (Nat.le_of_ble_eq_true rfl) rfl (ft_53 F10_) (xpl_oa (xne_tag (have z9 := (ft_53 F10_); z9) t6_ (by decide))) (fun f11_ => ?_)
  clear f11_
  refine xg_getfN (pc := 20) (ci := 12) (k := 12) (N := 13) (v9 := 2) (v := (xpl h (xpl h 53 20) 12)) (T := xF12) (hI := d_M_put_20) (hw := w_1559) rfl xi12 (Or.inl rfl) (Nat.le_of_ble_eq_true rfl) (Nat.le_of_ble_eq_true rfl) rfl t2_ (xpl_oa (xne_tag t2_ t6_ (by decide))) (fun f12_ => ?_)
  clear f12_
  refine xr_aload_n (pc := 23) (i := 0) (hI := d_M_put_23) (hi := rfl) (hl := rfl) ?_
  refine xg_getf (pc := 24) (ci := 11) (k := 20) (N := 38) (v9 := 2) (v := (xpl h 53 20)) (T := xF11) (hI := d_M_put_24) (hw := w_1607) rfl xi11 (Or.inl rfl) (Nat.le_of_ble_eq_true rfl) (Nat.le_of_ble_eq_true rfl) rfl (ft_53 F10_) (xpl_oa (xne_tag (have z9 := (ft_53 F10_); z9) t6_ (by decide))) (fun f13_ => ?_)
  clear f13_
  refine xg_getfN (pc := 27) (ci := 12) (k := 10) (N := 13) (v9 := 0) (v := (xpl h (xpl h 53 20) 10)) (T := xF12) (hI := d_M_put_27) (hw := w_1555) rfl xi12 (Or.inl rfl) (Nat.le_of_ble_eq_true rfl) (Nat.le_of_ble_eq_true rfl) rfl t2_ (xpl_oa (xne_tag t2_ t6_ (by decide))) (fun f14_ => ?_)
  replace f14_ : -2147483648 ≤ (xpl h (xpl h 53 20) 10) ∧ (xpl h (xpl h 53 20) 10) ≤ 2147483647 := f14_
  refine xr_iload_n (pc := 30) (i := 3) (hI := d_M_put_30) (hi := rfl) (hl := rfl) ?_
  obtain ⟨c9, hyp⟩ := hyp
  have t15_ := c9
  clear c9
  obtain ⟨c16_, hyp⟩ := hyp
  obtain ⟨c17_, hyp⟩ := hyp
  refine xr_iastore (pc := 31) (hI := d_M_put_31) t15_ c16_ (by clear hyp; omega) (xlt_of (show xln (xst h (xpl h (xpl h 53 20) 11) (xpl h (xpl h 53 20) 10) x1) (xpl h (xpl h 53 20) 12) = xln h (xpl h (xpl h 53 20) 12) from rfl) c17_) ?_
  have F18_ : xFix (xst (xst h (xpl h (xpl h 53 20) 11) (xpl h (xpl h 53 20) 10) x1) (xpl h (xpl h 53 20) 12) (xpl h (xpl h 53 20) 10) x3) := F10_.stTA (t := 100) c16_ t15_ xta_100
  refine xr_aload_n (pc := 32) (i := 0) (hI := d_M_put_32) (hi := rfl) (hl := rfl) ?_
  refine xg_getf (pc := 33) (ci := 11) (k := 20) (N := 38) (v9 := 2) (v := (xpl h 53 20)) (T := xF11) (hI := d_M_put_33) (hw := w_1607) rfl xi11 (Or.inl rfl) (Nat.le_of_ble_eq_true rfl) (Nat.le_of_ble_eq_true rfl) rfl (ft_53 F18_) (Eq.trans (xpl_oa (xne_tag (have z9 := (ft_53 F18_); z9) t15_ (by decide))) (xpl_oa (xne_tag (have z9 := (ft_53 F18_); z9) t6_ (by decide)))) (fun f19_ => ?_)
  clear f19_
  refine xr_dup (pc := 36) (hI := d_M_put_36) (hv := rfl) ?_
  refine xg_getfN (pc := 37) (ci := 12) (k := 10) (N := 13) (v9 := 0) (v := (xpl h (xpl h 53 20) 10)) (T := xF12) (hI := d_M_put_37) (hw := w_1555) rfl xi12 (Or.inl rfl) (Nat.le_of_ble_eq_true rfl) (Nat.le_of_ble_eq_true rfl) rfl t2_ (Eq.trans (xpl_oa (xne_tag t2_ t15_ (by decide))) (xpl_oa (xne_tag t2_ t6_ (by decide)))) (fun f20_ => ?_)
  replace f20_ : -2147483648 ≤ (xpl h (xpl h 53 20) 10) ∧ (xpl h (xpl h 53 20) 10) ≤ 2147483647 := f20_
  refine xr_iconst (pc := 40) (hI := d_M_put_40) (hr := by decide) ?_
  obtain ⟨c9, hyp⟩ := hyp
  refine xr_iadd (pc := 41) (hI := d_M_put_41) (hr := c9) ?_
  obtain ⟨c21_, hyp⟩ := hyp
  refine xr_putfN (pc := 42) (ci := 12) (k := 10) (N := 13) (v9 := 0) (T := xF12) (tF := xT12) (hI := d_M_put_42) (hw := w_1555) rfl xi12 xt12 xn12 (Or.inl rfl) (Nat.le_of_ble_eq_true rfl) (Nat.le_of_ble_eq_true rfl) rfl xfit_i rfl t2_ c21_ (fun z => z) ?_
  have F22_ : xFix (xst (xst (xst h (xpl h (xpl h 53 20) 11) (xpl h (xpl h 53 20) 10) x1) (xpl h (xpl h 53 20) 12) (xpl h (xpl h 53 20) 10) x3) (xpl h 53 20) 10 ((xpl h (xpl h 53 20) 10) + 1)) := F18_.stT (t := 12) c21_ t2_ xtk_12_10
  refine xr_return (S := []) (pc := 45) (hI := d_M_put_45) (hr := rfl) ?_
  exact hyp F22_
theorem d_M_run_0 : decode prog_14_method_54_code 0 = .ok (.aload_n 0, 1) := by decide +kernel
theorem d_M_run_1 : decode prog_14_method_54_code 1 = .ok (.aload_n 0, 1) := by decide +kernel
theorem d_M_run_2 : decode prog_14_method_54_code 2 = .ok (.getfield 61, 3) := by decide +kernel
theorem d_M_run_5 : decode prog_14_method_54_code 5 = .ok (.aload_n 0, 1) := by decide +kernel
theorem d_M_run_6 : decode prog_14_method_54_code 6 = .ok (.getfield 258, 3) := by decide +kernel
theorem d_M_run_9 : decode prog_14_method_54_code 9 = .ok (.iaload, 1) := by decide +kernel
theorem d_M_run_10 : decode prog_14_method_54_code 10 = .ok (.aload_n 0, 1) := by decide +kernel
theorem d_M_run_11 : decode prog_14_method_54_code 11 = .ok (.getfield 64, 3) := by decide +kernel
theorem d_M_run_14 : decode prog_14_method_54_code 14 = .ok (.aload_n 0, 1) := by decide +kernel
theorem d_M_run_15 : decode prog_14_method_54_code 15 = .ok (.getfield 258, 3) := by decide +kernel
theorem d_M_run_18 : decode prog_14_method_54_code 18 = .ok (.iaload, 1) := by decide +kernel
theorem d_M_run_19 : decode prog_14_method_54_code 19 = .ok (.invokevirtual 323, 3) := by decide +kernel
theorem v_M_run_0 {G : XG} {d : Nat} {h : XH} {Q : XV → XH → Prop} {X : Nat → XH → Prop} {x1 : Int} (F : xFix h) (hyp : 0 ≤ (xpl h 53 24) ∧ (xpl h 53 24) < 41 ∧ (xwp G m_M_isSmall (d + 7) 0 [xR 53, xI (xpl h 79 (xpl h 53 24)), xI (xpl h 80 (xpl h 53 24)), xZ, xZ, xZ, xZ] [] h (fun v9 h9 => xwp G m_M_run (d + 8) 22 [xR 53, xI x1] (xpush v9 []) h9 Q X) X)) : xwp G m_M_run (d + 8) 0 [xR 53, xI x1] [] h Q X := by
  have hnx9 : (93 : Int) ≤ xnx h := F.2.2
  refine xr_okL (fun hl9 => ?_)
  have r_x1 : -2147483648 ≤ x1 ∧ x1 ≤ 2147483647 := hl9 (xI x1) (.tail _ (.head _)) (Nat.le_of_ble_eq_true rfl)
  refine xr_aload_n (pc := 0) (i := 0) (hI := d_M_run_0) (hi := rfl) (hl := rfl) ?_
  refine xr_aload_n (pc := 1) (i := 0) (hI := d_M_run_1) (hi := rfl) (hl := rfl) ?_
  refine xg_getf (pc := 2) (ci := 11) (k := 22) (N := 38) (v9 := 2) (v := 79) (T := xF11) (hI := d_M_run_2) (hw := w_1609) rfl xi11 (Or.inl rfl) (Nat.le_of_ble_eq_true rfl) (Nat.le_of_ble_eq_true rfl) rfl (ft_53 F) (fp_53_22 F) (fun f1_ => ?_)
  clear f1_
  refine xr_aload_n (pc := 5) (i := 0) (hI := d_M_run_5) (hi := rfl) (hl := rfl) ?_
  refine xg_getf (pc := 6) (ci := 11) (k := 24) (N := 38) (v9 := 0) (v := (xpl h 53 24)) (T := xF11) (hI := d_M_run_6) (hw := w_1611) rfl xi11 (Or.inl rfl) (Nat.le_of_ble_eq_true rfl) (Nat.le_of_ble_eq_true rfl) rfl (ft_53 F) rfl (fun f2_ => ?_)
  replace f2_ : -2147483648 ≤ (xpl h 53 24) ∧ (xpl h 53 24) ≤ 2147483647 := f2_
  obtain ⟨c3_, hyp⟩ := hyp
  obtain ⟨c4_, hyp⟩ := hyp
  refine xg_iaload (pc := 9) (v := (xpl h 79 (xpl h 53 24))) (hI := d_M_run_9) (ft_79 F) c3_ (xlt_of (fl_79 F) c4_) rfl (fun f5_ => ?_)
  replace f5_ : -2147483648 ≤ (xpl h 79 (xpl h 53 24)) ∧ (xpl h 79 (xpl h 53 24)) ≤ 2147483647 := f5_
  refine xr_aload_n (pc := 10) (i := 0) (hI := d_M_run_10) (hi := rfl) (hl := rfl) ?_
  refine xg_getf (pc := 11) (ci := 11) (k := 23) (N := 38) (v9 := 2) (v := 80) (T := xF11) (hI := d_M_run_11) (hw := w_1610) rfl xi11 (Or.inl rfl) (Nat.le_of_ble_eq_true rfl) (Nat.le_of_ble_eq_true rfl) rfl (ft_53 F) (fp_53_23 F) (fun f6_ => ?_)
  clear f6_
  refine xr_aload_n (pc := 14) (i := 0) (hI := d_M_run_14) (hi := rfl) (hl := rfl) ?_
  refine xg_getf (pc := 15) (ci := 11) (k := 24) (N := 38) (v9 := 0) (v := (xpl h 53 24)) (T := xF11) (hI := d_M_run_15) (hw := w_1611) rfl xi11 (Or.inl rfl) (Nat.le_of_ble_eq_true rfl) (Nat.le_of_ble_eq_true rfl) rfl (ft_53 F) rfl (fun f7_ => ?_)
  replace f7_ : -2147483648 ≤ (xpl h 53 24) ∧ (xpl h 53 24) ≤ 2147483647 := f7_
  refine xg_iaload (pc := 18) (v := (xpl h 80 (xpl h 53 24))) (hI := d_M_run_18) (ft_80 F) (by clear hyp; omega) (xlt_of (fl_80 F) (by clear hyp; omega)) rfl (fun f8_ => ?_)
  replace f8_ : -2147483648 ≤ (xpl h 80 (xpl h 53 24)) ∧ (xpl h 80 (xpl h 53 24)) ≤ 2147483647 := f8_
  exact xq_callV (pc := 19) (index := 323) (K := m_M_isSmall) (As := [xI (xpl h 79 (xpl h 53 24)), xI (xpl h 80 (xpl h 53 24))]) (S := []) (L0 := [xR 53, xI (xpl h 79 (xpl h 53 24)), xI (xpl h 80 (xpl h 53 24)), xZ, xZ, xZ, xZ]) (hI := d_M_run_19) (hK := k_M_isSmall) (hlk := w_1765) (hnoM := rfl) (hS8 := Nat.le_of_ble_eq_true rfl) (ci := 11) (N := 38) (C := "BeaconIndexModel") (T := xF11) (hc := rfl) (hci := Nat.le_of_ble_eq_true rfl) (htb := (ft_53 F)) (hinst := w_1767) (hsel := sel_M_isSmall) (hlen := Nat.le_of_ble_eq_true rfl) (hst := rfl) (hL0 := rfl)  hyp
theorem d_M_run_22 : decode prog_14_method_54_code 22 = .ok (.ifCond .ne 51, 3) := by decide +kernel
theorem d_M_run_25 : decode prog_14_method_54_code 25 = .ok (.aload_n 0, 1) := by decide +kernel
theorem d_M_run_26 : decode prog_14_method_54_code 26 = .ok (.aload_n 0, 1) := by decide +kernel
theorem d_M_run_27 : decode prog_14_method_54_code 27 = .ok (.aload_n 0, 1) := by decide +kernel
theorem d_M_run_28 : decode prog_14_method_54_code 28 = .ok (.getfield 61, 3) := by decide +kernel
theorem d_M_run_31 : decode prog_14_method_54_code 31 = .ok (.aload_n 0, 1) := by decide +kernel
theorem d_M_run_32 : decode prog_14_method_54_code 32 = .ok (.getfield 258, 3) := by decide +kernel
theorem d_M_run_35 : decode prog_14_method_54_code 35 = .ok (.iaload, 1) := by decide +kernel
theorem d_M_run_36 : decode prog_14_method_54_code 36 = .ok (.aload_n 0, 1) := by decide +kernel
theorem d_M_run_37 : decode prog_14_method_54_code 37 = .ok (.getfield 64, 3) := by decide +kernel
theorem d_M_run_40 : decode prog_14_method_54_code 40 = .ok (.aload_n 0, 1) := by decide +kernel
theorem d_M_run_41 : decode prog_14_method_54_code 41 = .ok (.getfield 258, 3) := by decide +kernel
theorem d_M_run_44 : decode prog_14_method_54_code 44 = .ok (.iaload, 1) := by decide +kernel
theorem d_M_run_45 : decode prog_14_method_54_code 45 = .ok (.invokevirtual 326, 3) := by decide +kernel
theorem v_M_run_22 {G : XG} {d : Nat} {h : XH} {Q : XV → XH → Prop} {X : Nat → XH → Prop} {x1 s0 : Int} (F : xFix h) (hyp : ((s0 = 0 → 0 ≤ (xpl h 53 24) ∧ (xpl h 53 24) < 41 ∧ (xwp G m_M_wordAt (d + 7) 0 [xR 53, xI (xpl h 79 (xpl h 53 24)), xI (xpl h 80 (xpl h 53 24)), xZ] [] h (fun v9 h9 => xwp G m_M_run (d + 8) 48 [xR 53, xI x1] (xpush v9 [xR 53]) h9 Q X) X)) ∧ (¬ s0 = 0 → (xwp G m_M_run (d + 8) 73 [xR 53, xI x1] [] h Q X)))) : xwp G m_M_run (d + 8) 22 [xR 53, xI x1] [xI s0] h Q X := by
  have hnx9 : (93 : Int) ≤ xnx h := F.2.2
  refine xr_okL (fun hl9 => ?_)
  have r_x1 : -2147483648 ≤ x1 ∧ x1 ≤ 2147483647 := hl9 (xI x1) (.tail _ (.head _)) (Nat.le_of_ble_eq_true rfl)
  refine xr_okS (fun hs9 => ?_)
  have r_s0 : -2147483648 ≤ s0 ∧ s0 ≤ 2147483647 := hs9 (xI s0) (.head _)
  refine xr_if_ne (pc := 22) (tgt := 73) (hI := d_M_run_22) (ht := by decide) (fun q9 => ?_) (fun q9 => ?_)
  · replace hyp := hyp.2 q9
    have q1_ := q9
    clear q9
    exact hyp
  · replace hyp := hyp.1 q9
    have q1_ := q9
    clear q9
    refine xr_aload_n (pc := 25) (i := 0) (hI := d_M_run_25) (hi := rfl) (hl := rfl) ?_
    refine xr_aload_n (pc := 26) (i := 0) (hI := d_M_run_26) (hi := rfl) (hl := rfl) ?_
    refine xr_aload_n (pc := 27) (i := 0) (hI := d_M_run_27) (hi := rfl) (hl := rfl) ?_
    refine xg_getf (pc := 28) (ci := 11) (k := 22) (N := 38) (v9 := 2) (v := 79) (T := xF11) (hI := d_M_run_28) (hw := w_1609) rfl xi11 (Or.inl rfl) (Nat.le_of_ble_eq_true rfl) (Nat.le_of_ble_eq_true rfl) rfl (ft_53 F) (fp_53_22 F) (fun f2_ => ?_)
    clear f2_
    refine xr_aload_n (pc := 31) (i := 0) (hI := d_M_run_31) (hi := rfl) (hl := rfl) ?_
    refine xg_getf (pc := 32) (ci := 11) (k := 24) (N := 38) (v9 := 0) (v := (xpl h 53 24)) (T := xF11) (hI := d_M_run_32) (hw := w_1611) rfl xi11 (Or.inl rfl) (Nat.le_of_ble_eq_true rfl) (Nat.le_of_ble_eq_true rfl) rfl (ft_53 F) rfl (fun f3_ => ?_)
    replace f3_ : -2147483648 ≤ (xpl h 53 24) ∧ (xpl h 53 24) ≤ 2147483647 := f3_
    obtain ⟨c4_, hyp⟩ := hyp
    obtain ⟨c5_, hyp⟩ := hyp
    refine xg_iaload (pc := 35) (v := (xpl h 79 (xpl h 53 24))) (hI := d_M_run_35) (ft_79 F) c4_ (xlt_of (fl_79 F) c5_) rfl (fun f6_ => ?_)
    replace f6_ : -2147483648 ≤ (xpl h 79 (xpl h 53 24)) ∧ (xpl h 79 (xpl h 53 24)) ≤ 2147483647 := f6_
    refine xr_aload_n (pc := 36) (i := 0) (hI := d_M_run_36) (hi := rfl) (hl := rfl) ?_
    refine xg_getf (pc := 37) (ci := 11) (k := 23) (N := 38) (v9 := 2) (v := 80) (T := xF11) (hI := d_M_run_37) (hw := w_1610) rfl xi11 (Or.inl rfl) (Nat.le_of_ble_eq_true rfl) (Nat.le_of_ble_eq_true rfl) rfl (ft_53 F) (fp_53_23 F) (fun f7_ => ?_)
    clear f7_
    refine xr_aload_n (pc := 40) (i := 0) (hI := d_M_run_40) (hi := rfl) (hl := rfl) ?_
    refine xg_getf (pc := 41) (ci := 11) (k := 24) (N := 38) (v9 := 0) (v := (xpl h 53 24)) (T := xF11) (hI := d_M_run_41) (hw := w_1611) rfl xi11 (Or.inl rfl) (Nat.le_of_ble_eq_true rfl) (Nat.le_of_ble_eq_true rfl) rfl (ft_53 F) rfl (fun f8_ => ?_)
    replace f8_ : -2147483648 ≤ (xpl h 53 24) ∧ (xpl h 53 24) ≤ 2147483647 := f8_
    refine xg_iaload (pc := 44) (v := (xpl h 80 (xpl h 53 24))) (hI := d_M_run_44) (ft_80 F) (by clear hyp; omega) (xlt_of (fl_80 F) (by clear hyp; omega)) rfl (fun f9_ => ?_)
    replace f9_ : -2147483648 ≤ (xpl h 80 (xpl h 53 24)) ∧ (xpl h 80 (xpl h 53 24)) ≤ 2147483647 := f9_
    exact xq_callV (pc := 45) (index := 326) (K := m_M_wordAt) (As := [xI (xpl h 79 (xpl h 53 24)), xI (xpl h 80 (xpl h 53 24))]) (S := [xR 53]) (L0 := [xR 53, xI (xpl h 79 (xpl h 53 24)), xI (xpl h 80 (xpl h 53 24)), xZ]) (hI := d_M_run_45) (hK := k_M_wordAt) (hlk := w_1778) (hnoM := rfl) (hS8 := Nat.le_of_ble_eq_true rfl) (ci := 11) (N := 38) (C := "BeaconIndexModel") (T := xF11) (hc := rfl) (hci := Nat.le_of_ble_eq_true rfl) (htb := (ft_53 F)) (hinst := w_1780) (hsel := sel_M_wordAt) (hlen := Nat.le_of_ble_eq_true rfl) (hst := rfl) (hL0 := rfl)  hyp
theorem d_M_run_48 : decode prog_14_method_54_code 48 = .ok (.aload_n 0, 1) := by decide +kernel
theorem d_M_run_49 : decode prog_14_method_54_code 49 = .ok (.getfield 55, 3) := by decide +kernel
theorem d_M_run_52 : decode prog_14_method_54_code 52 = .ok (.getfield 330, 3) := by decide +kernel
theorem w_1552 : Cond.fieldLinkNest "BeaconIndexModel" 330 "BeaconIndexModel$Question" "runs" "[I" "BeaconIndexModel" ∈ lw_tbl := List.mem_append_right _ (List.mem_of_getElem? (i := 1552) (by decide +kernel))
theorem d_M_run_55 : decode prog_14_method_54_code 55 = .ok (.iload_n 1, 1) := by decide +kernel
theorem d_M_run_56 : decode prog_14_method_54_code 56 = .ok (.iaload, 1) := by decide +kernel
theorem d_M_run_57 : decode prog_14_method_54_code 57 = .ok (.invokevirtual 333, 3) := by decide +kernel
theorem k_M_put : xCal m_M_put 2 := ⟨List.mem_append_right _ (List.mem_of_getElem? (i := 2343) (by decide +kernel)), w_15, Nat.le_of_ble_eq_true rfl, ⟨by decide +kernel, by decide +kernel⟩, by decide +kernel, by decide +kernel, rfl⟩
theorem w_2340 : Cond.methodLink "BeaconIndexModel" 333 ⟨"BeaconIndexModel", "put", "(JI)V"⟩ ∈ lw_tbl := List.mem_append_right _ (List.mem_of_getElem? (i := 2340) (by decide +kernel))
theorem w_2342 : Cond.instanceMethod ⟨"BeaconIndexModel", "put", "(JI)V"⟩ ∈ lw_tbl := List.mem_append_right _ (List.mem_of_getElem? (i := 2342) (by decide +kernel))
theorem sel_M_put : Cond.selects "BeaconIndexModel" ⟨"BeaconIndexModel", "put", "(JI)V"⟩ ⟨"BeaconIndexModel", "put", "(JI)V"⟩ ∈ lw_tbl := List.mem_append_left _ (by decide +kernel)
theorem v_M_run_48 {G : XG} {d : Nat} {h : XH} {Q : XV → XH → Prop} {X : Nat → XH → Prop} {x1 s0 : Int} (F : xFix h) (hyp : xtg h (xpl h 53 20) = 12 ∧ xtg h (xpl h (xpl h 53 20) 8) = 100 ∧ 0 ≤ x1 ∧ x1 < (xln h (xpl h (xpl h 53 20) 8)) ∧ (xwp G m_M_put (d + 7) 0 [xR 53, xL s0, xZ, xI (xpl h (xpl h (xpl h 53 20) 8) x1)] [] h (fun v9 h9 => xwp G m_M_run (d + 8) 60 [xR 53, xI x1] (xpush v9 []) h9 Q X) X)) : xwp G m_M_run (d + 8) 48 [xR 53, xI x1] [xL s0, xR 53] h Q X := by
  have hnx9 : (93 : Int) ≤ xnx h := F.2.2
  refine xr_okL (fun hl9 => ?_)
  have r_x1 : -2147483648 ≤ x1 ∧ x1 ≤ 2147483647 := hl9 (xI x1) (.tail _ (.head _)) (Nat.le_of_ble_eq_true rfl)
  refine xr_okS (fun hs9 => ?_)
  have r_s0 : -9223372036854775808 ≤ s0 ∧ s0 ≤ 9223372036854775807 := hs9 (xL s0) (.head _)
  refine xr_aload_n (pc := 48) (i := 0) (hI := d_M_run_48) (hi := rfl) (hl := rfl) ?_
  refine xg_getf (pc := 49) (ci := 11) (k := 20) (N := 38) (v9 := 2) (v := (xpl h 53 20)) (T := xF11) (hI := d_M_run_49) (hw := w_1607) rfl xi11 (Or.inl rfl) (Nat.le_of_ble_eq_true rfl) (Nat.le_of_ble_eq_true rfl) rfl (ft_53 F) rfl (fun f1_ => ?_)
  clear f1_
  obtain ⟨c9, hyp⟩ := hyp
  have t2_ := c9
  clear c9
  refine xg_getfN (pc := 52) (ci := 12) (k := 8) (N := 13) (v9 := 2) (v := (xpl h (xpl h 53 20) 8)) (T := xF12) (hI := d_M_run_52) (hw := w_1552) rfl xi12 (Or.inl rfl) (Nat.le_of_ble_eq_true rfl) (Nat.le_of_ble_eq_true rfl) rfl t2_ rfl (fun f3_ => ?_)
  clear f3_
  refine xr_iload_n (pc := 55) (i := 1) (hI := d_M_run_55) (hi := rfl) (hl := rfl) ?_
  obtain ⟨c9, hyp⟩ := hyp
  have t4_ := c9
  clear c9
  obtain ⟨c5_, hyp⟩ := hyp
  obtain ⟨c6_, hyp⟩ := hyp
  refine xg_iaload (pc := 56) (v := (xpl h (xpl h (xpl h 53 20) 8) x1)) (hI := d_M_run_56) t4_ c5_ (xlt_of rfl c6_) rfl (fun f7_ => ?_)
  replace f7_ : -2147483648 ≤ (xpl h (xpl h (xpl h 53 20) 8) x1) ∧ (xpl h (xpl h (xpl h 53 20) 8) x1) ≤ 2147483647 := f7_
  exact xq_callV (pc := 57) (index := 333) (K := m_M_put) (As := [xL s0, xI (xpl h (xpl h (xpl h 53 20) 8) x1)]) (S := []) (L0 := [xR 53, xL s0, xZ, xI (xpl h (xpl h (xpl h 53 20) 8) x1)]) (hI := d_M_run_57) (hK := k_M_put) (hlk := w_2340) (hnoM := rfl) (hS8 := Nat.le_of_ble_eq_true rfl) (ci := 11) (N := 38) (C := "BeaconIndexModel") (T := xF11) (hc := rfl) (hci := Nat.le_of_ble_eq_true rfl) (htb := (ft_53 F)) (hinst := w_2342) (hsel := sel_M_put) (hlen := Nat.le_of_ble_eq_true rfl) (hst := rfl) (hL0 := rfl)  hyp
theorem d_M_run_60 : decode prog_14_method_54_code 60 = .ok (.aload_n 0, 1) := by decide +kernel
theorem d_M_run_61 : decode prog_14_method_54_code 61 = .ok (.getfield 55, 3) := by decide +kernel
theorem d_M_run_64 : decode prog_14_method_54_code 64 = .ok (.getfield 337, 3) := by decide +kernel
theorem w_1550 : Cond.fieldLinkNest "BeaconIndexModel" 337 "BeaconIndexModel$Question" "many" "[I" "BeaconIndexModel" ∈ lw_tbl := List.mem_append_right _ (List.mem_of_getElem? (i := 1550) (by decide +kernel))
theorem d_M_run_67 : decode prog_14_method_54_code 67 = .ok (.iload_n 1, 1) := by decide +kernel
theorem d_M_run_68 : decode prog_14_method_54_code 68 = .ok (.dup2, 1) := by decide +kernel
theorem d_M_run_69 : decode prog_14_method_54_code 69 = .ok (.iaload, 1) := by decide +kernel
theorem d_M_run_70 : decode prog_14_method_54_code 70 = .ok (.iconst 1, 1) := by decide +kernel
theorem d_M_run_71 : decode prog_14_method_54_code 71 = .ok (.iadd, 1) := by decide +kernel
theorem d_M_run_72 : decode prog_14_method_54_code 72 = .ok (.iastore, 1) := by decide +kernel
theorem v_M_run_60 {G : XG} {d : Nat} {h : XH} {Q : XV → XH → Prop} {X : Nat → XH → Prop} {x1 : Int} (F : xFix h) (hyp : xtg h (xpl h 53 20) = 12 ∧ xtg h (xpl h (xpl h 53 20) 7) = 100 ∧ 0 ≤ x1 ∧ x1 < (xln h (xpl h (xpl h 53 20) 7)) ∧ xiR ((xpl h (xpl h (xpl h 53 20) 7) x1) + 1) ∧ 0 ≤ (xpl h (xpl h 53 20) 7) ∧ (xFix (xst h (xpl h (xpl h 53 20) 7) x1 ((xpl h (xpl h (xpl h 53 20) 7) x1) + 1)) → xwp G m_M_run (d + 8) 73 [xR 53, xI x1] [] (xst h (xpl h (xpl h 53 20) 7) x1 ((xpl h (xpl h (xpl h 53 20) 7) x1) + 1)) Q X)) : xwp G m_M_run (d + 8) 60 [xR 53, xI x1] [] h Q X := by
  have hnx9 : (93 : Int) ≤ xnx h := F.2.2
  refine xr_okL (fun hl9 => ?_)
  have r_x1 : -2147483648 ≤ x1 ∧ x1 ≤ 2147483647 := hl9 (xI x1) (.tail _ (.head _)) (Nat.le_of_ble_eq_true rfl)
  refine xr_aload_n (pc := 60) (i := 0) (hI := d_M_run_60) (hi := rfl) (hl := rfl) ?_
  refine xg_getf (pc := 61) (ci := 11) (k := 20) (N := 38) (v9 := 2) (v := (xpl h 53 20)) (T := xF11) (hI := d_M_run_61) (hw := w_1607) rfl xi11 (Or.inl rfl) (Nat.le_of_ble_eq_true rfl) (Nat.le_of_ble_eq_true rfl) rfl (ft_53 F) rfl (fun f1_ => ?_)
  clear f1_
  obtain ⟨c9, hyp⟩ := hyp
  have t2_ := c9
  clear c9
  refine xg_getfN (pc := 64) (ci := 12) (k := 7) (N := 13) (v9 := 2) (v := (xpl h (xpl h 53 20) 7)) (T := xF12) (hI := d_M_run_64) (hw := w_1550) rfl xi12 (Or.inl rfl) (Nat.le_of_ble_eq_true rfl) (Nat.le_of_ble_eq_true rfl) rfl t2_ rfl (fun f3_ => ?_)
  clear f3_
  refine xr_iload_n (pc := 67) (i := 1) (hI := d_M_run_67) (hi := rfl) (hl := rfl) ?_
  refine xr_dup2 (pc := 68) (hI := d_M_run_68) (hv := rfl) (hw := rfl) ?_
  obtain ⟨c9, hyp⟩ := hyp
  have t4_ := c9
  clear c9
  obtain ⟨c5_, hyp⟩ := hyp
  obtain ⟨c6_, hyp⟩ := hyp
  refine xg_iaload (pc := 69) (v := (xpl h (xpl h (xpl h 53 20) 7) x1)) (hI := d_M_run_69) t4_ c5_ (xlt_of rfl c6_) rfl (fun f7_ => ?_)
  replace f7_ : -2147483648 ≤ (xpl h (xpl h (xpl h 53 20) 7) x1) ∧ (xpl h (xpl h (xpl h 53 20) 7) x1) ≤ 2147483647 := f7_
  refine xr_iconst (pc := 70) (hI := d_M_run_70) (hr := by decide) ?_
  obtain ⟨c9, hyp⟩ := hyp
  refine xr_iadd (pc := 71) (hI := d_M_run_71) (hr := c9) ?_
  obtain ⟨c8_, hyp⟩ := hyp
  refine xr_iastore (pc := 72) (hI := d_M_run_72) t4_ c8_ (by clear hyp; omega) (xlt_of rfl (by clear hyp; omega)) ?_
  have F9_ : xFix (xst h (xpl h (xpl h 53 20) 7) x1 ((xpl h (xpl h (xpl h 53 20) 7) x1) + 1)) := F.stTA (t := 100) c8_ t4_ xta_100
  exact (hyp F9_)
theorem d_M_run_73 : decode prog_14_method_54_code 73 = .ok (.aload_n 0, 1) := by decide +kernel
theorem d_M_run_74 : decode prog_14_method_54_code 74 = .ok (.getfield 55, 3) := by decide +kernel
theorem d_M_run_77 : decode prog_14_method_54_code 77 = .ok (.getfield 330, 3) := by decide +kernel
theorem d_M_run_80 : decode prog_14_method_54_code 80 = .ok (.iload_n 1, 1) := by decide +kernel
theorem d_M_run_81 : decode prog_14_method_54_code 81 = .ok (.dup2, 1) := by decide +kernel
theorem d_M_run_82 : decode prog_14_method_54_code 82 = .ok (.iaload, 1) := by decide +kernel
theorem d_M_run_83 : decode prog_14_method_54_code 83 = .ok (.iconst 1, 1) := by decide +kernel
theorem d_M_run_84 : decode prog_14_method_54_code 84 = .ok (.iadd, 1) := by decide +kernel
theorem d_M_run_85 : decode prog_14_method_54_code 85 = .ok (.iastore, 1) := by decide +kernel
theorem d_M_run_86 : decode prog_14_method_54_code 86 = .ok (.aload_n 0, 1) := by decide +kernel
theorem d_M_run_87 : decode prog_14_method_54_code 87 = .ok (.dup, 1) := by decide +kernel
theorem d_M_run_88 : decode prog_14_method_54_code 88 = .ok (.getfield 258, 3) := by decide +kernel
theorem d_M_run_91 : decode prog_14_method_54_code 91 = .ok (.iconst 1, 1) := by decide +kernel
theorem d_M_run_92 : decode prog_14_method_54_code 92 = .ok (.iadd, 1) := by decide +kernel
theorem d_M_run_93 : decode prog_14_method_54_code 93 = .ok (.putfield 258, 3) := by decide +kernel
theorem d_M_run_96 : decode prog_14_method_54_code 96 = .ok (.return_, 1) := by decide +kernel
theorem v_M_run_73 {G : XG} {d : Nat} {h : XH} {Q : XV → XH → Prop} {X : Nat → XH → Prop} {x1 : Int} (F : xFix h) (hyp : xtg h (xpl h 53 20) = 12 ∧ xtg h (xpl h (xpl h 53 20) 8) = 100 ∧ 0 ≤ x1 ∧ x1 < (xln h (xpl h (xpl h 53 20) 8)) ∧ xiR ((xpl h (xpl h (xpl h 53 20) 8) x1) + 1) ∧ 0 ≤ (xpl h (xpl h 53 20) 8) ∧ xiR ((xpl h 53 24) + 1) ∧ (xFix (xst (xst h (xpl h (xpl h 53 20) 8) x1 ((xpl h (xpl h (xpl h 53 20) 8) x1) + 1)) 53 24 ((xpl h 53 24) + 1)) → Q xN (xst (xst h (xpl h (xpl h 53 20) 8) x1 ((xpl h (xpl h (xpl h 53 20) 8) x1) + 1)) 53 24 ((xpl h 53 24) + 1)))) : xwp G m_M_run (d + 8) 73 [xR 53, xI x1] [] h Q X := by
  have hnx9 : (93 : Int) ≤ xnx h := F.2.2
  refine xr_okL (fun hl9 => ?_)
  have r_x1 : -2147483648 ≤ x1 ∧ x1 ≤ 2147483647 := hl9 (xI x1) (.tail _ (.head _)) (Nat.le_of_ble_eq_true rfl)
  refine xr_aload_n (pc := 73) (i := 0) (hI := d_M_run_73) (hi := rfl) (hl := rfl) ?_
  refine xg_getf (pc := 74) (ci := 11) (k := 20) (N := 38) (v9 := 2) (v := (xpl h 53 20)) (T := xF11) (hI := d_M_run_74) (hw := w_1607) rfl xi11 (Or.inl rfl) (Nat.le_of_ble_eq_true rfl) (Nat.le_of_ble_eq_true rfl) rfl (ft_53 F) rfl (fun f1_ => ?_)
  clear f1_
  obtain ⟨c9, hyp⟩ := hyp
  have t2_ := c9
  clear c9
  refine xg_getfN (pc := 77) (ci := 12) (k := 8) (N := 13) (v9 := 2) (v := (xpl h (xpl h 53 20) 8)) (T := xF12) (hI := d_M_run_77) (hw := w_1552) rfl xi12 (Or.inl rfl) (Nat.le_of_ble_eq_true rfl) (Nat.le_of_ble_eq_true rfl) rfl t2_ rfl (fun f3_ => ?_)
  clear f3_
  refine xr_iload_n (pc := 80) (i := 1) (hI := d_M_run_80) (hi := rfl) (hl := rfl) ?_
  refine xr_dup2 (pc := 81) (hI := d_M_run_81) (hv := rfl) (hw := rfl) ?_
  obtain ⟨c9, hyp⟩ := hyp
  have t4_ := c9
  clear c9
  obtain ⟨c5_, hyp⟩ := hyp
  obtain ⟨c6_, hyp⟩ := hyp
  refine xg_iaload (pc := 82) (v := (xpl h (xpl h (xpl h 53 20) 8) x1)) (hI := d_M_run_82) t4_ c5_ (xlt_of rfl c6_) rfl (fun f7_ => ?_)
  replace f7_ : -2147483648 ≤ (xpl h (xpl h (xpl h 53 20) 8) x1) ∧ (xpl h (xpl h (xpl h 53 20) 8) x1) ≤ 2147483647 := f7_
  refine xr_iconst (pc := 83) (hI := d_M_run_83) (hr := by decide) ?_
  obtain ⟨c9, hyp⟩ := hyp
  refine xr_iadd (pc := 84) (hI := d_M_run_84) (hr := c9) ?_
  obtain ⟨c8_, hyp⟩ := hyp
  refine xr_iastore (pc := 85) (hI := d_M_run_85) t4_ c8_ (by clear hyp; omega) (xlt_of rfl (by clear hyp; omega)) ?_
  have F9_ : xFix (xst h (xpl h (xpl h 53 20) 8) x1 ((xpl h (xpl h (xpl h 53 20) 8) x1) + 1)) := F.stTA (t := 100) c8_ t4_ xta_100
  refine xr_aload_n (pc := 86) (i := 0) (hI := d_M_run_86) (hi := rfl) (hl := rfl) ?_
  refine xr_dup (pc := 87) (hI := d_M_run_87) (hv := rfl) ?_
  refine xg_getf (pc := 88) (ci := 11) (k := 24) (N := 38) (v9 := 0) (v := (xpl h 53 24)) (T := xF11) (hI := d_M_run_88) (hw := w_1611) rfl xi11 (Or.inl rfl) (Nat.le_of_ble_eq_true rfl) (Nat.le_of_ble_eq_true rfl) rfl (ft_53 F9_) (xpl_oa (xne_tag (have z9 := (ft_53 F9_); z9) t4_ (by decide))) (fun f10_ => ?_)
  replace f10_ : -2147483648 ≤ (xpl h 53 24) ∧ (xpl h 53 24) ≤ 2147483647 := f10_
  refine xr_iconst (pc := 91) (hI := d_M_run_91) (hr := by decide) ?_
  obtain ⟨c9, hyp⟩ := hyp
  refine xr_iadd (pc := 92) (hI := d_M_run_92) (hr := c9) ?_
  refine xr_putf (pc := 93) (ci := 11) (k := 24) (N := 38) (v9 := 0) (T := xF11) (tF := xT11) (hI := d_M_run_93) (hw := w_1611) rfl xi11 xt11 xn11 (Or.inl rfl) (Nat.le_of_ble_eq_true rfl) (Nat.le_of_ble_eq_true rfl) rfl xfit_i rfl (ft_53 F9_) (by decide) (fun z => z) ?_
  have F11_ : xFix (xst (xst h (xpl h (xpl h 53 20) 8) x1 ((xpl h (xpl h (xpl h 53 20) 8) x1) + 1)) 53 24 ((xpl h 53 24) + 1)) := F9_.stL xfk_53_24
  refine xr_return (S := []) (pc := 96) (hI := d_M_run_96) (hr := rfl) ?_
  exact hyp F11_
theorem d_M_star_0 : decode prog_14_method_55_code 0 = .ok (.aload_n 0, 1) := by decide +kernel
theorem d_M_star_1 : decode prog_14_method_55_code 1 = .ok (.getfield 55, 3) := by decide +kernel
theorem d_M_star_4 : decode prog_14_method_55_code 4 = .ok (.getfield 304, 3) := by decide +kernel
theorem d_M_star_7 : decode prog_14_method_55_code 7 = .ok (.iload_n 1, 1) := by decide +kernel
theorem d_M_star_8 : decode prog_14_method_55_code 8 = .ok (.iconst 1, 1) := by decide +kernel
theorem d_M_star_9 : decode prog_14_method_55_code 9 = .ok (.iastore, 1) := by decide +kernel
theorem d_M_star_10 : decode prog_14_method_55_code 10 = .ok (.aload_n 0, 1) := by decide +kernel
theorem d_M_star_11 : decode prog_14_method_55_code 11 = .ok (.aload_n 0, 1) := by decide +kernel
theorem d_M_star_12 : decode prog_14_method_55_code 12 = .ok (.getfield 61, 3) := by decide +kernel
theorem d_M_star_15 : decode prog_14_method_55_code 15 = .ok (.aload_n 0, 1) := by decide +kernel
theorem d_M_star_16 : decode prog_14_method_55_code 16 = .ok (.getfield 258, 3) := by decide +kernel
theorem d_M_star_19 : decode prog_14_method_55_code 19 = .ok (.iaload, 1) := by decide +kernel
theorem d_M_star_20 : decode prog_14_method_55_code 20 = .ok (.aload_n 0, 1) := by decide +kernel
theorem d_M_star_21 : decode prog_14_method_55_code 21 = .ok (.getfield 64, 3) := by decide +kernel
theorem d_M_star_24 : decode prog_14_method_55_code 24 = .ok (.aload_n 0, 1) := by decide +kernel
theorem d_M_star_25 : decode prog_14_method_55_code 25 = .ok (.getfield 258, 3) := by decide +kernel
theorem d_M_star_28 : decode prog_14_method_55_code 28 = .ok (.iaload, 1) := by decide +kernel
theorem d_M_star_29 : decode prog_14_method_55_code 29 = .ok (.invokevirtual 152, 3) := by decide +kernel
theorem v_M_star_0 {G : XG} {d : Nat} {h : XH} {Q : XV → XH → Prop} {X : Nat → XH → Prop} {x1 : Int} (F : xFix h) (hyp : xtg h (xpl h 53 20) = 12 ∧ xtg h (xpl h (xpl h 53 20) 5) = 100 ∧ 0 ≤ (xpl h (xpl h 53 20) 5) ∧ 0 ≤ x1 ∧ x1 < (xln h (xpl h (xpl h 53 20) 5)) ∧ 0 ≤ (xpl h 53 24) ∧ (xpl h 53 24) < 41 ∧ (xFix (xst h (xpl h (xpl h 53 20) 5) x1 1) → xwp G m_M_cutToLetters (d + 3) 0 [xR 53, xI (xpl (xst h (xpl h (xpl h 53 20) 5) x1 1) 79 (xpl h 53 24)), xI (xpl (xst h (xpl h (xpl h 53 20) 5) x1 1) 80 (xpl h 53 24)), xZ, xZ] [] (xst h (xpl h (xpl h 53 20) 5) x1 1) (fun v9 h9 => xwp G m_M_star (d + 4) 32 [xR 53, xZ, xZ, xZ, xZ] (xpush v9 []) h9 Q X) X)) : xwp G m_M_star (d + 4) 0 [xR 53, xI x1, xZ, xZ, xZ] [] h Q X := by
  have hnx9 : (93 : Int) ≤ xnx h := F.2.2
  refine xr_okL (fun hl9 => ?_)
  have r_x1 : -2147483648 ≤ x1 ∧ x1 ≤ 2147483647 := hl9 (xI x1) (.tail _ (.head _)) (Nat.le_of_ble_eq_true rfl)
  refine xr_aload_n (pc := 0) (i := 0) (hI := d_M_star_0) (hi := rfl) (hl := rfl) ?_
  refine xg_getf (pc := 1) (ci := 11) (k := 20) (N := 38) (v9 := 2) (v := (xpl h 53 20)) (T := xF11) (hI := d_M_star_1) (hw := w_1607) rfl xi11 (Or.inl rfl) (Nat.le_of_ble_eq_true rfl) (Nat.le_of_ble_eq_true rfl) rfl (ft_53 F) rfl (fun f1_ => ?_)
  clear f1_
  obtain ⟨c9, hyp⟩ := hyp
  have t2_ := c9
  clear c9
  refine xg_getfN (pc := 4) (ci := 12) (k := 5) (N := 13) (v9 := 2) (v := (xpl h (xpl h 53 20) 5)) (T := xF12) (hI := d_M_star_4) (hw := w_1546) rfl xi12 (Or.inl rfl) (Nat.le_of_ble_eq_true rfl) (Nat.le_of_ble_eq_true rfl) rfl t2_ rfl (fun f3_ => ?_)
  clear f3_
  refine xr_iload_n (pc := 7) (i := 1) (hI := d_M_star_7) (hi := rfl) (hl := rfl) ?_
  refine xr_iconst (pc := 8) (hI := d_M_star_8) (hr := by decide) ?_
  obtain ⟨c9, hyp⟩ := hyp
  have t4_ := c9
  clear c9
  obtain ⟨c5_, hyp⟩ := hyp
  obtain ⟨c6_, hyp⟩ := hyp
  obtain ⟨c7_, hyp⟩ := hyp
  refine xr_iastore (pc := 9) (hI := d_M_star_9) t4_ c5_ c6_ (xlt_of rfl c7_) ?_
  have F8_ : xFix (xst h (xpl h (xpl h 53 20) 5) x1 1) := F.stTA (t := 100) c5_ t4_ xta_100
  refine xr_aload_n (pc := 10) (i := 0) (hI := d_M_star_10) (hi := rfl) (hl := rfl) ?_
  refine xr_aload_n (pc := 11) (i := 0) (hI := d_M_star_11) (hi := rfl) (hl := rfl) ?_
  refine xg_getf (pc := 12) (ci := 11) (k := 22) (N := 38) (v9 := 2) (v := 79) (T := xF11) (hI := d_M_star_12) (hw := w_1609) rfl xi11 (Or.inl rfl) (Nat.le_of_ble_eq_true rfl) (Nat.le_of_ble_eq_true rfl) rfl (ft_53 F8_) (fp_53_22 F8_) (fun f9_ => ?_)
  clear f9_
  refine xr_aload_n (pc := 15) (i := 0) (hI := d_M_star_15) (hi := rfl) (hl := rfl) ?_
  refine xg_getf (pc := 16) (ci := 11) (k := 24) (N := 38) (v9 := 0) (v := (xpl h 53 24)) (T := xF11) (hI := d_M_star_16) (hw := w_1611) rfl xi11 (Or.inl rfl) (Nat.le_of_ble_eq_true rfl) (Nat.le_of_ble_eq_true rfl) rfl (ft_53 F8_) (xpl_oa (xne_tag (have z9 := (ft_53 F8_); z9) t4_ (by decide))) (fun f10_ => ?_)
  replace f10_ : -2147483648 ≤ (xpl h 53 24) ∧ (xpl h 53 24) ≤ 2147483647 := f10_
  obtain ⟨c11_, hyp⟩ := hyp
  obtain ⟨c12_, hyp⟩ := hyp
  refine xg_iaload (pc := 19) (v := (xpl (xst h (xpl h (xpl h 53 20) 5) x1 1) 79 (xpl h 53 24))) (hI := d_M_star_19) (ft_79 F8_) c11_ (xlt_of (fl_79 F8_) c12_) rfl (fun f13_ => ?_)
  replace f13_ : -2147483648 ≤ (xpl (xst h (xpl h (xpl h 53 20) 5) x1 1) 79 (xpl h 53 24)) ∧ (xpl (xst h (xpl h (xpl h 53 20) 5) x1 1) 79 (xpl h 53 24)) ≤ 2147483647 := f13_
  refine xr_aload_n (pc := 20) (i := 0) (hI := d_M_star_20) (hi := rfl) (hl := rfl) ?_
  refine xg_getf (pc := 21) (ci := 11) (k := 23) (N := 38) (v9 := 2) (v := 80) (T := xF11) (hI := d_M_star_21) (hw := w_1610) rfl xi11 (Or.inl rfl) (Nat.le_of_ble_eq_true rfl) (Nat.le_of_ble_eq_true rfl) rfl (ft_53 F8_) (fp_53_23 F8_) (fun f14_ => ?_)
  clear f14_
  refine xr_aload_n (pc := 24) (i := 0) (hI := d_M_star_24) (hi := rfl) (hl := rfl) ?_
  refine xg_getf (pc := 25) (ci := 11) (k := 24) (N := 38) (v9 := 0) (v := (xpl h 53 24)) (T := xF11) (hI := d_M_star_25) (hw := w_1611) rfl xi11 (Or.inl rfl) (Nat.le_of_ble_eq_true rfl) (Nat.le_of_ble_eq_true rfl) rfl (ft_53 F8_) (xpl_oa (xne_tag (have z9 := (ft_53 F8_); z9) t4_ (by decide))) (fun f15_ => ?_)
  replace f15_ : -2147483648 ≤ (xpl h 53 24) ∧ (xpl h 53 24) ≤ 2147483647 := f15_
  refine xg_iaload (pc := 28) (v := (xpl (xst h (xpl h (xpl h 53 20) 5) x1 1) 80 (xpl h 53 24))) (hI := d_M_star_28) (ft_80 F8_) (by clear hyp; omega) (xlt_of (fl_80 F8_) (by clear hyp; omega)) rfl (fun f16_ => ?_)
  replace f16_ : -2147483648 ≤ (xpl (xst h (xpl h (xpl h 53 20) 5) x1 1) 80 (xpl h 53 24)) ∧ (xpl (xst h (xpl h (xpl h 53 20) 5) x1 1) 80 (xpl h 53 24)) ≤ 2147483647 := f16_
  exact xq_callV (pc := 29) (index := 152) (K := m_M_cutToLetters) (As := [xI (xpl (xst h (xpl h (xpl h 53 20) 5) x1 1) 79 (xpl h 53 24)), xI (xpl (xst h (xpl h (xpl h 53 20) 5) x1 1) 80 (xpl h 53 24))]) (S := []) (L0 := [xR 53, xI (xpl (xst h (xpl h (xpl h 53 20) 5) x1 1) 79 (xpl h 53 24)), xI (xpl (xst h (xpl h (xpl h 53 20) 5) x1 1) 80 (xpl h 53 24)), xZ, xZ]) (hI := d_M_star_29) (hK := k_M_cutToLetters) (hlk := w_1782) (hnoM := rfl) (hS8 := Nat.le_of_ble_eq_true rfl) (ci := 11) (N := 38) (C := "BeaconIndexModel") (T := xF11) (hc := rfl) (hci := Nat.le_of_ble_eq_true rfl) (htb := (ft_53 F8_)) (hinst := w_1784) (hsel := sel_M_cutToLetters) (hlen := Nat.le_of_ble_eq_true rfl) (hst := rfl) (hL0 := rfl)  (xwp_mono (hyp F8_) (fun v9 h9 q9 => xr_drop (L9 := [xR 53, xZ, xZ, xZ, xZ]) (xdrs (xdrz (xdrs (xdrs (xdrs xdr0))))) q9) (fun _ _ z9 => z9))
theorem d_M_star_32 : decode prog_14_method_55_code 32 = .ok (.istore_n 2, 1) := by decide +kernel
theorem d_M_star_33 : decode prog_14_method_55_code 33 = .ok (.aload_n 0, 1) := by decide +kernel
theorem d_M_star_34 : decode prog_14_method_55_code 34 = .ok (.iload_n 2, 1) := by decide +kernel
theorem d_M_star_35 : decode prog_14_method_55_code 35 = .ok (.invokevirtual 161, 3) := by decide +kernel
theorem v_M_star_32 {G : XG} {d : Nat} {h : XH} {Q : XV → XH → Prop} {X : Nat → XH → Prop} {s0 : Int} (F : xFix h) (hyp : (xwp G m_M_packed (d + 3) 0 [xR 53, xI s0, xZ, xZ, xZ] [] h (fun v9 h9 => xwp G m_M_star (d + 4) 38 [xR 53, xZ, xI s0, xZ, xZ] (xpush v9 []) h9 Q X) X)) : xwp G m_M_star (d + 4) 32 [xR 53, xZ, xZ, xZ, xZ] [xI s0] h Q X := by
  have hnx9 : (93 : Int) ≤ xnx h := F.2.2
  refine xr_okS (fun hs9 => ?_)
  have r_s0 : -2147483648 ≤ s0 ∧ s0 ≤ 2147483647 := hs9 (xI s0) (.head _)
  refine xr_istore_n (pc := 32) (i := 2) (L9 := [xR 53, xZ, xI s0, xZ, xZ]) (hI := d_M_star_32) (hi := rfl) (hn := Nat.le_of_ble_eq_true rfl) (hL9 := rfl) ?_
  refine xr_aload_n (pc := 33) (i := 0) (hI := d_M_star_33) (hi := rfl) (hl := rfl) ?_
  refine xr_iload_n (pc := 34) (i := 2) (hI := d_M_star_34) (hi := rfl) (hl := rfl) ?_
  exact xq_callV (pc := 35) (index := 161) (K := m_M_packed) (As := [xI s0]) (S := []) (L0 := [xR 53, xI s0, xZ, xZ, xZ]) (hI := d_M_star_35) (hK := k_M_packed) (hlk := w_1792) (hnoM := rfl) (hS8 := Nat.le_of_ble_eq_true rfl) (ci := 11) (N := 38) (C := "BeaconIndexModel") (T := xF11) (hc := rfl) (hci := Nat.le_of_ble_eq_true rfl) (htb := (ft_53 F)) (hinst := w_1794) (hsel := sel_M_packed) (hlen := Nat.le_of_ble_eq_true rfl) (hst := rfl) (hL0 := rfl)  hyp
theorem d_M_star_38 : decode prog_14_method_55_code 38 = .ok (.lstore_n 3, 1) := by decide +kernel
theorem d_M_star_39 : decode prog_14_method_55_code 39 = .ok (.aload_n 0, 1) := by decide +kernel
theorem d_M_star_40 : decode prog_14_method_55_code 40 = .ok (.lload_n 3, 1) := by decide +kernel
theorem d_M_star_41 : decode prog_14_method_55_code 41 = .ok (.iconst 0, 1) := by decide +kernel
theorem d_M_star_42 : decode prog_14_method_55_code 42 = .ok (.invokevirtual 333, 3) := by decide +kernel
theorem v_M_star_38 {G : XG} {d : Nat} {h : XH} {Q : XV → XH → Prop} {X : Nat → XH → Prop} {x2 s0 : Int} (F : xFix h) (hyp : (xwp G m_M_put (d + 3) 0 [xR 53, xL s0, xZ, xI 0] [] h (fun v9 h9 => xwp G m_M_star (d + 4) 45 [xR 53, xZ, xI x2, xL s0, xZ] (xpush v9 []) h9 Q X) X)) : xwp G m_M_star (d + 4) 38 [xR 53, xZ, xI x2, xZ, xZ] [xL s0] h Q X := by
  have hnx9 : (93 : Int) ≤ xnx h := F.2.2
  refine xr_okL (fun hl9 => ?_)
  have r_x2 : -2147483648 ≤ x2 ∧ x2 ≤ 2147483647 := hl9 (xI x2) (.tail _ (.tail _ (.head _))) (Nat.le_of_ble_eq_true rfl)
  refine xr_okS (fun hs9 => ?_)
  have r_s0 : -9223372036854775808 ≤ s0 ∧ s0 ≤ 9223372036854775807 := hs9 (xL s0) (.head _)
  refine xr_lstore_n (pc := 38) (i := 3) (L9 := [xR 53, xZ, xI x2, xL s0, xZ]) (hI := d_M_star_38) (hi := rfl) (hn := Nat.le_of_ble_eq_true rfl) (hL9 := rfl) ?_
  refine xr_aload_n (pc := 39) (i := 0) (hI := d_M_star_39) (hi := rfl) (hl := rfl) ?_
  refine xr_lload_n (pc := 40) (i := 3) (hI := d_M_star_40) (hi := rfl) (hl := rfl) ?_
  refine xr_iconst (pc := 41) (hI := d_M_star_41) (hr := by decide) ?_
  exact xq_callV (pc := 42) (index := 333) (K := m_M_put) (As := [xL s0, xI 0]) (S := []) (L0 := [xR 53, xL s0, xZ, xI 0]) (hI := d_M_star_42) (hK := k_M_put) (hlk := w_2340) (hnoM := rfl) (hS8 := Nat.le_of_ble_eq_true rfl) (ci := 11) (N := 38) (C := "BeaconIndexModel") (T := xF11) (hc := rfl) (hci := Nat.le_of_ble_eq_true rfl) (htb := (ft_53 F)) (hinst := w_2342) (hsel := sel_M_put) (hlen := Nat.le_of_ble_eq_true rfl) (hst := rfl) (hL0 := rfl)  hyp
theorem d_M_star_45 : decode prog_14_method_55_code 45 = .ok (.aload_n 0, 1) := by decide +kernel
theorem d_M_star_46 : decode prog_14_method_55_code 46 = .ok (.aload_n 0, 1) := by decide +kernel
theorem d_M_star_47 : decode prog_14_method_55_code 47 = .ok (.getfield 64, 3) := by decide +kernel
theorem d_M_star_50 : decode prog_14_method_55_code 50 = .ok (.aload_n 0, 1) := by decide +kernel
theorem d_M_star_51 : decode prog_14_method_55_code 51 = .ok (.getfield 258, 3) := by decide +kernel
theorem d_M_star_54 : decode prog_14_method_55_code 54 = .ok (.iaload, 1) := by decide +kernel
theorem d_M_star_55 : decode prog_14_method_55_code 55 = .ok (.bipush 12, 2) := by decide +kernel
theorem d_M_star_57 : decode prog_14_method_55_code 57 = .ok (.if_icmp .le 7, 3) := by decide +kernel
theorem d_M_star_64 : decode prog_14_method_55_code 64 = .ok (.lload_n 3, 1) := by decide +kernel
theorem d_M_star_65 : decode prog_14_method_55_code 65 = .ok (.bipush 12, 2) := by decide +kernel
theorem d_M_star_67 : decode prog_14_method_55_code 67 = .ok (.iload_n 2, 1) := by decide +kernel
theorem d_M_star_68 : decode prog_14_method_55_code 68 = .ok (.isub, 1) := by decide +kernel
theorem d_M_star_69 : decode prog_14_method_55_code 69 = .ok (.invokestatic 138, 3) := by decide +kernel
theorem d_M_star_60 : decode prog_14_method_55_code 60 = .ok (.lload_n 3, 1) := by decide +kernel
theorem d_M_star_61 : decode prog_14_method_55_code 61 = .ok (.goto 12, 3) := by decide +kernel
theorem d_M_star_73 : decode prog_14_method_55_code 73 = .ok (.iconst 0, 1) := by decide +kernel
theorem d_M_star_74 : decode prog_14_method_55_code 74 = .ok (.invokevirtual 333, 3) := by decide +kernel
theorem v_M_star_45 {G : XG} {d : Nat} {h : XH} {Q : XV → XH → Prop} {X : Nat → XH → Prop} {x2 x3 : Int} (F : xFix h) (hyp : 0 ≤ (xpl h 53 24) ∧ (xpl h 53 24) < 41 ∧ (((xpl h 80 (xpl h 53 24)) ≤ 12 → xiR (12 - x2) ∧ (xwp G m_M_power (d + 3) 0 [xI (12 - x2), xZ, xZ, xZ] [] h (fun v9 h9 => xwp G m_M_star (d + 4) 72 [xR 53, xZ, xZ, xZ, xZ] (xpush v9 [xL x3, xR 53]) h9 Q X) X)) ∧ (¬ (xpl h 80 (xpl h 53 24)) ≤ 12 → (xwp G m_M_put (d + 3) 0 [xR 53, xL x3, xZ, xI 0] [] h (fun v9 h9 => xwp G m_M_star (d + 4) 77 [xR 53, xZ, xZ, xZ, xZ] (xpush v9 []) h9 Q X) X)))) : xwp G m_M_star (d + 4) 45 [xR 53, xZ, xI x2, xL x3, xZ] [] h Q X := by
  have hnx9 : (93 : Int) ≤ xnx h := F.2.2
  refine xr_okL (fun hl9 => ?_)
  have r_x2 : -2147483648 ≤ x2 ∧ x2 ≤ 2147483647 := hl9 (xI x2) (.tail _ (.tail _ (.head _))) (Nat.le_of_ble_eq_true rfl)
  have r_x3 : -9223372036854775808 ≤ x3 ∧ x3 ≤ 9223372036854775807 := hl9 (xL x3) (.tail _ (.tail _ (.tail _ (.head _)))) (Nat.le_of_ble_eq_true rfl)
  refine xr_aload_n (pc := 45) (i := 0) (hI := d_M_star_45) (hi := rfl) (hl := rfl) ?_
  refine xr_aload_n (pc := 46) (i := 0) (hI := d_M_star_46) (hi := rfl) (hl := rfl) ?_
  refine xg_getf (pc := 47) (ci := 11) (k := 23) (N := 38) (v9 := 2) (v := 80) (T := xF11) (hI := d_M_star_47) (hw := w_1610) rfl xi11 (Or.inl rfl) (Nat.le_of_ble_eq_true rfl) (Nat.le_of_ble_eq_true rfl) rfl (ft_53 F) (fp_53_23 F) (fun f1_ => ?_)
  clear f1_
  refine xr_aload_n (pc := 50) (i := 0) (hI := d_M_star_50) (hi := rfl) (hl := rfl) ?_
  refine xg_getf (pc := 51) (ci := 11) (k := 24) (N := 38) (v9 := 0) (v := (xpl h 53 24)) (T := xF11) (hI := d_M_star_51) (hw := w_1611) rfl xi11 (Or.inl rfl) (Nat.le_of_ble_eq_true rfl) (Nat.le_of_ble_eq_true rfl) rfl (ft_53 F) rfl (fun f2_ => ?_)
  replace f2_ : -2147483648 ≤ (xpl h 53 24) ∧ (xpl h 53 24) ≤ 2147483647 := f2_
  obtain ⟨c3_, hyp⟩ := hyp
  obtain ⟨c4_, hyp⟩ := hyp
  refine xg_iaload (pc := 54) (v := (xpl h 80 (xpl h 53 24))) (hI := d_M_star_54) (ft_80 F) c3_ (xlt_of (fl_80 F) c4_) rfl (fun f5_ => ?_)
  replace f5_ : -2147483648 ≤ (xpl h 80 (xpl h 53 24)) ∧ (xpl h 80 (xpl h 53 24)) ≤ 2147483647 := f5_
  refine xr_bipush (pc := 55) (hI := d_M_star_55) (hr := by decide) (hv := by decide) ?_
  refine xr_icmp_le (pc := 57) (tgt := 64) (hI := d_M_star_57) (ht := by decide) (fun q9 => ?_) (fun q9 => ?_)
  · replace hyp := hyp.1 q9
    have q6_ := q9
    clear q9
    refine xr_lload_n (pc := 64) (i := 3) (hI := d_M_star_64) (hi := rfl) (hl := rfl) ?_
    refine xr_bipush (pc := 65) (hI := d_M_star_65) (hr := by decide) (hv := by decide) ?_
    refine xr_iload_n (pc := 67) (i := 2) (hI := d_M_star_67) (hi := rfl) (hl := rfl) ?_
    obtain ⟨c9, hyp⟩ := hyp
    refine xr_isub (pc := 68) (hI := d_M_star_68) (hr := c9) ?_
    exact xq_callS (pc := 69) (index := 138) (K := m_M_power) (As := [xI (12 - x2)]) (S := [xL x3, xR 53]) (L0 := [xI (12 - x2), xZ, xZ, xZ]) (hI := d_M_star_69) (hK := k_M_power) (hlk := w_2209) (hnoM := rfl) (hS8 := Nat.le_of_ble_eq_true rfl) (hstat := w_2210) (hlen := Nat.le_of_ble_eq_true rfl) (hst := rfl) (hL0 := rfl)  (xwp_mono hyp (fun v9 h9 q9 => xr_drop (L9 := [xR 53, xZ, xZ, xZ, xZ]) (xdrs (xdrs (xdrz (xdrz (xdrs xdr0))))) q9) (fun _ _ z9 => z9))
  · replace hyp := hyp.2 q9
    have q6_ := q9
    clear q9
    refine xr_lload_n (pc := 60) (i := 3) (hI := d_M_star_60) (hi := rfl) (hl := rfl) ?_
    refine xr_goto (pc := 61) (tgt := 73) (hI := d_M_star_61) (ht := by decide) ?_
    refine xr_iconst (pc := 73) (hI := d_M_star_73) (hr := by decide) ?_
    exact xq_callV (pc := 74) (index := 333) (K := m_M_put) (As := [xL x3, xI 0]) (S := []) (L0 := [xR 53, xL x3, xZ, xI 0]) (hI := d_M_star_74) (hK := k_M_put) (hlk := w_2340) (hnoM := rfl) (hS8 := Nat.le_of_ble_eq_true rfl) (ci := 11) (N := 38) (C := "BeaconIndexModel") (T := xF11) (hc := rfl) (hci := Nat.le_of_ble_eq_true rfl) (htb := (ft_53 F)) (hinst := w_2342) (hsel := sel_M_put) (hlen := Nat.le_of_ble_eq_true rfl) (hst := rfl) (hL0 := rfl)  (xwp_mono hyp (fun v9 h9 q9 => xr_drop (L9 := [xR 53, xZ, xZ, xZ, xZ]) (xdrs (xdrs (xdrz (xdrz (xdrs xdr0))))) q9) (fun _ _ z9 => z9))
theorem d_M_star_72 : decode prog_14_method_55_code 72 = .ok (.ladd, 1) := by decide +kernel
theorem v_M_star_72 {G : XG} {d : Nat} {h : XH} {Q : XV → XH → Prop} {X : Nat → XH → Prop} {s0 s1 : Int} (F : xFix h) (hyp : (xwp G m_M_put (d + 3) 0 [xR 53, xL (xw64 (s1 + s0)), xZ, xI 0] [] h (fun v9 h9 => xwp G m_M_star (d + 4) 77 [xR 53, xZ, xZ, xZ, xZ] (xpush v9 []) h9 Q X) X)) : xwp G m_M_star (d + 4) 72 [xR 53, xZ, xZ, xZ, xZ] [xL s0, xL s1, xR 53] h Q X := by
  have hnx9 : (93 : Int) ≤ xnx h := F.2.2
  refine xr_okS (fun hs9 => ?_)
  have r_s0 : -9223372036854775808 ≤ s0 ∧ s0 ≤ 9223372036854775807 := hs9 (xL s0) (.head _)
  have r_s1 : -9223372036854775808 ≤ s1 ∧ s1 ≤ 9223372036854775807 := hs9 (xL s1) (.tail _ (.head _))
  refine xr_ladd (pc := 72) (hI := d_M_star_72) ?_
  refine xr_iconst (pc := 73) (hI := d_M_star_73) (hr := by decide) ?_
  exact xq_callV (pc := 74) (index := 333) (K := m_M_put) (As := [xL (xw64 (s1 + s0)), xI 0]) (S := []) (L0 := [xR 53, xL (xw64 (s1 + s0)), xZ, xI 0]) (hI := d_M_star_74) (hK := k_M_put) (hlk := w_2340) (hnoM := rfl) (hS8 := Nat.le_of_ble_eq_true rfl) (ci := 11) (N := 38) (C := "BeaconIndexModel") (T := xF11) (hc := rfl) (hci := Nat.le_of_ble_eq_true rfl) (htb := (ft_53 F)) (hinst := w_2342) (hsel := sel_M_put) (hlen := Nat.le_of_ble_eq_true rfl) (hst := rfl) (hL0 := rfl)  hyp
theorem d_M_star_77 : decode prog_14_method_55_code 77 = .ok (.aload_n 0, 1) := by decide +kernel
theorem d_M_star_78 : decode prog_14_method_55_code 78 = .ok (.dup, 1) := by decide +kernel
theorem d_M_star_79 : decode prog_14_method_55_code 79 = .ok (.getfield 258, 3) := by decide +kernel
theorem d_M_star_82 : decode prog_14_method_55_code 82 = .ok (.iconst 2, 1) := by decide +kernel
theorem d_M_star_83 : decode prog_14_method_55_code 83 = .ok (.iadd, 1) := by decide +kernel
theorem d_M_star_84 : decode prog_14_method_55_code 84 = .ok (.putfield 258, 3) := by decide +kernel
theorem d_M_star_87 : decode prog_14_method_55_code 87 = .ok (.return_, 1) := by decide +kernel
theorem v_M_star_77 {G : XG} {d : Nat} {h : XH} {Q : XV → XH → Prop} {X : Nat → XH → Prop} (F : xFix h) (hyp : xiR ((xpl h 53 24) + 2) ∧ (xFix (xst h 53 24 ((xpl h 53 24) + 2)) → Q xN (xst h 53 24 ((xpl h 53 24) + 2)))) : xwp G m_M_star (d + 4) 77 [xR 53, xZ, xZ, xZ, xZ] [] h Q X := by
  have hnx9 : (93 : Int) ≤ xnx h := F.2.2
  refine xr_aload_n (pc := 77) (i := 0) (hI := d_M_star_77) (hi := rfl) (hl := rfl) ?_
  refine xr_dup (pc := 78) (hI := d_M_star_78) (hv := rfl) ?_
  refine xg_getf (pc := 79) (ci := 11) (k := 24) (N := 38) (v9 := 0) (v := (xpl h 53 24)) (T := xF11) (hI := d_M_star_79) (hw := w_1611) rfl xi11 (Or.inl rfl) (Nat.le_of_ble_eq_true rfl) (Nat.le_of_ble_eq_true rfl) rfl (ft_53 F) rfl (fun f1_ => ?_)
  replace f1_ : -2147483648 ≤ (xpl h 53 24) ∧ (xpl h 53 24) ≤ 2147483647 := f1_
  refine xr_iconst (pc := 82) (hI := d_M_star_82) (hr := by decide) ?_
  obtain ⟨c9, hyp⟩ := hyp
  refine xr_iadd (pc := 83) (hI := d_M_star_83) (hr := c9) ?_
  refine xr_putf (pc := 84) (ci := 11) (k := 24) (N := 38) (v9 := 0) (T := xF11) (tF := xT11) (hI := d_M_star_84) (hw := w_1611) rfl xi11 xt11 xn11 (Or.inl rfl) (Nat.le_of_ble_eq_true rfl) (Nat.le_of_ble_eq_true rfl) rfl xfit_i rfl (ft_53 F) (by decide) (fun z => z) ?_
  have F2_ : xFix (xst h 53 24 ((xpl h 53 24) + 2)) := F.stL xfk_53_24
  refine xr_return (S := []) (pc := 87) (hI := d_M_star_87) (hr := rfl) ?_
  exact hyp F2_

end
