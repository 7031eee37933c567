/-! ===== qvc ===== -/
section
abbrev m_M_parts : XM := (⟨"BeaconIndexModel", "parts", "()I"⟩, prog_14_method_102_code, 1, (some .int), [])
theorem d_M_parts_0 : decode prog_14_method_102_code 0 = .ok (.aload_n 0, 1) := by decide +kernel
theorem d_M_parts_1 : decode prog_14_method_102_code 1 = .ok (.aload_n 0, 1) := by decide +kernel
theorem d_M_parts_2 : decode prog_14_method_102_code 2 = .ok (.getfield 448, 3) := by decide +kernel
theorem d_M_parts_5 : decode prog_14_method_102_code 5 = .ok (.invokevirtual 407, 3) := by decide +kernel
theorem d_M_parts_8 : decode prog_14_method_102_code 8 = .ok (.ifCond .eq 10, 3) := by decide +kernel
theorem d_M_parts_18 : decode prog_14_method_102_code 18 = .ok (.iconst 0, 1) := by decide +kernel
theorem d_M_parts_19 : decode prog_14_method_102_code 19 = .ok (.ireturn, 1) := by decide +kernel
theorem d_M_parts_11 : decode prog_14_method_102_code 11 = .ok (.aload_n 0, 1) := by decide +kernel
theorem d_M_parts_12 : decode prog_14_method_102_code 12 = .ok (.invokevirtual 451, 3) := by decide +kernel
theorem k_M_topParts : xCal m_M_topParts 0 := ⟨List.mem_append_right _ (List.mem_of_getElem? (i := 2363) (by decide +kernel)), w_15, Nat.le_of_ble_eq_true rfl, ⟨by decide +kernel, by decide +kernel⟩, by decide +kernel, by decide +kernel, rfl⟩
theorem w_2360 : Cond.methodLink "BeaconIndexModel" 451 ⟨"BeaconIndexModel", "topParts", "()I"⟩ ∈ lw_tbl := List.mem_append_right _ (List.mem_of_getElem? (i := 2360) (by decide +kernel))
theorem w_2362 : Cond.instanceMethod ⟨"BeaconIndexModel", "topParts", "()I"⟩ ∈ lw_tbl := List.mem_append_right _ (List.mem_of_getElem? (i := 2362) (by decide +kernel))
theorem sel_M_topParts : Cond.selects "BeaconIndexModel" ⟨"BeaconIndexModel", "topParts", "()I"⟩ ⟨"BeaconIndexModel", "topParts", "()I"⟩ ∈ lw_tbl := List.mem_append_left _ (by decide +kernel)
theorem v_M_parts_0 {G : XG} {d : Nat} {h : XH} {Q : XV → XH → Prop} {X : Nat → XH → Prop} (F : xFix h) (hyp : (((xpl h 53 18) = 0 → (xFix (xst h 53 0 1) → Q (xI 0) (xst h 53 0 1))) ∧ (¬ (xpl h 53 18) = 0 → (xFix (xst h 53 0 0) → xwp G m_M_topParts (d + 1) 0 [xR 53, xZ, xZ] [] (xst h 53 0 0) (fun v9 h9 => xwp G m_M_parts (d + 2) 15 [xZ] (xpush v9 []) h9 Q X) X)))) : xwp G m_M_parts (d + 2) 0 [xR 53] [] h Q X := by
  have hnx9 : (93 : Int) ≤ xnx h := F.2.2
  refine xr_aload_n (pc := 0) (i := 0) (hI := d_M_parts_0) (hi := rfl) (hl := rfl) ?_
  refine xr_aload_n (pc := 1) (i := 0) (hI := d_M_parts_1) (hi := rfl) (hl := rfl) ?_
  refine xg_getfZ (pc := 2) (ci := 11) (k := 18) (N := 38) (v := (xpl h 53 18)) (T := xF11) (hI := d_M_parts_2) (hw := w_1605) rfl xi11 (Or.inl rfl) (Nat.le_of_ble_eq_true rfl) (Nat.le_of_ble_eq_true rfl) rfl (ft_53 F) rfl (fun f1_ => ?_)
  replace f1_ : 0 ≤ (xpl h 53 18) ∧ (xpl h 53 18) ≤ 1 := f1_
  refine xq_callV (pc := 5) (index := 407) (K := m_M_isKnown) (As := [xI (xpl h 53 18)]) (S := []) (L0 := [xR 53, xI (xpl h 53 18)]) (hI := d_M_parts_5) (hK := k_M_isKnown) (hlk := w_1810) (hnoM := rfl) (hS8 := Nat.le_of_ble_eq_true rfl) (ci := 11) (N := 38) (C := "BeaconIndexModel") (T := xF11) (hc := rfl) (hci := Nat.le_of_ble_eq_true rfl) (htb := (ft_53 F)) (hinst := w_1812) (hsel := sel_M_isKnown) (hlen := Nat.le_of_ble_eq_true rfl) (hst := rfl) (hL0 := rfl)  ?_
  refine xr_aload_n (pc := 0) (i := 0) (hI := d_M_isKnown_0) (hi := rfl) (hl := rfl) ?_
  refine xr_iload_n (pc := 1) (i := 1) (hI := d_M_isKnown_1) (hi := rfl) (hl := rfl) ?_
  refine xr_if_eq (pc := 2) (tgt := 9) (hI := d_M_isKnown_2) (ht := by decide) (fun q9 => ?_) (fun q9 => ?_)
  · replace hyp := hyp.1 q9
    have q2_ := q9
    clear q9
    refine xr_iconst (pc := 9) (hI := d_M_isKnown_9) (hr := by decide) ?_
    refine xr_putf (pc := 10) (ci := 11) (k := 0) (N := 38) (v9 := 0) (T := xF11) (tF := xT11) (hI := d_M_isKnown_10) (hw := w_1587) rfl xi11 xt11 xn11 (Or.inl rfl) (Nat.le_of_ble_eq_true rfl) (Nat.le_of_ble_eq_true rfl) rfl xfit_i rfl (ft_53 F) (by decide) (fun z => z) ?_
    have F3_ : xFix (xst h 53 0 1) := F.stL xfk_53_0
    refine xr_iload_n (pc := 13) (i := 1) (hI := d_M_isKnown_13) (hi := rfl) (hl := rfl) ?_
    refine xr_ireturnT (S := []) (pc := 14) (hI := d_M_isKnown_14) (hr := rfl) (xnar_z ⟨(by clear hyp; omega), (by clear hyp; omega)⟩) ?_
    show xwp G m_M_parts (d + 2) 8 [xR 53] [xI (xpl h 53 18)] _ _ _
    refine xr_if_eq (pc := 8) (tgt := 18) (hI := d_M_parts_8) (ht := by decide) (fun q9 => ?_) (fun q9 => ?_)
    · clear q9
      refine xr_iconst (pc := 18) (hI := d_M_parts_18) (hr := by decide) ?_
      refine xr_ireturn (S := []) (pc := 19) (hI := d_M_parts_19) (hr := rfl) ?_
      exact hyp F3_
    · exact absurd q9 (by clear hyp; omega)
  · replace hyp := hyp.2 q9
    have q2_ := q9
    clear q9
    refine xr_iconst (pc := 5) (hI := d_M_isKnown_5) (hr := by decide) ?_
    refine xr_goto (pc := 6) (tgt := 10) (hI := d_M_isKnown_6) (ht := by decide) ?_
    refine xr_putf (pc := 10) (ci := 11) (k := 0) (N := 38) (v9 := 0) (T := xF11) (tF := xT11) (hI := d_M_isKnown_10) (hw := w_1587) rfl xi11 xt11 xn11 (Or.inl rfl) (Nat.le_of_ble_eq_true rfl) (Nat.le_of_ble_eq_true rfl) rfl xfit_i rfl (ft_53 F) (by decide) (fun z => z) ?_
    have F4_ : xFix (xst h 53 0 0) := F.stL xfk_53_0
    refine xr_iload_n (pc := 13) (i := 1) (hI := d_M_isKnown_13) (hi := rfl) (hl := rfl) ?_
    refine xr_ireturnT (S := []) (pc := 14) (hI := d_M_isKnown_14) (hr := rfl) (xnar_z ⟨(by clear hyp; omega), (by clear hyp; omega)⟩) ?_
    show xwp G m_M_parts (d + 2) 8 [xR 53] [xI (xpl h 53 18)] _ _ _
    refine xr_if_eq (pc := 8) (tgt := 18) (hI := d_M_parts_8) (ht := by decide) (fun q9 => ?_) (fun q9 => ?_)
    · exact absurd q9 (by clear hyp; omega)
    · clear q9
      refine xr_aload_n (pc := 11) (i := 0) (hI := d_M_parts_11) (hi := rfl) (hl := rfl) ?_
      exact xq_callV (pc := 12) (index := 451) (K := m_M_topParts) (As := []) (S := []) (L0 := [xR 53, xZ, xZ]) (hI := d_M_parts_12) (hK := k_M_topParts) (hlk := w_2360) (hnoM := rfl) (hS8 := Nat.le_of_ble_eq_true rfl) (ci := 11) (N := 38) (C := "BeaconIndexModel") (T := xF11) (hc := rfl) (hci := Nat.le_of_ble_eq_true rfl) (htb := (ft_53 F4_)) (hinst := w_2362) (hsel := sel_M_topParts) (hlen := Nat.le_of_ble_eq_true rfl) (hst := rfl) (hL0 := rfl)  (xwp_mono (hyp F4_) (fun v9 h9 q9 => xr_drop (L9 := [xZ]) (xdrz xdr0) q9) (fun _ _ z9 => z9))
theorem d_M_parts_15 : decode prog_14_method_102_code 15 = .ok (.goto 4, 3) := by decide +kernel
theorem v_M_parts_15 {G : XG} {d : Nat} {h : XH} {Q : XV → XH → Prop} {X : Nat → XH → Prop} {s0 : Int} (F : xFix h) (hyp : (Q (xI s0) h)) : xwp G m_M_parts (d + 2) 15 [xZ] [xI s0] h Q X := by
  have hnx9 : (93 : Int) ≤ xnx h := F.2.2
  refine xr_okS (fun hs9 => ?_)
  have r_s0 : -2147483648 ≤ s0 ∧ s0 ≤ 2147483647 := hs9 (xI s0) (.head _)
  refine xr_goto (pc := 15) (tgt := 19) (hI := d_M_parts_15) (ht := by decide) ?_
  refine xr_ireturn (S := []) (pc := 19) (hI := d_M_parts_19) (hr := rfl) ?_
  exact hyp
abbrev m_M_found : XM := (⟨"BeaconIndexModel", "found", "()I"⟩, prog_14_method_103_code, 1, (some .int), [])
theorem d_M_found_0 : decode prog_14_method_103_code 0 = .ok (.aload_n 0, 1) := by decide +kernel
theorem d_M_found_1 : decode prog_14_method_103_code 1 = .ok (.aload_n 0, 1) := by decide +kernel
theorem d_M_found_2 : decode prog_14_method_103_code 2 = .ok (.getfield 448, 3) := by decide +kernel
theorem d_M_found_5 : decode prog_14_method_103_code 5 = .ok (.invokevirtual 407, 3) := by decide +kernel
theorem d_M_found_8 : decode prog_14_method_103_code 8 = .ok (.ifCond .eq 10, 3) := by decide +kernel
theorem d_M_found_18 : decode prog_14_method_103_code 18 = .ok (.iconst 0, 1) := by decide +kernel
theorem d_M_found_19 : decode prog_14_method_103_code 19 = .ok (.ireturn, 1) := by decide +kernel
theorem d_M_found_11 : decode prog_14_method_103_code 11 = .ok (.aload_n 0, 1) := by decide +kernel
theorem d_M_found_12 : decode prog_14_method_103_code 12 = .ok (.invokevirtual 454, 3) := by decide +kernel
theorem k_M_answer : xCal m_M_answer 0 := ⟨List.mem_append_right _ (List.mem_of_getElem? (i := 2371) (by decide +kernel)), w_15, Nat.le_of_ble_eq_true rfl, ⟨by decide +kernel, by decide +kernel⟩, by decide +kernel, by decide +kernel, rfl⟩
theorem w_2368 : Cond.methodLink "BeaconIndexModel" 454 ⟨"BeaconIndexModel", "answer", "()I"⟩ ∈ lw_tbl := List.mem_append_right _ (List.mem_of_getElem? (i := 2368) (by decide +kernel))
theorem w_2370 : Cond.instanceMethod ⟨"BeaconIndexModel", "answer", "()I"⟩ ∈ lw_tbl := List.mem_append_right _ (List.mem_of_getElem? (i := 2370) (by decide +kernel))
theorem sel_M_answer : Cond.selects "BeaconIndexModel" ⟨"BeaconIndexModel", "answer", "()I"⟩ ⟨"BeaconIndexModel", "answer", "()I"⟩ ∈ lw_tbl := List.mem_append_left _ (by decide +kernel)
theorem v_M_found_0 {G : XG} {d : Nat} {h : XH} {Q : XV → XH → Prop} {X : Nat → XH → Prop} (F : xFix h) (hyp : (((xpl h 53 18) = 0 → (xFix (xst h 53 0 1) → Q (xI 0) (xst h 53 0 1))) ∧ (¬ (xpl h 53 18) = 0 → (xFix (xst h 53 0 0) → xwp G m_M_answer (d + 5) 0 [xR 53, xZ, xZ, xZ, xZ] [] (xst h 53 0 0) (fun v9 h9 => xwp G m_M_found (d + 6) 15 [xZ] (xpush v9 []) h9 Q X) X)))) : xwp G m_M_found (d + 6) 0 [xR 53] [] h Q X := by
  have hnx9 : (93 : Int) ≤ xnx h := F.2.2
  refine xr_aload_n (pc := 0) (i := 0) (hI := d_M_found_0) (hi := rfl) (hl := rfl) ?_
  refine xr_aload_n (pc := 1) (i := 0) (hI := d_M_found_1) (hi := rfl) (hl := rfl) ?_
  refine xg_getfZ (pc := 2) (ci := 11) (k := 18) (N := 38) (v := (xpl h 53 18)) (T := xF11) (hI := d_M_found_2) (hw := w_1605) rfl xi11 (Or.inl rfl) (Nat.le_of_ble_eq_true rfl) (Nat.le_of_ble_eq_true rfl) rfl (ft_53 F) rfl (fun f1_ => ?_)
  replace f1_ : 0 ≤ (xpl h 53 18) ∧ (xpl h 53 18) ≤ 1 := f1_
  refine xq_callV (pc := 5) (index := 407) (K := m_M_isKnown) (As := [xI (xpl h 53 18)]) (S := []) (L0 := [xR 53, xI (xpl h 53 18)]) (hI := d_M_found_5) (hK := k_M_isKnown) (hlk := w_1810) (hnoM := rfl) (hS8 := Nat.le_of_ble_eq_true rfl) (ci := 11) (N := 38) (C := "BeaconIndexModel") (T := xF11) (hc := rfl) (hci := Nat.le_of_ble_eq_true rfl) (htb := (ft_53 F)) (hinst := w_1812) (hsel := sel_M_isKnown) (hlen := Nat.le_of_ble_eq_true rfl) (hst := rfl) (hL0 := rfl)  ?_
  refine xr_aload_n (pc := 0) (i := 0) (hI := d_M_isKnown_0) (hi := rfl) (hl := rfl) ?_
  refine xr_iload_n (pc := 1) (i := 1) (hI := d_M_isKnown_1) (hi := rfl) (hl := rfl) ?_
  refine xr_if_eq (pc := 2) (tgt := 9) (hI := d_M_isKnown_2) (ht := by decide) (fun q9 => ?_) (fun q9 => ?_)
  · replace hyp := hyp.1 q9
    have q2_ := q9
    clear q9
    refine xr_iconst (pc := 9) (hI := d_M_isKnown_9) (hr := by decide) ?_
    refine xr_putf (pc := 10) (ci := 11) (k := 0) (N := 38) (v9 := 0) (T := xF11) (tF := xT11) (hI := d_M_isKnown_10) (hw := w_1587) rfl xi11 xt11 xn11 (Or.inl rfl) (Nat.le_of_ble_eq_true rfl) (Nat.le_of_ble_eq_true rfl) rfl xfit_i rfl (ft_53 F) (by decide) (fun z => z) ?_
    have F3_ : xFix (xst h 53 0 1) := F.stL xfk_53_0
    refine xr_iload_n (pc := 13) (i := 1) (hI := d_M_isKnown_13) (hi := rfl) (hl := rfl) ?_
    refine xr_ireturnT (S := []) (pc := 14) (hI := d_M_isKnown_14) (hr := rfl) (xnar_z ⟨(by clear hyp; omega), (by clear hyp; omega)⟩) ?_
    show xwp G m_M_found (d + 6) 8 [xR 53] [xI (xpl h 53 18)] _ _ _
    refine xr_if_eq (pc := 8) (tgt := 18) (hI := d_M_found_8) (ht := by decide) (fun q9 => ?_) (fun q9 => ?_)
    · clear q9
      refine xr_iconst (pc := 18) (hI := d_M_found_18) (hr := by decide) ?_
      refine xr_ireturn (S := []) (pc := 19) (hI := d_M_found_19) (hr := rfl) ?_
      exact hyp F3_
    · exact absurd q9 (by clear hyp; omega)
  · replace hyp := hyp.2 q9
    have q2_ := q9
    clear q9
    refine xr_iconst (pc := 5) (hI := d_M_isKnown_5) (hr := by decide) ?_
    refine xr_goto (pc := 6) (tgt := 10) (hI := d_M_isKnown_6) (ht := by decide) ?_
    refine xr_putf (pc := 10) (ci := 11) (k := 0) (N := 38) (v9 := 0) (T := xF11) (tF := xT11) (hI := d_M_isKnown_10) (hw := w_1587) rfl xi11 xt11 xn11 (Or.inl rfl) (Nat.le_of_ble_eq_true rfl) (Nat.le_of_ble_eq_true rfl) rfl xfit_i rfl (ft_53 F) (by decide) (fun z => z) ?_
    have F4_ : xFix (xst h 53 0 0) := F.stL xfk_53_0
    refine xr_iload_n (pc := 13) (i := 1) (hI := d_M_isKnown_13) (hi := rfl) (hl := rfl) ?_
    refine xr_ireturnT (S := []) (pc := 14) (hI := d_M_isKnown_14) (hr := rfl) (xnar_z ⟨(by clear hyp; omega), (by clear hyp; omega)⟩) ?_
    show xwp G m_M_found (d + 6) 8 [xR 53] [xI (xpl h 53 18)] _ _ _
    refine xr_if_eq (pc := 8) (tgt := 18) (hI := d_M_found_8) (ht := by decide) (fun q9 => ?_) (fun q9 => ?_)
    · exact absurd q9 (by clear hyp; omega)
    · clear q9
      refine xr_aload_n (pc := 11) (i := 0) (hI := d_M_found_11) (hi := rfl) (hl := rfl) ?_
      exact xq_callV (pc := 12) (index := 454) (K := m_M_answer) (As := []) (S := []) (L0 := [xR 53, xZ, xZ, xZ, xZ]) (hI := d_M_found_12) (hK := k_M_answer) (hlk := w_2368) (hnoM := rfl) (hS8 := Nat.le_of_ble_eq_true rfl) (ci := 11) (N := 38) (C := "BeaconIndexModel") (T := xF11) (hc := rfl) (hci := Nat.le_of_ble_eq_true rfl) (htb := (ft_53 F4_)) (hinst := w_2370) (hsel := sel_M_answer) (hlen := Nat.le_of_ble_eq_true rfl) (hst := rfl) (hL0 := rfl)  (xwp_mono (hyp F4_) (fun v9 h9 q9 => xr_drop (L9 := [xZ]) (xdrz xdr0) q9) (fun _ _ z9 => z9))
theorem d_M_found_15 : decode prog_14_method_103_code 15 = .ok (.goto 4, 3) := by decide +kernel
theorem v_M_found_15 {G : XG} {d : Nat} {h : XH} {Q : XV → XH → Prop} {X : Nat → XH → Prop} {s0 : Int} (F : xFix h) (hyp : (Q (xI s0) h)) : xwp G m_M_found (d + 6) 15 [xZ] [xI s0] h Q X := by
  have hnx9 : (93 : Int) ≤ xnx h := F.2.2
  refine xr_okS (fun hs9 => ?_)
  have r_s0 : -2147483648 ≤ s0 ∧ s0 ≤ 2147483647 := hs9 (xI s0) (.head _)
  refine xr_goto (pc := 15) (tgt := 19) (hI := d_M_found_15) (ht := by decide) ?_
  refine xr_ireturn (S := []) (pc := 19) (hI := d_M_found_19) (hr := rfl) ?_
  exact hyp
abbrev m_M_keyFound : XM := (⟨"BeaconIndexModel", "keyFound", "(I)I"⟩, prog_14_method_104_code, 2, (some .int), [])
theorem d_M_keyFound_0 : decode prog_14_method_104_code 0 = .ok (.aload_n 0, 1) := by decide +kernel
theorem d_M_keyFound_1 : decode prog_14_method_104_code 1 = .ok (.aload_n 0, 1) := by decide +kernel
theorem d_M_keyFound_2 : decode prog_14_method_104_code 2 = .ok (.getfield 448, 3) := by decide +kernel
theorem d_M_keyFound_5 : decode prog_14_method_104_code 5 = .ok (.invokevirtual 407, 3) := by decide +kernel
theorem d_M_keyFound_8 : decode prog_14_method_104_code 8 = .ok (.ifCond .ne 5, 3) := by decide +kernel
theorem d_M_keyFound_11 : decode prog_14_method_104_code 11 = .ok (.iconst 0, 1) := by decide +kernel
theorem d_M_keyFound_12 : decode prog_14_method_104_code 12 = .ok (.ireturn, 1) := by decide +kernel
theorem d_M_keyFound_13 : decode prog_14_method_104_code 13 = .ok (.iload_n 1, 1) := by decide +kernel
theorem d_M_keyFound_14 : decode prog_14_method_104_code 14 = .ok (.iconst 0, 1) := by decide +kernel
theorem d_M_keyFound_15 : decode prog_14_method_104_code 15 = .ok (.aload_n 0, 1) := by decide +kernel
theorem d_M_keyFound_16 : decode prog_14_method_104_code 16 = .ok (.invokevirtual 454, 3) := by decide +kernel
theorem v_M_keyFound_0 {G : XG} {d : Nat} {h : XH} {Q : XV → XH → Prop} {X : Nat → XH → Prop} {x1 : Int} (F : xFix h) (hyp : (((xpl h 53 18) = 0 → (xFix (xst h 53 0 1) → Q (xI 0) (xst h 53 0 1))) ∧ (¬ (xpl h 53 18) = 0 → (xFix (xst h 53 0 0) → xwp G m_M_answer (d + 5) 0 [xR 53, xZ, xZ, xZ, xZ] [] (xst h 53 0 0) (fun v9 h9 => xwp G m_M_keyFound (d + 6) 19 [xR 53, xI x1] (xpush v9 [xI 0, xI x1]) h9 Q X) X)))) : xwp G m_M_keyFound (d + 6) 0 [xR 53, xI x1] [] h Q X := by
  have hnx9 : (93 : Int) ≤ xnx h := F.2.2
  refine xr_okL (fun hl9 => ?_)
  have r_x1 : -2147483648 ≤ x1 ∧ x1 ≤ 2147483647 := hl9 (xI x1) (.tail _ (.head _)) (Nat.le_of_ble_eq_true rfl)
  refine xr_aload_n (pc := 0) (i := 0) (hI := d_M_keyFound_0) (hi := rfl) (hl := rfl) ?_
  refine xr_aload_n (pc := 1) (i := 0) (hI := d_M_keyFound_1) (hi := rfl) (hl := rfl) ?_
  refine xg_getfZ (pc := 2) (ci := 11) (k := 18) (N := 38) (v := (xpl h 53 18)) (T := xF11) (hI := d_M_keyFound_2) (hw := w_1605) rfl xi11 (Or.inl rfl) (Nat.le_of_ble_eq_true rfl) (Nat.le_of_ble_eq_true rfl) rfl (ft_53 F) rfl (fun f1_ => ?_)
  replace f1_ : 0 ≤ (xpl h 53 18) ∧ (xpl h 53 18) ≤ 1 := f1_
  refine xq_callV (pc := 5) (index := 407) (K := m_M_isKnown) (As := [xI (xpl h 53 18)]) (S := []) (L0 := [xR 53, xI (xpl h 53 18)]) (hI := d_M_keyFound_5) (hK := k_M_isKnown) (hlk := w_1810) (hnoM := rfl) (hS8 := Nat.le_of_ble_eq_true rfl) (ci := 11) (N := 38) (C := "BeaconIndexModel") (T := xF11) (hc := rfl) (hci := Nat.le_of_ble_eq_true rfl) (htb := (ft_53 F)) (hinst := w_1812) (hsel := sel_M_isKnown) (hlen := Nat.le_of_ble_eq_true rfl) (hst := rfl) (hL0 := rfl)  ?_
  refine xr_aload_n (pc := 0) (i := 0) (hI := d_M_isKnown_0) (hi := rfl) (hl := rfl) ?_
  refine xr_iload_n (pc := 1) (i := 1) (hI := d_M_isKnown_1) (hi := rfl) (hl := rfl) ?_
  refine xr_if_eq (pc := 2) (tgt := 9) (hI := d_M_isKnown_2) (ht := by decide) (fun q9 => ?_) (fun q9 => ?_)
  · replace hyp := hyp.1 q9
    have q2_ := q9
    clear q9
    refine xr_iconst (pc := 9) (hI := d_M_isKnown_9) (hr := by decide) ?_
    refine xr_putf (pc := 10) (ci := 11) (k := 0) (N := 38) (v9 := 0) (T := xF11) (tF := xT11) (hI := d_M_isKnown_10) (hw := w_1587) rfl xi11 xt11 xn11 (Or.inl rfl) (Nat.le_of_ble_eq_true rfl) (Nat.le_of_ble_eq_true rfl) rfl xfit_i rfl (ft_53 F) (by decide) (fun z => z) ?_
    have F3_ : xFix (xst h 53 0 1) := F.stL xfk_53_0
    refine xr_iload_n (pc := 13) (i := 1) (hI := d_M_isKnown_13) (hi := rfl) (hl := rfl) ?_
    refine xr_ireturnT (S := []) (pc := 14) (hI := d_M_isKnown_14) (hr := rfl) (xnar_z ⟨(by clear hyp; omega), (by clear hyp; omega)⟩) ?_
    show xwp G m_M_keyFound (d + 6) 8 [xR 53, xI x1] [xI (xpl h 53 18)] _ _ _
    refine xr_if_ne (pc := 8) (tgt := 13) (hI := d_M_keyFound_8) (ht := by decide) (fun q9 => ?_) (fun q9 => ?_)
    · exact absurd q9 (by clear hyp; omega)
    · clear q9
      refine xr_iconst (pc := 11) (hI := d_M_keyFound_11) (hr := by decide) ?_
      refine xr_ireturn (S := []) (pc := 12) (hI := d_M_keyFound_12) (hr := rfl) ?_
      exact hyp F3_
  · replace hyp := hyp.2 q9
    have q2_ := q9
    clear q9
    refine xr_iconst (pc := 5) (hI := d_M_isKnown_5) (hr := by decide) ?_
    refine xr_goto (pc := 6) (tgt := 10) (hI := d_M_isKnown_6) (ht := by decide) ?_
    refine xr_putf (pc := 10) (ci := 11) (k := 0) (N := 38) (v9 := 0) (T := xF11) (tF := xT11) (hI := d_M_isKnown_10) (hw := w_1587) rfl xi11 xt11 xn11 (Or.inl rfl) (Nat.le_of_ble_eq_true rfl) (Nat.le_of_ble_eq_true rfl) rfl xfit_i rfl (ft_53 F) (by decide) (fun z => z) ?_
    have F4_ : xFix (xst h 53 0 0) := F.stL xfk_53_0
    refine xr_iload_n (pc := 13) (i := 1) (hI := d_M_isKnown_13) (hi := rfl) (hl := rfl) ?_
    refine xr_ireturnT (S := []) (pc := 14) (hI := d_M_isKnown_14) (hr := rfl) (xnar_z ⟨(by clear hyp; omega), (by clear hyp; omega)⟩) ?_
    show xwp G m_M_keyFound (d + 6) 8 [xR 53, xI x1] [xI (xpl h 53 18)] _ _ _
    refine xr_if_ne (pc := 8) (tgt := 13) (hI := d_M_keyFound_8) (ht := by decide) (fun q9 => ?_) (fun q9 => ?_)
    · clear q9
      refine xr_iload_n (pc := 13) (i := 1) (hI := d_M_keyFound_13) (hi := rfl) (hl := rfl) ?_
      refine xr_iconst (pc := 14) (hI := d_M_keyFound_14) (hr := by decide) ?_
      refine xr_aload_n (pc := 15) (i := 0) (hI := d_M_keyFound_15) (hi := rfl) (hl := rfl) ?_
      exact xq_callV (pc := 16) (index := 454) (K := m_M_answer) (As := []) (S := [xI 0, xI x1]) (L0 := [xR 53, xZ, xZ, xZ, xZ]) (hI := d_M_keyFound_16) (hK := k_M_answer) (hlk := w_2368) (hnoM := rfl) (hS8 := Nat.le_of_ble_eq_true rfl) (ci := 11) (N := 38) (C := "BeaconIndexModel") (T := xF11) (hc := rfl) (hci := Nat.le_of_ble_eq_true rfl) (htb := (ft_53 F4_)) (hinst := w_2370) (hsel := sel_M_answer) (hlen := Nat.le_of_ble_eq_true rfl) (hst := rfl) (hL0 := rfl)  (hyp F4_)
    · exact absurd q9 (by clear hyp; omega)
theorem d_M_keyFound_19 : decode prog_14_method_104_code 19 = .ok (.iconst 1, 1) := by decide +kernel
theorem d_M_keyFound_20 : decode prog_14_method_104_code 20 = .ok (.isub, 1) := by decide +kernel
theorem d_M_keyFound_21 : decode prog_14_method_104_code 21 = .ok (.invokestatic 101, 3) := by decide +kernel
theorem d_M_keyFound_24 : decode prog_14_method_104_code 24 = .ok (.ifCond .eq 22, 3) := by decide +kernel
theorem d_M_keyFound_46 : decode prog_14_method_104_code 46 = .ok (.aload_n 0, 1) := by decide +kernel
theorem d_M_keyFound_47 : decode prog_14_method_104_code 47 = .ok (.iconst 2, 1) := by decide +kernel
theorem d_M_keyFound_48 : decode prog_14_method_104_code 48 = .ok (.invokevirtual 395, 3) := by decide +kernel
theorem d_M_keyFound_51 : decode prog_14_method_104_code 51 = .ok (.ireturn, 1) := by decide +kernel
theorem d_M_keyFound_27 : decode prog_14_method_104_code 27 = .ok (.aload_n 0, 1) := by decide +kernel
theorem d_M_keyFound_28 : decode prog_14_method_104_code 28 = .ok (.getfield 19, 3) := by decide +kernel
theorem d_M_keyFound_31 : decode prog_14_method_104_code 31 = .ok (.aload_n 0, 1) := by decide +kernel
theorem d_M_keyFound_32 : decode prog_14_method_104_code 32 = .ok (.getfield 13, 3) := by decide +kernel
theorem d_M_keyFound_35 : decode prog_14_method_104_code 35 = .ok (.aload_n 0, 1) := by decide +kernel
theorem d_M_keyFound_36 : decode prog_14_method_104_code 36 = .ok (.getfield 91, 3) := by decide +kernel
theorem d_M_keyFound_39 : decode prog_14_method_104_code 39 = .ok (.iload_n 1, 1) := by decide +kernel
theorem d_M_keyFound_40 : decode prog_14_method_104_code 40 = .ok (.iaload, 1) := by decide +kernel
theorem d_M_keyFound_41 : decode prog_14_method_104_code 41 = .ok (.iaload, 1) := by decide +kernel
theorem d_M_keyFound_42 : decode prog_14_method_104_code 42 = .ok (.iaload, 1) := by decide +kernel
theorem d_M_keyFound_43 : decode prog_14_method_104_code 43 = .ok (.goto 8, 3) := by decide +kernel
theorem v_M_keyFound_19 {G : XG} {d : Nat} {h : XH} {Q : XV → XH → Prop} {X : Nat → XH → Prop} {x1 s0 s1 s2 : Int} (F : xFix h) (hyp : xiR (s0 - 1) ∧ ((s2 < s1 → (xFix (xst h 53 0 2) → Q (xI 0) (xst h 53 0 2))) ∧ (¬ s2 < s1 → (((s0 - 1) < s2 → (xFix (xst h 53 0 2) → Q (xI 0) (xst h 53 0 2))) ∧ (¬ (s0 - 1) < s2 → 0 ≤ x1 ∧ x1 < 60 ∧ 0 ≤ (xpl h 89 x1) ∧ (xpl h 89 x1) < 60 ∧ 0 ≤ (xpl h 55 (xpl h 89 x1)) ∧ (xpl h 55 (xpl h 89 x1)) < 60 ∧ (Q (xI (xpl h 57 (xpl h 55 (xpl h 89 x1)))) h)))))) : xwp G m_M_keyFound (d + 6) 19 [xR 53, xI x1] [xI s0, xI s1, xI s2] h Q X := by
  have hnx9 : (93 : Int) ≤ xnx h := F.2.2
  refine xr_okL (fun hl9 => ?_)
  have r_x1 : -2147483648 ≤ x1 ∧ x1 ≤ 2147483647 := hl9 (xI x1) (.tail _ (.head _)) (Nat.le_of_ble_eq_true rfl)
  refine xr_okS (fun hs9 => ?_)
  have r_s0 : -2147483648 ≤ s0 ∧ s0 ≤ 2147483647 := hs9 (xI s0) (.head _)
  have r_s1 : -2147483648 ≤ s1 ∧ s1 ≤ 2147483647 := hs9 (xI s1) (.tail _ (.head _))
  have r_s2 : -2147483648 ≤ s2 ∧ s2 ≤ 2147483647 := hs9 (xI s2) (.tail _ (.tail _ (.head _)))
  refine xr_iconst (pc := 19) (hI := d_M_keyFound_19) (hr := by decide) ?_
  obtain ⟨c9, hyp⟩ := hyp
  refine xr_isub (pc := 20) (hI := d_M_keyFound_20) (hr := c9) ?_
  refine xq_callS (pc := 21) (index := 101) (K := m_M_isBetween) (As := [xI s2, xI s1, xI (s0 - 1)]) (S := []) (L0 := [xI s2, xI s1, xI (s0 - 1)]) (hI := d_M_keyFound_21) (hK := k_M_isBetween) (hlk := w_1718) (hnoM := rfl) (hS8 := Nat.le_of_ble_eq_true rfl) (hstat := w_1719) (hlen := Nat.le_of_ble_eq_true rfl) (hst := rfl) (hL0 := rfl)  ?_
  refine xr_iload_n (pc := 0) (i := 0) (hI := d_M_isBetween_0) (hi := rfl) (hl := rfl) ?_
  refine xr_iload_n (pc := 1) (i := 1) (hI := d_M_isBetween_1) (hi := rfl) (hl := rfl) ?_
  refine xr_icmp_lt (pc := 2) (tgt := 14) (hI := d_M_isBetween_2) (ht := by decide) (fun q9 => ?_) (fun q9 => ?_)
  · replace hyp := hyp.1 q9
    have q1_ := q9
    clear q9
    refine xr_iconst (pc := 14) (hI := d_M_isBetween_14) (hr := by decide) ?_
    refine xr_ireturnT (S := []) (pc := 15) (hI := d_M_isBetween_15) (hr := rfl) (xnar_z (by decide)) ?_
    show xwp G m_M_keyFound (d + 6) 24 [xR 53, xI x1] [xI 0] _ _ _
    refine xr_if_eq (pc := 24) (tgt := 46) (hI := d_M_keyFound_24) (ht := by decide) (fun q9 => ?_) (fun q9 => ?_)
    · clear q9
      refine xr_aload_n (pc := 46) (i := 0) (hI := d_M_keyFound_46) (hi := rfl) (hl := rfl) ?_
      refine xr_iconst (pc := 47) (hI := d_M_keyFound_47) (hr := by decide) ?_
      refine xq_callV (pc := 48) (index := 395) (K := m_M_no) (As := [xI 2]) (S := []) (L0 := [xR 53, xI 2]) (hI := d_M_keyFound_48) (hK := k_M_no) (hlk := w_1710) (hnoM := rfl) (hS8 := Nat.le_of_ble_eq_true rfl) (ci := 11) (N := 38) (C := "BeaconIndexModel") (T := xF11) (hc := rfl) (hci := Nat.le_of_ble_eq_true rfl) (htb := (ft_53 F)) (hinst := w_1712) (hsel := sel_M_no) (hlen := Nat.le_of_ble_eq_true rfl) (hst := rfl) (hL0 := rfl)  ?_
      refine xr_aload_n (pc := 0) (i := 0) (hI := d_M_no_0) (hi := rfl) (hl := rfl) ?_
      refine xr_iload_n (pc := 1) (i := 1) (hI := d_M_no_1) (hi := rfl) (hl := rfl) ?_
      refine xr_putf (pc := 2) (ci := 11) (k := 0) (N := 38) (v9 := 0) (T := xF11) (tF := xT11) (hI := d_M_no_2) (hw := w_1587) rfl xi11 xt11 xn11 (Or.inl rfl) (Nat.le_of_ble_eq_true rfl) (Nat.le_of_ble_eq_true rfl) rfl xfit_i rfl (ft_53 F) (by decide) (fun z => z) ?_
      have F2_ : xFix (xst h 53 0 2) := F.stL xfk_53_0
      refine xr_iconst (pc := 5) (hI := d_M_no_5) (hr := by decide) ?_
      refine xr_ireturn (S := []) (pc := 6) (hI := d_M_no_6) (hr := rfl) ?_
      show xwp G m_M_keyFound (d + 6) 51 [xR 53, xI x1] [xI 0] _ _ _
      refine xr_ireturn (S := []) (pc := 51) (hI := d_M_keyFound_51) (hr := rfl) ?_
      exact hyp F2_
    · exact absurd q9 (by decide)
  · replace hyp := hyp.2 q9
    have q1_ := q9
    clear q9
    refine xr_iload_n (pc := 5) (i := 0) (hI := d_M_isBetween_5) (hi := rfl) (hl := rfl) ?_
    refine xr_iload_n (pc := 6) (i := 2) (hI := d_M_isBetween_6) (hi := rfl) (hl := rfl) ?_
    refine xr_icmp_gt (pc := 7) (tgt := 14) (hI := d_M_isBetween_7) (ht := by decide) (fun q9 => ?_) (fun q9 => ?_)
    · replace hyp := hyp.1 q9
      have q3_ := q9
      clear q9
      refine xr_iconst (pc := 14) (hI := d_M_isBetween_14) (hr := by decide) ?_
      refine xr_ireturnT (S := []) (pc := 15) (hI := d_M_isBetween_15) (hr := rfl) (xnar_z (by decide)) ?_
      show xwp G m_M_keyFound (d + 6) 24 [xR 53, xI x1] [xI 0] _ _ _
      refine xr_if_eq (pc := 24) (tgt := 46) (hI := d_M_keyFound_24) (ht := by decide) (fun q9 => ?_) (fun q9 => ?_)
      · clear q9
        refine xr_aload_n (pc := 46) (i := 0) (hI := d_M_keyFound_46) (hi := rfl) (hl := rfl) ?_
        refine xr_iconst (pc := 47) (hI := d_M_keyFound_47) (hr := by decide) ?_
        refine xq_callV (pc := 48) (index := 395) (K := m_M_no) (As := [xI 2]) (S := []) (L0 := [xR 53, xI 2]) (hI := d_M_keyFound_48) (hK := k_M_no) (hlk := w_1710) (hnoM := rfl) (hS8 := Nat.le_of_ble_eq_true rfl) (ci := 11) (N := 38) (C := "BeaconIndexModel") (T := xF11) (hc := rfl) (hci := Nat.le_of_ble_eq_true rfl) (htb := (ft_53 F)) (hinst := w_1712) (hsel := sel_M_no) (hlen := Nat.le_of_ble_eq_true rfl) (hst := rfl) (hL0 := rfl)  ?_
        refine xr_aload_n (pc := 0) (i := 0) (hI := d_M_no_0) (hi := rfl) (hl := rfl) ?_
        refine xr_iload_n (pc := 1) (i := 1) (hI := d_M_no_1) (hi := rfl) (hl := rfl) ?_
        refine xr_putf (pc := 2) (ci := 11) (k := 0) (N := 38) (v9 := 0) (T := xF11) (tF := xT11) (hI := d_M_no_2) (hw := w_1587) rfl xi11 xt11 xn11 (Or.inl rfl) (Nat.le_of_ble_eq_true rfl) (Nat.le_of_ble_eq_true rfl) rfl xfit_i rfl (ft_53 F) (by decide) (fun z => z) ?_
        have F4_ : xFix (xst h 53 0 2) := F.stL xfk_53_0
        refine xr_iconst (pc := 5) (hI := d_M_no_5) (hr := by decide) ?_
        refine xr_ireturn (S := []) (pc := 6) (hI := d_M_no_6) (hr := rfl) ?_
        show xwp G m_M_keyFound (d + 6) 51 [xR 53, xI x1] [xI 0] _ _ _
        refine xr_ireturn (S := []) (pc := 51) (hI := d_M_keyFound_51) (hr := rfl) ?_
        exact hyp F4_
      · exact absurd q9 (by decide)
    · replace hyp := hyp.2 q9
      have q3_ := q9
      clear q9
      refine xr_iconst (pc := 10) (hI := d_M_isBetween_10) (hr := by decide) ?_
      refine xr_goto (pc := 11) (tgt := 15) (hI := d_M_isBetween_11) (ht := by decide) ?_
      refine xr_ireturnT (S := []) (pc := 15) (hI := d_M_isBetween_15) (hr := rfl) (xnar_z (by decide)) ?_
      show xwp G m_M_keyFound (d + 6) 24 [xR 53, xI x1] [xI 1] _ _ _
      refine xr_if_eq (pc := 24) (tgt := 46) (hI := d_M_keyFound_24) (ht := by decide) (fun q9 => ?_) (fun q9 => ?_)
      · exact absurd q9 (by decide)
      · clear q9
        refine xr_aload_n (pc := 27) (i := 0) (hI := d_M_keyFound_27) (hi := rfl) (hl := rfl) ?_
        refine xg_getf (pc := 28) (ci := 11) (k := 8) (N := 38) (v9 := 2) (v := 57) (T := xF11) (hI := d_M_keyFound_28) (hw := w_1595) rfl xi11 (Or.inl rfl) (Nat.le_of_ble_eq_true rfl) (Nat.le_of_ble_eq_true rfl) rfl (ft_53 F) (fp_53_8 F) (fun f5_ => ?_)
        clear f5_
        refine xr_aload_n (pc := 31) (i := 0) (hI := d_M_keyFound_31) (hi := rfl) (hl := rfl) ?_
        refine xg_getf (pc := 32) (ci := 11) (k := 3) (N := 38) (v9 := 2) (v := 55) (T := xF11) (hI := d_M_keyFound_32) (hw := w_1590) rfl xi11 (Or.inl rfl) (Nat.le_of_ble_eq_true rfl) (Nat.le_of_ble_eq_true rfl) rfl (ft_53 F) (fp_53_3 F) (fun f6_ => ?_)
        clear f6_
        refine xr_aload_n (pc := 35) (i := 0) (hI := d_M_keyFound_35) (hi := rfl) (hl := rfl) ?_
        refine xg_getf (pc := 36) (ci := 11) (k := 36) (N := 38) (v9 := 2) (v := 89) (T := xF11) (hI := d_M_keyFound_36) (hw := w_1623) rfl xi11 (Or.inl rfl) (Nat.le_of_ble_eq_true rfl) (Nat.le_of_ble_eq_true rfl) rfl (ft_53 F) (fp_53_36 F) (fun f7_ => ?_)
        clear f7_
        refine xr_iload_n (pc := 39) (i := 1) (hI := d_M_keyFound_39) (hi := rfl) (hl := rfl) ?_
        obtain ⟨c8_, hyp⟩ := hyp
        obtain ⟨c9_, hyp⟩ := hyp
        refine xg_iaload (pc := 40) (v := (xpl h 89 x1)) (hI := d_M_keyFound_40) (ft_89 F) c8_ (xlt_of (fl_89 F) c9_) rfl (fun f10_ => ?_)
        replace f10_ : -2147483648 ≤ (xpl h 89 x1) ∧ (xpl h 89 x1) ≤ 2147483647 := f10_
        obtain ⟨c11_, hyp⟩ := hyp
        obtain ⟨c12_, hyp⟩ := hyp
        refine xg_iaload (pc := 41) (v := (xpl h 55 (xpl h 89 x1))) (hI := d_M_keyFound_41) (ft_55 F) c11_ (xlt_of (fl_55 F) c12_) rfl (fun f13_ => ?_)
        replace f13_ : -2147483648 ≤ (xpl h 55 (xpl h 89 x1)) ∧ (xpl h 55 (xpl h 89 x1)) ≤ 2147483647 := f13_
        obtain ⟨c14_, hyp⟩ := hyp
        obtain ⟨c15_, hyp⟩ := hyp
        refine xg_iaload (pc := 42) (v := (xpl h 57 (xpl h 55 (xpl h 89 x1)))) (hI := d_M_keyFound_42) (ft_57 F) c14_ (xlt_of (fl_57 F) c15_) rfl (fun f16_ => ?_)
        replace f16_ : -2147483648 ≤ (xpl h 57 (xpl h 55 (xpl h 89 x1))) ∧ (xpl h 57 (xpl h 55 (xpl h 89 x1))) ≤ 2147483647 := f16_
        refine xr_goto (pc := 43) (tgt := 51) (hI := d_M_keyFound_43) (ht := by decide) ?_
        refine xr_ireturn (S := []) (pc := 51) (hI := d_M_keyFound_51) (hr := rfl) ?_
        exact hyp
abbrev m_M_weightFound : XM := (⟨"BeaconIndexModel", "weightFound", "(I)I"⟩, prog_14_method_105_code, 2, (some .int), [])
theorem d_M_weightFound_0 : decode prog_14_method_105_code 0 = .ok (.aload_n 0, 1) := by decide +kernel
theorem d_M_weightFound_1 : decode prog_14_method_105_code 1 = .ok (.aload_n 0, 1) := by decide +kernel
theorem d_M_weightFound_2 : decode prog_14_method_105_code 2 = .ok (.getfield 448, 3) := by decide +kernel
theorem d_M_weightFound_5 : decode prog_14_method_105_code 5 = .ok (.invokevirtual 407, 3) := by decide +kernel
theorem d_M_weightFound_8 : decode prog_14_method_105_code 8 = .ok (.ifCond .ne 5, 3) := by decide +kernel
theorem d_M_weightFound_11 : decode prog_14_method_105_code 11 = .ok (.iconst 0, 1) := by decide +kernel
theorem d_M_weightFound_12 : decode prog_14_method_105_code 12 = .ok (.ireturn, 1) := by decide +kernel
theorem d_M_weightFound_13 : decode prog_14_method_105_code 13 = .ok (.iload_n 1, 1) := by decide +kernel
theorem d_M_weightFound_14 : decode prog_14_method_105_code 14 = .ok (.iconst 0, 1) := by decide +kernel
theorem d_M_weightFound_15 : decode prog_14_method_105_code 15 = .ok (.aload_n 0, 1) := by decide +kernel
theorem d_M_weightFound_16 : decode prog_14_method_105_code 16 = .ok (.invokevirtual 454, 3) := by decide +kernel
theorem v_M_weightFound_0 {G : XG} {d : Nat} {h : XH} {Q : XV → XH → Prop} {X : Nat → XH → Prop} {x1 : Int} (F : xFix h) (hyp : (((xpl h 53 18) = 0 → (xFix (xst h 53 0 1) → Q (xI 0) (xst h 53 0 1))) ∧ (¬ (xpl h 53 18) = 0 → (xFix (xst h 53 0 0) → xwp G m_M_answer (d + 5) 0 [xR 53, xZ, xZ, xZ, xZ] [] (xst h 53 0 0) (fun v9 h9 => xwp G m_M_weightFound (d + 6) 19 [xR 53, xI x1] (xpush v9 [xI 0, xI x1]) h9 Q X) X)))) : xwp G m_M_weightFound (d + 6) 0 [xR 53, xI x1] [] h Q X := by
  have hnx9 : (93 : Int) ≤ xnx h := F.2.2
  refine xr_okL (fun hl9 => ?_)
  have r_x1 : -2147483648 ≤ x1 ∧ x1 ≤ 2147483647 := hl9 (xI x1) (.tail _ (.head _)) (Nat.le_of_ble_eq_true rfl)
  refine xr_aload_n (pc := 0) (i := 0) (hI := d_M_weightFound_0) (hi := rfl) (hl := rfl) ?_
  refine xr_aload_n (pc := 1) (i := 0) (hI := d_M_weightFound_1) (hi := rfl) (hl := rfl) ?_
  refine xg_getfZ (pc := 2) (ci := 11) (k := 18) (N := 38) (v := (xpl h 53 18)) (T := xF11) (hI := d_M_weightFound_2) (hw := w_1605) rfl xi11 (Or.inl rfl) (Nat.le_of_ble_eq_true rfl) (Nat.le_of_ble_eq_true rfl) rfl (ft_53 F) rfl (fun f1_ => ?_)
  replace f1_ : 0 ≤ (xpl h 53 18) ∧ (xpl h 53 18) ≤ 1 := f1_
  refine xq_callV (pc := 5) (index := 407) (K := m_M_isKnown) (As := [xI (xpl h 53 18)]) (S := []) (L0 := [xR 53, xI (xpl h 53 18)]) (hI := d_M_weightFound_5) (hK := k_M_isKnown) (hlk := w_1810) (hnoM := rfl) (hS8 := Nat.le_of_ble_eq_true rfl) (ci := 11) (N := 38) (C := "BeaconIndexModel") (T := xF11) (hc := rfl) (hci := Nat.le_of_ble_eq_true rfl) (htb := (ft_53 F)) (hinst := w_1812) (hsel := sel_M_isKnown) (hlen := Nat.le_of_ble_eq_true rfl) (hst := rfl) (hL0 := rfl)  ?_
  refine xr_aload_n (pc := 0) (i := 0) (hI := d_M_isKnown_0) (hi := rfl) (hl := rfl) ?_
  refine xr_iload_n (pc := 1) (i := 1) (hI := d_M_isKnown_1) (hi := rfl) (hl := rfl) ?_
  refine xr_if_eq (pc := 2) (tgt := 9) (hI := d_M_isKnown_2) (ht := by decide) (fun q9 => ?_) (fun q9 => ?_)
  · replace hyp := hyp.1 q9
    have q2_ := q9
    clear q9
    refine xr_iconst (pc := 9) (hI := d_M_isKnown_9) (hr := by decide) ?_
    refine xr_putf (pc := 10) (ci := 11) (k := 0) (N := 38) (v9 := 0) (T := xF11) (tF := xT11) (hI := d_M_isKnown_10) (hw := w_1587) rfl xi11 xt11 xn11 (Or.inl rfl) (Nat.le_of_ble_eq_true rfl) (Nat.le_of_ble_eq_true rfl) rfl xfit_i rfl (ft_53 F) (by decide) (fun z => z) ?_
    have F3_ : xFix (xst h 53 0 1) := F.stL xfk_53_0
    refine xr_iload_n (pc := 13) (i := 1) (hI := d_M_isKnown_13) (hi := rfl) (hl := rfl) ?_
    refine xr_ireturnT (S := []) (pc := 14) (hI := d_M_isKnown_14) (hr := rfl) (xnar_z ⟨(by clear hyp; omega), (by clear hyp; omega)⟩) ?_
    show xwp G m_M_weightFound (d + 6) 8 [xR 53, xI x1] [xI (xpl h 53 18)] _ _ _
    refine xr_if_ne (pc := 8) (tgt := 13) (hI := d_M_weightFound_8) (ht := by decide) (fun q9 => ?_) (fun q9 => ?_)
    · exact absurd q9 (by clear hyp; omega)
    · clear q9
      refine xr_iconst (pc := 11) (hI := d_M_weightFound_11) (hr := by decide) ?_
      refine xr_ireturn (S := []) (pc := 12) (hI := d_M_weightFound_12) (hr := rfl) ?_
      exact hyp F3_
  · replace hyp := hyp.2 q9
    have q2_ := q9
    clear q9
    refine xr_iconst (pc := 5) (hI := d_M_isKnown_5) (hr := by decide) ?_
    refine xr_goto (pc := 6) (tgt := 10) (hI := d_M_isKnown_6) (ht := by decide) ?_
    refine xr_putf (pc := 10) (ci := 11) (k := 0) (N := 38) (v9 := 0) (T := xF11) (tF := xT11) (hI := d_M_isKnown_10) (hw := w_1587) rfl xi11 xt11 xn11 (Or.inl rfl) (Nat.le_of_ble_eq_true rfl) (Nat.le_of_ble_eq_true rfl) rfl xfit_i rfl (ft_53 F) (by decide) (fun z => z) ?_
    have F4_ : xFix (xst h 53 0 0) := F.stL xfk_53_0
    refine xr_iload_n (pc := 13) (i := 1) (hI := d_M_isKnown_13) (hi := rfl) (hl := rfl) ?_
    refine xr_ireturnT (S := []) (pc := 14) (hI := d_M_isKnown_14) (hr := rfl) (xnar_z ⟨(by clear hyp; omega), (by clear hyp; omega)⟩) ?_
    show xwp G m_M_weightFound (d + 6) 8 [xR 53, xI x1] [xI (xpl h 53 18)] _ _ _
    refine xr_if_ne (pc := 8) (tgt := 13) (hI := d_M_weightFound_8) (ht := by decide) (fun q9 => ?_) (fun q9 => ?_)
    · clear q9
      refine xr_iload_n (pc := 13) (i := 1) (hI := d_M_weightFound_13) (hi := rfl) (hl := rfl) ?_
      refine xr_iconst (pc := 14) (hI := d_M_weightFound_14) (hr := by decide) ?_
      refine xr_aload_n (pc := 15) (i := 0) (hI := d_M_weightFound_15) (hi := rfl) (hl := rfl) ?_
      exact xq_callV (pc := 16) (index := 454) (K := m_M_answer) (As := []) (S := [xI 0, xI x1]) (L0 := [xR 53, xZ, xZ, xZ, xZ]) (hI := d_M_weightFound_16) (hK := k_M_answer) (hlk := w_2368) (hnoM := rfl) (hS8 := Nat.le_of_ble_eq_true rfl) (ci := 11) (N := 38) (C := "BeaconIndexModel") (T := xF11) (hc := rfl) (hci := Nat.le_of_ble_eq_true rfl) (htb := (ft_53 F4_)) (hinst := w_2370) (hsel := sel_M_answer) (hlen := Nat.le_of_ble_eq_true rfl) (hst := rfl) (hL0 := rfl)  (hyp F4_)
    · exact absurd q9 (by clear hyp; omega)
theorem d_M_weightFound_19 : decode prog_14_method_105_code 19 = .ok (.iconst 1, 1) := by decide +kernel
theorem d_M_weightFound_20 : decode prog_14_method_105_code 20 = .ok (.isub, 1) := by decide +kernel
theorem d_M_weightFound_21 : decode prog_14_method_105_code 21 = .ok (.invokestatic 101, 3) := by decide +kernel
theorem d_M_weightFound_24 : decode prog_14_method_105_code 24 = .ok (.ifCond .eq 12, 3) := by decide +kernel
theorem d_M_weightFound_36 : decode prog_14_method_105_code 36 = .ok (.aload_n 0, 1) := by decide +kernel
theorem d_M_weightFound_37 : decode prog_14_method_105_code 37 = .ok (.iconst 2, 1) := by decide +kernel
theorem d_M_weightFound_38 : decode prog_14_method_105_code 38 = .ok (.invokevirtual 395, 3) := by decide +kernel
theorem d_M_weightFound_41 : decode prog_14_method_105_code 41 = .ok (.ireturn, 1) := by decide +kernel
theorem d_M_weightFound_27 : decode prog_14_method_105_code 27 = .ok (.aload_n 0, 1) := by decide +kernel
theorem d_M_weightFound_28 : decode prog_14_method_105_code 28 = .ok (.getfield 94, 3) := by decide +kernel
theorem d_M_weightFound_31 : decode prog_14_method_105_code 31 = .ok (.iload_n 1, 1) := by decide +kernel
theorem d_M_weightFound_32 : decode prog_14_method_105_code 32 = .ok (.iaload, 1) := by decide +kernel
theorem d_M_weightFound_33 : decode prog_14_method_105_code 33 = .ok (.goto 8, 3) := by decide +kernel
theorem v_M_weightFound_19 {G : XG} {d : Nat} {h : XH} {Q : XV → XH → Prop} {X : Nat → XH → Prop} {x1 s0 s1 s2 : Int} (F : xFix h) (hyp : xiR (s0 - 1) ∧ ((s2 < s1 → (xFix (xst h 53 0 2) → Q (xI 0) (xst h 53 0 2))) ∧ (¬ s2 < s1 → (((s0 - 1) < s2 → (xFix (xst h 53 0 2) → Q (xI 0) (xst h 53 0 2))) ∧ (¬ (s0 - 1) < s2 → 0 ≤ x1 ∧ x1 < 60 ∧ (Q (xI (xpl h 90 x1)) h)))))) : xwp G m_M_weightFound (d + 6) 19 [xR 53, xI x1] [xI s0, xI s1, xI s2] h Q X := by
  have hnx9 : (93 : Int) ≤ xnx h := F.2.2
  refine xr_okL (fun hl9 => ?_)
  have r_x1 : -2147483648 ≤ x1 ∧ x1 ≤ 2147483647 := hl9 (xI x1) (.tail _ (.head _)) (Nat.le_of_ble_eq_true rfl)
  refine xr_okS (fun hs9 => ?_)
  have r_s0 : -2147483648 ≤ s0 ∧ s0 ≤ 2147483647 := hs9 (xI s0) (.head _)
  have r_s1 : -2147483648 ≤ s1 ∧ s1 ≤ 2147483647 := hs9 (xI s1) (.tail _ (.head _))
  have r_s2 : -2147483648 ≤ s2 ∧ s2 ≤ 2147483647 := hs9 (xI s2) (.tail _ (.tail _ (.head _)))
  refine xr_iconst (pc := 19) (hI := d_M_weightFound_19) (hr := by decide) ?_
  obtain ⟨c9, hyp⟩ := hyp
  refine xr_isub (pc := 20) (hI := d_M_weightFound_20) (hr := c9) ?_
  refine xq_callS (pc := 21) (index := 101) (K := m_M_isBetween) (As := [xI s2, xI s1, xI (s0 - 1)]) (S := []) (L0 := [xI s2, xI s1, xI (s0 - 1)]) (hI := d_M_weightFound_21) (hK := k_M_isBetween) (hlk := w_1718) (hnoM := rfl) (hS8 := Nat.le_of_ble_eq_true rfl) (hstat := w_1719) (hlen := Nat.le_of_ble_eq_true rfl) (hst := rfl) (hL0 := rfl)  ?_
  refine xr_iload_n (pc := 0) (i := 0) (hI := d_M_isBetween_0) (hi := rfl) (hl := rfl) ?_
  refine xr_iload_n (pc := 1) (i := 1) (hI := d_M_isBetween_1) (hi := rfl) (hl := rfl) ?_
  refine xr_icmp_lt (pc := 2) (tgt := 14) (hI := d_M_isBetween_2) (ht := by decide) (fun q9 => ?_) (fun q9 => ?_)
  · replace hyp := hyp.1 q9
    have q1_ := q9
    clear q9
    refine xr_iconst (pc := 14) (hI := d_M_isBetween_14) (hr := by decide) ?_
    refine xr_ireturnT (S := []) (pc := 15) (hI := d_M_isBetween_15) (hr := rfl) (xnar_z (by decide)) ?_
    show xwp G m_M_weightFound (d + 6) 24 [xR 53, xI x1] [xI 0] _ _ _
    refine xr_if_eq (pc := 24) (tgt := 36) (hI := d_M_weightFound_24) (ht := by decide) (fun q9 => ?_) (fun q9 => ?_)
    · clear q9
      refine xr_aload_n (pc := 36) (i := 0) (hI := d_M_weightFound_36) (hi := rfl) (hl := rfl) ?_
      refine xr_iconst (pc := 37) (hI := d_M_weightFound_37) (hr := by decide) ?_
      refine xq_callV (pc := 38) (index := 395) (K := m_M_no) (As := [xI 2]) (S := []) (L0 := [xR 53, xI 2]) (hI := d_M_weightFound_38) (hK := k_M_no) (hlk := w_1710) (hnoM := rfl) (hS8 := Nat.le_of_ble_eq_true rfl) (ci := 11) (N := 38) (C := "BeaconIndexModel") (T := xF11) (hc := rfl) (hci := Nat.le_of_ble_eq_true rfl) (htb := (ft_53 F)) (hinst := w_1712) (hsel := sel_M_no) (hlen := Nat.le_of_ble_eq_true rfl) (hst := rfl) (hL0 := rfl)  ?_
      refine xr_aload_n (pc := 0) (i := 0) (hI := d_M_no_0) (hi := rfl) (hl := rfl) ?_
      refine xr_iload_n (pc := 1) (i := 1) (hI := d_M_no_1) (hi := rfl) (hl := rfl) ?_
      refine xr_putf (pc := 2) (ci := 11) (k := 0) (N := 38) (v9 := 0) (T := xF11) (tF := xT11) (hI := d_M_no_2) (hw := w_1587) rfl xi11 xt11 xn11 (Or.inl rfl) (Nat.le_of_ble_eq_true rfl) (Nat.le_of_ble_eq_true rfl) rfl xfit_i rfl (ft_53 F) (by decide) (fun z => z) ?_
      have F2_ : xFix (xst h 53 0 2) := F.stL xfk_53_0
      refine xr_iconst (pc := 5) (hI := d_M_no_5) (hr := by decide) ?_
      refine xr_ireturn (S := []) (pc := 6) (hI := d_M_no_6) (hr := rfl) ?_
      show xwp G m_M_weightFound (d + 6) 41 [xR 53, xI x1] [xI 0] _ _ _
      refine xr_ireturn (S := []) (pc := 41) (hI := d_M_weightFound_41) (hr := rfl) ?_
      exact hyp F2_
    · exact absurd q9 (by decide)
  · replace hyp := hyp.2 q9
    have q1_ := q9
    clear q9
    refine xr_iload_n (pc := 5) (i := 0) (hI := d_M_isBetween_5) (hi := rfl) (hl := rfl) ?_
    refine xr_iload_n (pc := 6) (i := 2) (hI := d_M_isBetween_6) (hi := rfl) (hl := rfl) ?_
    refine xr_icmp_gt (pc := 7) (tgt := 14) (hI := d_M_isBetween_7) (ht := by decide) (fun q9 => ?_) (fun q9 => ?_)
    · replace hyp := hyp.1 q9
      have q3_ := q9
      clear q9
      refine xr_iconst (pc := 14) (hI := d_M_isBetween_14) (hr := by decide) ?_
      refine xr_ireturnT (S := []) (pc := 15) (hI := d_M_isBetween_15) (hr := rfl) (xnar_z (by decide)) ?_
      show xwp G m_M_weightFound (d + 6) 24 [xR 53, xI x1] [xI 0] _ _ _
      refine xr_if_eq (pc := 24) (tgt := 36) (hI := d_M_weightFound_24) (ht := by decide) (fun q9 => ?_) (fun q9 => ?_)
      · clear q9
        refine xr_aload_n (pc := 36) (i := 0) (hI := d_M_weightFound_36) (hi := rfl) (hl := rfl) ?_
        refine xr_iconst (pc := 37) (hI := d_M_weightFound_37) (hr := by decide) ?_
        refine xq_callV (pc := 38) (index := 395) (K := m_M_no) (As := [xI 2]) (S := []) (L0 := [xR 53, xI 2]) (hI := d_M_weightFound_38) (hK := k_M_no) (hlk := w_1710) (hnoM := rfl) (hS8 := Nat.le_of_ble_eq_true rfl) (ci := 11) (N := 38) (C := "BeaconIndexModel") (T := xF11) (hc := rfl) (hci := Nat.le_of_ble_eq_true rfl) (htb := (ft_53 F)) (hinst := w_1712) (hsel := sel_M_no) (hlen := Nat.le_of_ble_eq_true rfl) (hst := rfl) (hL0 := rfl)  ?_
        refine xr_aload_n (pc := 0) (i := 0) (hI := d_M_no_0) (hi := rfl) (hl := rfl) ?_
        refine xr_iload_n (pc := 1) (i := 1) (hI := d_M_no_1) (hi := rfl) (hl := rfl) ?_
        refine xr_putf (pc := 2) (ci := 11) (k := 0) (N := 38) (v9 := 0) (T := xF11) (tF := xT11) (hI := d_M_no_2) (hw := w_1587) rfl xi11 xt11 xn11 (Or.inl rfl) (Nat.le_of_ble_eq_true rfl) (Nat.le_of_ble_eq_true rfl) rfl xfit_i rfl (ft_53 F) (by decide) (fun z => z) ?_
        have F4_ : xFix (xst h 53 0 2) := F.stL xfk_53_0
        refine xr_iconst (pc := 5) (hI := d_M_no_5) (hr := by decide) ?_
        refine xr_ireturn (S := []) (pc := 6) (hI := d_M_no_6) (hr := rfl) ?_
        show xwp G m_M_weightFound (d + 6) 41 [xR 53, xI x1] [xI 0] _ _ _
        refine xr_ireturn (S := []) (pc := 41) (hI := d_M_weightFound_41) (hr := rfl) ?_
        exact hyp F4_
      · exact absurd q9 (by decide)
    · replace hyp := hyp.2 q9
      have q3_ := q9
      clear q9
      refine xr_iconst (pc := 10) (hI := d_M_isBetween_10) (hr := by decide) ?_
      refine xr_goto (pc := 11) (tgt := 15) (hI := d_M_isBetween_11) (ht := by decide) ?_
      refine xr_ireturnT (S := []) (pc := 15) (hI := d_M_isBetween_15) (hr := rfl) (xnar_z (by decide)) ?_
      show xwp G m_M_weightFound (d + 6) 24 [xR 53, xI x1] [xI 1] _ _ _
      refine xr_if_eq (pc := 24) (tgt := 36) (hI := d_M_weightFound_24) (ht := by decide) (fun q9 => ?_) (fun q9 => ?_)
      · exact absurd q9 (by decide)
      · clear q9
        refine xr_aload_n (pc := 27) (i := 0) (hI := d_M_weightFound_27) (hi := rfl) (hl := rfl) ?_
        refine xg_getf (pc := 28) (ci := 11) (k := 37) (N := 38) (v9 := 2) (v := 90) (T := xF11) (hI := d_M_weightFound_28) (hw := w_1624) rfl xi11 (Or.inl rfl) (Nat.le_of_ble_eq_true rfl) (Nat.le_of_ble_eq_true rfl) rfl (ft_53 F) (fp_53_37 F) (fun f5_ => ?_)
        clear f5_
        refine xr_iload_n (pc := 31) (i := 1) (hI := d_M_weightFound_31) (hi := rfl) (hl := rfl) ?_
        obtain ⟨c6_, hyp⟩ := hyp
        obtain ⟨c7_, hyp⟩ := hyp
        refine xg_iaload (pc := 32) (v := (xpl h 90 x1)) (hI := d_M_weightFound_32) (ft_90 F) c6_ (xlt_of (fl_90 F) c7_) rfl (fun f8_ => ?_)
        replace f8_ : -2147483648 ≤ (xpl h 90 x1) ∧ (xpl h 90 x1) ≤ 2147483647 := f8_
        refine xr_goto (pc := 33) (tgt := 41) (hI := d_M_weightFound_33) (ht := by decide) ?_
        refine xr_ireturn (S := []) (pc := 41) (hI := d_M_weightFound_41) (hr := rfl) ?_
        exact hyp
abbrev m_M_manyOn : XM := (⟨"BeaconIndexModel", "manyOn", "(II)I"⟩, prog_14_method_106_code, 5, (some .int), [])
theorem d_M_manyOn_0 : decode prog_14_method_106_code 0 = .ok (.iconst 0, 1) := by decide +kernel
theorem d_M_manyOn_1 : decode prog_14_method_106_code 1 = .ok (.istore_n 3, 1) := by decide +kernel
theorem d_M_manyOn_2 : decode prog_14_method_106_code 2 = .ok (.iconst 0, 1) := by decide +kernel
theorem d_M_manyOn_3 : decode prog_14_method_106_code 3 = .ok (.istore 4, 2) := by decide +kernel
theorem v_M_manyOn_0 {G : XG} {d : Nat} {h : XH} {Q : XV → XH → Prop} {X : Nat → XH → Prop} {x1 x2 : Int} (F : xFix h) (hyp : (xwp G m_M_manyOn (d + 1) 5 [xR 53, xI x1, xI x2, xI 0, xI 0] [] h Q X)) : xwp G m_M_manyOn (d + 1) 0 [xR 53, xI x1, xI x2, xZ, xZ] [] h Q X := by
  have hnx9 : (93 : Int) ≤ xnx h := F.2.2
  refine xr_okL (fun hl9 => ?_)
  have r_x1 : -2147483648 ≤ x1 ∧ x1 ≤ 2147483647 := hl9 (xI x1) (.tail _ (.head _)) (Nat.le_of_ble_eq_true rfl)
  have r_x2 : -2147483648 ≤ x2 ∧ x2 ≤ 2147483647 := hl9 (xI x2) (.tail _ (.tail _ (.head _))) (Nat.le_of_ble_eq_true rfl)
  refine xr_iconst (pc := 0) (hI := d_M_manyOn_0) (hr := by decide) ?_
  refine xr_istore_n (pc := 1) (i := 3) (L9 := [xR 53, xI x1, xI x2, xI 0, xZ]) (hI := d_M_manyOn_1) (hi := rfl) (hn := Nat.le_of_ble_eq_true rfl) (hL9 := rfl) ?_
  refine xr_iconst (pc := 2) (hI := d_M_manyOn_2) (hr := by decide) ?_
  refine xr_istore (pc := 3) (i := 4) (L9 := [xR 53, xI x1, xI x2, xI 0, xI 0]) (hI := d_M_manyOn_3) (hn := Nat.le_of_ble_eq_true rfl) (hL9 := rfl) ?_
  exact hyp
theorem d_M_manyOn_5 : decode prog_14_method_106_code 5 = .ok (.iload 4, 2) := by decide +kernel
theorem d_M_manyOn_7 : decode prog_14_method_106_code 7 = .ok (.iload_n 2, 1) := by decide +kernel
theorem d_M_manyOn_8 : decode prog_14_method_106_code 8 = .ok (.if_icmp .ge 38, 3) := by decide +kernel
theorem d_M_manyOn_46 : decode prog_14_method_106_code 46 = .ok (.iload_n 3, 1) := by decide +kernel
theorem d_M_manyOn_47 : decode prog_14_method_106_code 47 = .ok (.ireturn, 1) := by decide +kernel
theorem d_M_manyOn_11 : decode prog_14_method_106_code 11 = .ok (.iload_n 3, 1) := by decide +kernel
theorem d_M_manyOn_12 : decode prog_14_method_106_code 12 = .ok (.aload_n 0, 1) := by decide +kernel
theorem d_M_manyOn_13 : decode prog_14_method_106_code 13 = .ok (.getfield 22, 3) := by decide +kernel
theorem d_M_manyOn_16 : decode prog_14_method_106_code 16 = .ok (.aload_n 0, 1) := by decide +kernel
theorem d_M_manyOn_17 : decode prog_14_method_106_code 17 = .ok (.getfield 13, 3) := by decide +kernel
theorem d_M_manyOn_20 : decode prog_14_method_106_code 20 = .ok (.aload_n 0, 1) := by decide +kernel
theorem d_M_manyOn_21 : decode prog_14_method_106_code 21 = .ok (.getfield 91, 3) := by decide +kernel
theorem d_M_manyOn_24 : decode prog_14_method_106_code 24 = .ok (.iload 4, 2) := by decide +kernel
theorem d_M_manyOn_26 : decode prog_14_method_106_code 26 = .ok (.iaload, 1) := by decide +kernel
theorem d_M_manyOn_27 : decode prog_14_method_106_code 27 = .ok (.iaload, 1) := by decide +kernel
theorem d_M_manyOn_28 : decode prog_14_method_106_code 28 = .ok (.iaload, 1) := by decide +kernel
theorem d_M_manyOn_29 : decode prog_14_method_106_code 29 = .ok (.iload_n 1, 1) := by decide +kernel
theorem d_M_manyOn_30 : decode prog_14_method_106_code 30 = .ok (.if_icmp .ne 7, 3) := by decide +kernel
theorem d_M_manyOn_37 : decode prog_14_method_106_code 37 = .ok (.iconst 0, 1) := by decide +kernel
theorem d_M_manyOn_38 : decode prog_14_method_106_code 38 = .ok (.iadd, 1) := by decide +kernel
theorem d_M_manyOn_39 : decode prog_14_method_106_code 39 = .ok (.istore_n 3, 1) := by decide +kernel
theorem d_M_manyOn_40 : decode prog_14_method_106_code 40 = .ok (.iinc 4 1, 3) := by decide +kernel
theorem d_M_manyOn_43 : decode prog_14_method_106_code 43 = .ok (.goto (-38), 3) := by decide +kernel
theorem d_M_manyOn_33 : decode prog_14_method_106_code 33 = .ok (.iconst 1, 1) := by decide +kernel
theorem d_M_manyOn_34 : decode prog_14_method_106_code 34 = .ok (.goto 4, 3) := by decide +kernel
theorem v_M_manyOn_5 {G : XG} {d : Nat} {h : XH} {Q : XV → XH → Prop} {X : Nat → XH → Prop} {x1 x2 x3 x4 : Int} (F : xFix h) (hyp : ((x2 ≤ x4 → (Q (xI x3) h)) ∧ (¬ x2 ≤ x4 → 0 ≤ x4 ∧ x4 < 60 ∧ 0 ≤ (xpl h 89 x4) ∧ (xpl h 89 x4) < 60 ∧ 0 ≤ (xpl h 55 (xpl h 89 x4)) ∧ (xpl h 55 (xpl h 89 x4)) < 60 ∧ (((xpl h 58 (xpl h 55 (xpl h 89 x4))) = x1 → xiR (x3 + 1) ∧ (xwp G m_M_manyOn (d + 1) 5 [xR 53, xI x1, xI x2, xI (x3 + 1), xI (x4 + 1)] [] h Q X)) ∧ (¬ (xpl h 58 (xpl h 55 (xpl h 89 x4))) = x1 → (xwp G m_M_manyOn (d + 1) 5 [xR 53, xI x1, xI x2, xI (x3 + 0), xI (x4 + 1)] [] h Q X)))))) : xwp G m_M_manyOn (d + 1) 5 [xR 53, xI x1, xI x2, xI x3, xI x4] [] h Q X := by
  have hnx9 : (93 : Int) ≤ xnx h := F.2.2
  refine xr_okL (fun hl9 => ?_)
  have r_x1 : -2147483648 ≤ x1 ∧ x1 ≤ 2147483647 := hl9 (xI x1) (.tail _ (.head _)) (Nat.le_of_ble_eq_true rfl)
  have r_x2 : -2147483648 ≤ x2 ∧ x2 ≤ 2147483647 := hl9 (xI x2) (.tail _ (.tail _ (.head _))) (Nat.le_of_ble_eq_true rfl)
  have r_x3 : -2147483648 ≤ x3 ∧ x3 ≤ 2147483647 := hl9 (xI x3) (.tail _ (.tail _ (.tail _ (.head _)))) (Nat.le_of_ble_eq_true rfl)
  have r_x4 : -2147483648 ≤ x4 ∧ x4 ≤ 2147483647 := hl9 (xI x4) (.tail _ (.tail _ (.tail _ (.tail _ (.head _))))) (Nat.le_of_ble_eq_true rfl)
  refine xr_iload (pc := 5) (i := 4) (hI := d_M_manyOn_5) (hl := rfl) ?_
  refine xr_iload_n (pc := 7) (i := 2) (hI := d_M_manyOn_7) (hi := rfl) (hl := rfl) ?_
  refine xr_icmp_ge (pc := 8) (tgt := 46) (hI := d_M_manyOn_8) (ht := by decide) (fun q9 => ?_) (fun q9 => ?_)
  · replace hyp := hyp.1 q9
    have q1_ := q9
    clear q9
    refine xr_iload_n (pc := 46) (i := 3) (hI := d_M_manyOn_46) (hi := rfl) (hl := rfl) ?_
    refine xr_ireturn (S := []) (pc := 47) (hI := d_M_manyOn_47) (hr := rfl) ?_
    exact hyp
  · replace hyp := hyp.2 q9
    have q1_ := q9
    clear q9
    refine xr_iload_n (pc := 11) (i := 3) (hI := d_M_manyOn_11) (hi := rfl) (hl := rfl) ?_
    refine xr_aload_n (pc := 12) (i := 0) (hI := d_M_manyOn_12) (hi := rfl) (hl := rfl) ?_
    refine xg_getf (pc := 13) (ci := 11) (k := 9) (N := 38) (v9 := 2) (v := 58) (T := xF11) (hI := d_M_manyOn_13) (hw := w_1596) rfl xi11 (Or.inl rfl) (Nat.le_of_ble_eq_true rfl) (Nat.le_of_ble_eq_true rfl) rfl (ft_53 F) (fp_53_9 F) (fun f2_ => ?_)
    clear f2_
    refine xr_aload_n (pc := 16) (i := 0) (hI := d_M_manyOn_16) (hi := rfl) (hl := rfl) ?_
    refine xg_getf (pc := 17) (ci := 11) (k := 3) (N := 38) (v9 := 2) (v := 55) (T := xF11) (hI := d_M_manyOn_17) (hw := w_1590) rfl xi11 (Or.inl rfl) (Nat.le_of_ble_eq_true rfl) (Nat.le_of_ble_eq_true rfl) rfl (ft_53 F) (fp_53_3 F) (fun f3_ => ?_)
    clear f3_
    refine xr_aload_n (pc := 20) (i := 0) (hI := d_M_manyOn_20) (hi := rfl) (hl := rfl) ?_
    refine xg_getf (pc := 21) (ci := 11) (k := 36) (N := 38) (v9 := 2) (v := 89) (T := xF11) (hI := d_M_manyOn_21) (hw := w_1623) rfl xi11 (Or.inl rfl) (Nat.le_of_ble_eq_true rfl) (Nat.le_of_ble_eq_true rfl) rfl (ft_53 F) (fp_53_36 F) (fun f4_ => ?_)
    clear f4_
    refine xr_iload (pc := 24) (i := 4) (hI := d_M_manyOn_24) (hl := rfl) ?_
    obtain ⟨c5_, hyp⟩ := hyp
    obtain ⟨c6_, hyp⟩ := hyp
    refine xg_iaload (pc := 26) (v := (xpl h 89 x4)) (hI := d_M_manyOn_26) (ft_89 F) c5_ (xlt_of (fl_89 F) c6_) rfl (fun f7_ => ?_)
    replace f7_ : -2147483648 ≤ (xpl h 89 x4) ∧ (xpl h 89 x4) ≤ 2147483647 := f7_
    obtain ⟨c8_, hyp⟩ := hyp
    obtain ⟨c9_, hyp⟩ := hyp
    refine xg_iaload (pc := 27) (v := (xpl h 55 (xpl h 89 x4))) (hI := d_M_manyOn_27) (ft_55 F) c8_ (xlt_of (fl_55 F) c9_) rfl (fun f10_ => ?_)
    replace f10_ : -2147483648 ≤ (xpl h 55 (xpl h 89 x4)) ∧ (xpl h 55 (xpl h 89 x4)) ≤ 2147483647 := f10_
    obtain ⟨c11_, hyp⟩ := hyp
    obtain ⟨c12_, hyp⟩ := hyp
    refine xg_iaload (pc := 28) (v := (xpl h 58 (xpl h 55 (xpl h 89 x4)))) (hI := d_M_manyOn_28) (ft_58 F) c11_ (xlt_of (fl_58 F) c12_) rfl (fun f13_ => ?_)
    replace f13_ : -2147483648 ≤ (xpl h 58 (xpl h 55 (xpl h 89 x4))) ∧ (xpl h 58 (xpl h 55 (xpl h 89 x4))) ≤ 2147483647 := f13_
    refine xr_iload_n (pc := 29) (i := 1) (hI := d_M_manyOn_29) (hi := rfl) (hl := rfl) ?_
    refine xr_icmp_ne (pc := 30) (tgt := 37) (hI := d_M_manyOn_30) (ht := by decide) (fun q9 => ?_) (fun q9 => ?_)
    · replace hyp := hyp.2 q9
      have q14_ := q9
      clear q9
      refine xr_iconst (pc := 37) (hI := d_M_manyOn_37) (hr := by decide) ?_
      refine xr_iadd (pc := 38) (hI := d_M_manyOn_38) (hr := ⟨by clear hyp; omega, by clear hyp; omega⟩) ?_
      refine xr_istore_n (pc := 39) (i := 3) (L9 := [xR 53, xI x1, xI x2, xI (x3 + 0), xI x4]) (hI := d_M_manyOn_39) (hi := rfl) (hn := Nat.le_of_ble_eq_true rfl) (hL9 := rfl) ?_
      refine xr_iinc (pc := 40) (i := 4) (L9 := [xR 53, xI x1, xI x2, xI (x3 + 0), xI (x4 + 1)]) (hI := d_M_manyOn_40) (hl := rfl) (hn := Nat.le_of_ble_eq_true rfl) (hr := ⟨by clear hyp; omega, by clear hyp; omega⟩) (hL9 := rfl) ?_
      refine xr_goto (pc := 43) (tgt := 5) (hI := d_M_manyOn_43) (ht := by decide) ?_
      exact hyp
    · replace hyp := hyp.1 q9
      have q14_ := q9
      clear q9
      refine xr_iconst (pc := 33) (hI := d_M_manyOn_33) (hr := by decide) ?_
      refine xr_goto (pc := 34) (tgt := 38) (hI := d_M_manyOn_34) (ht := by decide) ?_
      obtain ⟨c9, hyp⟩ := hyp
      refine xr_iadd (pc := 38) (hI := d_M_manyOn_38) (hr := c9) ?_
      refine xr_istore_n (pc := 39) (i := 3) (L9 := [xR 53, xI x1, xI x2, xI (x3 + 1), xI x4]) (hI := d_M_manyOn_39) (hi := rfl) (hn := Nat.le_of_ble_eq_true rfl) (hL9 := rfl) ?_
      refine xr_iinc (pc := 40) (i := 4) (L9 := [xR 53, xI x1, xI x2, xI (x3 + 1), xI (x4 + 1)]) (hI := d_M_manyOn_40) (hl := rfl) (hn := Nat.le_of_ble_eq_true rfl) (hr := ⟨by clear hyp; omega, by clear hyp; omega⟩) (hL9 := rfl) ?_
      refine xr_goto (pc := 43) (tgt := 5) (hI := d_M_manyOn_43) (ht := by decide) ?_
      exact hyp
abbrev m_M_foundOn : XM := (⟨"BeaconIndexModel", "foundOn", "(I)I"⟩, prog_14_method_107_code, 2, (some .int), [])
theorem d_M_foundOn_0 : decode prog_14_method_107_code 0 = .ok (.aload_n 0, 1) := by decide +kernel
theorem d_M_foundOn_1 : decode prog_14_method_107_code 1 = .ok (.aload_n 0, 1) := by decide +kernel
theorem d_M_foundOn_2 : decode prog_14_method_107_code 2 = .ok (.getfield 448, 3) := by decide +kernel
theorem d_M_foundOn_5 : decode prog_14_method_107_code 5 = .ok (.invokevirtual 407, 3) := by decide +kernel
theorem d_M_foundOn_8 : decode prog_14_method_107_code 8 = .ok (.ifCond .ne 5, 3) := by decide +kernel
theorem d_M_foundOn_11 : decode prog_14_method_107_code 11 = .ok (.iconst 0, 1) := by decide +kernel
theorem d_M_foundOn_12 : decode prog_14_method_107_code 12 = .ok (.ireturn, 1) := by decide +kernel
theorem d_M_foundOn_13 : decode prog_14_method_107_code 13 = .ok (.iload_n 1, 1) := by decide +kernel
theorem d_M_foundOn_14 : decode prog_14_method_107_code 14 = .ok (.iconst 0, 1) := by decide +kernel
theorem d_M_foundOn_15 : decode prog_14_method_107_code 15 = .ok (.bipush 7, 2) := by decide +kernel
theorem d_M_foundOn_17 : decode prog_14_method_107_code 17 = .ok (.invokestatic 101, 3) := by decide +kernel
theorem d_M_foundOn_20 : decode prog_14_method_107_code 20 = .ok (.ifCond .eq 15, 3) := by decide +kernel
theorem d_M_foundOn_35 : decode prog_14_method_107_code 35 = .ok (.aload_n 0, 1) := by decide +kernel
theorem d_M_foundOn_36 : decode prog_14_method_107_code 36 = .ok (.iconst 2, 1) := by decide +kernel
theorem d_M_foundOn_37 : decode prog_14_method_107_code 37 = .ok (.invokevirtual 395, 3) := by decide +kernel
theorem d_M_foundOn_40 : decode prog_14_method_107_code 40 = .ok (.ireturn, 1) := by decide +kernel
theorem d_M_foundOn_23 : decode prog_14_method_107_code 23 = .ok (.aload_n 0, 1) := by decide +kernel
theorem d_M_foundOn_24 : decode prog_14_method_107_code 24 = .ok (.iload_n 1, 1) := by decide +kernel
theorem d_M_foundOn_25 : decode prog_14_method_107_code 25 = .ok (.aload_n 0, 1) := by decide +kernel
theorem d_M_foundOn_26 : decode prog_14_method_107_code 26 = .ok (.invokevirtual 454, 3) := by decide +kernel
theorem v_M_foundOn_0 {G : XG} {d : Nat} {h : XH} {Q : XV → XH → Prop} {X : Nat → XH → Prop} {x1 : Int} (F : xFix h) (hyp : (((xpl h 53 18) = 0 → (xFix (xst h 53 0 1) → Q (xI 0) (xst h 53 0 1))) ∧ (¬ (xpl h 53 18) = 0 → ((x1 < 0 → (xFix (xst (xst h 53 0 0) 53 0 2) → Q (xI 0) (xst (xst h 53 0 0) 53 0 2))) ∧ (¬ x1 < 0 → (((7 : Int) < x1 → (xFix (xst (xst h 53 0 0) 53 0 2) → Q (xI 0) (xst (xst h 53 0 0) 53 0 2))) ∧ (¬ (7 : Int) < x1 → (xFix (xst h 53 0 0) → xwp G m_M_answer (d + 5) 0 [xR 53, xZ, xZ, xZ, xZ] [] (xst h 53 0 0) (fun v9 h9 => xwp G m_M_foundOn (d + 6) 29 [xZ, xZ] (xpush v9 [xI x1, xR 53]) h9 Q X) X)))))))) : xwp G m_M_foundOn (d + 6) 0 [xR 53, xI x1] [] h Q X := by
  have hnx9 : (93 : Int) ≤ xnx h := F.2.2
  refine xr_okL (fun hl9 => ?_)
  have r_x1 : -2147483648 ≤ x1 ∧ x1 ≤ 2147483647 := hl9 (xI x1) (.tail _ (.head _)) (Nat.le_of_ble_eq_true rfl)
  refine xr_aload_n (pc := 0) (i := 0) (hI := d_M_foundOn_0) (hi := rfl) (hl := rfl) ?_
  refine xr_aload_n (pc := 1) (i := 0) (hI := d_M_foundOn_1) (hi := rfl) (hl := rfl) ?_
  refine xg_getfZ (pc := 2) (ci := 11) (k := 18) (N := 38) (v := (xpl h 53 18)) (T := xF11) (hI := d_M_foundOn_2) (hw := w_1605) rfl xi11 (Or.inl rfl) (Nat.le_of_ble_eq_true rfl) (Nat.le_of_ble_eq_true rfl) rfl (ft_53 F) rfl (fun f1_ => ?_)
  replace f1_ : 0 ≤ (xpl h 53 18) ∧ (xpl h 53 18) ≤ 1 := f1_
  refine xq_callV (pc := 5) (index := 407) (K := m_M_isKnown) (As := [xI (xpl h 53 18)]) (S := []) (L0 := [xR 53, xI (xpl h 53 18)]) (hI := d_M_foundOn_5) (hK := k_M_isKnown) (hlk := w_1810) (hnoM := rfl) (hS8 := Nat.le_of_ble_eq_true rfl) (ci := 11) (N := 38) (C := "BeaconIndexModel") (T := xF11) (hc := rfl) (hci := Nat.le_of_ble_eq_true rfl) (htb := (ft_53 F)) (hinst := w_1812) (hsel := sel_M_isKnown) (hlen := Nat.le_of_ble_eq_true rfl) (hst := rfl) (hL0 := rfl)  ?_
  refine xr_aload_n (pc := 0) (i := 0) (hI := d_M_isKnown_0) (hi := rfl) (hl := rfl) ?_
  refine xr_iload_n (pc := 1) (i := 1) (hI := d_M_isKnown_1) (hi := rfl) (hl := rfl) ?_
  refine xr_if_eq (pc := 2) (tgt := 9) (hI := d_M_isKnown_2) (ht := by decide) (fun q9 => ?_) (fun q9 => ?_)
  · replace hyp := hyp.1 q9
    have q2_ := q9
    clear q9
    refine xr_iconst (pc := 9) (hI := d_M_isKnown_9) (hr := by decide) ?_
    refine xr_putf (pc := 10) (ci := 11) (k := 0) (N := 38) (v9 := 0) (T := xF11) (tF := xT11) (hI := d_M_isKnown_10) (hw := w_1587) rfl xi11 xt11 xn11 (Or.inl rfl) (Nat.le_of_ble_eq_true rfl) (Nat.le_of_ble_eq_true rfl) rfl xfit_i rfl (ft_53 F) (by decide) (fun z => z) ?_
    have F3_ : xFix (xst h 53 0 1) := F.stL xfk_53_0
    refine xr_iload_n (pc := 13) (i := 1) (hI := d_M_isKnown_13) (hi := rfl) (hl := rfl) ?_
    refine xr_ireturnT (S := []) (pc := 14) (hI := d_M_isKnown_14) (hr := rfl) (xnar_z ⟨(by clear hyp; omega), (by clear hyp; omega)⟩) ?_
    show xwp G m_M_foundOn (d + 6) 8 [xR 53, xI x1] [xI (xpl h 53 18)] _ _ _
    refine xr_if_ne (pc := 8) (tgt := 13) (hI := d_M_foundOn_8) (ht := by decide) (fun q9 => ?_) (fun q9 => ?_)
    · exact absurd q9 (by clear hyp; omega)
    · clear q9
      refine xr_iconst (pc := 11) (hI := d_M_foundOn_11) (hr := by decide) ?_
      refine xr_ireturn (S := []) (pc := 12) (hI := d_M_foundOn_12) (hr := rfl) ?_
      exact hyp F3_
  · replace hyp := hyp.2 q9
    have q2_ := q9
    clear q9
    refine xr_iconst (pc := 5) (hI := d_M_isKnown_5) (hr := by decide) ?_
    refine xr_goto (pc := 6) (tgt := 10) (hI := d_M_isKnown_6) (ht := by decide) ?_
    refine xr_putf (pc := 10) (ci := 11) (k := 0) (N := 38) (v9 := 0) (T := xF11) (tF := xT11) (hI := d_M_isKnown_10) (hw := w_1587) rfl xi11 xt11 xn11 (Or.inl rfl) (Nat.le_of_ble_eq_true rfl) (Nat.le_of_ble_eq_true rfl) rfl xfit_i rfl (ft_53 F) (by decide) (fun z => z) ?_
    have F4_ : xFix (xst h 53 0 0) := F.stL xfk_53_0
    refine xr_iload_n (pc := 13) (i := 1) (hI := d_M_isKnown_13) (hi := rfl) (hl := rfl) ?_
    refine xr_ireturnT (S := []) (pc := 14) (hI := d_M_isKnown_14) (hr := rfl) (xnar_z ⟨(by clear hyp; omega), (by clear hyp; omega)⟩) ?_
    show xwp G m_M_foundOn (d + 6) 8 [xR 53, xI x1] [xI (xpl h 53 18)] _ _ _
    refine xr_if_ne (pc := 8) (tgt := 13) (hI := d_M_foundOn_8) (ht := by decide) (fun q9 => ?_) (fun q9 => ?_)
    · clear q9
      refine xr_iload_n (pc := 13) (i := 1) (hI := d_M_foundOn_13) (hi := rfl) (hl := rfl) ?_
      refine xr_iconst (pc := 14) (hI := d_M_foundOn_14) (hr := by decide) ?_
      refine xr_bipush (pc := 15) (hI := d_M_foundOn_15) (hr := by decide) (hv := by decide) ?_
      refine xq_callS (pc := 17) (index := 101) (K := m_M_isBetween) (As := [xI x1, xI 0, xI 7]) (S := []) (L0 := [xI x1, xI 0, xI 7]) (hI := d_M_foundOn_17) (hK := k_M_isBetween) (hlk := w_1718) (hnoM := rfl) (hS8 := Nat.le_of_ble_eq_true rfl) (hstat := w_1719) (hlen := Nat.le_of_ble_eq_true rfl) (hst := rfl) (hL0 := rfl)  ?_
      refine xr_iload_n (pc := 0) (i := 0) (hI := d_M_isBetween_0) (hi := rfl) (hl := rfl) ?_
      refine xr_iload_n (pc := 1) (i := 1) (hI := d_M_isBetween_1) (hi := rfl) (hl := rfl) ?_
      refine xr_icmp_lt (pc := 2) (tgt := 14) (hI := d_M_isBetween_2) (ht := by decide) (fun q9 => ?_) (fun q9 => ?_)
      · replace hyp := hyp.1 q9
        have q5_ := q9
        clear q9
        refine xr_iconst (pc := 14) (hI := d_M_isBetween_14) (hr := by decide) ?_
        refine xr_ireturnT (S := []) (pc := 15) (hI := d_M_isBetween_15) (hr := rfl) (xnar_z (by decide)) ?_
        show xwp G m_M_foundOn (d + 6) 20 [xR 53, xI x1] [xI 0] _ _ _
        refine xr_if_eq (pc := 20) (tgt := 35) (hI := d_M_foundOn_20) (ht := by decide) (fun q9 => ?_) (fun q9 => ?_)
        · clear q9
          refine xr_aload_n (pc := 35) (i := 0) (hI := d_M_foundOn_35) (hi := rfl) (hl := rfl) ?_
          refine xr_iconst (pc := 36) (hI := d_M_foundOn_36) (hr := by decide) ?_
          refine xq_callV (pc := 37) (index := 395) (K := m_M_no) (As := [xI 2]) (S := []) (L0 := [xR 53, xI 2]) (hI := d_M_foundOn_37) (hK := k_M_no) (hlk := w_1710) (hnoM := rfl) (hS8 := Nat.le_of_ble_eq_true rfl) (ci := 11) (N := 38) (C := "BeaconIndexModel") (T := xF11) (hc := rfl) (hci := Nat.le_of_ble_eq_true rfl) (htb := (ft_53 F4_)) (hinst := w_1712) (hsel := sel_M_no) (hlen := Nat.le_of_ble_eq_true rfl) (hst := rfl) (hL0 := rfl)  ?_
          refine xr_aload_n (pc := 0) (i := 0) (hI := d_M_no_0) (hi := rfl) (hl := rfl) ?_
          refine xr_iload_n (pc := 1) (i := 1) (hI := d_M_no_1) (hi := rfl) (hl := rfl) ?_
          refine xr_putf (pc := 2) (ci := 11) (k := 0) (N := 38) (v9 := 0) (T := xF11) (tF := xT11) (hI := d_M_no_2) (hw := w_1587) rfl xi11 xt11 xn11 (Or.inl rfl) (Nat.le_of_ble_eq_true rfl) (Nat.le_of_ble_eq_true rfl) rfl xfit_i rfl (ft_53 F4_) (by decide) (fun z => z) ?_
          have F6_ : xFix (xst (xst h 53 0 0) 53 0 2) := F4_.stL xfk_53_0
          refine xr_iconst (pc := 5) (hI := d_M_no_5) (hr := by decide) ?_
          refine xr_ireturn (S := []) (pc := 6) (hI := d_M_no_6) (hr := rfl) ?_
          show xwp G m_M_foundOn (d + 6) 40 [xR 53, xI x1] [xI 0] _ _ _
          refine xr_ireturn (S := []) (pc := 40) (hI := d_M_foundOn_40) (hr := rfl) ?_
          exact hyp F6_
        · exact absurd q9 (by decide)
      · replace hyp := hyp.2 q9
        have q5_ := q9
        clear q9
        refine xr_iload_n (pc := 5) (i := 0) (hI := d_M_isBetween_5) (hi := rfl) (hl := rfl) ?_
        refine xr_iload_n (pc := 6) (i := 2) (hI := d_M_isBetween_6) (hi := rfl) (hl := rfl) ?_
        refine xr_icmp_gt (pc := 7) (tgt := 14) (hI := d_M_isBetween_7) (ht := by decide) (fun q9 => ?_) (fun q9 => ?_)
        · replace hyp := hyp.1 q9
          have q7_ := q9
          clear q9
          refine xr_iconst (pc := 14) (hI := d_M_isBetween_14) (hr := by decide) ?_
          refine xr_ireturnT (S := []) (pc := 15) (hI := d_M_isBetween_15) (hr := rfl) (xnar_z (by decide)) ?_
          show xwp G m_M_foundOn (d + 6) 20 [xR 53, xI x1] [xI 0] _ _ _
          refine xr_if_eq (pc := 20) (tgt := 35) (hI := d_M_foundOn_20) (ht := by decide) (fun q9 => ?_) (fun q9 => ?_)
          · clear q9
            refine xr_aload_n (pc := 35) (i := 0) (hI := d_M_foundOn_35) (hi := rfl) (hl := rfl) ?_
            refine xr_iconst (pc := 36) (hI := d_M_foundOn_36) (hr := by decide) ?_
            refine xq_callV (pc := 37) (index := 395) (K := m_M_no) (As := [xI 2]) (S := []) (L0 := [xR 53, xI 2]) (hI := d_M_foundOn_37) (hK := k_M_no) (hlk := w_1710) (hnoM := rfl) (hS8 := Nat.le_of_ble_eq_true rfl) (ci := 11) (N := 38) (C := "BeaconIndexModel") (T := xF11) (hc := rfl) (hci := Nat.le_of_ble_eq_true rfl) (htb := (ft_53 F4_)) (hinst := w_1712) (hsel := sel_M_no) (hlen := Nat.le_of_ble_eq_true rfl) (hst := rfl) (hL0 := rfl)  ?_
            refine xr_aload_n (pc := 0) (i := 0) (hI := d_M_no_0) (hi := rfl) (hl := rfl) ?_
            refine xr_iload_n (pc := 1) (i := 1) (hI := d_M_no_1) (hi := rfl) (hl := rfl) ?_
            refine xr_putf (pc := 2) (ci := 11) (k := 0) (N := 38) (v9 := 0) (T := xF11) (tF := xT11) (hI := d_M_no_2) (hw := w_1587) rfl xi11 xt11 xn11 (Or.inl rfl) (Nat.le_of_ble_eq_true rfl) (Nat.le_of_ble_eq_true rfl) rfl xfit_i rfl (ft_53 F4_) (by decide) (fun z => z) ?_
            have F8_ : xFix (xst (xst h 53 0 0) 53 0 2) := F4_.stL xfk_53_0
            refine xr_iconst (pc := 5) (hI := d_M_no_5) (hr := by decide) ?_
            refine xr_ireturn (S := []) (pc := 6) (hI := d_M_no_6) (hr := rfl) ?_
            show xwp G m_M_foundOn (d + 6) 40 [xR 53, xI x1] [xI 0] _ _ _
            refine xr_ireturn (S := []) (pc := 40) (hI := d_M_foundOn_40) (hr := rfl) ?_
            exact hyp F8_
          · exact absurd q9 (by decide)
        · replace hyp := hyp.2 q9
          have q7_ := q9
          clear q9
          refine xr_iconst (pc := 10) (hI := d_M_isBetween_10) (hr := by decide) ?_
          refine xr_goto (pc := 11) (tgt := 15) (hI := d_M_isBetween_11) (ht := by decide) ?_
          refine xr_ireturnT (S := []) (pc := 15) (hI := d_M_isBetween_15) (hr := rfl) (xnar_z (by decide)) ?_
          show xwp G m_M_foundOn (d + 6) 20 [xR 53, xI x1] [xI 1] _ _ _
          refine xr_if_eq (pc := 20) (tgt := 35) (hI := d_M_foundOn_20) (ht := by decide) (fun q9 => ?_) (fun q9 => ?_)
          · exact absurd q9 (by decide)
          · clear q9
            refine xr_aload_n (pc := 23) (i := 0) (hI := d_M_foundOn_23) (hi := rfl) (hl := rfl) ?_
            refine xr_iload_n (pc := 24) (i := 1) (hI := d_M_foundOn_24) (hi := rfl) (hl := rfl) ?_
            refine xr_aload_n (pc := 25) (i := 0) (hI := d_M_foundOn_25) (hi := rfl) (hl := rfl) ?_
            exact xq_callV (pc := 26) (index := 454) (K := m_M_answer) (As := []) (S := [xI x1, xR 53]) (L0 := [xR 53, xZ, xZ, xZ, xZ]) (hI := d_M_foundOn_26) (hK := k_M_answer) (hlk := w_2368) (hnoM := rfl) (hS8 := Nat.le_of_ble_eq_true rfl) (ci := 11) (N := 38) (C := "BeaconIndexModel") (T := xF11) (hc := rfl) (hci := Nat.le_of_ble_eq_true rfl) (htb := (ft_53 F4_)) (hinst := w_2370) (hsel := sel_M_answer) (hlen := Nat.le_of_ble_eq_true rfl) (hst := rfl) (hL0 := rfl)  (xwp_mono (hyp F4_) (fun v9 h9 q9 => xr_drop (L9 := [xZ, xZ]) (xdrz (xdrz xdr0)) q9) (fun _ _ z9 => z9))
    · exact absurd q9 (by clear hyp; omega)
theorem d_M_foundOn_29 : decode prog_14_method_107_code 29 = .ok (.invokevirtual 457, 3) := by decide +kernel
theorem k_M_manyOn : xCal m_M_manyOn 2 := ⟨List.mem_append_right _ (List.mem_of_getElem? (i := 2441) (by decide +kernel)), w_15, Nat.le_of_ble_eq_true rfl, ⟨by decide +kernel, by decide +kernel⟩, by decide +kernel, by decide +kernel, rfl⟩
theorem w_2438 : Cond.methodLink "BeaconIndexModel" 457 ⟨"BeaconIndexModel", "manyOn", "(II)I"⟩ ∈ lw_tbl := List.mem_append_right _ (List.mem_of_getElem? (i := 2438) (by decide +kernel))
theorem w_2440 : Cond.instanceMethod ⟨"BeaconIndexModel", "manyOn", "(II)I"⟩ ∈ lw_tbl := List.mem_append_right _ (List.mem_of_getElem? (i := 2440) (by decide +kernel))
theorem sel_M_manyOn : Cond.selects "BeaconIndexModel" ⟨"BeaconIndexModel", "manyOn", "(II)I"⟩ ⟨"BeaconIndexModel", "manyOn", "(II)I"⟩ ∈ lw_tbl := List.mem_append_left _ (by decide +kernel)
theorem v_M_foundOn_29 {G : XG} {d : Nat} {h : XH} {Q : XV → XH → Prop} {X : Nat → XH → Prop} {s0 s1 s2 : Int} (F : xFix h) (hyp : xtg h s2 = 11 ∧ (xwp G m_M_manyOn (d + 5) 0 [xR s2, xI s1, xI s0, xZ, xZ] [] h (fun v9 h9 => xwp G m_M_foundOn (d + 6) 32 [xZ, xZ] (xpush v9 []) h9 Q X) X)) : xwp G m_M_foundOn (d + 6) 29 [xZ, xZ] [xI s0, xI s1, xR s2] h Q X := by
  have hnx9 : (93 : Int) ≤ xnx h := F.2.2
  refine xr_okS (fun hs9 => ?_)
  have r_s0 : -2147483648 ≤ s0 ∧ s0 ≤ 2147483647 := hs9 (xI s0) (.head _)
  have r_s1 : -2147483648 ≤ s1 ∧ s1 ≤ 2147483647 := hs9 (xI s1) (.tail _ (.head _))
  obtain ⟨c9, hyp⟩ := hyp
  have t1_ := c9
  clear c9
  exact xq_callV (pc := 29) (index := 457) (K := m_M_manyOn) (As := [xI s1, xI s0]) (S := []) (L0 := [xR s2, xI s1, xI s0, xZ, xZ]) (hI := d_M_foundOn_29) (hK := k_M_manyOn) (hlk := w_2438) (hnoM := rfl) (hS8 := Nat.le_of_ble_eq_true rfl) (ci := 11) (N := 38) (C := "BeaconIndexModel") (T := xF11) (hc := rfl) (hci := Nat.le_of_ble_eq_true rfl) (htb := t1_) (hinst := w_2440) (hsel := sel_M_manyOn) (hlen := Nat.le_of_ble_eq_true rfl) (hst := rfl) (hL0 := rfl)  hyp
theorem d_M_foundOn_32 : decode prog_14_method_107_code 32 = .ok (.goto 8, 3) := by decide +kernel
theorem v_M_foundOn_32 {G : XG} {d : Nat} {h : XH} {Q : XV → XH → Prop} {X : Nat → XH → Prop} {s0 : Int} (F : xFix h) (hyp : (Q (xI s0) h)) : xwp G m_M_foundOn (d + 6) 32 [xZ, xZ] [xI s0] h Q X := by
  have hnx9 : (93 : Int) ≤ xnx h := F.2.2
  refine xr_okS (fun hs9 => ?_)
  have r_s0 : -2147483648 ≤ s0 ∧ s0 ≤ 2147483647 := hs9 (xI s0) (.head _)
  refine xr_goto (pc := 32) (tgt := 40) (hI := d_M_foundOn_32) (ht := by decide) ?_
  refine xr_ireturn (S := []) (pc := 40) (hI := d_M_foundOn_40) (hr := rfl) ?_
  exact hyp
abbrev m_M_placeOf : XM := (⟨"BeaconIndexModel", "placeOf", "(I)I"⟩, prog_14_method_108_code, 4, (some .int), [])
theorem d_M_placeOf_0 : decode prog_14_method_108_code 0 = .ok (.aload_n 0, 1) := by decide +kernel
theorem d_M_placeOf_1 : decode prog_14_method_108_code 1 = .ok (.aload_n 0, 1) := by decide +kernel
theorem d_M_placeOf_2 : decode prog_14_method_108_code 2 = .ok (.getfield 448, 3) := by decide +kernel
theorem d_M_placeOf_5 : decode prog_14_method_108_code 5 = .ok (.invokevirtual 407, 3) := by decide +kernel
theorem d_M_placeOf_8 : decode prog_14_method_108_code 8 = .ok (.ifCond .ne 5, 3) := by decide +kernel
theorem d_M_placeOf_11 : decode prog_14_method_108_code 11 = .ok (.iconst 0, 1) := by decide +kernel
theorem d_M_placeOf_12 : decode prog_14_method_108_code 12 = .ok (.ireturn, 1) := by decide +kernel
theorem d_M_placeOf_13 : decode prog_14_method_108_code 13 = .ok (.iload_n 1, 1) := by decide +kernel
theorem d_M_placeOf_14 : decode prog_14_method_108_code 14 = .ok (.invokestatic 398, 3) := by decide +kernel
theorem d_M_placeOf_17 : decode prog_14_method_108_code 17 = .ok (.ifCond .ne 9, 3) := by decide +kernel
theorem d_M_placeOf_20 : decode prog_14_method_108_code 20 = .ok (.aload_n 0, 1) := by decide +kernel
theorem d_M_placeOf_21 : decode prog_14_method_108_code 21 = .ok (.iconst 2, 1) := by decide +kernel
theorem d_M_placeOf_22 : decode prog_14_method_108_code 22 = .ok (.invokevirtual 395, 3) := by decide +kernel
theorem d_M_placeOf_25 : decode prog_14_method_108_code 25 = .ok (.ireturn, 1) := by decide +kernel
theorem d_M_placeOf_26 : decode prog_14_method_108_code 26 = .ok (.aload_n 0, 1) := by decide +kernel
theorem d_M_placeOf_27 : decode prog_14_method_108_code 27 = .ok (.invokevirtual 454, 3) := by decide +kernel
theorem v_M_placeOf_0 {G : XG} {d : Nat} {h : XH} {Q : XV → XH → Prop} {X : Nat → XH → Prop} {x1 : Int} (F : xFix h) (hyp : (((xpl h 53 18) = 0 → (xFix (xst h 53 0 1) → Q (xI 0) (xst h 53 0 1))) ∧ (¬ (xpl h 53 18) = 0 → ((x1 < 0 → (xFix (xst (xst h 53 0 0) 53 0 2) → Q (xI 0) (xst (xst h 53 0 0) 53 0 2))) ∧ (¬ x1 < 0 → (((99 : Int) < x1 → (xFix (xst (xst h 53 0 0) 53 0 2) → Q (xI 0) (xst (xst h 53 0 0) 53 0 2))) ∧ (¬ (99 : Int) < x1 → (xFix (xst h 53 0 0) → xwp G m_M_answer (d + 5) 0 [xR 53, xZ, xZ, xZ, xZ] [] (xst h 53 0 0) (fun v9 h9 => xwp G m_M_placeOf (d + 6) 30 [xR 53, xI x1, xZ, xZ] (xpush v9 []) h9 Q X) X)))))))) : xwp G m_M_placeOf (d + 6) 0 [xR 53, xI x1, xZ, xZ] [] h Q X := by
  have hnx9 : (93 : Int) ≤ xnx h := F.2.2
  refine xr_okL (fun hl9 => ?_)
  have r_x1 : -2147483648 ≤ x1 ∧ x1 ≤ 2147483647 := hl9 (xI x1) (.tail _ (.head _)) (Nat.le_of_ble_eq_true rfl)
  refine xr_aload_n (pc := 0) (i := 0) (hI := d_M_placeOf_0) (hi := rfl) (hl := rfl) ?_
  refine xr_aload_n (pc := 1) (i := 0) (hI := d_M_placeOf_1) (hi := rfl) (hl := rfl) ?_
  refine xg_getfZ (pc := 2) (ci := 11) (k := 18) (N := 38) (v := (xpl h 53 18)) (T := xF11) (hI := d_M_placeOf_2) (hw := w_1605) rfl xi11 (Or.inl rfl) (Nat.le_of_ble_eq_true rfl) (Nat.le_of_ble_eq_true rfl) rfl (ft_53 F) rfl (fun f1_ => ?_)
  replace f1_ : 0 ≤ (xpl h 53 18) ∧ (xpl h 53 18) ≤ 1 := f1_
  refine xq_callV (pc := 5) (index := 407) (K := m_M_isKnown) (As := [xI (xpl h 53 18)]) (S := []) (L0 := [xR 53, xI (xpl h 53 18)]) (hI := d_M_placeOf_5) (hK := k_M_isKnown) (hlk := w_1810) (hnoM := rfl) (hS8 := Nat.le_of_ble_eq_true rfl) (ci := 11) (N := 38) (C := "BeaconIndexModel") (T := xF11) (hc := rfl) (hci := Nat.le_of_ble_eq_true rfl) (htb := (ft_53 F)) (hinst := w_1812) (hsel := sel_M_isKnown) (hlen := Nat.le_of_ble_eq_true rfl) (hst := rfl) (hL0 := rfl)  ?_
  refine xr_aload_n (pc := 0) (i := 0) (hI := d_M_isKnown_0) (hi := rfl) (hl := rfl) ?_
  refine xr_iload_n (pc := 1) (i := 1) (hI := d_M_isKnown_1) (hi := rfl) (hl := rfl) ?_
  refine xr_if_eq (pc := 2) (tgt := 9) (hI := d_M_isKnown_2) (ht := by decide) (fun q9 => ?_) (fun q9 => ?_)
  · replace hyp := hyp.1 q9
    have q2_ := q9
    clear q9
    refine xr_iconst (pc := 9) (hI := d_M_isKnown_9) (hr := by decide) ?_
    refine xr_putf (pc := 10) (ci := 11) (k := 0) (N := 38) (v9 := 0) (T := xF11) (tF := xT11) (hI := d_M_isKnown_10) (hw := w_1587) rfl xi11 xt11 xn11 (Or.inl rfl) (Nat.le_of_ble_eq_true rfl) (Nat.le_of_ble_eq_true rfl) rfl xfit_i rfl (ft_53 F) (by decide) (fun z => z) ?_
    have F3_ : xFix (xst h 53 0 1) := F.stL xfk_53_0
    refine xr_iload_n (pc := 13) (i := 1) (hI := d_M_isKnown_13) (hi := rfl) (hl := rfl) ?_
    refine xr_ireturnT (S := []) (pc := 14) (hI := d_M_isKnown_14) (hr := rfl) (xnar_z ⟨(by clear hyp; omega), (by clear hyp; omega)⟩) ?_
    show xwp G m_M_placeOf (d + 6) 8 [xR 53, xI x1, xZ, xZ] [xI (xpl h 53 18)] _ _ _
    refine xr_if_ne (pc := 8) (tgt := 13) (hI := d_M_placeOf_8) (ht := by decide) (fun q9 => ?_) (fun q9 => ?_)
    · exact absurd q9 (by clear hyp; omega)
    · clear q9
      refine xr_iconst (pc := 11) (hI := d_M_placeOf_11) (hr := by decide) ?_
      refine xr_ireturn (S := []) (pc := 12) (hI := d_M_placeOf_12) (hr := rfl) ?_
      exact hyp F3_
  · replace hyp := hyp.2 q9
    have q2_ := q9
    clear q9
    refine xr_iconst (pc := 5) (hI := d_M_isKnown_5) (hr := by decide) ?_
    refine xr_goto (pc := 6) (tgt := 10) (hI := d_M_isKnown_6) (ht := by decide) ?_
    refine xr_putf (pc := 10) (ci := 11) (k := 0) (N := 38) (v9 := 0) (T := xF11) (tF := xT11) (hI := d_M_isKnown_10) (hw := w_1587) rfl xi11 xt11 xn11 (Or.inl rfl) (Nat.le_of_ble_eq_true rfl) (Nat.le_of_ble_eq_true rfl) rfl xfit_i rfl (ft_53 F) (by decide) (fun z => z) ?_
    have F4_ : xFix (xst h 53 0 0) := F.stL xfk_53_0
    refine xr_iload_n (pc := 13) (i := 1) (hI := d_M_isKnown_13) (hi := rfl) (hl := rfl) ?_
    refine xr_ireturnT (S := []) (pc := 14) (hI := d_M_isKnown_14) (hr := rfl) (xnar_z ⟨(by clear hyp; omega), (by clear hyp; omega)⟩) ?_
    show xwp G m_M_placeOf (d + 6) 8 [xR 53, xI x1, xZ, xZ] [xI (xpl h 53 18)] _ _ _
    refine xr_if_ne (pc := 8) (tgt := 13) (hI := d_M_placeOf_8) (ht := by decide) (fun q9 => ?_) (fun q9 => ?_)
    · clear q9
      refine xr_iload_n (pc := 13) (i := 1) (hI := d_M_placeOf_13) (hi := rfl) (hl := rfl) ?_
      refine xq_callS (pc := 14) (index := 398) (K := m_M_isKey) (As := [xI x1]) (S := []) (L0 := [xI x1]) (hI := d_M_placeOf_14) (hK := k_M_isKey) (hlk := w_1725) (hnoM := rfl) (hS8 := Nat.le_of_ble_eq_true rfl) (hstat := w_1726) (hlen := Nat.le_of_ble_eq_true rfl) (hst := rfl) (hL0 := rfl)  ?_
      refine xr_iload_n (pc := 0) (i := 0) (hI := d_M_isKey_0) (hi := rfl) (hl := rfl) ?_
      refine xr_iconst (pc := 1) (hI := d_M_isKey_1) (hr := by decide) ?_
      refine xr_bipush (pc := 2) (hI := d_M_isKey_2) (hr := by decide) (hv := by decide) ?_
      refine xq_callS (pc := 4) (index := 101) (K := m_M_isBetween) (As := [xI x1, xI 0, xI 99]) (S := []) (L0 := [xI x1, xI 0, xI 99]) (hI := d_M_isKey_4) (hK := k_M_isBetween) (hlk := w_1718) (hnoM := rfl) (hS8 := Nat.le_of_ble_eq_true rfl) (hstat := w_1719) (hlen := Nat.le_of_ble_eq_true rfl) (hst := rfl) (hL0 := rfl)  ?_
      refine xr_iload_n (pc := 0) (i := 0) (hI := d_M_isBetween_0) (hi := rfl) (hl := rfl) ?_
      refine xr_iload_n (pc := 1) (i := 1) (hI := d_M_isBetween_1) (hi := rfl) (hl := rfl) ?_
      refine xr_icmp_lt (pc := 2) (tgt := 14) (hI := d_M_isBetween_2) (ht := by decide) (fun q9 => ?_) (fun q9 => ?_)
      · replace hyp := hyp.1 q9
        have q5_ := q9
        clear q9
        refine xr_iconst (pc := 14) (hI := d_M_isBetween_14) (hr := by decide) ?_
        refine xr_ireturnT (S := []) (pc := 15) (hI := d_M_isBetween_15) (hr := rfl) (xnar_z (by decide)) ?_
        show xwp G m_M_isKey (d + 5) 7 [xI x1] [xI 0] _ _ _
        refine xr_ireturnT (S := []) (pc := 7) (hI := d_M_isKey_7) (hr := rfl) (xnar_z (by decide)) ?_
        show xwp G m_M_placeOf (d + 6) 17 [xR 53, xI x1, xZ, xZ] [xI 0] _ _ _
        refine xr_if_ne (pc := 17) (tgt := 26) (hI := d_M_placeOf_17) (ht := by decide) (fun q9 => ?_) (fun q9 => ?_)
        · exact absurd q9 (by decide)
        · clear q9
          refine xr_aload_n (pc := 20) (i := 0) (hI := d_M_placeOf_20) (hi := rfl) (hl := rfl) ?_
          refine xr_iconst (pc := 21) (hI := d_M_placeOf_21) (hr := by decide) ?_
          refine xq_callV (pc := 22) (index := 395) (K := m_M_no) (As := [xI 2]) (S := []) (L0 := [xR 53, xI 2]) (hI := d_M_placeOf_22) (hK := k_M_no) (hlk := w_1710) (hnoM := rfl) (hS8 := Nat.le_of_ble_eq_true rfl) (ci := 11) (N := 38) (C := "BeaconIndexModel") (T := xF11) (hc := rfl) (hci := Nat.le_of_ble_eq_true rfl) (htb := (ft_53 F4_)) (hinst := w_1712) (hsel := sel_M_no) (hlen := Nat.le_of_ble_eq_true rfl) (hst := rfl) (hL0 := rfl)  ?_
          refine xr_aload_n (pc := 0) (i := 0) (hI := d_M_no_0) (hi := rfl) (hl := rfl) ?_
          refine xr_iload_n (pc := 1) (i := 1) (hI := d_M_no_1) (hi := rfl) (hl := rfl) ?_
          refine xr_putf (pc := 2) (ci := 11) (k := 0) (N := 38) (v9 := 0) (T := xF11) (tF := xT11) (hI := d_M_no_2) (hw := w_1587) rfl xi11 xt11 xn11 (Or.inl rfl) (Nat.le_of_ble_eq_true rfl) (Nat.le_of_ble_eq_true rfl) rfl xfit_i rfl (ft_53 F4_) (by decide) (fun z => z) ?_
          have F6_ : xFix (xst (xst h 53 0 0) 53 0 2) := F4_.stL xfk_53_0
          refine xr_iconst (pc := 5) (hI := d_M_no_5) (hr := by decide) ?_
          refine xr_ireturn (S := []) (pc := 6) (hI := d_M_no_6) (hr := rfl) ?_
          show xwp G m_M_placeOf (d + 6) 25 [xR 53, xI x1, xZ, xZ] [xI 0] _ _ _
          refine xr_ireturn (S := []) (pc := 25) (hI := d_M_placeOf_25) (hr := rfl) ?_
          exact hyp F6_
      · replace hyp := hyp.2 q9
        have q5_ := q9
        clear q9
        refine xr_iload_n (pc := 5) (i := 0) (hI := d_M_isBetween_5) (hi := rfl) (hl := rfl) ?_
        refine xr_iload_n (pc := 6) (i := 2) (hI := d_M_isBetween_6) (hi := rfl) (hl := rfl) ?_
        refine xr_icmp_gt (pc := 7) (tgt := 14) (hI := d_M_isBetween_7) (ht := by decide) (fun q9 => ?_) (fun q9 => ?_)
        · replace hyp := hyp.1 q9
          have q7_ := q9
          clear q9
          refine xr_iconst (pc := 14) (hI := d_M_isBetween_14) (hr := by decide) ?_
          refine xr_ireturnT (S := []) (pc := 15) (hI := d_M_isBetween_15) (hr := rfl) (xnar_z (by decide)) ?_
          show xwp G m_M_isKey (d + 5) 7 [xI x1] [xI 0] _ _ _
          refine xr_ireturnT (S := []) (pc := 7) (hI := d_M_isKey_7) (hr := rfl) (xnar_z (by decide)) ?_
          show xwp G m_M_placeOf (d + 6) 17 [xR 53, xI x1, xZ, xZ] [xI 0] _ _ _
          refine xr_if_ne (pc := 17) (tgt := 26) (hI := d_M_placeOf_17) (ht := by decide) (fun q9 => ?_) (fun q9 => ?_)
          · exact absurd q9 (by decide)
          · clear q9
            refine xr_aload_n (pc := 20) (i := 0) (hI := d_M_placeOf_20) (hi := rfl) (hl := rfl) ?_
            refine xr_iconst (pc := 21) (hI := d_M_placeOf_21) (hr := by decide) ?_
            refine xq_callV (pc := 22) (index := 395) (K := m_M_no) (As := [xI 2]) (S := []) (L0 := [xR 53, xI 2]) (hI := d_M_placeOf_22) (hK := k_M_no) (hlk := w_1710) (hnoM := rfl) (hS8 := Nat.le_of_ble_eq_true rfl) (ci := 11) (N := 38) (C := "BeaconIndexModel") (T := xF11) (hc := rfl) (hci := Nat.le_of_ble_eq_true rfl) (htb := (ft_53 F4_)) (hinst := w_1712) (hsel := sel_M_no) (hlen := Nat.le_of_ble_eq_true rfl) (hst := rfl) (hL0 := rfl)  ?_
            refine xr_aload_n (pc := 0) (i := 0) (hI := d_M_no_0) (hi := rfl) (hl := rfl) ?_
            refine xr_iload_n (pc := 1) (i := 1) (hI := d_M_no_1) (hi := rfl) (hl := rfl) ?_
            refine xr_putf (pc := 2) (ci := 11) (k := 0) (N := 38) (v9 := 0) (T := xF11) (tF := xT11) (hI := d_M_no_2) (hw := w_1587) rfl xi11 xt11 xn11 (Or.inl rfl) (Nat.le_of_ble_eq_true rfl) (Nat.le_of_ble_eq_true rfl) rfl xfit_i rfl (ft_53 F4_) (by decide) (fun z => z) ?_
            have F8_ : xFix (xst (xst h 53 0 0) 53 0 2) := F4_.stL xfk_53_0
            refine xr_iconst (pc := 5) (hI := d_M_no_5) (hr := by decide) ?_
            refine xr_ireturn (S := []) (pc := 6) (hI := d_M_no_6) (hr := rfl) ?_
            show xwp G m_M_placeOf (d + 6) 25 [xR 53, xI x1, xZ, xZ] [xI 0] _ _ _
            refine xr_ireturn (S := []) (pc := 25) (hI := d_M_placeOf_25) (hr := rfl) ?_
            exact hyp F8_
        · replace hyp := hyp.2 q9
          have q7_ := q9
          clear q9
          refine xr_iconst (pc := 10) (hI := d_M_isBetween_10) (hr := by decide) ?_
          refine xr_goto (pc := 11) (tgt := 15) (hI := d_M_isBetween_11) (ht := by decide) ?_
          refine xr_ireturnT (S := []) (pc := 15) (hI := d_M_isBetween_15) (hr := rfl) (xnar_z (by decide)) ?_
          show xwp G m_M_isKey (d + 5) 7 [xI x1] [xI 1] _ _ _
          refine xr_ireturnT (S := []) (pc := 7) (hI := d_M_isKey_7) (hr := rfl) (xnar_z (by decide)) ?_
          show xwp G m_M_placeOf (d + 6) 17 [xR 53, xI x1, xZ, xZ] [xI 1] _ _ _
          refine xr_if_ne (pc := 17) (tgt := 26) (hI := d_M_placeOf_17) (ht := by decide) (fun q9 => ?_) (fun q9 => ?_)
          · clear q9
            refine xr_aload_n (pc := 26) (i := 0) (hI := d_M_placeOf_26) (hi := rfl) (hl := rfl) ?_
            exact xq_callV (pc := 27) (index := 454) (K := m_M_answer) (As := []) (S := []) (L0 := [xR 53, xZ, xZ, xZ, xZ]) (hI := d_M_placeOf_27) (hK := k_M_answer) (hlk := w_2368) (hnoM := rfl) (hS8 := Nat.le_of_ble_eq_true rfl) (ci := 11) (N := 38) (C := "BeaconIndexModel") (T := xF11) (hc := rfl) (hci := Nat.le_of_ble_eq_true rfl) (htb := (ft_53 F4_)) (hinst := w_2370) (hsel := sel_M_answer) (hlen := Nat.le_of_ble_eq_true rfl) (hst := rfl) (hL0 := rfl)  (hyp F4_)
          · exact absurd q9 (by decide)
    · exact absurd q9 (by clear hyp; omega)
theorem d_M_placeOf_30 : decode prog_14_method_108_code 30 = .ok (.istore_n 2, 1) := by decide +kernel
theorem d_M_placeOf_31 : decode prog_14_method_108_code 31 = .ok (.iconst 0, 1) := by decide +kernel
theorem d_M_placeOf_32 : decode prog_14_method_108_code 32 = .ok (.istore_n 3, 1) := by decide +kernel
theorem v_M_placeOf_30 {G : XG} {d : Nat} {h : XH} {Q : XV → XH → Prop} {X : Nat → XH → Prop} {x1 s0 : Int} (F : xFix h) (hyp : (xwp G m_M_placeOf (d + 6) 33 [xR 53, xI x1, xI s0, xI 0] [] h Q X)) : xwp G m_M_placeOf (d + 6) 30 [xR 53, xI x1, xZ, xZ] [xI s0] h Q X := by
  have hnx9 : (93 : Int) ≤ xnx h := F.2.2
  refine xr_okL (fun hl9 => ?_)
  have r_x1 : -2147483648 ≤ x1 ∧ x1 ≤ 2147483647 := hl9 (xI x1) (.tail _ (.head _)) (Nat.le_of_ble_eq_true rfl)
  refine xr_okS (fun hs9 => ?_)
  have r_s0 : -2147483648 ≤ s0 ∧ s0 ≤ 2147483647 := hs9 (xI s0) (.head _)
  refine xr_istore_n (pc := 30) (i := 2) (L9 := [xR 53, xI x1, xI s0, xZ]) (hI := d_M_placeOf_30) (hi := rfl) (hn := Nat.le_of_ble_eq_true rfl) (hL9 := rfl) ?_
  refine xr_iconst (pc := 31) (hI := d_M_placeOf_31) (hr := by decide) ?_
  refine xr_istore_n (pc := 32) (i := 3) (L9 := [xR 53, xI x1, xI s0, xI 0]) (hI := d_M_placeOf_32) (hi := rfl) (hn := Nat.le_of_ble_eq_true rfl) (hL9 := rfl) ?_
  exact hyp
theorem d_M_placeOf_33 : decode prog_14_method_108_code 33 = .ok (.iload_n 3, 1) := by decide +kernel
theorem d_M_placeOf_34 : decode prog_14_method_108_code 34 = .ok (.iload_n 2, 1) := by decide +kernel
theorem d_M_placeOf_35 : decode prog_14_method_108_code 35 = .ok (.if_icmp .ge 31, 3) := by decide +kernel
theorem d_M_placeOf_66 : decode prog_14_method_108_code 66 = .ok (.iconst (-1), 1) := by decide +kernel
theorem d_M_placeOf_67 : decode prog_14_method_108_code 67 = .ok (.ireturn, 1) := by decide +kernel
theorem d_M_placeOf_38 : decode prog_14_method_108_code 38 = .ok (.aload_n 0, 1) := by decide +kernel
theorem d_M_placeOf_39 : decode prog_14_method_108_code 39 = .ok (.getfield 19, 3) := by decide +kernel
theorem d_M_placeOf_42 : decode prog_14_method_108_code 42 = .ok (.aload_n 0, 1) := by decide +kernel
theorem d_M_placeOf_43 : decode prog_14_method_108_code 43 = .ok (.getfield 13, 3) := by decide +kernel
theorem d_M_placeOf_46 : decode prog_14_method_108_code 46 = .ok (.aload_n 0, 1) := by decide +kernel
theorem d_M_placeOf_47 : decode prog_14_method_108_code 47 = .ok (.getfield 91, 3) := by decide +kernel
theorem d_M_placeOf_50 : decode prog_14_method_108_code 50 = .ok (.iload_n 3, 1) := by decide +kernel
theorem d_M_placeOf_51 : decode prog_14_method_108_code 51 = .ok (.iaload, 1) := by decide +kernel
theorem d_M_placeOf_52 : decode prog_14_method_108_code 52 = .ok (.iaload, 1) := by decide +kernel
theorem d_M_placeOf_53 : decode prog_14_method_108_code 53 = .ok (.iaload, 1) := by decide +kernel
theorem d_M_placeOf_54 : decode prog_14_method_108_code 54 = .ok (.iload_n 1, 1) := by decide +kernel
theorem d_M_placeOf_55 : decode prog_14_method_108_code 55 = .ok (.if_icmp .ne 5, 3) := by decide +kernel
theorem d_M_placeOf_60 : decode prog_14_method_108_code 60 = .ok (.iinc 3 1, 3) := by decide +kernel
theorem d_M_placeOf_63 : decode prog_14_method_108_code 63 = .ok (.goto (-30), 3) := by decide +kernel
theorem d_M_placeOf_58 : decode prog_14_method_108_code 58 = .ok (.iload_n 3, 1) := by decide +kernel
theorem d_M_placeOf_59 : decode prog_14_method_108_code 59 = .ok (.ireturn, 1) := by decide +kernel
theorem v_M_placeOf_33 {G : XG} {d : Nat} {h : XH} {Q : XV → XH → Prop} {X : Nat → XH → Prop} {x1 x2 x3 : Int} (F : xFix h) (hyp : ((x2 ≤ x3 → (Q (xI (-1)) h)) ∧ (¬ x2 ≤ x3 → 0 ≤ x3 ∧ x3 < 60 ∧ 0 ≤ (xpl h 89 x3) ∧ (xpl h 89 x3) < 60 ∧ 0 ≤ (xpl h 55 (xpl h 89 x3)) ∧ (xpl h 55 (xpl h 89 x3)) < 60 ∧ (((xpl h 57 (xpl h 55 (xpl h 89 x3))) = x1 → (Q (xI x3) h)) ∧ (¬ (xpl h 57 (xpl h 55 (xpl h 89 x3))) = x1 → (xwp G m_M_placeOf (d + 6) 33 [xR 53, xI x1, xI x2, xI (x3 + 1)] [] h Q X)))))) : xwp G m_M_placeOf (d + 6) 33 [xR 53, xI x1, xI x2, xI x3] [] h Q X := by
  have hnx9 : (93 : Int) ≤ xnx h := F.2.2
  refine xr_okL (fun hl9 => ?_)
  have r_x1 : -2147483648 ≤ x1 ∧ x1 ≤ 2147483647 := hl9 (xI x1) (.tail _ (.head _)) (Nat.le_of_ble_eq_true rfl)
  have r_x2 : -2147483648 ≤ x2 ∧ x2 ≤ 2147483647 := hl9 (xI x2) (.tail _ (.tail _ (.head _))) (Nat.le_of_ble_eq_true rfl)
  have r_x3 : -2147483648 ≤ x3 ∧ x3 ≤ 2147483647 := hl9 (xI x3) (.tail _ (.tail _ (.tail _ (.head _)))) (Nat.le_of_ble_eq_true rfl)
  refine xr_iload_n (pc := 33) (i := 3) (hI := d_M_placeOf_33) (hi := rfl) (hl := rfl) ?_
  refine xr_iload_n (pc := 34) (i := 2) (hI := d_M_placeOf_34) (hi := rfl) (hl := rfl) ?_
  refine xr_icmp_ge (pc := 35) (tgt := 66) (hI := d_M_placeOf_35) (ht := by decide) (fun q9 => ?_) (fun q9 => ?_)
  · replace hyp := hyp.1 q9
    have q1_ := q9
    clear q9
    refine xr_iconst (pc := 66) (hI := d_M_placeOf_66) (hr := by decide) ?_
    refine xr_ireturn (S := []) (pc := 67) (hI := d_M_placeOf_67) (hr := rfl) ?_
    exact hyp
  · replace hyp := hyp.2 q9
    have q1_ := q9
    clear q9
    refine xr_aload_n (pc := 38) (i := 0) (hI := d_M_placeOf_38) (hi := rfl) (hl := rfl) ?_
    refine xg_getf (pc := 39) (ci := 11) (k := 8) (N := 38) (v9 := 2) (v := 57) (T := xF11) (hI := d_M_placeOf_39) (hw := w_1595) rfl xi11 (Or.inl rfl) (Nat.le_of_ble_eq_true rfl) (Nat.le_of_ble_eq_true rfl) rfl (ft_53 F) (fp_53_8 F) (fun f2_ => ?_)
    clear f2_
    refine xr_aload_n (pc := 42) (i := 0) (hI := d_M_placeOf_42) (hi := rfl) (hl := rfl) ?_
    refine xg_getf (pc := 43) (ci := 11) (k := 3) (N := 38) (v9 := 2) (v := 55) (T := xF11) (hI := d_M_placeOf_43) (hw := w_1590) rfl xi11 (Or.inl rfl) (Nat.le_of_ble_eq_true rfl) (Nat.le_of_ble_eq_true rfl) rfl (ft_53 F) (fp_53_3 F) (fun f3_ => ?_)
    clear f3_
    refine xr_aload_n (pc := 46) (i := 0) (hI := d_M_placeOf_46) (hi := rfl) (hl := rfl) ?_
    refine xg_getf (pc := 47) (ci := 11) (k := 36) (N := 38) (v9 := 2) (v := 89) (T := xF11) (hI := d_M_placeOf_47) (hw := w_1623) rfl xi11 (Or.inl rfl) (Nat.le_of_ble_eq_true rfl) (Nat.le_of_ble_eq_true rfl) rfl (ft_53 F) (fp_53_36 F) (fun f4_ => ?_)
    clear f4_
    refine xr_iload_n (pc := 50) (i := 3) (hI := d_M_placeOf_50) (hi := rfl) (hl := rfl) ?_
    obtain ⟨c5_, hyp⟩ := hyp
    obtain ⟨c6_, hyp⟩ := hyp
    refine xg_iaload (pc := 51) (v := (xpl h 89 x3)) (hI := d_M_placeOf_51) (ft_89 F) c5_ (xlt_of (fl_89 F) c6_) rfl (fun f7_ => ?_)
    replace f7_ : -2147483648 ≤ (xpl h 89 x3) ∧ (xpl h 89 x3) ≤ 2147483647 := f7_
    obtain ⟨c8_, hyp⟩ := hyp
    obtain ⟨c9_, hyp⟩ := hyp
    refine xg_iaload (pc := 52) (v := (xpl h 55 (xpl h 89 x3))) (hI := d_M_placeOf_52) (ft_55 F) c8_ (xlt_of (fl_55 F) c9_) rfl (fun f10_ => ?_)
    replace f10_ : -2147483648 ≤ (xpl h 55 (xpl h 89 x3)) ∧ (xpl h 55 (xpl h 89 x3)) ≤ 2147483647 := f10_
    obtain ⟨c11_, hyp⟩ := hyp
    obtain ⟨c12_, hyp⟩ := hyp
    refine xg_iaload (pc := 53) (v := (xpl h 57 (xpl h 55 (xpl h 89 x3)))) (hI := d_M_placeOf_53) (ft_57 F) c11_ (xlt_of (fl_57 F) c12_) rfl (fun f13_ => ?_)
    replace f13_ : -2147483648 ≤ (xpl h 57 (xpl h 55 (xpl h 89 x3))) ∧ (xpl h 57 (xpl h 55 (xpl h 89 x3))) ≤ 2147483647 := f13_
    refine xr_iload_n (pc := 54) (i := 1) (hI := d_M_placeOf_54) (hi := rfl) (hl := rfl) ?_
    refine xr_icmp_ne (pc := 55) (tgt := 60) (hI := d_M_placeOf_55) (ht := by decide) (fun q9 => ?_) (fun q9 => ?_)
    · replace hyp := hyp.2 q9
      have q14_ := q9
      clear q9
      refine xr_iinc (pc := 60) (i := 3) (L9 := [xR 53, xI x1, xI x2, xI (x3 + 1)]) (hI := d_M_placeOf_60) (hl := rfl) (hn := Nat.le_of_ble_eq_true rfl) (hr := ⟨by clear hyp; omega, by clear hyp; omega⟩) (hL9 := rfl) ?_
      refine xr_goto (pc := 63) (tgt := 33) (hI := d_M_placeOf_63) (ht := by decide) ?_
      exact hyp
    · replace hyp := hyp.1 q9
      have q14_ := q9
      clear q9
      refine xr_iload_n (pc := 58) (i := 3) (hI := d_M_placeOf_58) (hi := rfl) (hl := rfl) ?_
      refine xr_ireturn (S := []) (pc := 59) (hI := d_M_placeOf_59) (hr := rfl) ?_
      exact hyp
abbrev m_M_partWeight : XM := (⟨"BeaconIndexModel", "partWeight", "(II)I"⟩, prog_14_method_109_code, 4, (some .int), [])
theorem d_M_partWeight_0 : decode prog_14_method_109_code 0 = .ok (.aload_n 0, 1) := by decide +kernel
theorem d_M_partWeight_1 : decode prog_14_method_109_code 1 = .ok (.aload_n 0, 1) := by decide +kernel
theorem d_M_partWeight_2 : decode prog_14_method_109_code 2 = .ok (.getfield 448, 3) := by decide +kernel
theorem d_M_partWeight_5 : decode prog_14_method_109_code 5 = .ok (.invokevirtual 407, 3) := by decide +kernel
theorem d_M_partWeight_8 : decode prog_14_method_109_code 8 = .ok (.ifCond .ne 5, 3) := by decide +kernel
theorem d_M_partWeight_11 : decode prog_14_method_109_code 11 = .ok (.iconst 0, 1) := by decide +kernel
theorem d_M_partWeight_12 : decode prog_14_method_109_code 12 = .ok (.ireturn, 1) := by decide +kernel
theorem d_M_partWeight_13 : decode prog_14_method_109_code 13 = .ok (.iload_n 1, 1) := by decide +kernel
theorem d_M_partWeight_14 : decode prog_14_method_109_code 14 = .ok (.invokestatic 398, 3) := by decide +kernel
theorem d_M_partWeight_17 : decode prog_14_method_109_code 17 = .ok (.ifCond .ne 9, 3) := by decide +kernel
theorem d_M_partWeight_20 : decode prog_14_method_109_code 20 = .ok (.aload_n 0, 1) := by decide +kernel
theorem d_M_partWeight_21 : decode prog_14_method_109_code 21 = .ok (.iconst 2, 1) := by decide +kernel
theorem d_M_partWeight_22 : decode prog_14_method_109_code 22 = .ok (.invokevirtual 395, 3) := by decide +kernel
theorem d_M_partWeight_25 : decode prog_14_method_109_code 25 = .ok (.ireturn, 1) := by decide +kernel
theorem d_M_partWeight_26 : decode prog_14_method_109_code 26 = .ok (.iload_n 2, 1) := by decide +kernel
theorem d_M_partWeight_27 : decode prog_14_method_109_code 27 = .ok (.iconst 0, 1) := by decide +kernel
theorem d_M_partWeight_28 : decode prog_14_method_109_code 28 = .ok (.aload_n 0, 1) := by decide +kernel
theorem d_M_partWeight_29 : decode prog_14_method_109_code 29 = .ok (.invokevirtual 451, 3) := by decide +kernel
theorem v_M_partWeight_0 {G : XG} {d : Nat} {h : XH} {Q : XV → XH → Prop} {X : Nat → XH → Prop} {x1 x2 : Int} (F : xFix h) (hyp : (((xpl h 53 18) = 0 → (xFix (xst h 53 0 1) → Q (xI 0) (xst h 53 0 1))) ∧ (¬ (xpl h 53 18) = 0 → ((x1 < 0 → (xFix (xst (xst h 53 0 0) 53 0 2) → Q (xI 0) (xst (xst h 53 0 0) 53 0 2))) ∧ (¬ x1 < 0 → (((99 : Int) < x1 → (xFix (xst (xst h 53 0 0) 53 0 2) → Q (xI 0) (xst (xst h 53 0 0) 53 0 2))) ∧ (¬ (99 : Int) < x1 → (xFix (xst h 53 0 0) → xwp G m_M_topParts (d + 4) 0 [xR 53, xZ, xZ] [] (xst h 53 0 0) (fun v9 h9 => xwp G m_M_partWeight (d + 5) 32 [xR 53, xI x1, xI x2, xZ] (xpush v9 [xI 0, xI x2]) h9 Q X) X)))))))) : xwp G m_M_partWeight (d + 5) 0 [xR 53, xI x1, xI x2, xZ] [] h Q X := by
  have hnx9 : (93 : Int) ≤ xnx h := F.2.2
  refine xr_okL (fun hl9 => ?_)
  have r_x1 : -2147483648 ≤ x1 ∧ x1 ≤ 2147483647 := hl9 (xI x1) (.tail _ (.head _)) (Nat.le_of_ble_eq_true rfl)
  have r_x2 : -2147483648 ≤ x2 ∧ x2 ≤ 2147483647 := hl9 (xI x2) (.tail _ (.tail _ (.head _))) (Nat.le_of_ble_eq_true rfl)
  refine xr_aload_n (pc := 0) (i := 0) (hI := d_M_partWeight_0) (hi := rfl) (hl := rfl) ?_
  refine xr_aload_n (pc := 1) (i := 0) (hI := d_M_partWeight_1) (hi := rfl) (hl := rfl) ?_
  refine xg_getfZ (pc := 2) (ci := 11) (k := 18) (N := 38) (v := (xpl h 53 18)) (T := xF11) (hI := d_M_partWeight_2) (hw := w_1605) rfl xi11 (Or.inl rfl) (Nat.le_of_ble_eq_true rfl) (Nat.le_of_ble_eq_true rfl) rfl (ft_53 F) rfl (fun f1_ => ?_)
  replace f1_ : 0 ≤ (xpl h 53 18) ∧ (xpl h 53 18) ≤ 1 := f1_
  refine xq_callV (pc := 5) (index := 407) (K := m_M_isKnown) (As := [xI (xpl h 53 18)]) (S := []) (L0 := [xR 53, xI (xpl h 53 18)]) (hI := d_M_partWeight_5) (hK := k_M_isKnown) (hlk := w_1810) (hnoM := rfl) (hS8 := Nat.le_of_ble_eq_true rfl) (ci := 11) (N := 38) (C := "BeaconIndexModel") (T := xF11) (hc := rfl) (hci := Nat.le_of_ble_eq_true rfl) (htb := (ft_53 F)) (hinst := w_1812) (hsel := sel_M_isKnown) (hlen := Nat.le_of_ble_eq_true rfl) (hst := rfl) (hL0 := rfl)  ?_
  refine xr_aload_n (pc := 0) (i := 0) (hI := d_M_isKnown_0) (hi := rfl) (hl := rfl) ?_
  refine xr_iload_n (pc := 1) (i := 1) (hI := d_M_isKnown_1) (hi := rfl) (hl := rfl) ?_
  refine xr_if_eq (pc := 2) (tgt := 9) (hI := d_M_isKnown_2) (ht := by decide) (fun q9 => ?_) (fun q9 => ?_)
  · replace hyp := hyp.1 q9
    have q2_ := q9
    clear q9
    refine xr_iconst (pc := 9) (hI := d_M_isKnown_9) (hr := by decide) ?_
    refine xr_putf (pc := 10) (ci := 11) (k := 0) (N := 38) (v9 := 0) (T := xF11) (tF := xT11) (hI := d_M_isKnown_10) (hw := w_1587) rfl xi11 xt11 xn11 (Or.inl rfl) (Nat.le_of_ble_eq_true rfl) (Nat.le_of_ble_eq_true rfl) rfl xfit_i rfl (ft_53 F) (by decide) (fun z => z) ?_
    have F3_ : xFix (xst h 53 0 1) := F.stL xfk_53_0
    refine xr_iload_n (pc := 13) (i := 1) (hI := d_M_isKnown_13) (hi := rfl) (hl := rfl) ?_
    refine xr_ireturnT (S := []) (pc := 14) (hI := d_M_isKnown_14) (hr := rfl) (xnar_z ⟨(by clear hyp; omega), (by clear hyp; omega)⟩) ?_
    show xwp G m_M_partWeight (d + 5) 8 [xR 53, xI x1, xI x2, xZ] [xI (xpl h 53 18)] _ _ _
    refine xr_if_ne (pc := 8) (tgt := 13) (hI := d_M_partWeight_8) (ht := by decide) (fun q9 => ?_) (fun q9 => ?_)
    · exact absurd q9 (by clear hyp; omega)
    · clear q9
      refine xr_iconst (pc := 11) (hI := d_M_partWeight_11) (hr := by decide) ?_
      refine xr_ireturn (S := []) (pc := 12) (hI := d_M_partWeight_12) (hr := rfl) ?_
      exact hyp F3_
  · replace hyp := hyp.2 q9
    have q2_ := q9
    clear q9
    refine xr_iconst (pc := 5) (hI := d_M_isKnown_5) (hr := by decide) ?_
    refine xr_goto (pc := 6) (tgt := 10) (hI := d_M_isKnown_6) (ht := by decide) ?_
    refine xr_putf (pc := 10) (ci := 11) (k := 0) (N := 38) (v9 := 0) (T := xF11) (tF := xT11) (hI := d_M_isKnown_10) (hw := w_1587) rfl xi11 xt11 xn11 (Or.inl rfl) (Nat.le_of_ble_eq_true rfl) (Nat.le_of_ble_eq_true rfl) rfl xfit_i rfl (ft_53 F) (by decide) (fun z => z) ?_
    have F4_ : xFix (xst h 53 0 0) := F.stL xfk_53_0
    refine xr_iload_n (pc := 13) (i := 1) (hI := d_M_isKnown_13) (hi := rfl) (hl := rfl) ?_
    refine xr_ireturnT (S := []) (pc := 14) (hI := d_M_isKnown_14) (hr := rfl) (xnar_z ⟨(by clear hyp; omega), (by clear hyp; omega)⟩) ?_
    show xwp G m_M_partWeight (d + 5) 8 [xR 53, xI x1, xI x2, xZ] [xI (xpl h 53 18)] _ _ _
    refine xr_if_ne (pc := 8) (tgt := 13) (hI := d_M_partWeight_8) (ht := by decide) (fun q9 => ?_) (fun q9 => ?_)
    · clear q9
      refine xr_iload_n (pc := 13) (i := 1) (hI := d_M_partWeight_13) (hi := rfl) (hl := rfl) ?_
      refine xq_callS (pc := 14) (index := 398) (K := m_M_isKey) (As := [xI x1]) (S := []) (L0 := [xI x1]) (hI := d_M_partWeight_14) (hK := k_M_isKey) (hlk := w_1725) (hnoM := rfl) (hS8 := Nat.le_of_ble_eq_true rfl) (hstat := w_1726) (hlen := Nat.le_of_ble_eq_true rfl) (hst := rfl) (hL0 := rfl)  ?_
      refine xr_iload_n (pc := 0) (i := 0) (hI := d_M_isKey_0) (hi := rfl) (hl := rfl) ?_
      refine xr_iconst (pc := 1) (hI := d_M_isKey_1) (hr := by decide) ?_
      refine xr_bipush (pc := 2) (hI := d_M_isKey_2) (hr := by decide) (hv := by decide) ?_
      refine xq_callS (pc := 4) (index := 101) (K := m_M_isBetween) (As := [xI x1, xI 0, xI 99]) (S := []) (L0 := [xI x1, xI 0, xI 99]) (hI := d_M_isKey_4) (hK := k_M_isBetween) (hlk := w_1718) (hnoM := rfl) (hS8 := Nat.le_of_ble_eq_true rfl) (hstat := w_1719) (hlen := Nat.le_of_ble_eq_true rfl) (hst := rfl) (hL0 := rfl)  ?_
      refine xr_iload_n (pc := 0) (i := 0) (hI := d_M_isBetween_0) (hi := rfl) (hl := rfl) ?_
      refine xr_iload_n (pc := 1) (i := 1) (hI := d_M_isBetween_1) (hi := rfl) (hl := rfl) ?_
      refine xr_icmp_lt (pc := 2) (tgt := 14) (hI := d_M_isBetween_2) (ht := by decide) (fun q9 => ?_) (fun q9 => ?_)
      · replace hyp := hyp.1 q9
        have q5_ := q9
        clear q9
        refine xr_iconst (pc := 14) (hI := d_M_isBetween_14) (hr := by decide) ?_
        refine xr_ireturnT (S := []) (pc := 15) (hI := d_M_isBetween_15) (hr := rfl) (xnar_z (by decide)) ?_
        show xwp G m_M_isKey (d + 4) 7 [xI x1] [xI 0] _ _ _
        refine xr_ireturnT (S := []) (pc := 7) (hI := d_M_isKey_7) (hr := rfl) (xnar_z (by decide)) ?_
        show xwp G m_M_partWeight (d + 5) 17 [xR 53, xI x1, xI x2, xZ] [xI 0] _ _ _
        refine xr_if_ne (pc := 17) (tgt := 26) (hI := d_M_partWeight_17) (ht := by decide) (fun q9 => ?_) (fun q9 => ?_)
        · exact absurd q9 (by decide)
        · clear q9
          refine xr_aload_n (pc := 20) (i := 0) (hI := d_M_partWeight_20) (hi := rfl) (hl := rfl) ?_
          refine xr_iconst (pc := 21) (hI := d_M_partWeight_21) (hr := by decide) ?_
          refine xq_callV (pc := 22) (index := 395) (K := m_M_no) (As := [xI 2]) (S := []) (L0 := [xR 53, xI 2]) (hI := d_M_partWeight_22) (hK := k_M_no) (hlk := w_1710) (hnoM := rfl) (hS8 := Nat.le_of_ble_eq_true rfl) (ci := 11) (N := 38) (C := "BeaconIndexModel") (T := xF11) (hc := rfl) (hci := Nat.le_of_ble_eq_true rfl) (htb := (ft_53 F4_)) (hinst := w_1712) (hsel := sel_M_no) (hlen := Nat.le_of_ble_eq_true rfl) (hst := rfl) (hL0 := rfl)  ?_
          refine xr_aload_n (pc := 0) (i := 0) (hI := d_M_no_0) (hi := rfl) (hl := rfl) ?_
          refine xr_iload_n (pc := 1) (i := 1) (hI := d_M_no_1) (hi := rfl) (hl := rfl) ?_
          refine xr_putf (pc := 2) (ci := 11) (k := 0) (N := 38) (v9 := 0) (T := xF11) (tF := xT11) (hI := d_M_no_2) (hw := w_1587) rfl xi11 xt11 xn11 (Or.inl rfl) (Nat.le_of_ble_eq_true rfl) (Nat.le_of_ble_eq_true rfl) rfl xfit_i rfl (ft_53 F4_) (by decide) (fun z => z) ?_
          have F6_ : xFix (xst (xst h 53 0 0) 53 0 2) := F4_.stL xfk_53_0
          refine xr_iconst (pc := 5) (hI := d_M_no_5) (hr := by decide) ?_
          refine xr_ireturn (S := []) (pc := 6) (hI := d_M_no_6) (hr := rfl) ?_
          show xwp G m_M_partWeight (d + 5) 25 [xR 53, xI x1, xI x2, xZ] [xI 0] _ _ _
          refine xr_ireturn (S := []) (pc := 25) (hI := d_M_partWeight_25) (hr := rfl) ?_
          exact hyp F6_
      · replace hyp := hyp.2 q9
        have q5_ := q9
        clear q9
        refine xr_iload_n (pc := 5) (i := 0) (hI := d_M_isBetween_5) (hi := rfl) (hl := rfl) ?_
        refine xr_iload_n (pc := 6) (i := 2) (hI := d_M_isBetween_6) (hi := rfl) (hl := rfl) ?_
        refine xr_icmp_gt (pc := 7) (tgt := 14) (hI := d_M_isBetween_7) (ht := by decide) (fun q9 => ?_) (fun q9 => ?_)
        · replace hyp := hyp.1 q9
          have q7_ := q9
          clear q9
          refine xr_iconst (pc := 14) (hI := d_M_isBetween_14) (hr := by decide) ?_
          refine xr_ireturnT (S := []) (pc := 15) (hI := d_M_isBetween_15) (hr := rfl) (xnar_z (by decide)) ?_
          show xwp G m_M_isKey (d + 4) 7 [xI x1] [xI 0] _ _ _
          refine xr_ireturnT (S := []) (pc := 7) (hI := d_M_isKey_7) (hr := rfl) (xnar_z (by decide)) ?_
          show xwp G m_M_partWeight (d + 5) 17 [xR 53, xI x1, xI x2, xZ] [xI 0] _ _ _
          refine xr_if_ne (pc := 17) (tgt := 26) (hI := d_M_partWeight_17) (ht := by decide) (fun q9 => ?_) (fun q9 => ?_)
          · exact absurd q9 (by decide)
          · clear q9
            refine xr_aload_n (pc := 20) (i := 0) (hI := d_M_partWeight_20) (hi := rfl) (hl := rfl) ?_
            refine xr_iconst (pc := 21) (hI := d_M_partWeight_21) (hr := by decide) ?_
            refine xq_callV (pc := 22) (index := 395) (K := m_M_no) (As := [xI 2]) (S := []) (L0 := [xR 53, xI 2]) (hI := d_M_partWeight_22) (hK := k_M_no) (hlk := w_1710) (hnoM := rfl) (hS8 := Nat.le_of_ble_eq_true rfl) (ci := 11) (N := 38) (C := "BeaconIndexModel") (T := xF11) (hc := rfl) (hci := Nat.le_of_ble_eq_true rfl) (htb := (ft_53 F4_)) (hinst := w_1712) (hsel := sel_M_no) (hlen := Nat.le_of_ble_eq_true rfl) (hst := rfl) (hL0 := rfl)  ?_
            refine xr_aload_n (pc := 0) (i := 0) (hI := d_M_no_0) (hi := rfl) (hl := rfl) ?_
            refine xr_iload_n (pc := 1) (i := 1) (hI := d_M_no_1) (hi := rfl) (hl := rfl) ?_
            refine xr_putf (pc := 2) (ci := 11) (k := 0) (N := 38) (v9 := 0) (T := xF11) (tF := xT11) (hI := d_M_no_2) (hw := w_1587) rfl xi11 xt11 xn11 (Or.inl rfl) (Nat.le_of_ble_eq_true rfl) (Nat.le_of_ble_eq_true rfl) rfl xfit_i rfl (ft_53 F4_) (by decide) (fun z => z) ?_
            have F8_ : xFix (xst (xst h 53 0 0) 53 0 2) := F4_.stL xfk_53_0
            refine xr_iconst (pc := 5) (hI := d_M_no_5) (hr := by decide) ?_
            refine xr_ireturn (S := []) (pc := 6) (hI := d_M_no_6) (hr := rfl) ?_
            show xwp G m_M_partWeight (d + 5) 25 [xR 53, xI x1, xI x2, xZ] [xI 0] _ _ _
            refine xr_ireturn (S := []) (pc := 25) (hI := d_M_partWeight_25) (hr := rfl) ?_
            exact hyp F8_
        · replace hyp := hyp.2 q9
          have q7_ := q9
          clear q9
          refine xr_iconst (pc := 10) (hI := d_M_isBetween_10) (hr := by decide) ?_
          refine xr_goto (pc := 11) (tgt := 15) (hI := d_M_isBetween_11) (ht := by decide) ?_
          refine xr_ireturnT (S := []) (pc := 15) (hI := d_M_isBetween_15) (hr := rfl) (xnar_z (by decide)) ?_
          show xwp G m_M_isKey (d + 4) 7 [xI x1] [xI 1] _ _ _
          refine xr_ireturnT (S := []) (pc := 7) (hI := d_M_isKey_7) (hr := rfl) (xnar_z (by decide)) ?_
          show xwp G m_M_partWeight (d + 5) 17 [xR 53, xI x1, xI x2, xZ] [xI 1] _ _ _
          refine xr_if_ne (pc := 17) (tgt := 26) (hI := d_M_partWeight_17) (ht := by decide) (fun q9 => ?_) (fun q9 => ?_)
          · clear q9
            refine xr_iload_n (pc := 26) (i := 2) (hI := d_M_partWeight_26) (hi := rfl) (hl := rfl) ?_
            refine xr_iconst (pc := 27) (hI := d_M_partWeight_27) (hr := by decide) ?_
            refine xr_aload_n (pc := 28) (i := 0) (hI := d_M_partWeight_28) (hi := rfl) (hl := rfl) ?_
            exact xq_callV (pc := 29) (index := 451) (K := m_M_topParts) (As := []) (S := [xI 0, xI x2]) (L0 := [xR 53, xZ, xZ]) (hI := d_M_partWeight_29) (hK := k_M_topParts) (hlk := w_2360) (hnoM := rfl) (hS8 := Nat.le_of_ble_eq_true rfl) (ci := 11) (N := 38) (C := "BeaconIndexModel") (T := xF11) (hc := rfl) (hci := Nat.le_of_ble_eq_true rfl) (htb := (ft_53 F4_)) (hinst := w_2362) (hsel := sel_M_topParts) (hlen := Nat.le_of_ble_eq_true rfl) (hst := rfl) (hL0 := rfl)  (hyp F4_)
          · exact absurd q9 (by decide)
    · exact absurd q9 (by clear hyp; omega)
theorem d_M_partWeight_32 : decode prog_14_method_109_code 32 = .ok (.iconst 1, 1) := by decide +kernel
theorem d_M_partWeight_33 : decode prog_14_method_109_code 33 = .ok (.isub, 1) := by decide +kernel
theorem d_M_partWeight_34 : decode prog_14_method_109_code 34 = .ok (.invokestatic 101, 3) := by decide +kernel
theorem d_M_partWeight_37 : decode prog_14_method_109_code 37 = .ok (.ifCond .ne 9, 3) := by decide +kernel
theorem d_M_partWeight_40 : decode prog_14_method_109_code 40 = .ok (.aload_n 0, 1) := by decide +kernel
theorem d_M_partWeight_41 : decode prog_14_method_109_code 41 = .ok (.iconst 3, 1) := by decide +kernel
theorem d_M_partWeight_42 : decode prog_14_method_109_code 42 = .ok (.invokevirtual 395, 3) := by decide +kernel
theorem d_M_partWeight_45 : decode prog_14_method_109_code 45 = .ok (.ireturn, 1) := by decide +kernel
theorem d_M_partWeight_46 : decode prog_14_method_109_code 46 = .ok (.aload_n 0, 1) := by decide +kernel
theorem d_M_partWeight_47 : decode prog_14_method_109_code 47 = .ok (.iload_n 1, 1) := by decide +kernel
theorem d_M_partWeight_48 : decode prog_14_method_109_code 48 = .ok (.invokevirtual 438, 3) := by decide +kernel
theorem v_M_partWeight_32 {G : XG} {d : Nat} {h : XH} {Q : XV → XH → Prop} {X : Nat → XH → Prop} {x1 x2 s0 s1 s2 : Int} (F : xFix h) (hyp : xiR (s0 - 1) ∧ ((s2 < s1 → (xFix (xst h 53 0 3) → Q (xI 0) (xst h 53 0 3))) ∧ (¬ s2 < s1 → (((s0 - 1) < s2 → (xFix (xst h 53 0 3) → Q (xI 0) (xst h 53 0 3))) ∧ (¬ (s0 - 1) < s2 → (xwp G m_M_whereInSegments (d + 4) 0 [xR 53, xI x1, xZ] [] h (fun v9 h9 => xwp G m_M_partWeight (d + 5) 51 [xR 53, xZ, xI x2, xZ] (xpush v9 []) h9 Q X) X)))))) : xwp G m_M_partWeight (d + 5) 32 [xR 53, xI x1, xI x2, xZ] [xI s0, xI s1, xI s2] h Q X := by
  have hnx9 : (93 : Int) ≤ xnx h := F.2.2
  refine xr_okL (fun hl9 => ?_)
  have r_x1 : -2147483648 ≤ x1 ∧ x1 ≤ 2147483647 := hl9 (xI x1) (.tail _ (.head _)) (Nat.le_of_ble_eq_true rfl)
  have r_x2 : -2147483648 ≤ x2 ∧ x2 ≤ 2147483647 := hl9 (xI x2) (.tail _ (.tail _ (.head _))) (Nat.le_of_ble_eq_true rfl)
  refine xr_okS (fun hs9 => ?_)
  have r_s0 : -2147483648 ≤ s0 ∧ s0 ≤ 2147483647 := hs9 (xI s0) (.head _)
  have r_s1 : -2147483648 ≤ s1 ∧ s1 ≤ 2147483647 := hs9 (xI s1) (.tail _ (.head _))
  have r_s2 : -2147483648 ≤ s2 ∧ s2 ≤ 2147483647 := hs9 (xI s2) (.tail _ (.tail _ (.head _)))
  refine xr_iconst (pc := 32) (hI := d_M_partWeight_32) (hr := by decide) ?_
  obtain ⟨c9, hyp⟩ := hyp
  refine xr_isub (pc := 33) (hI := d_M_partWeight_33) (hr := c9) ?_
  refine xq_callS (pc := 34) (index := 101) (K := m_M_isBetween) (As := [xI s2, xI s1, xI (s0 - 1)]) (S := []) (L0 := [xI s2, xI s1, xI (s0 - 1)]) (hI := d_M_partWeight_34) (hK := k_M_isBetween) (hlk := w_1718) (hnoM := rfl) (hS8 := Nat.le_of_ble_eq_true rfl) (hstat := w_1719) (hlen := Nat.le_of_ble_eq_true rfl) (hst := rfl) (hL0 := rfl)  ?_
  refine xr_iload_n (pc := 0) (i := 0) (hI := d_M_isBetween_0) (hi := rfl) (hl := rfl) ?_
  refine xr_iload_n (pc := 1) (i := 1) (hI := d_M_isBetween_1) (hi := rfl) (hl := rfl) ?_
  refine xr_icmp_lt (pc := 2) (tgt := 14) (hI := d_M_isBetween_2) (ht := by decide) (fun q9 => ?_) (fun q9 => ?_)
  · replace hyp := hyp.1 q9
    have q1_ := q9
    clear q9
    refine xr_iconst (pc := 14) (hI := d_M_isBetween_14) (hr := by decide) ?_
    refine xr_ireturnT (S := []) (pc := 15) (hI := d_M_isBetween_15) (hr := rfl) (xnar_z (by decide)) ?_
    show xwp G m_M_partWeight (d + 5) 37 [xR 53, xI x1, xI x2, xZ] [xI 0] _ _ _
    refine xr_if_ne (pc := 37) (tgt := 46) (hI := d_M_partWeight_37) (ht := by decide) (fun q9 => ?_) (fun q9 => ?_)
    · exact absurd q9 (by decide)
    · clear q9
      refine xr_aload_n (pc := 40) (i := 0) (hI := d_M_partWeight_40) (hi := rfl) (hl := rfl) ?_
      refine xr_iconst (pc := 41) (hI := d_M_partWeight_41) (hr := by decide) ?_
      refine xq_callV (pc := 42) (index := 395) (K := m_M_no) (As := [xI 3]) (S := []) (L0 := [xR 53, xI 3]) (hI := d_M_partWeight_42) (hK := k_M_no) (hlk := w_1710) (hnoM := rfl) (hS8 := Nat.le_of_ble_eq_true rfl) (ci := 11) (N := 38) (C := "BeaconIndexModel") (T := xF11) (hc := rfl) (hci := Nat.le_of_ble_eq_true rfl) (htb := (ft_53 F)) (hinst := w_1712) (hsel := sel_M_no) (hlen := Nat.le_of_ble_eq_true rfl) (hst := rfl) (hL0 := rfl)  ?_
      refine xr_aload_n (pc := 0) (i := 0) (hI := d_M_no_0) (hi := rfl) (hl := rfl) ?_
      refine xr_iload_n (pc := 1) (i := 1) (hI := d_M_no_1) (hi := rfl) (hl := rfl) ?_
      refine xr_putf (pc := 2) (ci := 11) (k := 0) (N := 38) (v9 := 0) (T := xF11) (tF := xT11) (hI := d_M_no_2) (hw := w_1587) rfl xi11 xt11 xn11 (Or.inl rfl) (Nat.le_of_ble_eq_true rfl) (Nat.le_of_ble_eq_true rfl) rfl xfit_i rfl (ft_53 F) (by decide) (fun z => z) ?_
      have F2_ : xFix (xst h 53 0 3) := F.stL xfk_53_0
      refine xr_iconst (pc := 5) (hI := d_M_no_5) (hr := by decide) ?_
      refine xr_ireturn (S := []) (pc := 6) (hI := d_M_no_6) (hr := rfl) ?_
      show xwp G m_M_partWeight (d + 5) 45 [xR 53, xI x1, xI x2, xZ] [xI 0] _ _ _
      refine xr_ireturn (S := []) (pc := 45) (hI := d_M_partWeight_45) (hr := rfl) ?_
      exact hyp F2_
  · replace hyp := hyp.2 q9
    have q1_ := q9
    clear q9
    refine xr_iload_n (pc := 5) (i := 0) (hI := d_M_isBetween_5) (hi := rfl) (hl := rfl) ?_
    refine xr_iload_n (pc := 6) (i := 2) (hI := d_M_isBetween_6) (hi := rfl) (hl := rfl) ?_
    refine xr_icmp_gt (pc := 7) (tgt := 14) (hI := d_M_isBetween_7) (ht := by decide) (fun q9 => ?_) (fun q9 => ?_)
    · replace hyp := hyp.1 q9
      have q3_ := q9
      clear q9
      refine xr_iconst (pc := 14) (hI := d_M_isBetween_14) (hr := by decide) ?_
      refine xr_ireturnT (S := []) (pc := 15) (hI := d_M_isBetween_15) (hr := rfl) (xnar_z (by decide)) ?_
      show xwp G m_M_partWeight (d + 5) 37 [xR 53, xI x1, xI x2, xZ] [xI 0] _ _ _
      refine xr_if_ne (pc := 37) (tgt := 46) (hI := d_M_partWeight_37) (ht := by decide) (fun q9 => ?_) (fun q9 => ?_)
      · exact absurd q9 (by decide)
      · clear q9
        refine xr_aload_n (pc := 40) (i := 0) (hI := d_M_partWeight_40) (hi := rfl) (hl := rfl) ?_
        refine xr_iconst (pc := 41) (hI := d_M_partWeight_41) (hr := by decide) ?_
        refine xq_callV (pc := 42) (index := 395) (K := m_M_no) (As := [xI 3]) (S := []) (L0 := [xR 53, xI 3]) (hI := d_M_partWeight_42) (hK := k_M_no) (hlk := w_1710) (hnoM := rfl) (hS8 := Nat.le_of_ble_eq_true rfl) (ci := 11) (N := 38) (C := "BeaconIndexModel") (T := xF11) (hc := rfl) (hci := Nat.le_of_ble_eq_true rfl) (htb := (ft_53 F)) (hinst := w_1712) (hsel := sel_M_no) (hlen := Nat.le_of_ble_eq_true rfl) (hst := rfl) (hL0 := rfl)  ?_
        refine xr_aload_n (pc := 0) (i := 0) (hI := d_M_no_0) (hi := rfl) (hl := rfl) ?_
        refine xr_iload_n (pc := 1) (i := 1) (hI := d_M_no_1) (hi := rfl) (hl := rfl) ?_
        refine xr_putf (pc := 2) (ci := 11) (k := 0) (N := 38) (v9 := 0) (T := xF11) (tF := xT11) (hI := d_M_no_2) (hw := w_1587) rfl xi11 xt11 xn11 (Or.inl rfl) (Nat.le_of_ble_eq_true rfl) (Nat.le_of_ble_eq_true rfl) rfl xfit_i rfl (ft_53 F) (by decide) (fun z => z) ?_
        have F4_ : xFix (xst h 53 0 3) := F.stL xfk_53_0
        refine xr_iconst (pc := 5) (hI := d_M_no_5) (hr := by decide) ?_
        refine xr_ireturn (S := []) (pc := 6) (hI := d_M_no_6) (hr := rfl) ?_
        show xwp G m_M_partWeight (d + 5) 45 [xR 53, xI x1, xI x2, xZ] [xI 0] _ _ _
        refine xr_ireturn (S := []) (pc := 45) (hI := d_M_partWeight_45) (hr := rfl) ?_
        exact hyp F4_
    · replace hyp := hyp.2 q9
      have q3_ := q9
      clear q9
      refine xr_iconst (pc := 10) (hI := d_M_isBetween_10) (hr := by decide) ?_
      refine xr_goto (pc := 11) (tgt := 15) (hI := d_M_isBetween_11) (ht := by decide) ?_
      refine xr_ireturnT (S := []) (pc := 15) (hI := d_M_isBetween_15) (hr := rfl) (xnar_z (by decide)) ?_
      show xwp G m_M_partWeight (d + 5) 37 [xR 53, xI x1, xI x2, xZ] [xI 1] _ _ _
      refine xr_if_ne (pc := 37) (tgt := 46) (hI := d_M_partWeight_37) (ht := by decide) (fun q9 => ?_) (fun q9 => ?_)
      · clear q9
        refine xr_aload_n (pc := 46) (i := 0) (hI := d_M_partWeight_46) (hi := rfl) (hl := rfl) ?_
        refine xr_iload_n (pc := 47) (i := 1) (hI := d_M_partWeight_47) (hi := rfl) (hl := rfl) ?_
        exact xq_callV (pc := 48) (index := 438) (K := m_M_whereInSegments) (As := [xI x1]) (S := []) (L0 := [xR 53, xI x1, xZ]) (hI := d_M_partWeight_48) (hK := k_M_whereInSegments) (hlk := w_2232) (hnoM := rfl) (hS8 := Nat.le_of_ble_eq_true rfl) (ci := 11) (N := 38) (C := "BeaconIndexModel") (T := xF11) (hc := rfl) (hci := Nat.le_of_ble_eq_true rfl) (htb := (ft_53 F)) (hinst := w_2234) (hsel := sel_M_whereInSegments) (hlen := Nat.le_of_ble_eq_true rfl) (hst := rfl) (hL0 := rfl)  (xwp_mono hyp (fun v9 h9 q9 => xr_drop (L9 := [xR 53, xZ, xI x2, xZ]) (xdrs (xdrz (xdrs (xdrs xdr0)))) q9) (fun _ _ z9 => z9))
      · exact absurd q9 (by decide)
theorem d_M_partWeight_51 : decode prog_14_method_109_code 51 = .ok (.istore_n 3, 1) := by decide +kernel
theorem d_M_partWeight_52 : decode prog_14_method_109_code 52 = .ok (.iload_n 3, 1) := by decide +kernel
theorem d_M_partWeight_53 : decode prog_14_method_109_code 53 = .ok (.iconst (-1), 1) := by decide +kernel
theorem d_M_partWeight_54 : decode prog_14_method_109_code 54 = .ok (.if_icmp .ne 5, 3) := by decide +kernel
theorem d_M_partWeight_59 : decode prog_14_method_109_code 59 = .ok (.aload_n 0, 1) := by decide +kernel
theorem d_M_partWeight_60 : decode prog_14_method_109_code 60 = .ok (.invokevirtual 383, 3) := by decide +kernel
theorem d_M_partWeight_57 : decode prog_14_method_109_code 57 = .ok (.iconst 0, 1) := by decide +kernel
theorem d_M_partWeight_58 : decode prog_14_method_109_code 58 = .ok (.ireturn, 1) := by decide +kernel
theorem v_M_partWeight_51 {G : XG} {d : Nat} {h : XH} {Q : XV → XH → Prop} {X : Nat → XH → Prop} {x2 s0 : Int} (F : xFix h) (hyp : ((s0 = (-1) → (Q (xI 0) h)) ∧ (¬ s0 = (-1) → (xwp G m_M_reckon (d + 4) 0 [xR 53, xZ, xZ, xZ, xZ, xZ, xZ] [] h (fun v9 h9 => xwp G m_M_partWeight (d + 5) 63 [xR 53, xZ, xI x2, xI s0] (xpush v9 []) h9 Q X) X)))) : xwp G m_M_partWeight (d + 5) 51 [xR 53, xZ, xI x2, xZ] [xI s0] h Q X := by
  have hnx9 : (93 : Int) ≤ xnx h := F.2.2
  refine xr_okL (fun hl9 => ?_)
  have r_x2 : -2147483648 ≤ x2 ∧ x2 ≤ 2147483647 := hl9 (xI x2) (.tail _ (.tail _ (.head _))) (Nat.le_of_ble_eq_true rfl)
  refine xr_okS (fun hs9 => ?_)
  have r_s0 : -2147483648 ≤ s0 ∧ s0 ≤ 2147483647 := hs9 (xI s0) (.head _)
  refine xr_istore_n (pc := 51) (i := 3) (L9 := [xR 53, xZ, xI x2, xI s0]) (hI := d_M_partWeight_51) (hi := rfl) (hn := Nat.le_of_ble_eq_true rfl) (hL9 := rfl) ?_
  refine xr_iload_n (pc := 52) (i := 3) (hI := d_M_partWeight_52) (hi := rfl) (hl := rfl) ?_
  refine xr_iconst (pc := 53) (hI := d_M_partWeight_53) (hr := by decide) ?_
  refine xr_icmp_ne (pc := 54) (tgt := 59) (hI := d_M_partWeight_54) (ht := by decide) (fun q9 => ?_) (fun q9 => ?_)
  · replace hyp := hyp.2 q9
    have q1_ := q9
    clear q9
    refine xr_aload_n (pc := 59) (i := 0) (hI := d_M_partWeight_59) (hi := rfl) (hl := rfl) ?_
    exact xq_callV (pc := 60) (index := 383) (K := m_M_reckon) (As := []) (S := []) (L0 := [xR 53, xZ, xZ, xZ, xZ, xZ, xZ]) (hI := d_M_partWeight_60) (hK := k_M_reckon) (hlk := w_2372) (hnoM := rfl) (hS8 := Nat.le_of_ble_eq_true rfl) (ci := 11) (N := 38) (C := "BeaconIndexModel") (T := xF11) (hc := rfl) (hci := Nat.le_of_ble_eq_true rfl) (htb := (ft_53 F)) (hinst := w_2374) (hsel := sel_M_reckon) (hlen := Nat.le_of_ble_eq_true rfl) (hst := rfl) (hL0 := rfl)  hyp
  · replace hyp := hyp.1 q9
    have q1_ := q9
    clear q9
    refine xr_iconst (pc := 57) (hI := d_M_partWeight_57) (hr := by decide) ?_
    refine xr_ireturn (S := []) (pc := 58) (hI := d_M_partWeight_58) (hr := rfl) ?_
    exact hyp
theorem d_M_partWeight_63 : decode prog_14_method_109_code 63 = .ok (.aload_n 0, 1) := by decide +kernel
theorem d_M_partWeight_64 : decode prog_14_method_109_code 64 = .ok (.iload_n 3, 1) := by decide +kernel
theorem d_M_partWeight_65 : decode prog_14_method_109_code 65 = .ok (.iconst (-1), 1) := by decide +kernel
theorem d_M_partWeight_66 : decode prog_14_method_109_code 66 = .ok (.invokevirtual 386, 3) := by decide +kernel
theorem v_M_partWeight_63 {G : XG} {d : Nat} {h : XH} {Q : XV → XH → Prop} {X : Nat → XH → Prop} {x2 x3 : Int} (F : xFix h) (hyp : (xwp G m_M_look (d + 4) 0 [xR 53, xI x3, xI (-1), xZ, xZ, xZ] [] h (fun v9 h9 => xwp G m_M_partWeight (d + 5) 69 [xR 53, xZ, xI x2, xZ] (xpush v9 []) h9 Q X) X)) : xwp G m_M_partWeight (d + 5) 63 [xR 53, xZ, xI x2, xI x3] [] h Q X := by
  have hnx9 : (93 : Int) ≤ xnx h := F.2.2
  refine xr_okL (fun hl9 => ?_)
  have r_x2 : -2147483648 ≤ x2 ∧ x2 ≤ 2147483647 := hl9 (xI x2) (.tail _ (.tail _ (.head _))) (Nat.le_of_ble_eq_true rfl)
  have r_x3 : -2147483648 ≤ x3 ∧ x3 ≤ 2147483647 := hl9 (xI x3) (.tail _ (.tail _ (.tail _ (.head _)))) (Nat.le_of_ble_eq_true rfl)
  refine xr_aload_n (pc := 63) (i := 0) (hI := d_M_partWeight_63) (hi := rfl) (hl := rfl) ?_
  refine xr_iload_n (pc := 64) (i := 3) (hI := d_M_partWeight_64) (hi := rfl) (hl := rfl) ?_
  refine xr_iconst (pc := 65) (hI := d_M_partWeight_65) (hr := by decide) ?_
  exact xq_callV (pc := 66) (index := 386) (K := m_M_look) (As := [xI x3, xI (-1)]) (S := []) (L0 := [xR 53, xI x3, xI (-1), xZ, xZ, xZ]) (hI := d_M_partWeight_66) (hK := k_M_look) (hlk := w_2405) (hnoM := rfl) (hS8 := Nat.le_of_ble_eq_true rfl) (ci := 11) (N := 38) (C := "BeaconIndexModel") (T := xF11) (hc := rfl) (hci := Nat.le_of_ble_eq_true rfl) (htb := (ft_53 F)) (hinst := w_2407) (hsel := sel_M_look) (hlen := Nat.le_of_ble_eq_true rfl) (hst := rfl) (hL0 := rfl)  (xwp_mono hyp (fun v9 h9 q9 => xr_drop (L9 := [xR 53, xZ, xI x2, xZ]) (xdrs (xdrs (xdrs (xdrz xdr0)))) q9) (fun _ _ z9 => z9))
theorem d_M_partWeight_69 : decode prog_14_method_109_code 69 = .ok (.pop, 1) := by decide +kernel
theorem d_M_partWeight_70 : decode prog_14_method_109_code 70 = .ok (.aload_n 0, 1) := by decide +kernel
theorem d_M_partWeight_71 : decode prog_14_method_109_code 71 = .ok (.getfield 82, 3) := by decide +kernel
theorem d_M_partWeight_74 : decode prog_14_method_109_code 74 = .ok (.aload_n 0, 1) := by decide +kernel
theorem d_M_partWeight_75 : decode prog_14_method_109_code 75 = .ok (.iload_n 2, 1) := by decide +kernel
theorem d_M_partWeight_76 : decode prog_14_method_109_code 76 = .ok (.invokevirtual 460, 3) := by decide +kernel
theorem k_M_topPart : xCal m_M_topPart 1 := ⟨List.mem_append_right _ (List.mem_of_getElem? (i := 2453) (by decide +kernel)), w_15, Nat.le_of_ble_eq_true rfl, ⟨by decide +kernel, by decide +kernel⟩, by decide +kernel, by decide +kernel, rfl⟩
theorem w_2450 : Cond.methodLink "BeaconIndexModel" 460 ⟨"BeaconIndexModel", "topPart", "(I)I"⟩ ∈ lw_tbl := List.mem_append_right _ (List.mem_of_getElem? (i := 2450) (by decide +kernel))
theorem w_2452 : Cond.instanceMethod ⟨"BeaconIndexModel", "topPart", "(I)I"⟩ ∈ lw_tbl := List.mem_append_right _ (List.mem_of_getElem? (i := 2452) (by decide +kernel))
theorem sel_M_topPart : Cond.selects "BeaconIndexModel" ⟨"BeaconIndexModel", "topPart", "(I)I"⟩ ⟨"BeaconIndexModel", "topPart", "(I)I"⟩ ∈ lw_tbl := List.mem_append_left _ (by decide +kernel)
theorem v_M_partWeight_69 {G : XG} {d : Nat} {h : XH} {Q : XV → XH → Prop} {X : Nat → XH → Prop} {x2 s0 : Int} (F : xFix h) (hyp : (xwp G m_M_topPart (d + 4) 0 [xR 53, xI x2, xZ, xZ] [] h (fun v9 h9 => xwp G m_M_partWeight (d + 5) 79 [xZ, xZ, xZ, xZ] (xpush v9 [xR 86]) h9 Q X) X)) : xwp G m_M_partWeight (d + 5) 69 [xR 53, xZ, xI x2, xZ] [xI s0] h Q X := by
  have hnx9 : (93 : Int) ≤ xnx h := F.2.2
  refine xr_okL (fun hl9 => ?_)
  have r_x2 : -2147483648 ≤ x2 ∧ x2 ≤ 2147483647 := hl9 (xI x2) (.tail _ (.tail _ (.head _))) (Nat.le_of_ble_eq_true rfl)
  refine xr_okS (fun hs9 => ?_)
  have r_s0 : -2147483648 ≤ s0 ∧ s0 ≤ 2147483647 := hs9 (xI s0) (.head _)
  refine xr_pop (pc := 69) (hI := d_M_partWeight_69) (hv := rfl) ?_
  refine xr_aload_n (pc := 70) (i := 0) (hI := d_M_partWeight_70) (hi := rfl) (hl := rfl) ?_
  refine xg_getf (pc := 71) (ci := 11) (k := 32) (N := 38) (v9 := 2) (v := 86) (T := xF11) (hI := d_M_partWeight_71) (hw := w_1619) rfl xi11 (Or.inl rfl) (Nat.le_of_ble_eq_true rfl) (Nat.le_of_ble_eq_true rfl) rfl (ft_53 F) (fp_53_32 F) (fun f1_ => ?_)
  clear f1_
  refine xr_aload_n (pc := 74) (i := 0) (hI := d_M_partWeight_74) (hi := rfl) (hl := rfl) ?_
  refine xr_iload_n (pc := 75) (i := 2) (hI := d_M_partWeight_75) (hi := rfl) (hl := rfl) ?_
  exact xq_callV (pc := 76) (index := 460) (K := m_M_topPart) (As := [xI x2]) (S := [xR 86]) (L0 := [xR 53, xI x2, xZ, xZ]) (hI := d_M_partWeight_76) (hK := k_M_topPart) (hlk := w_2450) (hnoM := rfl) (hS8 := Nat.le_of_ble_eq_true rfl) (ci := 11) (N := 38) (C := "BeaconIndexModel") (T := xF11) (hc := rfl) (hci := Nat.le_of_ble_eq_true rfl) (htb := (ft_53 F)) (hinst := w_2452) (hsel := sel_M_topPart) (hlen := Nat.le_of_ble_eq_true rfl) (hst := rfl) (hL0 := rfl)  (xwp_mono hyp (fun v9 h9 q9 => xr_drop (L9 := [xZ, xZ, xZ, xZ]) (xdrz (xdrs (xdrz (xdrs xdr0)))) q9) (fun _ _ z9 => z9))
theorem d_M_partWeight_79 : decode prog_14_method_109_code 79 = .ok (.iaload, 1) := by decide +kernel
theorem d_M_partWeight_80 : decode prog_14_method_109_code 80 = .ok (.ireturn, 1) := by decide +kernel
theorem v_M_partWeight_79 {G : XG} {d : Nat} {h : XH} {Q : XV → XH → Prop} {X : Nat → XH → Prop} {s0 s1 : Int} (F : xFix h) (hyp : xtg h s1 = 100 ∧ 0 ≤ s0 ∧ s0 < (xln h s1) ∧ (Q (xI (xpl h s1 s0)) h)) : xwp G m_M_partWeight (d + 5) 79 [xZ, xZ, xZ, xZ] [xI s0, xR s1] h Q X := by
  have hnx9 : (93 : Int) ≤ xnx h := F.2.2
  refine xr_okS (fun hs9 => ?_)
  have r_s0 : -2147483648 ≤ s0 ∧ s0 ≤ 2147483647 := hs9 (xI s0) (.head _)
  obtain ⟨c9, hyp⟩ := hyp
  have t1_ := c9
  clear c9
  obtain ⟨c2_, hyp⟩ := hyp
  obtain ⟨c3_, hyp⟩ := hyp
  refine xg_iaload (pc := 79) (v := (xpl h s1 s0)) (hI := d_M_partWeight_79) t1_ c2_ (xlt_of rfl c3_) rfl (fun f4_ => ?_)
  replace f4_ : -2147483648 ≤ (xpl h s1 s0) ∧ (xpl h s1 s0) ≤ 2147483647 := f4_
  refine xr_ireturn (S := []) (pc := 80) (hI := d_M_partWeight_80) (hr := rfl) ?_
  exact hyp
abbrev m_M_foundWithout : XM := (⟨"BeaconIndexModel", "foundWithout", "(I)I"⟩, prog_14_method_110_code, 2, (some .int), [])
theorem d_M_foundWithout_0 : decode prog_14_method_110_code 0 = .ok (.aload_n 0, 1) := by decide +kernel
theorem d_M_foundWithout_1 : decode prog_14_method_110_code 1 = .ok (.aload_n 0, 1) := by decide +kernel
theorem d_M_foundWithout_2 : decode prog_14_method_110_code 2 = .ok (.getfield 448, 3) := by decide +kernel
theorem d_M_foundWithout_5 : decode prog_14_method_110_code 5 = .ok (.invokevirtual 407, 3) := by decide +kernel
theorem d_M_foundWithout_8 : decode prog_14_method_110_code 8 = .ok (.ifCond .ne 5, 3) := by decide +kernel
theorem d_M_foundWithout_11 : decode prog_14_method_110_code 11 = .ok (.iconst 0, 1) := by decide +kernel
theorem d_M_foundWithout_12 : decode prog_14_method_110_code 12 = .ok (.ireturn, 1) := by decide +kernel
theorem d_M_foundWithout_13 : decode prog_14_method_110_code 13 = .ok (.iload_n 1, 1) := by decide +kernel
theorem d_M_foundWithout_14 : decode prog_14_method_110_code 14 = .ok (.iconst 0, 1) := by decide +kernel
theorem d_M_foundWithout_15 : decode prog_14_method_110_code 15 = .ok (.aload_n 0, 1) := by decide +kernel
theorem d_M_foundWithout_16 : decode prog_14_method_110_code 16 = .ok (.invokevirtual 451, 3) := by decide +kernel
theorem v_M_foundWithout_0 {G : XG} {d : Nat} {h : XH} {Q : XV → XH → Prop} {X : Nat → XH → Prop} {x1 : Int} (F : xFix h) (hyp : (((xpl h 53 18) = 0 → (xFix (xst h 53 0 1) → Q (xI 0) (xst h 53 0 1))) ∧ (¬ (xpl h 53 18) = 0 → (xFix (xst h 53 0 0) → xwp G m_M_topParts (d + 5) 0 [xR 53, xZ, xZ] [] (xst h 53 0 0) (fun v9 h9 => xwp G m_M_foundWithout (d + 6) 19 [xR 53, xI x1] (xpush v9 [xI 0, xI x1]) h9 Q X) X)))) : xwp G m_M_foundWithout (d + 6) 0 [xR 53, xI x1] [] h Q X := by
  have hnx9 : (93 : Int) ≤ xnx h := F.2.2
  refine xr_okL (fun hl9 => ?_)
  have r_x1 : -2147483648 ≤ x1 ∧ x1 ≤ 2147483647 := hl9 (xI x1) (.tail _ (.head _)) (Nat.le_of_ble_eq_true rfl)
  refine xr_aload_n (pc := 0) (i := 0) (hI := d_M_foundWithout_0) (hi := rfl) (hl := rfl) ?_
  refine xr_aload_n (pc := 1) (i := 0) (hI := d_M_foundWithout_1) (hi := rfl) (hl := rfl) ?_
  refine xg_getfZ (pc := 2) (ci := 11) (k := 18) (N := 38) (v := (xpl h 53 18)) (T := xF11) (hI := d_M_foundWithout_2) (hw := w_1605) rfl xi11 (Or.inl rfl) (Nat.le_of_ble_eq_true rfl) (Nat.le_of_ble_eq_true rfl) rfl (ft_53 F) rfl (fun f1_ => ?_)
  replace f1_ : 0 ≤ (xpl h 53 18) ∧ (xpl h 53 18) ≤ 1 := f1_
  refine xq_callV (pc := 5) (index := 407) (K := m_M_isKnown) (As := [xI (xpl h 53 18)]) (S := []) (L0 := [xR 53, xI (xpl h 53 18)]) (hI := d_M_foundWithout_5) (hK := k_M_isKnown) (hlk := w_1810) (hnoM := rfl) (hS8 := Nat.le_of_ble_eq_true rfl) (ci := 11) (N := 38) (C := "BeaconIndexModel") (T := xF11) (hc := rfl) (hci := Nat.le_of_ble_eq_true rfl) (htb := (ft_53 F)) (hinst := w_1812) (hsel := sel_M_isKnown) (hlen := Nat.le_of_ble_eq_true rfl) (hst := rfl) (hL0 := rfl)  ?_
  refine xr_aload_n (pc := 0) (i := 0) (hI := d_M_isKnown_0) (hi := rfl) (hl := rfl) ?_
  refine xr_iload_n (pc := 1) (i := 1) (hI := d_M_isKnown_1) (hi := rfl) (hl := rfl) ?_
  refine xr_if_eq (pc := 2) (tgt := 9) (hI := d_M_isKnown_2) (ht := by decide) (fun q9 => ?_) (fun q9 => ?_)
  · replace hyp := hyp.1 q9
    have q2_ := q9
    clear q9
    refine xr_iconst (pc := 9) (hI := d_M_isKnown_9) (hr := by decide) ?_
    refine xr_putf (pc := 10) (ci := 11) (k := 0) (N := 38) (v9 := 0) (T := xF11) (tF := xT11) (hI := d_M_isKnown_10) (hw := w_1587) rfl xi11 xt11 xn11 (Or.inl rfl) (Nat.le_of_ble_eq_true rfl) (Nat.le_of_ble_eq_true rfl) rfl xfit_i rfl (ft_53 F) (by decide) (fun z => z) ?_
    have F3_ : xFix (xst h 53 0 1) := F.stL xfk_53_0
    refine xr_iload_n (pc := 13) (i := 1) (hI := d_M_isKnown_13) (hi := rfl) (hl := rfl) ?_
    refine xr_ireturnT (S := []) (pc := 14) (hI := d_M_isKnown_14) (hr := rfl) (xnar_z ⟨(by clear hyp; omega), (by clear hyp; omega)⟩) ?_
    show xwp G m_M_foundWithout (d + 6) 8 [xR 53, xI x1] [xI (xpl h 53 18)] _ _ _
    refine xr_if_ne (pc := 8) (tgt := 13) (hI := d_M_foundWithout_8) (ht := by decide) (fun q9 => ?_) (fun q9 => ?_)
    · exact absurd q9 (by clear hyp; omega)
    · clear q9
      refine xr_iconst (pc := 11) (hI := d_M_foundWithout_11) (hr := by decide) ?_
      refine xr_ireturn (S := []) (pc := 12) (hI := d_M_foundWithout_12) (hr := rfl) ?_
      exact hyp F3_
  · replace hyp := hyp.2 q9
    have q2_ := q9
    clear q9
    refine xr_iconst (pc := 5) (hI := d_M_isKnown_5) (hr := by decide) ?_
    refine xr_goto (pc := 6) (tgt := 10) (hI := d_M_isKnown_6) (ht := by decide) ?_
    refine xr_putf (pc := 10) (ci := 11) (k := 0) (N := 38) (v9 := 0) (T := xF11) (tF := xT11) (hI := d_M_isKnown_10) (hw := w_1587) rfl xi11 xt11 xn11 (Or.inl rfl) (Nat.le_of_ble_eq_true rfl) (Nat.le_of_ble_eq_true rfl) rfl xfit_i rfl (ft_53 F) (by decide) (fun z => z) ?_
    have F4_ : xFix (xst h 53 0 0) := F.stL xfk_53_0
    refine xr_iload_n (pc := 13) (i := 1) (hI := d_M_isKnown_13) (hi := rfl) (hl := rfl) ?_
    refine xr_ireturnT (S := []) (pc := 14) (hI := d_M_isKnown_14) (hr := rfl) (xnar_z ⟨(by clear hyp; omega), (by clear hyp; omega)⟩) ?_
    show xwp G m_M_foundWithout (d + 6) 8 [xR 53, xI x1] [xI (xpl h 53 18)] _ _ _
    refine xr_if_ne (pc := 8) (tgt := 13) (hI := d_M_foundWithout_8) (ht := by decide) (fun q9 => ?_) (fun q9 => ?_)
    · clear q9
      refine xr_iload_n (pc := 13) (i := 1) (hI := d_M_foundWithout_13) (hi := rfl) (hl := rfl) ?_
      refine xr_iconst (pc := 14) (hI := d_M_foundWithout_14) (hr := by decide) ?_
      refine xr_aload_n (pc := 15) (i := 0) (hI := d_M_foundWithout_15) (hi := rfl) (hl := rfl) ?_
      exact xq_callV (pc := 16) (index := 451) (K := m_M_topParts) (As := []) (S := [xI 0, xI x1]) (L0 := [xR 53, xZ, xZ]) (hI := d_M_foundWithout_16) (hK := k_M_topParts) (hlk := w_2360) (hnoM := rfl) (hS8 := Nat.le_of_ble_eq_true rfl) (ci := 11) (N := 38) (C := "BeaconIndexModel") (T := xF11) (hc := rfl) (hci := Nat.le_of_ble_eq_true rfl) (htb := (ft_53 F4_)) (hinst := w_2362) (hsel := sel_M_topParts) (hlen := Nat.le_of_ble_eq_true rfl) (hst := rfl) (hL0 := rfl)  (hyp F4_)
    · exact absurd q9 (by clear hyp; omega)
theorem d_M_foundWithout_19 : decode prog_14_method_110_code 19 = .ok (.iconst 1, 1) := by decide +kernel
theorem d_M_foundWithout_20 : decode prog_14_method_110_code 20 = .ok (.isub, 1) := by decide +kernel
theorem d_M_foundWithout_21 : decode prog_14_method_110_code 21 = .ok (.invokestatic 101, 3) := by decide +kernel
theorem d_M_foundWithout_24 : decode prog_14_method_110_code 24 = .ok (.ifCond .eq 15, 3) := by decide +kernel
theorem d_M_foundWithout_39 : decode prog_14_method_110_code 39 = .ok (.aload_n 0, 1) := by decide +kernel
theorem d_M_foundWithout_40 : decode prog_14_method_110_code 40 = .ok (.iconst 2, 1) := by decide +kernel
theorem d_M_foundWithout_41 : decode prog_14_method_110_code 41 = .ok (.invokevirtual 395, 3) := by decide +kernel
theorem d_M_foundWithout_44 : decode prog_14_method_110_code 44 = .ok (.ireturn, 1) := by decide +kernel
theorem d_M_foundWithout_27 : decode prog_14_method_110_code 27 = .ok (.aload_n 0, 1) := by decide +kernel
theorem d_M_foundWithout_28 : decode prog_14_method_110_code 28 = .ok (.aload_n 0, 1) := by decide +kernel
theorem d_M_foundWithout_29 : decode prog_14_method_110_code 29 = .ok (.iload_n 1, 1) := by decide +kernel
theorem d_M_foundWithout_30 : decode prog_14_method_110_code 30 = .ok (.invokevirtual 460, 3) := by decide +kernel
theorem v_M_foundWithout_19 {G : XG} {d : Nat} {h : XH} {Q : XV → XH → Prop} {X : Nat → XH → Prop} {x1 s0 s1 s2 : Int} (F : xFix h) (hyp : xiR (s0 - 1) ∧ ((s2 < s1 → (xFix (xst h 53 0 2) → Q (xI 0) (xst h 53 0 2))) ∧ (¬ s2 < s1 → (((s0 - 1) < s2 → (xFix (xst h 53 0 2) → Q (xI 0) (xst h 53 0 2))) ∧ (¬ (s0 - 1) < s2 → (xwp G m_M_topPart (d + 5) 0 [xR 53, xI x1, xZ, xZ] [] h (fun v9 h9 => xwp G m_M_foundWithout (d + 6) 33 [xZ, xZ] (xpush v9 [xR 53]) h9 Q X) X)))))) : xwp G m_M_foundWithout (d + 6) 19 [xR 53, xI x1] [xI s0, xI s1, xI s2] h Q X := by
  have hnx9 : (93 : Int) ≤ xnx h := F.2.2
  refine xr_okL (fun hl9 => ?_)
  have r_x1 : -2147483648 ≤ x1 ∧ x1 ≤ 2147483647 := hl9 (xI x1) (.tail _ (.head _)) (Nat.le_of_ble_eq_true rfl)
  refine xr_okS (fun hs9 => ?_)
  have r_s0 : -2147483648 ≤ s0 ∧ s0 ≤ 2147483647 := hs9 (xI s0) (.head _)
  have r_s1 : -2147483648 ≤ s1 ∧ s1 ≤ 2147483647 := hs9 (xI s1) (.tail _ (.head _))
  have r_s2 : -2147483648 ≤ s2 ∧ s2 ≤ 2147483647 := hs9 (xI s2) (.tail _ (.tail _ (.head _)))
  refine xr_iconst (pc := 19) (hI := d_M_foundWithout_19) (hr := by decide) ?_
  obtain ⟨c9, hyp⟩ := hyp
  refine xr_isub (pc := 20) (hI := d_M_foundWithout_20) (hr := c9) ?_
  refine xq_callS (pc := 21) (index := 101) (K := m_M_isBetween) (As := [xI s2, xI s1, xI (s0 - 1)]) (S := []) (L0 := [xI s2, xI s1, xI (s0 - 1)]) (hI := d_M_foundWithout_21) (hK := k_M_isBetween) (hlk := w_1718) (hnoM := rfl) (hS8 := Nat.le_of_ble_eq_true rfl) (hstat := w_1719) (hlen := Nat.le_of_ble_eq_true rfl) (hst := rfl) (hL0 := rfl)  ?_
  refine xr_iload_n (pc := 0) (i := 0) (hI := d_M_isBetween_0) (hi := rfl) (hl := rfl) ?_
  refine xr_iload_n (pc := 1) (i := 1) (hI := d_M_isBetween_1) (hi := rfl) (hl := rfl) ?_
  refine xr_icmp_lt (pc := 2) (tgt := 14) (hI := d_M_isBetween_2) (ht := by decide) (fun q9 => ?_) (fun q9 => ?_)
  · replace hyp := hyp.1 q9
    have q1_ := q9
    clear q9
    refine xr_iconst (pc := 14) (hI := d_M_isBetween_14) (hr := by decide) ?_
    refine xr_ireturnT (S := []) (pc := 15) (hI := d_M_isBetween_15) (hr := rfl) (xnar_z (by decide)) ?_
    show xwp G m_M_foundWithout (d + 6) 24 [xR 53, xI x1] [xI 0] _ _ _
    refine xr_if_eq (pc := 24) (tgt := 39) (hI := d_M_foundWithout_24) (ht := by decide) (fun q9 => ?_) (fun q9 => ?_)
    · clear q9
      refine xr_aload_n (pc := 39) (i := 0) (hI := d_M_foundWithout_39) (hi := rfl) (hl := rfl) ?_
      refine xr_iconst (pc := 40) (hI := d_M_foundWithout_40) (hr := by decide) ?_
      refine xq_callV (pc := 41) (index := 395) (K := m_M_no) (As := [xI 2]) (S := []) (L0 := [xR 53, xI 2]) (hI := d_M_foundWithout_41) (hK := k_M_no) (hlk := w_1710) (hnoM := rfl) (hS8 := Nat.le_of_ble_eq_true rfl) (ci := 11) (N := 38) (C := "BeaconIndexModel") (T := xF11) (hc := rfl) (hci := Nat.le_of_ble_eq_true rfl) (htb := (ft_53 F)) (hinst := w_1712) (hsel := sel_M_no) (hlen := Nat.le_of_ble_eq_true rfl) (hst := rfl) (hL0 := rfl)  ?_
      refine xr_aload_n (pc := 0) (i := 0) (hI := d_M_no_0) (hi := rfl) (hl := rfl) ?_
      refine xr_iload_n (pc := 1) (i := 1) (hI := d_M_no_1) (hi := rfl) (hl := rfl) ?_
      refine xr_putf (pc := 2) (ci := 11) (k := 0) (N := 38) (v9 := 0) (T := xF11) (tF := xT11) (hI := d_M_no_2) (hw := w_1587) rfl xi11 xt11 xn11 (Or.inl rfl) (Nat.le_of_ble_eq_true rfl) (Nat.le_of_ble_eq_true rfl) rfl xfit_i rfl (ft_53 F) (by decide) (fun z => z) ?_
      have F2_ : xFix (xst h 53 0 2) := F.stL xfk_53_0
      refine xr_iconst (pc := 5) (hI := d_M_no_5) (hr := by decide) ?_
      refine xr_ireturn (S := []) (pc := 6) (hI := d_M_no_6) (hr := rfl) ?_
      show xwp G m_M_foundWithout (d + 6) 44 [xR 53, xI x1] [xI 0] _ _ _
      refine xr_ireturn (S := []) (pc := 44) (hI := d_M_foundWithout_44) (hr := rfl) ?_
      exact hyp F2_
    · exact absurd q9 (by decide)
  · replace hyp := hyp.2 q9
    have q1_ := q9
    clear q9
    refine xr_iload_n (pc := 5) (i := 0) (hI := d_M_isBetween_5) (hi := rfl) (hl := rfl) ?_
    refine xr_iload_n (pc := 6) (i := 2) (hI := d_M_isBetween_6) (hi := rfl) (hl := rfl) ?_
    refine xr_icmp_gt (pc := 7) (tgt := 14) (hI := d_M_isBetween_7) (ht := by decide) (fun q9 => ?_) (fun q9 => ?_)
    · replace hyp := hyp.1 q9
      have q3_ := q9
      clear q9
      refine xr_iconst (pc := 14) (hI := d_M_isBetween_14) (hr := by decide) ?_
      refine xr_ireturnT (S := []) (pc := 15) (hI := d_M_isBetween_15) (hr := rfl) (xnar_z (by decide)) ?_
      show xwp G m_M_foundWithout (d + 6) 24 [xR 53, xI x1] [xI 0] _ _ _
      refine xr_if_eq (pc := 24) (tgt := 39) (hI := d_M_foundWithout_24) (ht := by decide) (fun q9 => ?_) (fun q9 => ?_)
      · clear q9
        refine xr_aload_n (pc := 39) (i := 0) (hI := d_M_foundWithout_39) (hi := rfl) (hl := rfl) ?_
        refine xr_iconst (pc := 40) (hI := d_M_foundWithout_40) (hr := by decide) ?_
        refine xq_callV (pc := 41) (index := 395) (K := m_M_no) (As := [xI 2]) (S := []) (L0 := [xR 53, xI 2]) (hI := d_M_foundWithout_41) (hK := k_M_no) (hlk := w_1710) (hnoM := rfl) (hS8 := Nat.le_of_ble_eq_true rfl) (ci := 11) (N := 38) (C := "BeaconIndexModel") (T := xF11) (hc := rfl) (hci := Nat.le_of_ble_eq_true rfl) (htb := (ft_53 F)) (hinst := w_1712) (hsel := sel_M_no) (hlen := Nat.le_of_ble_eq_true rfl) (hst := rfl) (hL0 := rfl)  ?_
        refine xr_aload_n (pc := 0) (i := 0) (hI := d_M_no_0) (hi := rfl) (hl := rfl) ?_
        refine xr_iload_n (pc := 1) (i := 1) (hI := d_M_no_1) (hi := rfl) (hl := rfl) ?_
        refine xr_putf (pc := 2) (ci := 11) (k := 0) (N := 38) (v9 := 0) (T := xF11) (tF := xT11) (hI := d_M_no_2) (hw := w_1587) rfl xi11 xt11 xn11 (Or.inl rfl) (Nat.le_of_ble_eq_true rfl) (Nat.le_of_ble_eq_true rfl) rfl xfit_i rfl (ft_53 F) (by decide) (fun z => z) ?_
        have F4_ : xFix (xst h 53 0 2) := F.stL xfk_53_0
        refine xr_iconst (pc := 5) (hI := d_M_no_5) (hr := by decide) ?_
        refine xr_ireturn (S := []) (pc := 6) (hI := d_M_no_6) (hr := rfl) ?_
        show xwp G m_M_foundWithout (d + 6) 44 [xR 53, xI x1] [xI 0] _ _ _
        refine xr_ireturn (S := []) (pc := 44) (hI := d_M_foundWithout_44) (hr := rfl) ?_
        exact hyp F4_
      · exact absurd q9 (by decide)
    · replace hyp := hyp.2 q9
      have q3_ := q9
      clear q9
      refine xr_iconst (pc := 10) (hI := d_M_isBetween_10) (hr := by decide) ?_
      refine xr_goto (pc := 11) (tgt := 15) (hI := d_M_isBetween_11) (ht := by decide) ?_
      refine xr_ireturnT (S := []) (pc := 15) (hI := d_M_isBetween_15) (hr := rfl) (xnar_z (by decide)) ?_
      show xwp G m_M_foundWithout (d + 6) 24 [xR 53, xI x1] [xI 1] _ _ _
      refine xr_if_eq (pc := 24) (tgt := 39) (hI := d_M_foundWithout_24) (ht := by decide) (fun q9 => ?_) (fun q9 => ?_)
      · exact absurd q9 (by decide)
      · clear q9
        refine xr_aload_n (pc := 27) (i := 0) (hI := d_M_foundWithout_27) (hi := rfl) (hl := rfl) ?_
        refine xr_aload_n (pc := 28) (i := 0) (hI := d_M_foundWithout_28) (hi := rfl) (hl := rfl) ?_
        refine xr_iload_n (pc := 29) (i := 1) (hI := d_M_foundWithout_29) (hi := rfl) (hl := rfl) ?_
        exact xq_callV (pc := 30) (index := 460) (K := m_M_topPart) (As := [xI x1]) (S := [xR 53]) (L0 := [xR 53, xI x1, xZ, xZ]) (hI := d_M_foundWithout_30) (hK := k_M_topPart) (hlk := w_2450) (hnoM := rfl) (hS8 := Nat.le_of_ble_eq_true rfl) (ci := 11) (N := 38) (C := "BeaconIndexModel") (T := xF11) (hc := rfl) (hci := Nat.le_of_ble_eq_true rfl) (htb := (ft_53 F)) (hinst := w_2452) (hsel := sel_M_topPart) (hlen := Nat.le_of_ble_eq_true rfl) (hst := rfl) (hL0 := rfl)  (xwp_mono hyp (fun v9 h9 q9 => xr_drop (L9 := [xZ, xZ]) (xdrz (xdrz xdr0)) q9) (fun _ _ z9 => z9))
theorem d_M_foundWithout_33 : decode prog_14_method_110_code 33 = .ok (.invokevirtual 463, 3) := by decide +kernel
theorem k_M_manyBut : xCal m_M_manyBut 1 := ⟨List.mem_append_right _ (List.mem_of_getElem? (i := 2461) (by decide +kernel)), w_15, Nat.le_of_ble_eq_true rfl, ⟨by decide +kernel, by decide +kernel⟩, by decide +kernel, by decide +kernel, rfl⟩
theorem w_2458 : Cond.methodLink "BeaconIndexModel" 463 ⟨"BeaconIndexModel", "manyBut", "(I)I"⟩ ∈ lw_tbl := List.mem_append_right _ (List.mem_of_getElem? (i := 2458) (by decide +kernel))
theorem w_2460 : Cond.instanceMethod ⟨"BeaconIndexModel", "manyBut", "(I)I"⟩ ∈ lw_tbl := List.mem_append_right _ (List.mem_of_getElem? (i := 2460) (by decide +kernel))
theorem sel_M_manyBut : Cond.selects "BeaconIndexModel" ⟨"BeaconIndexModel", "manyBut", "(I)I"⟩ ⟨"BeaconIndexModel", "manyBut", "(I)I"⟩ ∈ lw_tbl := List.mem_append_left _ (by decide +kernel)
theorem v_M_foundWithout_33 {G : XG} {d : Nat} {h : XH} {Q : XV → XH → Prop} {X : Nat → XH → Prop} {s0 s1 : Int} (F : xFix h) (hyp : xtg h s1 = 11 ∧ (xwp G m_M_manyBut (d + 5) 0 [xR s1, xI s0, xZ, xZ] [] h (fun v9 h9 => xwp G m_M_foundWithout (d + 6) 36 [xZ, xZ] (xpush v9 []) h9 Q X) X)) : xwp G m_M_foundWithout (d + 6) 33 [xZ, xZ] [xI s0, xR s1] h Q X := by
  have hnx9 : (93 : Int) ≤ xnx h := F.2.2
  refine xr_okS (fun hs9 => ?_)
  have r_s0 : -2147483648 ≤ s0 ∧ s0 ≤ 2147483647 := hs9 (xI s0) (.head _)
  obtain ⟨c9, hyp⟩ := hyp
  have t1_ := c9
  clear c9
  exact xq_callV (pc := 33) (index := 463) (K := m_M_manyBut) (As := [xI s0]) (S := []) (L0 := [xR s1, xI s0, xZ, xZ]) (hI := d_M_foundWithout_33) (hK := k_M_manyBut) (hlk := w_2458) (hnoM := rfl) (hS8 := Nat.le_of_ble_eq_true rfl) (ci := 11) (N := 38) (C := "BeaconIndexModel") (T := xF11) (hc := rfl) (hci := Nat.le_of_ble_eq_true rfl) (htb := t1_) (hinst := w_2460) (hsel := sel_M_manyBut) (hlen := Nat.le_of_ble_eq_true rfl) (hst := rfl) (hL0 := rfl)  hyp
theorem d_M_foundWithout_36 : decode prog_14_method_110_code 36 = .ok (.goto 8, 3) := by decide +kernel
theorem v_M_foundWithout_36 {G : XG} {d : Nat} {h : XH} {Q : XV → XH → Prop} {X : Nat → XH → Prop} {s0 : Int} (F : xFix h) (hyp : (Q (xI s0) h)) : xwp G m_M_foundWithout (d + 6) 36 [xZ, xZ] [xI s0] h Q X := by
  have hnx9 : (93 : Int) ≤ xnx h := F.2.2
  refine xr_okS (fun hs9 => ?_)
  have r_s0 : -2147483648 ≤ s0 ∧ s0 ≤ 2147483647 := hs9 (xI s0) (.head _)
  refine xr_goto (pc := 36) (tgt := 44) (hI := d_M_foundWithout_36) (ht := by decide) ?_
  refine xr_ireturn (S := []) (pc := 44) (hI := d_M_foundWithout_44) (hr := rfl) ?_
  exact hyp
abbrev m_M_firstFit : XM := (⟨"BeaconIndexModel", "firstFit", "(II)I"⟩, prog_14_method_111_code, 4, (some .int), [])
theorem d_M_firstFit_0 : decode prog_14_method_111_code 0 = .ok (.aload_n 0, 1) := by decide +kernel
theorem d_M_firstFit_1 : decode prog_14_method_111_code 1 = .ok (.aload_n 0, 1) := by decide +kernel
theorem d_M_firstFit_2 : decode prog_14_method_111_code 2 = .ok (.getfield 448, 3) := by decide +kernel
theorem d_M_firstFit_5 : decode prog_14_method_111_code 5 = .ok (.invokevirtual 407, 3) := by decide +kernel
theorem d_M_firstFit_8 : decode prog_14_method_111_code 8 = .ok (.ifCond .ne 5, 3) := by decide +kernel
theorem d_M_firstFit_11 : decode prog_14_method_111_code 11 = .ok (.iconst 0, 1) := by decide +kernel
theorem d_M_firstFit_12 : decode prog_14_method_111_code 12 = .ok (.ireturn, 1) := by decide +kernel
theorem d_M_firstFit_13 : decode prog_14_method_111_code 13 = .ok (.iload_n 1, 1) := by decide +kernel
theorem d_M_firstFit_14 : decode prog_14_method_111_code 14 = .ok (.invokestatic 398, 3) := by decide +kernel
theorem d_M_firstFit_17 : decode prog_14_method_111_code 17 = .ok (.ifCond .ne 9, 3) := by decide +kernel
theorem d_M_firstFit_20 : decode prog_14_method_111_code 20 = .ok (.aload_n 0, 1) := by decide +kernel
theorem d_M_firstFit_21 : decode prog_14_method_111_code 21 = .ok (.iconst 2, 1) := by decide +kernel
theorem d_M_firstFit_22 : decode prog_14_method_111_code 22 = .ok (.invokevirtual 395, 3) := by decide +kernel
theorem d_M_firstFit_25 : decode prog_14_method_111_code 25 = .ok (.ireturn, 1) := by decide +kernel
theorem d_M_firstFit_26 : decode prog_14_method_111_code 26 = .ok (.iload_n 2, 1) := by decide +kernel
theorem d_M_firstFit_27 : decode prog_14_method_111_code 27 = .ok (.invokestatic 423, 3) := by decide +kernel
theorem d_M_firstFit_30 : decode prog_14_method_111_code 30 = .ok (.ifCond .ne 9, 3) := by decide +kernel
theorem d_M_firstFit_39 : decode prog_14_method_111_code 39 = .ok (.aload_n 0, 1) := by decide +kernel
theorem d_M_firstFit_40 : decode prog_14_method_111_code 40 = .ok (.iload_n 1, 1) := by decide +kernel
theorem d_M_firstFit_41 : decode prog_14_method_111_code 41 = .ok (.invokevirtual 438, 3) := by decide +kernel
theorem d_M_firstFit_33 : decode prog_14_method_111_code 33 = .ok (.aload_n 0, 1) := by decide +kernel
theorem d_M_firstFit_34 : decode prog_14_method_111_code 34 = .ok (.iconst 3, 1) := by decide +kernel
theorem d_M_firstFit_35 : decode prog_14_method_111_code 35 = .ok (.invokevirtual 395, 3) := by decide +kernel
theorem d_M_firstFit_38 : decode prog_14_method_111_code 38 = .ok (.ireturn, 1) := by decide +kernel
theorem v_M_firstFit_0 {G : XG} {d : Nat} {h : XH} {Q : XV → XH → Prop} {X : Nat → XH → Prop} {x1 x2 : Int} (F : xFix h) (hyp : (((xpl h 53 18) = 0 → (xFix (xst h 53 0 1) → Q (xI 0) (xst h 53 0 1))) ∧ (¬ (xpl h 53 18) = 0 → ((x1 < 0 → (xFix (xst (xst h 53 0 0) 53 0 2) → Q (xI 0) (xst (xst h 53 0 0) 53 0 2))) ∧ (¬ x1 < 0 → (((99 : Int) < x1 → (xFix (xst (xst h 53 0 0) 53 0 2) → Q (xI 0) (xst (xst h 53 0 0) 53 0 2))) ∧ (¬ (99 : Int) < x1 → ((x2 = 0 → (xFix (xst h 53 0 0) → xwp G m_M_whereInSegments (d + 5) 0 [xR 53, xI x1, xZ] [] (xst h 53 0 0) (fun v9 h9 => xwp G m_M_firstFit (d + 6) 44 [xR 53, xZ, xI x2, xZ] (xpush v9 []) h9 Q X) X)) ∧ (¬ x2 = 0 → ((x2 = 1 → (xFix (xst h 53 0 0) → xwp G m_M_whereInSegments (d + 5) 0 [xR 53, xI x1, xZ] [] (xst h 53 0 0) (fun v9 h9 => xwp G m_M_firstFit (d + 6) 44 [xR 53, xZ, xI x2, xZ] (xpush v9 []) h9 Q X) X)) ∧ (¬ x2 = 1 → (xFix (xst (xst h 53 0 0) 53 0 3) → Q (xI 0) (xst (xst h 53 0 0) 53 0 3))))))))))))) : xwp G m_M_firstFit (d + 6) 0 [xR 53, xI x1, xI x2, xZ] [] h Q X := by
  have hnx9 : (93 : Int) ≤ xnx h := F.2.2
  refine xr_okL (fun hl9 => ?_)
  have r_x1 : -2147483648 ≤ x1 ∧ x1 ≤ 2147483647 := hl9 (xI x1) (.tail _ (.head _)) (Nat.le_of_ble_eq_true rfl)
  have r_x2 : -2147483648 ≤ x2 ∧ x2 ≤ 2147483647 := hl9 (xI x2) (.tail _ (.tail _ (.head _))) (Nat.le_of_ble_eq_true rfl)
  refine xr_aload_n (pc := 0) (i := 0) (hI := d_M_firstFit_0) (hi := rfl) (hl := rfl) ?_
  refine xr_aload_n (pc := 1) (i := 0) (hI := d_M_firstFit_1) (hi := rfl) (hl := rfl) ?_
  refine xg_getfZ (pc := 2) (ci := 11) (k := 18) (N := 38) (v := (xpl h 53 18)) (T := xF11) (hI := d_M_firstFit_2) (hw := w_1605) rfl xi11 (Or.inl rfl) (Nat.le_of_ble_eq_true rfl) (Nat.le_of_ble_eq_true rfl) rfl (ft_53 F) rfl (fun f1_ => ?_)
  replace f1_ : 0 ≤ (xpl h 53 18) ∧ (xpl h 53 18) ≤ 1 := f1_
  refine xq_callV (pc := 5) (index := 407) (K := m_M_isKnown) (As := [xI (xpl h 53 18)]) (S := []) (L0 := [xR 53, xI (xpl h 53 18)]) (hI := d_M_firstFit_5) (hK := k_M_isKnown) (hlk := w_1810) (hnoM := rfl) (hS8 := Nat.le_of_ble_eq_true rfl) (ci := 11) (N := 38) (C := "BeaconIndexModel") (T := xF11) (hc := rfl) (hci := Nat.le_of_ble_eq_true rfl) (htb := (ft_53 F)) (hinst := w_1812) (hsel := sel_M_isKnown) (hlen := Nat.le_of_ble_eq_true rfl) (hst := rfl) (hL0 := rfl)  ?_
  refine xr_aload_n (pc := 0) (i := 0) (hI := d_M_isKnown_0) (hi := rfl) (hl := rfl) ?_
  refine xr_iload_n (pc := 1) (i := 1) (hI := d_M_isKnown_1) (hi := rfl) (hl := rfl) ?_
  refine xr_if_eq (pc := 2) (tgt := 9) (hI := d_M_isKnown_2) (ht := by decide) (fun q9 => ?_) (fun q9 => ?_)
  · replace hyp := hyp.1 q9
    have q2_ := q9
    clear q9
    refine xr_iconst (pc := 9) (hI := d_M_isKnown_9) (hr := by decide) ?_
    refine xr_putf (pc := 10) (ci := 11) (k := 0) (N := 38) (v9 := 0) (T := xF11) (tF := xT11) (hI := d_M_isKnown_10) (hw := w_1587) rfl xi11 xt11 xn11 (Or.inl rfl) (Nat.le_of_ble_eq_true rfl) (Nat.le_of_ble_eq_true rfl) rfl xfit_i rfl (ft_53 F) (by decide) (fun z => z) ?_
    have F3_ : xFix (xst h 53 0 1) := F.stL xfk_53_0
    refine xr_iload_n (pc := 13) (i := 1) (hI := d_M_isKnown_13) (hi := rfl) (hl := rfl) ?_
    refine xr_ireturnT (S := []) (pc := 14) (hI := d_M_isKnown_14) (hr := rfl) (xnar_z ⟨(by clear hyp; omega), (by clear hyp; omega)⟩) ?_
    show xwp G m_M_firstFit (d + 6) 8 [xR 53, xI x1, xI x2, xZ] [xI (xpl h 53 18)] _ _ _
    refine xr_if_ne (pc := 8) (tgt := 13) (hI := d_M_firstFit_8) (ht := by decide) (fun q9 => ?_) (fun q9 => ?_)
    · exact absurd q9 (by clear hyp; omega)
    · clear q9
      refine xr_iconst (pc := 11) (hI := d_M_firstFit_11) (hr := by decide) ?_
      refine xr_ireturn (S := []) (pc := 12) (hI := d_M_firstFit_12) (hr := rfl) ?_
      exact hyp F3_
  · replace hyp := hyp.2 q9
    have q2_ := q9
    clear q9
    refine xr_iconst (pc := 5) (hI := d_M_isKnown_5) (hr := by decide) ?_
    refine xr_goto (pc := 6) (tgt := 10) (hI := d_M_isKnown_6) (ht := by decide) ?_
    refine xr_putf (pc := 10) (ci := 11) (k := 0) (N := 38) (v9 := 0) (T := xF11) (tF := xT11) (hI := d_M_isKnown_10) (hw := w_1587) rfl xi11 xt11 xn11 (Or.inl rfl) (Nat.le_of_ble_eq_true rfl) (Nat.le_of_ble_eq_true rfl) rfl xfit_i rfl (ft_53 F) (by decide) (fun z => z) ?_
    have F4_ : xFix (xst h 53 0 0) := F.stL xfk_53_0
    refine xr_iload_n (pc := 13) (i := 1) (hI := d_M_isKnown_13) (hi := rfl) (hl := rfl) ?_
    refine xr_ireturnT (S := []) (pc := 14) (hI := d_M_isKnown_14) (hr := rfl) (xnar_z ⟨(by clear hyp; omega), (by clear hyp; omega)⟩) ?_
    show xwp G m_M_firstFit (d + 6) 8 [xR 53, xI x1, xI x2, xZ] [xI (xpl h 53 18)] _ _ _
    refine xr_if_ne (pc := 8) (tgt := 13) (hI := d_M_firstFit_8) (ht := by decide) (fun q9 => ?_) (fun q9 => ?_)
    · clear q9
      refine xr_iload_n (pc := 13) (i := 1) (hI := d_M_firstFit_13) (hi := rfl) (hl := rfl) ?_
      refine xq_callS (pc := 14) (index := 398) (K := m_M_isKey) (As := [xI x1]) (S := []) (L0 := [xI x1]) (hI := d_M_firstFit_14) (hK := k_M_isKey) (hlk := w_1725) (hnoM := rfl) (hS8 := Nat.le_of_ble_eq_true rfl) (hstat := w_1726) (hlen := Nat.le_of_ble_eq_true rfl) (hst := rfl) (hL0 := rfl)  ?_
      refine xr_iload_n (pc := 0) (i := 0) (hI := d_M_isKey_0) (hi := rfl) (hl := rfl) ?_
      refine xr_iconst (pc := 1) (hI := d_M_isKey_1) (hr := by decide) ?_
      refine xr_bipush (pc := 2) (hI := d_M_isKey_2) (hr := by decide) (hv := by decide) ?_
      refine xq_callS (pc := 4) (index := 101) (K := m_M_isBetween) (As := [xI x1, xI 0, xI 99]) (S := []) (L0 := [xI x1, xI 0, xI 99]) (hI := d_M_isKey_4) (hK := k_M_isBetween) (hlk := w_1718) (hnoM := rfl) (hS8 := Nat.le_of_ble_eq_true rfl) (hstat := w_1719) (hlen := Nat.le_of_ble_eq_true rfl) (hst := rfl) (hL0 := rfl)  ?_
      refine xr_iload_n (pc := 0) (i := 0) (hI := d_M_isBetween_0) (hi := rfl) (hl := rfl) ?_
      refine xr_iload_n (pc := 1) (i := 1) (hI := d_M_isBetween_1) (hi := rfl) (hl := rfl) ?_
      refine xr_icmp_lt (pc := 2) (tgt := 14) (hI := d_M_isBetween_2) (ht := by decide) (fun q9 => ?_) (fun q9 => ?_)
      · replace hyp := hyp.1 q9
        have q5_ := q9
        clear q9
        refine xr_iconst (pc := 14) (hI := d_M_isBetween_14) (hr := by decide) ?_
        refine xr_ireturnT (S := []) (pc := 15) (hI := d_M_isBetween_15) (hr := rfl) (xnar_z (by decide)) ?_
        show xwp G m_M_isKey (d + 5) 7 [xI x1] [xI 0] _ _ _
        refine xr_ireturnT (S := []) (pc := 7) (hI := d_M_isKey_7) (hr := rfl) (xnar_z (by decide)) ?_
        show xwp G m_M_firstFit (d + 6) 17 [xR 53, xI x1, xI x2, xZ] [xI 0] _ _ _
        refine xr_if_ne (pc := 17) (tgt := 26) (hI := d_M_firstFit_17) (ht := by decide) (fun q9 => ?_) (fun q9 => ?_)
        · exact absurd q9 (by decide)
        · clear q9
          refine xr_aload_n (pc := 20) (i := 0) (hI := d_M_firstFit_20) (hi := rfl) (hl := rfl) ?_
          refine xr_iconst (pc := 21) (hI := d_M_firstFit_21) (hr := by decide) ?_
          refine xq_callV (pc := 22) (index := 395) (K := m_M_no) (As := [xI 2]) (S := []) (L0 := [xR 53, xI 2]) (hI := d_M_firstFit_22) (hK := k_M_no) (hlk := w_1710) (hnoM := rfl) (hS8 := Nat.le_of_ble_eq_true rfl) (ci := 11) (N := 38) (C := "BeaconIndexModel") (T := xF11) (hc := rfl) (hci := Nat.le_of_ble_eq_true rfl) (htb := (ft_53 F4_)) (hinst := w_1712) (hsel := sel_M_no) (hlen := Nat.le_of_ble_eq_true rfl) (hst := rfl) (hL0 := rfl)  ?_
          refine xr_aload_n (pc := 0) (i := 0) (hI := d_M_no_0) (hi := rfl) (hl := rfl) ?_
          refine xr_iload_n (pc := 1) (i := 1) (hI := d_M_no_1) (hi := rfl) (hl := rfl) ?_
          refine xr_putf (pc := 2) (ci := 11) (k := 0) (N := 38) (v9 := 0) (T := xF11) (tF := xT11) (hI := d_M_no_2) (hw := w_1587) rfl xi11 xt11 xn11 (Or.inl rfl) (Nat.le_of_ble_eq_true rfl) (Nat.le_of_ble_eq_true rfl) rfl xfit_i rfl (ft_53 F4_) (by decide) (fun z => z) ?_
          have F6_ : xFix (xst (xst h 53 0 0) 53 0 2) := F4_.stL xfk_53_0
          refine xr_iconst (pc := 5) (hI := d_M_no_5) (hr := by decide) ?_
          refine xr_ireturn (S := []) (pc := 6) (hI := d_M_no_6) (hr := rfl) ?_
          show xwp G m_M_firstFit (d + 6) 25 [xR 53, xI x1, xI x2, xZ] [xI 0] _ _ _
          refine xr_ireturn (S := []) (pc := 25) (hI := d_M_firstFit_25) (hr := rfl) ?_
          exact hyp F6_
      · replace hyp := hyp.2 q9
        have q5_ := q9
        clear q9
        refine xr_iload_n (pc := 5) (i := 0) (hI := d_M_isBetween_5) (hi := rfl) (hl := rfl) ?_
        refine xr_iload_n (pc := 6) (i := 2) (hI := d_M_isBetween_6) (hi := rfl) (hl := rfl) ?_
        refine xr_icmp_gt (pc := 7) (tgt := 14) (hI := d_M_isBetween_7) (ht := by decide) (fun q9 => ?_) (fun q9 => ?_)
        · replace hyp := hyp.1 q9
          have q7_ := q9
          clear q9
          refine xr_iconst (pc := 14) (hI := d_M_isBetween_14) (hr := by decide) ?_
          refine xr_ireturnT (S := []) (pc := 15) (hI := d_M_isBetween_15) (hr := rfl) (xnar_z (by decide)) ?_
          show xwp G m_M_isKey (d + 5) 7 [xI x1] [xI 0] _ _ _
          refine xr_ireturnT (S := []) (pc := 7) (hI := d_M_isKey_7) (hr := rfl) (xnar_z (by decide)) ?_
          show xwp G m_M_firstFit (d + 6) 17 [xR 53, xI x1, xI x2, xZ] [xI 0] _ _ _
          refine xr_if_ne (pc := 17) (tgt := 26) (hI := d_M_firstFit_17) (ht := by decide) (fun q9 => ?_) (fun q9 => ?_)
          · exact absurd q9 (by decide)
          · clear q9
            refine xr_aload_n (pc := 20) (i := 0) (hI := d_M_firstFit_20) (hi := rfl) (hl := rfl) ?_
            refine xr_iconst (pc := 21) (hI := d_M_firstFit_21) (hr := by decide) ?_
            refine xq_callV (pc := 22) (index := 395) (K := m_M_no) (As := [xI 2]) (S := []) (L0 := [xR 53, xI 2]) (hI := d_M_firstFit_22) (hK := k_M_no) (hlk := w_1710) (hnoM := rfl) (hS8 := Nat.le_of_ble_eq_true rfl) (ci := 11) (N := 38) (C := "BeaconIndexModel") (T := xF11) (hc := rfl) (hci := Nat.le_of_ble_eq_true rfl) (htb := (ft_53 F4_)) (hinst := w_1712) (hsel := sel_M_no) (hlen := Nat.le_of_ble_eq_true rfl) (hst := rfl) (hL0 := rfl)  ?_
            refine xr_aload_n (pc := 0) (i := 0) (hI := d_M_no_0) (hi := rfl) (hl := rfl) ?_
            refine xr_iload_n (pc := 1) (i := 1) (hI := d_M_no_1) (hi := rfl) (hl := rfl) ?_
            refine xr_putf (pc := 2) (ci := 11) (k := 0) (N := 38) (v9 := 0) (T := xF11) (tF := xT11) (hI := d_M_no_2) (hw := w_1587) rfl xi11 xt11 xn11 (Or.inl rfl) (Nat.le_of_ble_eq_true rfl) (Nat.le_of_ble_eq_true rfl) rfl xfit_i rfl (ft_53 F4_) (by decide) (fun z => z) ?_
            have F8_ : xFix (xst (xst h 53 0 0) 53 0 2) := F4_.stL xfk_53_0
            refine xr_iconst (pc := 5) (hI := d_M_no_5) (hr := by decide) ?_
            refine xr_ireturn (S := []) (pc := 6) (hI := d_M_no_6) (hr := rfl) ?_
            show xwp G m_M_firstFit (d + 6) 25 [xR 53, xI x1, xI x2, xZ] [xI 0] _ _ _
            refine xr_ireturn (S := []) (pc := 25) (hI := d_M_firstFit_25) (hr := rfl) ?_
            exact hyp F8_
        · replace hyp := hyp.2 q9
          have q7_ := q9
          clear q9
          refine xr_iconst (pc := 10) (hI := d_M_isBetween_10) (hr := by decide) ?_
          refine xr_goto (pc := 11) (tgt := 15) (hI := d_M_isBetween_11) (ht := by decide) ?_
          refine xr_ireturnT (S := []) (pc := 15) (hI := d_M_isBetween_15) (hr := rfl) (xnar_z (by decide)) ?_
          show xwp G m_M_isKey (d + 5) 7 [xI x1] [xI 1] _ _ _
          refine xr_ireturnT (S := []) (pc := 7) (hI := d_M_isKey_7) (hr := rfl) (xnar_z (by decide)) ?_
          show xwp G m_M_firstFit (d + 6) 17 [xR 53, xI x1, xI x2, xZ] [xI 1] _ _ _
          refine xr_if_ne (pc := 17) (tgt := 26) (hI := d_M_firstFit_17) (ht := by decide) (fun q9 => ?_) (fun q9 => ?_)
          · clear q9
            refine xr_iload_n (pc := 26) (i := 2) (hI := d_M_firstFit_26) (hi := rfl) (hl := rfl) ?_
            refine xq_callS (pc := 27) (index := 423) (K := m_M_isField) (As := [xI x2]) (S := []) (L0 := [xI x2]) (hI := d_M_firstFit_27) (hK := k_M_isField) (hlk := w_1878) (hnoM := rfl) (hS8 := Nat.le_of_ble_eq_true rfl) (hstat := w_1879) (hlen := Nat.le_of_ble_eq_true rfl) (hst := rfl) (hL0 := rfl)  ?_
            refine xr_iload_n (pc := 0) (i := 0) (hI := d_M_isField_0) (hi := rfl) (hl := rfl) ?_
            refine xr_if_eq (pc := 1) (tgt := 9) (hI := d_M_isField_1) (ht := by decide) (fun q9 => ?_) (fun q9 => ?_)
            · replace hyp := hyp.1 q9
              have q9_ := q9
              clear q9
              refine xr_iconst (pc := 9) (hI := d_M_isField_9) (hr := by decide) ?_
              refine xr_goto (pc := 10) (tgt := 14) (hI := d_M_isField_10) (ht := by decide) ?_
              refine xr_ireturnT (S := []) (pc := 14) (hI := d_M_isField_14) (hr := rfl) (xnar_z (by decide)) ?_
              show xwp G m_M_firstFit (d + 6) 30 [xR 53, xI x1, xI x2, xZ] [xI 1] _ _ _
              refine xr_if_ne (pc := 30) (tgt := 39) (hI := d_M_firstFit_30) (ht := by decide) (fun q9 => ?_) (fun q9 => ?_)
              · clear q9
                refine xr_aload_n (pc := 39) (i := 0) (hI := d_M_firstFit_39) (hi := rfl) (hl := rfl) ?_
                refine xr_iload_n (pc := 40) (i := 1) (hI := d_M_firstFit_40) (hi := rfl) (hl := rfl) ?_
                exact xq_callV (pc := 41) (index := 438) (K := m_M_whereInSegments) (As := [xI x1]) (S := []) (L0 := [xR 53, xI x1, xZ]) (hI := d_M_firstFit_41) (hK := k_M_whereInSegments) (hlk := w_2232) (hnoM := rfl) (hS8 := Nat.le_of_ble_eq_true rfl) (ci := 11) (N := 38) (C := "BeaconIndexModel") (T := xF11) (hc := rfl) (hci := Nat.le_of_ble_eq_true rfl) (htb := (ft_53 F4_)) (hinst := w_2234) (hsel := sel_M_whereInSegments) (hlen := Nat.le_of_ble_eq_true rfl) (hst := rfl) (hL0 := rfl)  (xwp_mono (hyp F4_) (fun v9 h9 q9 => xr_drop (L9 := [xR 53, xZ, xI x2, xZ]) (xdrs (xdrz (xdrs (xdrs xdr0)))) q9) (fun _ _ z9 => z9))
              · exact absurd q9 (by decide)
            · replace hyp := hyp.2 q9
              have q9_ := q9
              clear q9
              refine xr_iload_n (pc := 4) (i := 0) (hI := d_M_isField_4) (hi := rfl) (hl := rfl) ?_
              refine xr_iconst (pc := 5) (hI := d_M_isField_5) (hr := by decide) ?_
              refine xr_icmp_ne (pc := 6) (tgt := 13) (hI := d_M_isField_6) (ht := by decide) (fun q9 => ?_) (fun q9 => ?_)
              · replace hyp := hyp.2 q9
                have q10_ := q9
                clear q9
                refine xr_iconst (pc := 13) (hI := d_M_isField_13) (hr := by decide) ?_
                refine xr_ireturnT (S := []) (pc := 14) (hI := d_M_isField_14) (hr := rfl) (xnar_z (by decide)) ?_
                show xwp G m_M_firstFit (d + 6) 30 [xR 53, xI x1, xI x2, xZ] [xI 0] _ _ _
                refine xr_if_ne (pc := 30) (tgt := 39) (hI := d_M_firstFit_30) (ht := by decide) (fun q9 => ?_) (fun q9 => ?_)
                · exact absurd q9 (by decide)
                · clear q9
                  refine xr_aload_n (pc := 33) (i := 0) (hI := d_M_firstFit_33) (hi := rfl) (hl := rfl) ?_
                  refine xr_iconst (pc := 34) (hI := d_M_firstFit_34) (hr := by decide) ?_
                  refine xq_callV (pc := 35) (index := 395) (K := m_M_no) (As := [xI 3]) (S := []) (L0 := [xR 53, xI 3]) (hI := d_M_firstFit_35) (hK := k_M_no) (hlk := w_1710) (hnoM := rfl) (hS8 := Nat.le_of_ble_eq_true rfl) (ci := 11) (N := 38) (C := "BeaconIndexModel") (T := xF11) (hc := rfl) (hci := Nat.le_of_ble_eq_true rfl) (htb := (ft_53 F4_)) (hinst := w_1712) (hsel := sel_M_no) (hlen := Nat.le_of_ble_eq_true rfl) (hst := rfl) (hL0 := rfl)  ?_
                  refine xr_aload_n (pc := 0) (i := 0) (hI := d_M_no_0) (hi := rfl) (hl := rfl) ?_
                  refine xr_iload_n (pc := 1) (i := 1) (hI := d_M_no_1) (hi := rfl) (hl := rfl) ?_
                  refine xr_putf (pc := 2) (ci := 11) (k := 0) (N := 38) (v9 := 0) (T := xF11) (tF := xT11) (hI := d_M_no_2) (hw := w_1587) rfl xi11 xt11 xn11 (Or.inl rfl) (Nat.le_of_ble_eq_true rfl) (Nat.le_of_ble_eq_true rfl) rfl xfit_i rfl (ft_53 F4_) (by decide) (fun z => z) ?_
                  have F11_ : xFix (xst (xst h 53 0 0) 53 0 3) := F4_.stL xfk_53_0
                  refine xr_iconst (pc := 5) (hI := d_M_no_5) (hr := by decide) ?_
                  refine xr_ireturn (S := []) (pc := 6) (hI := d_M_no_6) (hr := rfl) ?_
                  show xwp G m_M_firstFit (d + 6) 38 [xR 53, xI x1, xI x2, xZ] [xI 0] _ _ _
                  refine xr_ireturn (S := []) (pc := 38) (hI := d_M_firstFit_38) (hr := rfl) ?_
                  exact hyp F11_
              · replace hyp := hyp.1 q9
                have q10_ := q9
                clear q9
                refine xr_iconst (pc := 9) (hI := d_M_isField_9) (hr := by decide) ?_
                refine xr_goto (pc := 10) (tgt := 14) (hI := d_M_isField_10) (ht := by decide) ?_
                refine xr_ireturnT (S := []) (pc := 14) (hI := d_M_isField_14) (hr := rfl) (xnar_z (by decide)) ?_
                show xwp G m_M_firstFit (d + 6) 30 [xR 53, xI x1, xI x2, xZ] [xI 1] _ _ _
                refine xr_if_ne (pc := 30) (tgt := 39) (hI := d_M_firstFit_30) (ht := by decide) (fun q9 => ?_) (fun q9 => ?_)
                · clear q9
                  refine xr_aload_n (pc := 39) (i := 0) (hI := d_M_firstFit_39) (hi := rfl) (hl := rfl) ?_
                  refine xr_iload_n (pc := 40) (i := 1) (hI := d_M_firstFit_40) (hi := rfl) (hl := rfl) ?_
                  exact xq_callV (pc := 41) (index := 438) (K := m_M_whereInSegments) (As := [xI x1]) (S := []) (L0 := [xR 53, xI x1, xZ]) (hI := d_M_firstFit_41) (hK := k_M_whereInSegments) (hlk := w_2232) (hnoM := rfl) (hS8 := Nat.le_of_ble_eq_true rfl) (ci := 11) (N := 38) (C := "BeaconIndexModel") (T := xF11) (hc := rfl) (hci := Nat.le_of_ble_eq_true rfl) (htb := (ft_53 F4_)) (hinst := w_2234) (hsel := sel_M_whereInSegments) (hlen := Nat.le_of_ble_eq_true rfl) (hst := rfl) (hL0 := rfl)  (xwp_mono (hyp F4_) (fun v9 h9 q9 => xr_drop (L9 := [xR 53, xZ, xI x2, xZ]) (xdrs (xdrz (xdrs (xdrs xdr0)))) q9) (fun _ _ z9 => z9))
                · exact absurd q9 (by decide)
          · exact absurd q9 (by decide)
    · exact absurd q9 (by clear hyp; omega)
theorem d_M_firstFit_44 : decode prog_14_method_111_code 44 = .ok (.istore_n 3, 1) := by decide +kernel
theorem d_M_firstFit_45 : decode prog_14_method_111_code 45 = .ok (.iload_n 3, 1) := by decide +kernel
theorem d_M_firstFit_46 : decode prog_14_method_111_code 46 = .ok (.iconst (-1), 1) := by decide +kernel
theorem d_M_firstFit_47 : decode prog_14_method_111_code 47 = .ok (.if_icmp .ne 7, 3) := by decide +kernel
theorem d_M_firstFit_54 : decode prog_14_method_111_code 54 = .ok (.aload_n 0, 1) := by decide +kernel
theorem d_M_firstFit_55 : decode prog_14_method_111_code 55 = .ok (.iload_n 3, 1) := by decide +kernel
theorem d_M_firstFit_56 : decode prog_14_method_111_code 56 = .ok (.iload_n 2, 1) := by decide +kernel
theorem d_M_firstFit_57 : decode prog_14_method_111_code 57 = .ok (.invokevirtual 466, 3) := by decide +kernel
theorem k_M_first : xCal m_M_first 2 := ⟨List.mem_append_right _ (List.mem_of_getElem? (i := 2469) (by decide +kernel)), w_15, Nat.le_of_ble_eq_true rfl, ⟨by decide +kernel, by decide +kernel⟩, by decide +kernel, by decide +kernel, rfl⟩
theorem w_2466 : Cond.methodLink "BeaconIndexModel" 466 ⟨"BeaconIndexModel", "first", "(II)I"⟩ ∈ lw_tbl := List.mem_append_right _ (List.mem_of_getElem? (i := 2466) (by decide +kernel))
theorem w_2468 : Cond.instanceMethod ⟨"BeaconIndexModel", "first", "(II)I"⟩ ∈ lw_tbl := List.mem_append_right _ (List.mem_of_getElem? (i := 2468) (by decide +kernel))
theorem sel_M_first : Cond.selects "BeaconIndexModel" ⟨"BeaconIndexModel", "first", "(II)I"⟩ ⟨"BeaconIndexModel", "first", "(II)I"⟩ ∈ lw_tbl := List.mem_append_left _ (by decide +kernel)
theorem d_M_firstFit_50 : decode prog_14_method_111_code 50 = .ok (.iconst (-1), 1) := by decide +kernel
theorem d_M_firstFit_51 : decode prog_14_method_111_code 51 = .ok (.goto 9, 3) := by decide +kernel
theorem v_M_firstFit_44 {G : XG} {d : Nat} {h : XH} {Q : XV → XH → Prop} {X : Nat → XH → Prop} {x2 s0 : Int} (F : xFix h) (hyp : ((s0 = (-1) → (xwp G m_M_firstFit (d + 6) 60 [xZ, xZ, xZ, xZ] [xI (-1)] h Q X)) ∧ (¬ s0 = (-1) → (xwp G m_M_first (d + 5) 0 [xR 53, xI s0, xI x2, xZ, xZ, xZ] [] h (fun v9 h9 => xwp G m_M_firstFit (d + 6) 60 [xZ, xZ, xZ, xZ] (xpush v9 []) h9 Q X) X)))) : xwp G m_M_firstFit (d + 6) 44 [xR 53, xZ, xI x2, xZ] [xI s0] h Q X := by
  have hnx9 : (93 : Int) ≤ xnx h := F.2.2
  refine xr_okL (fun hl9 => ?_)
  have r_x2 : -2147483648 ≤ x2 ∧ x2 ≤ 2147483647 := hl9 (xI x2) (.tail _ (.tail _ (.head _))) (Nat.le_of_ble_eq_true rfl)
  refine xr_okS (fun hs9 => ?_)
  have r_s0 : -2147483648 ≤ s0 ∧ s0 ≤ 2147483647 := hs9 (xI s0) (.head _)
  refine xr_istore_n (pc := 44) (i := 3) (L9 := [xR 53, xZ, xI x2, xI s0]) (hI := d_M_firstFit_44) (hi := rfl) (hn := Nat.le_of_ble_eq_true rfl) (hL9 := rfl) ?_
  refine xr_iload_n (pc := 45) (i := 3) (hI := d_M_firstFit_45) (hi := rfl) (hl := rfl) ?_
  refine xr_iconst (pc := 46) (hI := d_M_firstFit_46) (hr := by decide) ?_
  refine xr_icmp_ne (pc := 47) (tgt := 54) (hI := d_M_firstFit_47) (ht := by decide) (fun q9 => ?_) (fun q9 => ?_)
  · replace hyp := hyp.2 q9
    have q1_ := q9
    clear q9
    refine xr_aload_n (pc := 54) (i := 0) (hI := d_M_firstFit_54) (hi := rfl) (hl := rfl) ?_
    refine xr_iload_n (pc := 55) (i := 3) (hI := d_M_firstFit_55) (hi := rfl) (hl := rfl) ?_
    refine xr_iload_n (pc := 56) (i := 2) (hI := d_M_firstFit_56) (hi := rfl) (hl := rfl) ?_
    exact xq_callV (pc := 57) (index := 466) (K := m_M_first) (As := [xI s0, xI x2]) (S := []) (L0 := [xR 53, xI s0, xI x2, xZ, xZ, xZ]) (hI := d_M_firstFit_57) (hK := k_M_first) (hlk := w_2466) (hnoM := rfl) (hS8 := Nat.le_of_ble_eq_true rfl) (ci := 11) (N := 38) (C := "BeaconIndexModel") (T := xF11) (hc := rfl) (hci := Nat.le_of_ble_eq_true rfl) (htb := (ft_53 F)) (hinst := w_2468) (hsel := sel_M_first) (hlen := Nat.le_of_ble_eq_true rfl) (hst := rfl) (hL0 := rfl)  (xwp_mono hyp (fun v9 h9 q9 => xr_drop (L9 := [xZ, xZ, xZ, xZ]) (xdrz (xdrs (xdrz (xdrz xdr0)))) q9) (fun _ _ z9 => z9))
  · replace hyp := hyp.1 q9
    have q1_ := q9
    clear q9
    refine xr_iconst (pc := 50) (hI := d_M_firstFit_50) (hr := by decide) ?_
    refine xr_goto (pc := 51) (tgt := 60) (hI := d_M_firstFit_51) (ht := by decide) ?_
    exact xr_drop (L9 := [xZ, xZ, xZ, xZ]) (xdrz (xdrs (xdrz (xdrz xdr0)))) hyp
theorem d_M_firstFit_60 : decode prog_14_method_111_code 60 = .ok (.ireturn, 1) := by decide +kernel
theorem v_M_firstFit_60 {G : XG} {d : Nat} {h : XH} {Q : XV → XH → Prop} {X : Nat → XH → Prop} {s0 : Int} (F : xFix h) (hyp : (Q (xI s0) h)) : xwp G m_M_firstFit (d + 6) 60 [xZ, xZ, xZ, xZ] [xI s0] h Q X := by
  have hnx9 : (93 : Int) ≤ xnx h := F.2.2
  refine xr_okS (fun hs9 => ?_)
  have r_s0 : -2147483648 ≤ s0 ∧ s0 ≤ 2147483647 := hs9 (xI s0) (.head _)
  refine xr_ireturn (S := []) (pc := 60) (hI := d_M_firstFit_60) (hr := rfl) ?_
  exact hyp
abbrev m_M_meanWeight : XM := (⟨"BeaconIndexModel", "meanWeight", "()D"⟩, prog_14_method_112_code, 4, (some .double), [])
theorem d_M_meanWeight_0 : decode prog_14_method_112_code 0 = .ok (.aload_n 0, 1) := by decide +kernel
theorem d_M_meanWeight_1 : decode prog_14_method_112_code 1 = .ok (.aload_n 0, 1) := by decide +kernel
theorem d_M_meanWeight_2 : decode prog_14_method_112_code 2 = .ok (.getfield 448, 3) := by decide +kernel
theorem d_M_meanWeight_5 : decode prog_14_method_112_code 5 = .ok (.invokevirtual 407, 3) := by decide +kernel
theorem d_M_meanWeight_8 : decode prog_14_method_112_code 8 = .ok (.ifCond .ne 5, 3) := by decide +kernel
theorem d_M_meanWeight_11 : decode prog_14_method_112_code 11 = .ok (.dconst 0, 1) := by decide +kernel
theorem d_M_meanWeight_12 : decode prog_14_method_112_code 12 = .ok (.dreturn, 1) := by decide +kernel
theorem d_M_meanWeight_13 : decode prog_14_method_112_code 13 = .ok (.aload_n 0, 1) := by decide +kernel
theorem d_M_meanWeight_14 : decode prog_14_method_112_code 14 = .ok (.invokevirtual 454, 3) := by decide +kernel
theorem v_M_meanWeight_0 {G : XG} {d : Nat} {h : XH} {Q : XV → XH → Prop} {X : Nat → XH → Prop} (F : xFix h) (hyp : (((xpl h 53 18) = 0 → (xFix (xst h 53 0 1) → Q (xD 0) (xst h 53 0 1))) ∧ (¬ (xpl h 53 18) = 0 → (xFix (xst h 53 0 0) → xwp G m_M_answer (d + 5) 0 [xR 53, xZ, xZ, xZ, xZ] [] (xst h 53 0 0) (fun v9 h9 => xwp G m_M_meanWeight (d + 6) 17 [xR 53, xZ, xZ, xZ] (xpush v9 []) h9 Q X) X)))) : xwp G m_M_meanWeight (d + 6) 0 [xR 53, xZ, xZ, xZ] [] h Q X := by
  have hnx9 : (93 : Int) ≤ xnx h := F.2.2
  refine xr_aload_n (pc := 0) (i := 0) (hI := d_M_meanWeight_0) (hi := rfl) (hl := rfl) ?_
  refine xr_aload_n (pc := 1) (i := 0) (hI := d_M_meanWeight_1) (hi := rfl) (hl := rfl) ?_
  refine xg_getfZ (pc := 2) (ci := 11) (k := 18) (N := 38) (v := (xpl h 53 18)) (T := xF11) (hI := d_M_meanWeight_2) (hw := w_1605) rfl xi11 (Or.inl rfl) (Nat.le_of_ble_eq_true rfl) (Nat.le_of_ble_eq_true rfl) rfl (ft_53 F) rfl (fun f1_ => ?_)
  replace f1_ : 0 ≤ (xpl h 53 18) ∧ (xpl h 53 18) ≤ 1 := f1_
  refine xq_callV (pc := 5) (index := 407) (K := m_M_isKnown) (As := [xI (xpl h 53 18)]) (S := []) (L0 := [xR 53, xI (xpl h 53 18)]) (hI := d_M_meanWeight_5) (hK := k_M_isKnown) (hlk := w_1810) (hnoM := rfl) (hS8 := Nat.le_of_ble_eq_true rfl) (ci := 11) (N := 38) (C := "BeaconIndexModel") (T := xF11) (hc := rfl) (hci := Nat.le_of_ble_eq_true rfl) (htb := (ft_53 F)) (hinst := w_1812) (hsel := sel_M_isKnown) (hlen := Nat.le_of_ble_eq_true rfl) (hst := rfl) (hL0 := rfl)  ?_
  refine xr_aload_n (pc := 0) (i := 0) (hI := d_M_isKnown_0) (hi := rfl) (hl := rfl) ?_
  refine xr_iload_n (pc := 1) (i := 1) (hI := d_M_isKnown_1) (hi := rfl) (hl := rfl) ?_
  refine xr_if_eq (pc := 2) (tgt := 9) (hI := d_M_isKnown_2) (ht := by decide) (fun q9 => ?_) (fun q9 => ?_)
  · replace hyp := hyp.1 q9
    have q2_ := q9
    clear q9
    refine xr_iconst (pc := 9) (hI := d_M_isKnown_9) (hr := by decide) ?_
    refine xr_putf (pc := 10) (ci := 11) (k := 0) (N := 38) (v9 := 0) (T := xF11) (tF := xT11) (hI := d_M_isKnown_10) (hw := w_1587) rfl xi11 xt11 xn11 (Or.inl rfl) (Nat.le_of_ble_eq_true rfl) (Nat.le_of_ble_eq_true rfl) rfl xfit_i rfl (ft_53 F) (by decide) (fun z => z) ?_
    have F3_ : xFix (xst h 53 0 1) := F.stL xfk_53_0
    refine xr_iload_n (pc := 13) (i := 1) (hI := d_M_isKnown_13) (hi := rfl) (hl := rfl) ?_
    refine xr_ireturnT (S := []) (pc := 14) (hI := d_M_isKnown_14) (hr := rfl) (xnar_z ⟨(by clear hyp; omega), (by clear hyp; omega)⟩) ?_
    show xwp G m_M_meanWeight (d + 6) 8 [xR 53, xZ, xZ, xZ] [xI (xpl h 53 18)] _ _ _
    refine xr_if_ne (pc := 8) (tgt := 13) (hI := d_M_meanWeight_8) (ht := by decide) (fun q9 => ?_) (fun q9 => ?_)
    · exact absurd q9 (by clear hyp; omega)
    · clear q9
      refine xr_dconst0 (pc := 11) (hI := d_M_meanWeight_11) ?_
      refine xr_dreturn (S := []) (pc := 12) (hI := d_M_meanWeight_12) (hr := rfl) ?_
      exact hyp F3_
  · replace hyp := hyp.2 q9
    have q2_ := q9
    clear q9
    refine xr_iconst (pc := 5) (hI := d_M_isKnown_5) (hr := by decide) ?_
    refine xr_goto (pc := 6) (tgt := 10) (hI := d_M_isKnown_6) (ht := by decide) ?_
    refine xr_putf (pc := 10) (ci := 11) (k := 0) (N := 38) (v9 := 0) (T := xF11) (tF := xT11) (hI := d_M_isKnown_10) (hw := w_1587) rfl xi11 xt11 xn11 (Or.inl rfl) (Nat.le_of_ble_eq_true rfl) (Nat.le_of_ble_eq_true rfl) rfl xfit_i rfl (ft_53 F) (by decide) (fun z => z) ?_
    have F4_ : xFix (xst h 53 0 0) := F.stL xfk_53_0
    refine xr_iload_n (pc := 13) (i := 1) (hI := d_M_isKnown_13) (hi := rfl) (hl := rfl) ?_
    refine xr_ireturnT (S := []) (pc := 14) (hI := d_M_isKnown_14) (hr := rfl) (xnar_z ⟨(by clear hyp; omega), (by clear hyp; omega)⟩) ?_
    show xwp G m_M_meanWeight (d + 6) 8 [xR 53, xZ, xZ, xZ] [xI (xpl h 53 18)] _ _ _
    refine xr_if_ne (pc := 8) (tgt := 13) (hI := d_M_meanWeight_8) (ht := by decide) (fun q9 => ?_) (fun q9 => ?_)
    · clear q9
      refine xr_aload_n (pc := 13) (i := 0) (hI := d_M_meanWeight_13) (hi := rfl) (hl := rfl) ?_
      exact xq_callV (pc := 14) (index := 454) (K := m_M_answer) (As := []) (S := []) (L0 := [xR 53, xZ, xZ, xZ, xZ]) (hI := d_M_meanWeight_14) (hK := k_M_answer) (hlk := w_2368) (hnoM := rfl) (hS8 := Nat.le_of_ble_eq_true rfl) (ci := 11) (N := 38) (C := "BeaconIndexModel") (T := xF11) (hc := rfl) (hci := Nat.le_of_ble_eq_true rfl) (htb := (ft_53 F4_)) (hinst := w_2370) (hsel := sel_M_answer) (hlen := Nat.le_of_ble_eq_true rfl) (hst := rfl) (hL0 := rfl)  (hyp F4_)
    · exact absurd q9 (by clear hyp; omega)
theorem d_M_meanWeight_17 : decode prog_14_method_112_code 17 = .ok (.istore_n 1, 1) := by decide +kernel
theorem d_M_meanWeight_18 : decode prog_14_method_112_code 18 = .ok (.iconst 0, 1) := by decide +kernel
theorem d_M_meanWeight_19 : decode prog_14_method_112_code 19 = .ok (.istore_n 2, 1) := by decide +kernel
theorem d_M_meanWeight_20 : decode prog_14_method_112_code 20 = .ok (.iconst 0, 1) := by decide +kernel
theorem d_M_meanWeight_21 : decode prog_14_method_112_code 21 = .ok (.istore_n 3, 1) := by decide +kernel
theorem v_M_meanWeight_17 {G : XG} {d : Nat} {h : XH} {Q : XV → XH → Prop} {X : Nat → XH → Prop} {s0 : Int} (F : xFix h) (hyp : (xwp G m_M_meanWeight (d + 6) 22 [xR 53, xI s0, xI 0, xI 0] [] h Q X)) : xwp G m_M_meanWeight (d + 6) 17 [xR 53, xZ, xZ, xZ] [xI s0] h Q X := by
  have hnx9 : (93 : Int) ≤ xnx h := F.2.2
  refine xr_okS (fun hs9 => ?_)
  have r_s0 : -2147483648 ≤ s0 ∧ s0 ≤ 2147483647 := hs9 (xI s0) (.head _)
  refine xr_istore_n (pc := 17) (i := 1) (L9 := [xR 53, xI s0, xZ, xZ]) (hI := d_M_meanWeight_17) (hi := rfl) (hn := Nat.le_of_ble_eq_true rfl) (hL9 := rfl) ?_
  refine xr_iconst (pc := 18) (hI := d_M_meanWeight_18) (hr := by decide) ?_
  refine xr_istore_n (pc := 19) (i := 2) (L9 := [xR 53, xI s0, xI 0, xZ]) (hI := d_M_meanWeight_19) (hi := rfl) (hn := Nat.le_of_ble_eq_true rfl) (hL9 := rfl) ?_
  refine xr_iconst (pc := 20) (hI := d_M_meanWeight_20) (hr := by decide) ?_
  refine xr_istore_n (pc := 21) (i := 3) (L9 := [xR 53, xI s0, xI 0, xI 0]) (hI := d_M_meanWeight_21) (hi := rfl) (hn := Nat.le_of_ble_eq_true rfl) (hL9 := rfl) ?_
  exact hyp
theorem d_M_meanWeight_22 : decode prog_14_method_112_code 22 = .ok (.iload_n 3, 1) := by decide +kernel
theorem d_M_meanWeight_23 : decode prog_14_method_112_code 23 = .ok (.iload_n 1, 1) := by decide +kernel
theorem d_M_meanWeight_24 : decode prog_14_method_112_code 24 = .ok (.if_icmp .ge 18, 3) := by decide +kernel
theorem d_M_meanWeight_42 : decode prog_14_method_112_code 42 = .ok (.iload_n 1, 1) := by decide +kernel
theorem d_M_meanWeight_43 : decode prog_14_method_112_code 43 = .ok (.ifCond .ne 7, 3) := by decide +kernel
theorem d_M_meanWeight_50 : decode prog_14_method_112_code 50 = .ok (.iload_n 2, 1) := by decide +kernel
theorem d_M_meanWeight_51 : decode prog_14_method_112_code 51 = .ok (.i2d, 1) := by decide +kernel
theorem d_M_meanWeight_52 : decode prog_14_method_112_code 52 = .ok (.iload_n 1, 1) := by decide +kernel
theorem d_M_meanWeight_53 : decode prog_14_method_112_code 53 = .ok (.i2d, 1) := by decide +kernel
theorem d_M_meanWeight_54 : decode prog_14_method_112_code 54 = .ok (.ddiv, 1) := by decide +kernel
theorem d_M_meanWeight_55 : decode prog_14_method_112_code 55 = .ok (.dreturn, 1) := by decide +kernel
theorem d_M_meanWeight_46 : decode prog_14_method_112_code 46 = .ok (.dconst 0, 1) := by decide +kernel
theorem d_M_meanWeight_47 : decode prog_14_method_112_code 47 = .ok (.goto 8, 3) := by decide +kernel
theorem d_M_meanWeight_27 : decode prog_14_method_112_code 27 = .ok (.iload_n 2, 1) := by decide +kernel
theorem d_M_meanWeight_28 : decode prog_14_method_112_code 28 = .ok (.aload_n 0, 1) := by decide +kernel
theorem d_M_meanWeight_29 : decode prog_14_method_112_code 29 = .ok (.getfield 94, 3) := by decide +kernel
theorem d_M_meanWeight_32 : decode prog_14_method_112_code 32 = .ok (.iload_n 3, 1) := by decide +kernel
theorem d_M_meanWeight_33 : decode prog_14_method_112_code 33 = .ok (.iaload, 1) := by decide +kernel
theorem d_M_meanWeight_34 : decode prog_14_method_112_code 34 = .ok (.iadd, 1) := by decide +kernel
theorem d_M_meanWeight_35 : decode prog_14_method_112_code 35 = .ok (.istore_n 2, 1) := by decide +kernel
theorem d_M_meanWeight_36 : decode prog_14_method_112_code 36 = .ok (.iinc 3 1, 3) := by decide +kernel
theorem d_M_meanWeight_39 : decode prog_14_method_112_code 39 = .ok (.goto (-17), 3) := by decide +kernel
theorem v_M_meanWeight_22 {G : XG} {d : Nat} {h : XH} {Q : XV → XH → Prop} {X : Nat → XH → Prop} {x1 x2 x3 : Int} (F : xFix h) (hyp : ((x1 ≤ x3 → ((x1 = 0 → (Q (xD 0) h)) ∧ (¬ x1 = 0 → vf_n64 (FP.ddiv (UInt64.ofNat (xi2d x2).toNat) (UInt64.ofNat (xi2d x1).toNat)) ∧ (Q (xD (xddiv (xi2d x2) (xi2d x1))) h)))) ∧ (¬ x1 ≤ x3 → 0 ≤ x3 ∧ x3 < 60 ∧ xiR (x2 + (xpl h 90 x3)) ∧ (xwp G m_M_meanWeight (d + 6) 22 [xR 53, xI x1, xI (x2 + (xpl h 90 x3)), xI (x3 + 1)] [] h Q X)))) : xwp G m_M_meanWeight (d + 6) 22 [xR 53, xI x1, xI x2, xI x3] [] h Q X := by
  have hnx9 : (93 : Int) ≤ xnx h := F.2.2
  refine xr_okL (fun hl9 => ?_)
  have r_x1 : -2147483648 ≤ x1 ∧ x1 ≤ 2147483647 := hl9 (xI x1) (.tail _ (.head _)) (Nat.le_of_ble_eq_true rfl)
  have r_x2 : -2147483648 ≤ x2 ∧ x2 ≤ 2147483647 := hl9 (xI x2) (.tail _ (.tail _ (.head _))) (Nat.le_of_ble_eq_true rfl)
  have r_x3 : -2147483648 ≤ x3 ∧ x3 ≤ 2147483647 := hl9 (xI x3) (.tail _ (.tail _ (.tail _ (.head _)))) (Nat.le_of_ble_eq_true rfl)
  refine xr_iload_n (pc := 22) (i := 3) (hI := d_M_meanWeight_22) (hi := rfl) (hl := rfl) ?_
  refine xr_iload_n (pc := 23) (i := 1) (hI := d_M_meanWeight_23) (hi := rfl) (hl := rfl) ?_
  refine xr_icmp_ge (pc := 24) (tgt := 42) (hI := d_M_meanWeight_24) (ht := by decide) (fun q9 => ?_) (fun q9 => ?_)
  · replace hyp := hyp.1 q9
    have q1_ := q9
    clear q9
    refine xr_iload_n (pc := 42) (i := 1) (hI := d_M_meanWeight_42) (hi := rfl) (hl := rfl) ?_
    refine xr_if_ne (pc := 43) (tgt := 50) (hI := d_M_meanWeight_43) (ht := by decide) (fun q9 => ?_) (fun q9 => ?_)
    · replace hyp := hyp.2 q9
      have q2_ := q9
      clear q9
      refine xr_iload_n (pc := 50) (i := 2) (hI := d_M_meanWeight_50) (hi := rfl) (hl := rfl) ?_
      refine xr_i2d (pc := 51) (hI := d_M_meanWeight_51) ?_
      refine xr_iload_n (pc := 52) (i := 1) (hI := d_M_meanWeight_52) (hi := rfl) (hl := rfl) ?_
      refine xr_i2d (pc := 53) (hI := d_M_meanWeight_53) ?_
      obtain ⟨c9, hyp⟩ := hyp
      refine xr_ddiv (pc := 54) (hI := d_M_meanWeight_54) (hr := c9) ?_
      refine xr_dreturn (S := []) (pc := 55) (hI := d_M_meanWeight_55) (hr := rfl) ?_
      exact hyp
    · replace hyp := hyp.1 q9
      have q2_ := q9
      clear q9
      refine xr_dconst0 (pc := 46) (hI := d_M_meanWeight_46) ?_
      refine xr_goto (pc := 47) (tgt := 55) (hI := d_M_meanWeight_47) (ht := by decide) ?_
      refine xr_dreturn (S := []) (pc := 55) (hI := d_M_meanWeight_55) (hr := rfl) ?_
      exact hyp
  · replace hyp := hyp.2 q9
    have q1_ := q9
    clear q9
    refine xr_iload_n (pc := 27) (i := 2) (hI := d_M_meanWeight_27) (hi := rfl) (hl := rfl) ?_
    refine xr_aload_n (pc := 28) (i := 0) (hI := d_M_meanWeight_28) (hi := rfl) (hl := rfl) ?_
    refine xg_getf (pc := 29) (ci := 11) (k := 37) (N := 38) (v9 := 2) (v := 90) (T := xF11) (hI := d_M_meanWeight_29) (hw := w_1624) rfl xi11 (Or.inl rfl) (Nat.le_of_ble_eq_true rfl) (Nat.le_of_ble_eq_true rfl) rfl (ft_53 F) (fp_53_37 F) (fun f3_ => ?_)
    clear f3_
    refine xr_iload_n (pc := 32) (i := 3) (hI := d_M_meanWeight_32) (hi := rfl) (hl := rfl) ?_
    obtain ⟨c4_, hyp⟩ := hyp
    obtain ⟨c5_, hyp⟩ := hyp
    refine xg_iaload (pc := 33) (v := (xpl h 90 x3)) (hI := d_M_meanWeight_33) (ft_90 F) c4_ (xlt_of (fl_90 F) c5_) rfl (fun f6_ => ?_)
    replace f6_ : -2147483648 ≤ (xpl h 90 x3) ∧ (xpl h 90 x3) ≤ 2147483647 := f6_
    obtain ⟨c9, hyp⟩ := hyp
    refine xr_iadd (pc := 34) (hI := d_M_meanWeight_34) (hr := c9) ?_
    refine xr_istore_n (pc := 35) (i := 2) (L9 := [xR 53, xI x1, xI (x2 + (xpl h 90 x3)), xI x3]) (hI := d_M_meanWeight_35) (hi := rfl) (hn := Nat.le_of_ble_eq_true rfl) (hL9 := rfl) ?_
    refine xr_iinc (pc := 36) (i := 3) (L9 := [xR 53, xI x1, xI (x2 + (xpl h 90 x3)), xI (x3 + 1)]) (hI := d_M_meanWeight_36) (hl := rfl) (hn := Nat.le_of_ble_eq_true rfl) (hr := ⟨by clear hyp; omega, by clear hyp; omega⟩) (hL9 := rfl) ?_
    refine xr_goto (pc := 39) (tgt := 22) (hI := d_M_meanWeight_39) (ht := by decide) ?_
    exact hyp

end
