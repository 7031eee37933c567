/-! ===== find ===== -/
section
abbrev m_Findings_textAt : XM := (⟨"BeaconIndex$Findings", "textAt", "(I)I"⟩, prog_2_method_3_code, 2, (some .int), [])
theorem d_Findings_textAt_0 : decode prog_2_method_3_code 0 = .ok (.iload_n 1, 1) := by decide +kernel
theorem d_Findings_textAt_1 : decode prog_2_method_3_code 1 = .ok (.ifCond .lt 29, 3) := by decide +kernel
theorem d_Findings_textAt_30 : decode prog_2_method_3_code 30 = .ok (.iconst (-1), 1) := by decide +kernel
theorem d_Findings_textAt_31 : decode prog_2_method_3_code 31 = .ok (.ireturn, 1) := by decide +kernel
theorem d_Findings_textAt_4 : decode prog_2_method_3_code 4 = .ok (.iload_n 1, 1) := by decide +kernel
theorem d_Findings_textAt_5 : decode prog_2_method_3_code 5 = .ok (.aload_n 0, 1) := by decide +kernel
theorem d_Findings_textAt_6 : decode prog_2_method_3_code 6 = .ok (.getfield 32, 3) := by decide +kernel
theorem w_412 : Cond.fieldLink "BeaconIndex$Findings" 32 "BeaconIndex$Findings" "count" "I" ∈ lw_tbl := List.mem_append_right _ (List.mem_of_getElem? (i := 412) (by decide +kernel))
theorem d_Findings_textAt_9 : decode prog_2_method_3_code 9 = .ok (.if_icmp .ge 21, 3) := by decide +kernel
theorem d_Findings_textAt_12 : decode prog_2_method_3_code 12 = .ok (.iload_n 1, 1) := by decide +kernel
theorem d_Findings_textAt_13 : decode prog_2_method_3_code 13 = .ok (.aload_n 0, 1) := by decide +kernel
theorem d_Findings_textAt_14 : decode prog_2_method_3_code 14 = .ok (.getfield 29, 3) := by decide +kernel
theorem w_411 : Cond.fieldLink "BeaconIndex$Findings" 29 "BeaconIndex$Findings" "order" "[I" ∈ lw_tbl := List.mem_append_right _ (List.mem_of_getElem? (i := 411) (by decide +kernel))
theorem d_Findings_textAt_17 : decode prog_2_method_3_code 17 = .ok (.arraylength, 1) := by decide +kernel
theorem d_Findings_textAt_18 : decode prog_2_method_3_code 18 = .ok (.if_icmp .ge 12, 3) := by decide +kernel
theorem d_Findings_textAt_21 : decode prog_2_method_3_code 21 = .ok (.aload_n 0, 1) := by decide +kernel
theorem d_Findings_textAt_22 : decode prog_2_method_3_code 22 = .ok (.getfield 29, 3) := by decide +kernel
theorem d_Findings_textAt_25 : decode prog_2_method_3_code 25 = .ok (.iload_n 1, 1) := by decide +kernel
theorem d_Findings_textAt_26 : decode prog_2_method_3_code 26 = .ok (.iaload, 1) := by decide +kernel
theorem d_Findings_textAt_27 : decode prog_2_method_3_code 27 = .ok (.goto 4, 3) := by decide +kernel
theorem v_Findings_textAt_0 {G : XG} {d : Nat} {h : XH} {Q : XV → XH → Prop} {X : Nat → XH → Prop} {x1 : Int} (F : xFix h) (hyp : ((x1 < 0 → (Q (xI (-1)) h)) ∧ (¬ x1 < 0 → (((xpl h 40 5) ≤ x1 → (Q (xI (-1)) h)) ∧ (¬ (xpl h 40 5) ≤ x1 → (((60 : Int) ≤ x1 → (Q (xI (-1)) h)) ∧ (¬ (60 : Int) ≤ x1 → (Q (xI (xpl h 51 x1)) h)))))))) : xwp G m_Findings_textAt (d + 1) 0 [xR 40, xI x1] [] h Q X := by
  have hnx9 : (93 : Int) ≤ xnx h := F.2.2
  refine xr_okL (fun hl9 => ?_)
  have r_x1 : -2147483648 ≤ x1 ∧ x1 ≤ 2147483647 := hl9 (xI x1) (.tail _ (.head _)) (Nat.le_of_ble_eq_true rfl)
  refine xr_iload_n (pc := 0) (i := 1) (hI := d_Findings_textAt_0) (hi := rfl) (hl := rfl) ?_
  refine xr_if_lt (pc := 1) (tgt := 30) (hI := d_Findings_textAt_1) (ht := by decide) (fun q9 => ?_) (fun q9 => ?_)
  · replace hyp := hyp.1 q9
    have q1_ := q9
    clear q9
    refine xr_iconst (pc := 30) (hI := d_Findings_textAt_30) (hr := by decide) ?_
    refine xr_ireturn (S := []) (pc := 31) (hI := d_Findings_textAt_31) (hr := rfl) ?_
    exact hyp
  · replace hyp := hyp.2 q9
    have q1_ := q9
    clear q9
    refine xr_iload_n (pc := 4) (i := 1) (hI := d_Findings_textAt_4) (hi := rfl) (hl := rfl) ?_
    refine xr_aload_n (pc := 5) (i := 0) (hI := d_Findings_textAt_5) (hi := rfl) (hl := rfl) ?_
    refine xg_getf (pc := 6) (ci := 1) (k := 5) (N := 6) (v9 := 0) (v := (xpl h 40 5)) (T := xF1) (hI := d_Findings_textAt_6) (hw := w_412) rfl xi1 (Or.inl rfl) (Nat.le_of_ble_eq_true rfl) (Nat.le_of_ble_eq_true rfl) rfl (ft_40 F) rfl (fun f2_ => ?_)
    replace f2_ : -2147483648 ≤ (xpl h 40 5) ∧ (xpl h 40 5) ≤ 2147483647 := f2_
    refine xr_icmp_ge (pc := 9) (tgt := 30) (hI := d_Findings_textAt_9) (ht := by decide) (fun q9 => ?_) (fun q9 => ?_)
    · replace hyp := hyp.1 q9
      have q3_ := q9
      clear q9
      refine xr_iconst (pc := 30) (hI := d_Findings_textAt_30) (hr := by decide) ?_
      refine xr_ireturn (S := []) (pc := 31) (hI := d_Findings_textAt_31) (hr := rfl) ?_
      exact hyp
    · replace hyp := hyp.2 q9
      have q3_ := q9
      clear q9
      refine xr_iload_n (pc := 12) (i := 1) (hI := d_Findings_textAt_12) (hi := rfl) (hl := rfl) ?_
      refine xr_aload_n (pc := 13) (i := 0) (hI := d_Findings_textAt_13) (hi := rfl) (hl := rfl) ?_
      refine xg_getf (pc := 14) (ci := 1) (k := 4) (N := 6) (v9 := 2) (v := 51) (T := xF1) (hI := d_Findings_textAt_14) (hw := w_411) rfl xi1 (Or.inl rfl) (Nat.le_of_ble_eq_true rfl) (Nat.le_of_ble_eq_true rfl) rfl (ft_40 F) (fp_40_4 F) (fun f4_ => ?_)
      clear f4_
      refine xg_alen (pc := 17) (t := 100) (v := 60) (hI := d_Findings_textAt_17) (ft_51 F) (Nat.le_of_ble_eq_true rfl) (Nat.le_of_ble_eq_true rfl) rfl (fl_51 F) (fun f5_ f6_ => ?_)
      clear f5_ f6_
      refine xr_icmp_ge (pc := 18) (tgt := 30) (hI := d_Findings_textAt_18) (ht := by decide) (fun q9 => ?_) (fun q9 => ?_)
      · replace hyp := hyp.1 q9
        have q7_ := q9
        clear q9
        refine xr_iconst (pc := 30) (hI := d_Findings_textAt_30) (hr := by decide) ?_
        refine xr_ireturn (S := []) (pc := 31) (hI := d_Findings_textAt_31) (hr := rfl) ?_
        exact hyp
      · replace hyp := hyp.2 q9
        have q7_ := q9
        clear q9
        refine xr_aload_n (pc := 21) (i := 0) (hI := d_Findings_textAt_21) (hi := rfl) (hl := rfl) ?_
        refine xg_getf (pc := 22) (ci := 1) (k := 4) (N := 6) (v9 := 2) (v := 51) (T := xF1) (hI := d_Findings_textAt_22) (hw := w_411) rfl xi1 (Or.inl rfl) (Nat.le_of_ble_eq_true rfl) (Nat.le_of_ble_eq_true rfl) rfl (ft_40 F) (fp_40_4 F) (fun f8_ => ?_)
        clear f8_
        refine xr_iload_n (pc := 25) (i := 1) (hI := d_Findings_textAt_25) (hi := rfl) (hl := rfl) ?_
        refine xg_iaload (pc := 26) (v := (xpl h 51 x1)) (hI := d_Findings_textAt_26) (ft_51 F) (by clear hyp; omega) (xlt_of (fl_51 F) (by clear hyp; omega)) rfl (fun f9_ => ?_)
        replace f9_ : -2147483648 ≤ (xpl h 51 x1) ∧ (xpl h 51 x1) ≤ 2147483647 := f9_
        refine xr_goto (pc := 27) (tgt := 31) (hI := d_Findings_textAt_27) (ht := by decide) ?_
        refine xr_ireturn (S := []) (pc := 31) (hI := d_Findings_textAt_31) (hr := rfl) ?_
        exact hyp
abbrev m_Findings_weightAt : XM := (⟨"BeaconIndex$Findings", "weightAt", "(I)I"⟩, prog_2_method_4_code, 3, (some .int), [])
theorem d_Findings_weightAt_0 : decode prog_2_method_4_code 0 = .ok (.aload_n 0, 1) := by decide +kernel
theorem d_Findings_weightAt_1 : decode prog_2_method_4_code 1 = .ok (.iload_n 1, 1) := by decide +kernel
theorem d_Findings_weightAt_2 : decode prog_2_method_4_code 2 = .ok (.invokevirtual 41, 3) := by decide +kernel
theorem k_Findings_textAt : xCal m_Findings_textAt 1 := ⟨List.mem_append_right _ (List.mem_of_getElem? (i := 1278) (by decide +kernel)), w_12, Nat.le_of_ble_eq_true rfl, ⟨by decide +kernel, by decide +kernel⟩, by decide +kernel, by decide +kernel, rfl⟩
theorem w_1287 : Cond.methodLink "BeaconIndex$Findings" 41 ⟨"BeaconIndex$Findings", "textAt", "(I)I"⟩ ∈ lw_tbl := List.mem_append_right _ (List.mem_of_getElem? (i := 1287) (by decide +kernel))
theorem w_1276 : Cond.instanceMethod ⟨"BeaconIndex$Findings", "textAt", "(I)I"⟩ ∈ lw_tbl := List.mem_append_right _ (List.mem_of_getElem? (i := 1276) (by decide +kernel))
theorem w_1277 : Cond.selects "BeaconIndex$Findings" ⟨"BeaconIndex$Findings", "textAt", "(I)I"⟩ ⟨"BeaconIndex$Findings", "textAt", "(I)I"⟩ ∈ lw_tbl := List.mem_append_right _ (List.mem_of_getElem? (i := 1277) (by decide +kernel))
theorem v_Findings_weightAt_0 {G : XG} {d : Nat} {h : XH} {Q : XV → XH → Prop} {X : Nat → XH → Prop} {x1 : Int} (F : xFix h) (hyp : (xwp G m_Findings_textAt (d + 1) 0 [xR 40, xI x1] [] h (fun v9 h9 => xwp G m_Findings_weightAt (d + 2) 5 [xR 40, xZ, xZ] (xpush v9 []) h9 Q X) X)) : xwp G m_Findings_weightAt (d + 2) 0 [xR 40, xI x1, xZ] [] h Q X := by
  have hnx9 : (93 : Int) ≤ xnx h := F.2.2
  refine xr_okL (fun hl9 => ?_)
  have r_x1 : -2147483648 ≤ x1 ∧ x1 ≤ 2147483647 := hl9 (xI x1) (.tail _ (.head _)) (Nat.le_of_ble_eq_true rfl)
  refine xr_aload_n (pc := 0) (i := 0) (hI := d_Findings_weightAt_0) (hi := rfl) (hl := rfl) ?_
  refine xr_iload_n (pc := 1) (i := 1) (hI := d_Findings_weightAt_1) (hi := rfl) (hl := rfl) ?_
  exact xq_callV (pc := 2) (index := 41) (K := m_Findings_textAt) (As := [xI x1]) (S := []) (L0 := [xR 40, xI x1]) (hI := d_Findings_weightAt_2) (hK := k_Findings_textAt) (hlk := w_1287) (hnoM := rfl) (hS8 := Nat.le_of_ble_eq_true rfl) (ci := 1) (N := 6) (C := "BeaconIndex$Findings") (T := xF1) (hc := rfl) (hci := Nat.le_of_ble_eq_true rfl) (htb := (ft_40 F)) (hinst := w_1276) (hsel := w_1277) (hlen := Nat.le_of_ble_eq_true rfl) (hst := rfl) (hL0 := rfl)  (xwp_mono hyp (fun v9 h9 q9 => xr_drop (L9 := [xR 40, xZ, xZ]) (xdrs (xdrz (xdrs xdr0))) q9) (fun _ _ z9 => z9))
theorem d_Findings_weightAt_5 : decode prog_2_method_4_code 5 = .ok (.istore_n 2, 1) := by decide +kernel
theorem d_Findings_weightAt_6 : decode prog_2_method_4_code 6 = .ok (.iload_n 2, 1) := by decide +kernel
theorem d_Findings_weightAt_7 : decode prog_2_method_4_code 7 = .ok (.iconst (-1), 1) := by decide +kernel
theorem d_Findings_weightAt_8 : decode prog_2_method_4_code 8 = .ok (.if_icmp .ne 7, 3) := by decide +kernel
theorem d_Findings_weightAt_15 : decode prog_2_method_4_code 15 = .ok (.aload_n 0, 1) := by decide +kernel
theorem d_Findings_weightAt_16 : decode prog_2_method_4_code 16 = .ok (.getfield 26, 3) := by decide +kernel
theorem w_410 : Cond.fieldLink "BeaconIndex$Findings" 26 "BeaconIndex$Findings" "weights" "[I" ∈ lw_tbl := List.mem_append_right _ (List.mem_of_getElem? (i := 410) (by decide +kernel))
theorem d_Findings_weightAt_19 : decode prog_2_method_4_code 19 = .ok (.iload_n 2, 1) := by decide +kernel
theorem d_Findings_weightAt_20 : decode prog_2_method_4_code 20 = .ok (.iaload, 1) := by decide +kernel
theorem d_Findings_weightAt_21 : decode prog_2_method_4_code 21 = .ok (.ireturn, 1) := by decide +kernel
theorem d_Findings_weightAt_11 : decode prog_2_method_4_code 11 = .ok (.iconst 0, 1) := by decide +kernel
theorem d_Findings_weightAt_12 : decode prog_2_method_4_code 12 = .ok (.goto 9, 3) := by decide +kernel
theorem v_Findings_weightAt_5 {G : XG} {d : Nat} {h : XH} {Q : XV → XH → Prop} {X : Nat → XH → Prop} {s0 : Int} (F : xFix h) (hyp : ((s0 = (-1) → (Q (xI 0) h)) ∧ (¬ s0 = (-1) → 0 ≤ s0 ∧ s0 < 60 ∧ (Q (xI (xpl h 50 s0)) h)))) : xwp G m_Findings_weightAt (d + 2) 5 [xR 40, xZ, xZ] [xI s0] h Q X := by
  have hnx9 : (93 : Int) ≤ xnx h := F.2.2
  refine xr_okS (fun hs9 => ?_)
  have r_s0 : -2147483648 ≤ s0 ∧ s0 ≤ 2147483647 := hs9 (xI s0) (.head _)
  refine xr_istore_n (pc := 5) (i := 2) (L9 := [xR 40, xZ, xI s0]) (hI := d_Findings_weightAt_5) (hi := rfl) (hn := Nat.le_of_ble_eq_true rfl) (hL9 := rfl) ?_
  refine xr_iload_n (pc := 6) (i := 2) (hI := d_Findings_weightAt_6) (hi := rfl) (hl := rfl) ?_
  refine xr_iconst (pc := 7) (hI := d_Findings_weightAt_7) (hr := by decide) ?_
  refine xr_icmp_ne (pc := 8) (tgt := 15) (hI := d_Findings_weightAt_8) (ht := by decide) (fun q9 => ?_) (fun q9 => ?_)
  · replace hyp := hyp.2 q9
    have q1_ := q9
    clear q9
    refine xr_aload_n (pc := 15) (i := 0) (hI := d_Findings_weightAt_15) (hi := rfl) (hl := rfl) ?_
    refine xg_getf (pc := 16) (ci := 1) (k := 3) (N := 6) (v9 := 2) (v := 50) (T := xF1) (hI := d_Findings_weightAt_16) (hw := w_410) rfl xi1 (Or.inl rfl) (Nat.le_of_ble_eq_true rfl) (Nat.le_of_ble_eq_true rfl) rfl (ft_40 F) (fp_40_3 F) (fun f2_ => ?_)
    clear f2_
    refine xr_iload_n (pc := 19) (i := 2) (hI := d_Findings_weightAt_19) (hi := rfl) (hl := rfl) ?_
    obtain ⟨c3_, hyp⟩ := hyp
    obtain ⟨c4_, hyp⟩ := hyp
    refine xg_iaload (pc := 20) (v := (xpl h 50 s0)) (hI := d_Findings_weightAt_20) (ft_50 F) c3_ (xlt_of (fl_50 F) c4_) rfl (fun f5_ => ?_)
    replace f5_ : -2147483648 ≤ (xpl h 50 s0) ∧ (xpl h 50 s0) ≤ 2147483647 := f5_
    refine xr_ireturn (S := []) (pc := 21) (hI := d_Findings_weightAt_21) (hr := rfl) ?_
    exact hyp
  · replace hyp := hyp.1 q9
    have q1_ := q9
    clear q9
    refine xr_iconst (pc := 11) (hI := d_Findings_weightAt_11) (hr := by decide) ?_
    refine xr_goto (pc := 12) (tgt := 21) (hI := d_Findings_weightAt_12) (ht := by decide) ?_
    refine xr_ireturn (S := []) (pc := 21) (hI := d_Findings_weightAt_21) (hr := rfl) ?_
    exact hyp
abbrev m_Findings_weightOfPart : XM := (⟨"BeaconIndex$Findings", "weightOfPart", "(LBeaconIndex$Part;I)I"⟩, prog_2_method_5_code, 3, (some .int), [])
theorem d_Findings_weightOfPart_0 : decode prog_2_method_5_code 0 = .ok (.aload_n 0, 1) := by decide +kernel
theorem d_Findings_weightOfPart_1 : decode prog_2_method_5_code 1 = .ok (.getfield 22, 3) := by decide +kernel
theorem w_409 : Cond.fieldLink "BeaconIndex$Findings" 22 "BeaconIndex$Findings" "partWeights" "[I" ∈ lw_tbl := List.mem_append_right _ (List.mem_of_getElem? (i := 409) (by decide +kernel))
theorem d_Findings_weightOfPart_4 : decode prog_2_method_5_code 4 = .ok (.aload_n 1, 1) := by decide +kernel
theorem d_Findings_weightOfPart_5 : decode prog_2_method_5_code 5 = .ok (.iload_n 2, 1) := by decide +kernel
theorem d_Findings_weightOfPart_6 : decode prog_2_method_5_code 6 = .ok (.invokestatic 45, 3) := by decide +kernel
theorem w_737 : Cond.methodLink "BeaconIndex$Findings" 45 ⟨"BeaconIndex$Findings", "slot", "(LBeaconIndex$Part;I)I"⟩ ∈ lw_tbl := List.mem_append_right _ (List.mem_of_getElem? (i := 737) (by decide +kernel))
theorem d_Findings_weightOfPart_9 : decode prog_2_method_5_code 9 = .ok (.iaload, 1) := by decide +kernel
theorem d_Findings_weightOfPart_10 : decode prog_2_method_5_code 10 = .ok (.ireturn, 1) := by decide +kernel
theorem v_Findings_weightOfPart_0 {G : XG} {d : Nat} {h : XH} {Q : XV → XH → Prop} {X : Nat → XH → Prop} {x1 x2 : Int} (F : xFix h) (hyp : xtg h x1 = 4 ∧ (Q (xI (xpl h 49 (slF (xpl h x1 0) x2))) h)) : xwp G m_Findings_weightOfPart (d + 2) 0 [xR 40, xR x1, xI x2] [] h Q X := by
  have hnx9 : (93 : Int) ≤ xnx h := F.2.2
  refine xr_okL (fun hl9 => ?_)
  have r_x2 : -2147483648 ≤ x2 ∧ x2 ≤ 2147483647 := hl9 (xI x2) (.tail _ (.tail _ (.head _))) (Nat.le_of_ble_eq_true rfl)
  refine xr_aload_n (pc := 0) (i := 0) (hI := d_Findings_weightOfPart_0) (hi := rfl) (hl := rfl) ?_
  refine xg_getf (pc := 1) (ci := 1) (k := 2) (N := 6) (v9 := 2) (v := 49) (T := xF1) (hI := d_Findings_weightOfPart_1) (hw := w_409) rfl xi1 (Or.inl rfl) (Nat.le_of_ble_eq_true rfl) (Nat.le_of_ble_eq_true rfl) rfl (ft_40 F) (fp_40_2 F) (fun f1_ => ?_)
  clear f1_
  refine xr_aload_n (pc := 4) (i := 1) (hI := d_Findings_weightOfPart_4) (hi := rfl) (hl := rfl) ?_
  refine xr_iload_n (pc := 5) (i := 2) (hI := d_Findings_weightOfPart_5) (hi := rfl) (hl := rfl) ?_
  obtain ⟨c2_, hyp⟩ := hyp
  refine xq_callS (pc := 6) (index := 45) (K := m_Findings_slot) (As := [xR x1, xI x2]) (S := [xR 49]) (L0 := [xR x1, xI x2, xZ]) (hI := d_Findings_weightOfPart_6) (hK := k_Findings_slot) (hlk := w_737) (hnoM := rfl) (hS8 := Nat.le_of_ble_eq_true rfl) (hstat := w_689) (hlen := Nat.le_of_ble_eq_true rfl) (hst := rfl) (hL0 := rfl)  (p_Findings_slot F c2_ ?_)
  show xwp G m_Findings_weightOfPart (d + 2) 9 [xR 40, xR x1, xI x2] [xI (slF (xpl h x1 0) x2), xR 49] _ _ _
  have f3_ : 0 ≤ (slF (xpl h x1 0) x2) ∧ (slF (xpl h x1 0) x2) ≤ 2399 := (slF_rng _ _)
  refine xg_iaload (pc := 9) (v := (xpl h 49 (slF (xpl h x1 0) x2))) (hI := d_Findings_weightOfPart_9) (ft_49 F) (by clear hyp; omega) (xlt_of (fl_49 F) (by clear hyp; omega)) rfl (fun f4_ => ?_)
  replace f4_ : -2147483648 ≤ (xpl h 49 (slF (xpl h x1 0) x2)) ∧ (xpl h 49 (slF (xpl h x1 0) x2)) ≤ 2147483647 := f4_
  refine xr_ireturn (S := []) (pc := 10) (hI := d_Findings_weightOfPart_10) (hr := rfl) ?_
  exact hyp
abbrev m_Findings_judge : XM := (⟨"BeaconIndex$Findings", "judge", "(LBeaconIndex$Question;Ljava/util/ArrayList;ILBeaconIndex$Text;)V"⟩, prog_2_method_7_code, 9, none, [])
theorem d_Findings_judge_0 : decode prog_2_method_7_code 0 = .ok (.aload_n 1, 1) := by decide +kernel
theorem d_Findings_judge_1 : decode prog_2_method_7_code 1 = .ok (.invokevirtual 89, 3) := by decide +kernel
theorem w_11 : Cond.initialized "BeaconIndex$Question" ∈ lw_tbl := List.mem_append_right _ (List.mem_of_getElem? (i := 11) (by decide +kernel))
theorem k_Question_forgetText : xCal m_Question_forgetText 0 := ⟨List.mem_append_right _ (List.mem_of_getElem? (i := 708) (by decide +kernel)), w_11, Nat.le_of_ble_eq_true rfl, ⟨by decide +kernel, by decide +kernel⟩, by decide +kernel, by decide +kernel, rfl⟩
theorem w_705 : Cond.methodLink "BeaconIndex$Findings" 89 ⟨"BeaconIndex$Question", "forgetText", "()V"⟩ ∈ lw_tbl := List.mem_append_right _ (List.mem_of_getElem? (i := 705) (by decide +kernel))
theorem w_706 : Cond.instanceMethod ⟨"BeaconIndex$Question", "forgetText", "()V"⟩ ∈ lw_tbl := List.mem_append_right _ (List.mem_of_getElem? (i := 706) (by decide +kernel))
theorem w_707 : Cond.selects "BeaconIndex$Question" ⟨"BeaconIndex$Question", "forgetText", "()V"⟩ ⟨"BeaconIndex$Question", "forgetText", "()V"⟩ ∈ lw_tbl := List.mem_append_right _ (List.mem_of_getElem? (i := 707) (by decide +kernel))
theorem v_Findings_judge_0 {G : XG} {d : Nat} {h : XH} {Q : XV → XH → Prop} {X : Nat → XH → Prop} {x1 x2 x3 x4 : Int} (F : xFix h) (hyp : xtg h x1 = 5 ∧ (xwp G m_Question_forgetText (d + 3) 0 [xR x1] [] h (fun v9 h9 => xwp G m_Findings_judge (d + 4) 4 [xR 40, xR x1, xR x2, xI x3, xR x4, xZ, xZ, xZ, xZ] (xpush v9 []) h9 Q X) X)) : xwp G m_Findings_judge (d + 4) 0 [xR 40, xR x1, xR x2, xI x3, xR x4, xZ, xZ, xZ, xZ] [] h Q X := by
  have hnx9 : (93 : Int) ≤ xnx h := F.2.2
  refine xr_okL (fun hl9 => ?_)
  have r_x3 : -2147483648 ≤ x3 ∧ x3 ≤ 2147483647 := hl9 (xI x3) (.tail _ (.tail _ (.tail _ (.head _)))) (Nat.le_of_ble_eq_true rfl)
  refine xr_aload_n (pc := 0) (i := 1) (hI := d_Findings_judge_0) (hi := rfl) (hl := rfl) ?_
  obtain ⟨c9, hyp⟩ := hyp
  have t1_ := c9
  clear c9
  exact xq_callV (pc := 1) (index := 89) (K := m_Question_forgetText) (As := []) (S := []) (L0 := [xR x1]) (hI := d_Findings_judge_1) (hK := k_Question_forgetText) (hlk := w_705) (hnoM := rfl) (hS8 := Nat.le_of_ble_eq_true rfl) (ci := 5) (N := 5) (C := "BeaconIndex$Question") (T := xF5) (hc := rfl) (hci := Nat.le_of_ble_eq_true rfl) (htb := t1_) (hinst := w_706) (hsel := w_707) (hlen := Nat.le_of_ble_eq_true rfl) (hst := rfl) (hL0 := rfl)  hyp
theorem d_Findings_judge_4 : decode prog_2_method_7_code 4 = .ok (.iconst 0, 1) := by decide +kernel
theorem d_Findings_judge_5 : decode prog_2_method_7_code 5 = .ok (.istore 5, 2) := by decide +kernel
theorem v_Findings_judge_4 {G : XG} {d : Nat} {h : XH} {Q : XV → XH → Prop} {X : Nat → XH → Prop} {x1 x2 x3 x4 : Int} (F : xFix h) (hyp : (xwp G m_Findings_judge (d + 4) 7 [xR 40, xR x1, xR x2, xI x3, xR x4, xI 0, xZ, xZ, xZ] [] h Q X)) : xwp G m_Findings_judge (d + 4) 4 [xR 40, xR x1, xR x2, xI x3, xR x4, xZ, xZ, xZ, xZ] [] h Q X := by
  have hnx9 : (93 : Int) ≤ xnx h := F.2.2
  refine xr_okL (fun hl9 => ?_)
  have r_x3 : -2147483648 ≤ x3 ∧ x3 ≤ 2147483647 := hl9 (xI x3) (.tail _ (.tail _ (.tail _ (.head _)))) (Nat.le_of_ble_eq_true rfl)
  refine xr_iconst (pc := 4) (hI := d_Findings_judge_4) (hr := by decide) ?_
  refine xr_istore (pc := 5) (i := 5) (L9 := [xR 40, xR x1, xR x2, xI x3, xR x4, xI 0, xZ, xZ, xZ]) (hI := d_Findings_judge_5) (hn := Nat.le_of_ble_eq_true rfl) (hL9 := rfl) ?_
  exact hyp
theorem d_Findings_judge_7 : decode prog_2_method_7_code 7 = .ok (.iload 5, 2) := by decide +kernel
theorem d_Findings_judge_9 : decode prog_2_method_7_code 9 = .ok (.aload_n 1, 1) := by decide +kernel
theorem d_Findings_judge_10 : decode prog_2_method_7_code 10 = .ok (.getfield 92, 3) := by decide +kernel
theorem w_288 : Cond.fieldLink "BeaconIndex$Findings" 92 "BeaconIndex$Question" "parts" "Ljava/util/ArrayList;" ∈ lw_tbl := List.mem_append_right _ (List.mem_of_getElem? (i := 288) (by decide +kernel))
theorem d_Findings_judge_13 : decode prog_2_method_7_code 13 = .ok (.invokevirtual 59, 3) := by decide +kernel
theorem w_697 : Cond.methodLink "BeaconIndex$Findings" 59 ⟨"java/util/ArrayList", "size", "()I"⟩ ∈ lw_tbl := List.mem_append_right _ (List.mem_of_getElem? (i := 697) (by decide +kernel))
theorem d_Findings_judge_16 : decode prog_2_method_7_code 16 = .ok (.if_icmp .ge 170, 3) := by decide +kernel
theorem d_Findings_judge_186 : decode prog_2_method_7_code 186 = .ok (.return_, 1) := by decide +kernel
theorem d_Findings_judge_19 : decode prog_2_method_7_code 19 = .ok (.aload_n 1, 1) := by decide +kernel
theorem d_Findings_judge_20 : decode prog_2_method_7_code 20 = .ok (.getfield 92, 3) := by decide +kernel
theorem d_Findings_judge_23 : decode prog_2_method_7_code 23 = .ok (.iload 5, 2) := by decide +kernel
theorem d_Findings_judge_25 : decode prog_2_method_7_code 25 = .ok (.invokevirtual 63, 3) := by decide +kernel
theorem w_698 : Cond.methodLink "BeaconIndex$Findings" 63 ⟨"java/util/ArrayList", "get", "(I)Ljava/lang/Object;"⟩ ∈ lw_tbl := List.mem_append_right _ (List.mem_of_getElem? (i := 698) (by decide +kernel))
theorem d_Findings_judge_28 : decode prog_2_method_7_code 28 = .ok (.checkcast 37, 3) := by decide +kernel
theorem w_709 : Cond.classLink "BeaconIndex$Findings" 37 "BeaconIndex$Part" ∈ lw_tbl := List.mem_append_right _ (List.mem_of_getElem? (i := 709) (by decide +kernel))
theorem d_Findings_judge_31 : decode prog_2_method_7_code 31 = .ok (.astore 6, 2) := by decide +kernel
theorem d_Findings_judge_33 : decode prog_2_method_7_code 33 = .ok (.aload_n 0, 1) := by decide +kernel
theorem d_Findings_judge_34 : decode prog_2_method_7_code 34 = .ok (.getfield 12, 3) := by decide +kernel
theorem w_406 : Cond.fieldLink "BeaconIndex$Findings" 12 "BeaconIndex$Findings" "fits" "LBeaconIndex$Fits;" ∈ lw_tbl := List.mem_append_right _ (List.mem_of_getElem? (i := 406) (by decide +kernel))
theorem d_Findings_judge_37 : decode prog_2_method_7_code 37 = .ok (.aload 6, 2) := by decide +kernel
theorem d_Findings_judge_39 : decode prog_2_method_7_code 39 = .ok (.iload_n 3, 1) := by decide +kernel
theorem d_Findings_judge_40 : decode prog_2_method_7_code 40 = .ok (.invokevirtual 96, 3) := by decide +kernel
theorem k_Fits_isIn : xCal m_Fits_isIn 2 := ⟨List.mem_append_right _ (List.mem_of_getElem? (i := 713) (by decide +kernel)), w_13, Nat.le_of_ble_eq_true rfl, ⟨by decide +kernel, by decide +kernel⟩, by decide +kernel, by decide +kernel, rfl⟩
theorem w_710 : Cond.methodLink "BeaconIndex$Findings" 96 ⟨"BeaconIndex$Fits", "isIn", "(LBeaconIndex$Part;I)Z"⟩ ∈ lw_tbl := List.mem_append_right _ (List.mem_of_getElem? (i := 710) (by decide +kernel))
theorem w_711 : Cond.instanceMethod ⟨"BeaconIndex$Fits", "isIn", "(LBeaconIndex$Part;I)Z"⟩ ∈ lw_tbl := List.mem_append_right _ (List.mem_of_getElem? (i := 711) (by decide +kernel))
theorem w_712 : Cond.selects "BeaconIndex$Fits" ⟨"BeaconIndex$Fits", "isIn", "(LBeaconIndex$Part;I)Z"⟩ ⟨"BeaconIndex$Fits", "isIn", "(LBeaconIndex$Part;I)Z"⟩ ∈ lw_tbl := List.mem_append_right _ (List.mem_of_getElem? (i := 712) (by decide +kernel))
theorem v_Findings_judge_7 {G : XG} {d : Nat} {h : XH} {Q : XV → XH → Prop} {X : Nat → XH → Prop} {x1 x2 x3 x4 x5 : Int} (F : xFix h) (hyp : xtg h x1 = 5 ∧ xtg h (xpl h x1 0) = 13 ∧ alok h (xpl h x1 0) ∧ (((als h (xpl h x1 0)) ≤ x5 → (Q xN h)) ∧ (¬ (als h (xpl h x1 0)) ≤ x5 → 0 ≤ x5 ∧ xtg h (alg h (xpl h x1 0) x5) = 4 ∧ (xwp G m_Fits_isIn (d + 3) 0 [xR 41, xR (alg h (xpl h x1 0) x5), xI x3] [] h (fun v9 h9 => xwp G m_Findings_judge (d + 4) 43 [xR 40, xR x1, xR x2, xI x3, xR x4, xI x5, xR (alg h (xpl h x1 0) x5), xZ, xZ] (xpush v9 []) h9 Q X) X)))) : xwp G m_Findings_judge (d + 4) 7 [xR 40, xR x1, xR x2, xI x3, xR x4, xI x5, xZ, xZ, xZ] [] h Q X := by
  have hnx9 : (93 : Int) ≤ xnx h := F.2.2
  refine xr_okL (fun hl9 => ?_)
  have r_x3 : -2147483648 ≤ x3 ∧ x3 ≤ 2147483647 := hl9 (xI x3) (.tail _ (.tail _ (.tail _ (.head _)))) (Nat.le_of_ble_eq_true rfl)
  have r_x5 : -2147483648 ≤ x5 ∧ x5 ≤ 2147483647 := hl9 (xI x5) (.tail _ (.tail _ (.tail _ (.tail _ (.tail _ (.head _)))))) (Nat.le_of_ble_eq_true rfl)
  refine xr_iload (pc := 7) (i := 5) (hI := d_Findings_judge_7) (hl := rfl) ?_
  refine xr_aload_n (pc := 9) (i := 1) (hI := d_Findings_judge_9) (hi := rfl) (hl := rfl) ?_
  obtain ⟨c9, hyp⟩ := hyp
  have t1_ := c9
  clear c9
  refine xg_getf (pc := 10) (ci := 5) (k := 0) (N := 5) (v9 := 2) (v := (xpl h x1 0)) (T := xF5) (hI := d_Findings_judge_10) (hw := w_288) rfl xi5 (Or.inl rfl) (Nat.le_of_ble_eq_true rfl) (Nat.le_of_ble_eq_true rfl) rfl t1_ rfl (fun f2_ => ?_)
  clear f2_
  obtain ⟨c9, hyp⟩ := hyp
  have t3_ := c9
  clear c9
  obtain ⟨c4_, hyp⟩ := hyp
  refine xq_callV (pc := 13) (index := 59) (K := m_ArrayList_size) (As := []) (S := [xI x5]) (L0 := [xR (xpl h x1 0)]) (hI := d_Findings_judge_13) (hK := k_ArrayList_size) (hlk := w_697) (hnoM := rfl) (hS8 := Nat.le_of_ble_eq_true rfl) (ci := 13) (N := 3) (C := "java/util/ArrayList") (T := xF13) (hc := rfl) (hci := Nat.le_of_ble_eq_true rfl) (htb := t3_) (hinst := w_465) (hsel := w_466) (hlen := Nat.le_of_ble_eq_true rfl) (hst := rfl) (hL0 := rfl)  (p_AL_size F c4_ ?_)
  show xwp G m_Findings_judge (d + 4) 16 [xR 40, xR x1, xR x2, xI x3, xR x4, xI x5, xZ, xZ, xZ] [xI (als h (xpl h x1 0)), xI x5] _ _ _
  have f5_ : 0 ≤ (als h (xpl h x1 0)) ∧ (als h (xpl h x1 0)) ≤ 1000000 := ⟨c4_.2.2.1, c4_.2.2.2.2⟩
  refine xr_icmp_ge (pc := 16) (tgt := 186) (hI := d_Findings_judge_16) (ht := by decide) (fun q9 => ?_) (fun q9 => ?_)
  · replace hyp := hyp.1 q9
    have q6_ := q9
    clear q9
    refine xr_return (S := []) (pc := 186) (hI := d_Findings_judge_186) (hr := rfl) ?_
    exact hyp
  · replace hyp := hyp.2 q9
    have q6_ := q9
    clear q9
    refine xr_aload_n (pc := 19) (i := 1) (hI := d_Findings_judge_19) (hi := rfl) (hl := rfl) ?_
    refine xg_getf (pc := 20) (ci := 5) (k := 0) (N := 5) (v9 := 2) (v := (xpl h x1 0)) (T := xF5) (hI := d_Findings_judge_20) (hw := w_288) rfl xi5 (Or.inl rfl) (Nat.le_of_ble_eq_true rfl) (Nat.le_of_ble_eq_true rfl) rfl t1_ rfl (fun f7_ => ?_)
    clear f7_
    refine xr_iload (pc := 23) (i := 5) (hI := d_Findings_judge_23) (hl := rfl) ?_
    obtain ⟨c8_, hyp⟩ := hyp
    refine xq_callV (pc := 25) (index := 63) (K := m_ArrayList_get) (As := [xI x5]) (S := []) (L0 := [xR (xpl h x1 0), xI x5]) (hI := d_Findings_judge_25) (hK := k_ArrayList_get) (hlk := w_698) (hnoM := rfl) (hS8 := Nat.le_of_ble_eq_true rfl) (ci := 13) (N := 3) (C := "java/util/ArrayList") (T := xF13) (hc := rfl) (hci := Nat.le_of_ble_eq_true rfl) (htb := t3_) (hinst := w_469) (hsel := w_470) (hlen := Nat.le_of_ble_eq_true rfl) (hst := rfl) (hL0 := rfl)  (p_AL_get F c4_ c8_ (by clear hyp; omega) ?_)
    show xwp G m_Findings_judge (d + 4) 28 [xR 40, xR x1, xR x2, xI x3, xR x4, xI x5, xZ, xZ, xZ] [xR (alg h (xpl h x1 0) x5)] _ _ _
    obtain ⟨c9, hyp⟩ := hyp
    have t9_ := c9
    clear c9
    refine xr_cast (pc := 28) (ci := 4) (T := xF4) (N := 13) (hI := d_Findings_judge_28) w_709 rfl (Nat.le_of_ble_eq_true rfl) t9_ ?_
    refine xr_astore (pc := 31) (i := 6) (L9 := [xR 40, xR x1, xR x2, xI x3, xR x4, xI x5, xR (alg h (xpl h x1 0) x5), xZ, xZ]) (hI := d_Findings_judge_31) (hn := Nat.le_of_ble_eq_true rfl) (hL9 := rfl) ?_
    refine xr_aload_n (pc := 33) (i := 0) (hI := d_Findings_judge_33) (hi := rfl) (hl := rfl) ?_
    refine xg_getf (pc := 34) (ci := 1) (k := 0) (N := 6) (v9 := 2) (v := 41) (T := xF1) (hI := d_Findings_judge_34) (hw := w_406) rfl xi1 (Or.inl rfl) (Nat.le_of_ble_eq_true rfl) (Nat.le_of_ble_eq_true rfl) rfl (ft_40 F) (fp_40_0 F) (fun f10_ => ?_)
    clear f10_
    refine xr_aload (pc := 37) (i := 6) (hI := d_Findings_judge_37) (hl := rfl) ?_
    refine xr_iload_n (pc := 39) (i := 3) (hI := d_Findings_judge_39) (hi := rfl) (hl := rfl) ?_
    exact xq_callV (pc := 40) (index := 96) (K := m_Fits_isIn) (As := [xR (alg h (xpl h x1 0) x5), xI x3]) (S := []) (L0 := [xR 41, xR (alg h (xpl h x1 0) x5), xI x3]) (hI := d_Findings_judge_40) (hK := k_Fits_isIn) (hlk := w_710) (hnoM := rfl) (hS8 := Nat.le_of_ble_eq_true rfl) (ci := 2) (N := 4) (C := "BeaconIndex$Fits") (T := xF2) (hc := rfl) (hci := Nat.le_of_ble_eq_true rfl) (htb := (ft_41 F)) (hinst := w_711) (hsel := w_712) (hlen := Nat.le_of_ble_eq_true rfl) (hst := rfl) (hL0 := rfl)  hyp
theorem d_Findings_judge_43 : decode prog_2_method_7_code 43 = .ok (.istore 7, 2) := by decide +kernel
theorem d_Findings_judge_45 : decode prog_2_method_7_code 45 = .ok (.aload_n 0, 1) := by decide +kernel
theorem d_Findings_judge_46 : decode prog_2_method_7_code 46 = .ok (.getfield 12, 3) := by decide +kernel
theorem d_Findings_judge_49 : decode prog_2_method_7_code 49 = .ok (.aload 6, 2) := by decide +kernel
theorem d_Findings_judge_51 : decode prog_2_method_7_code 51 = .ok (.iload_n 3, 1) := by decide +kernel
theorem d_Findings_judge_52 : decode prog_2_method_7_code 52 = .ok (.aload 4, 2) := by decide +kernel
theorem d_Findings_judge_54 : decode prog_2_method_7_code 54 = .ok (.invokevirtual 100, 3) := by decide +kernel
theorem k_Fits_unitWeight : xCal m_Fits_unitWeight 3 := ⟨List.mem_append_right _ (List.mem_of_getElem? (i := 717) (by decide +kernel)), w_13, Nat.le_of_ble_eq_true rfl, ⟨by decide +kernel, by decide +kernel⟩, by decide +kernel, by decide +kernel, rfl⟩
theorem w_714 : Cond.methodLink "BeaconIndex$Findings" 100 ⟨"BeaconIndex$Fits", "unitWeight", "(LBeaconIndex$Part;ILBeaconIndex$Text;)I"⟩ ∈ lw_tbl := List.mem_append_right _ (List.mem_of_getElem? (i := 714) (by decide +kernel))
theorem w_715 : Cond.instanceMethod ⟨"BeaconIndex$Fits", "unitWeight", "(LBeaconIndex$Part;ILBeaconIndex$Text;)I"⟩ ∈ lw_tbl := List.mem_append_right _ (List.mem_of_getElem? (i := 715) (by decide +kernel))
theorem w_716 : Cond.selects "BeaconIndex$Fits" ⟨"BeaconIndex$Fits", "unitWeight", "(LBeaconIndex$Part;ILBeaconIndex$Text;)I"⟩ ⟨"BeaconIndex$Fits", "unitWeight", "(LBeaconIndex$Part;ILBeaconIndex$Text;)I"⟩ ∈ lw_tbl := List.mem_append_right _ (List.mem_of_getElem? (i := 716) (by decide +kernel))
theorem v_Findings_judge_43 {G : XG} {d : Nat} {h : XH} {Q : XV → XH → Prop} {X : Nat → XH → Prop} {x1 x2 x3 x4 x5 x6 s0 : Int} (F : xFix h) (hyp : (xwp G m_Fits_unitWeight (d + 3) 0 [xR 41, xR x6, xI x3, xR x4, xZ, xZ, xZ, xZ] [] h (fun v9 h9 => xwp G m_Findings_judge (d + 4) 57 [xR 40, xR x1, xR x2, xI x3, xR x4, xI x5, xR x6, xI s0, xZ] (xpush v9 []) h9 Q X) X)) : xwp G m_Findings_judge (d + 4) 43 [xR 40, xR x1, xR x2, xI x3, xR x4, xI x5, xR x6, xZ, xZ] [xI s0] h Q X := by
  have hnx9 : (93 : Int) ≤ xnx h := F.2.2
  refine xr_okL (fun hl9 => ?_)
  have r_x3 : -2147483648 ≤ x3 ∧ x3 ≤ 2147483647 := hl9 (xI x3) (.tail _ (.tail _ (.tail _ (.head _)))) (Nat.le_of_ble_eq_true rfl)
  have r_x5 : -2147483648 ≤ x5 ∧ x5 ≤ 2147483647 := hl9 (xI x5) (.tail _ (.tail _ (.tail _ (.tail _ (.tail _ (.head _)))))) (Nat.le_of_ble_eq_true rfl)
  refine xr_okS (fun hs9 => ?_)
  have r_s0 : -2147483648 ≤ s0 ∧ s0 ≤ 2147483647 := hs9 (xI s0) (.head _)
  refine xr_istore (pc := 43) (i := 7) (L9 := [xR 40, xR x1, xR x2, xI x3, xR x4, xI x5, xR x6, xI s0, xZ]) (hI := d_Findings_judge_43) (hn := Nat.le_of_ble_eq_true rfl) (hL9 := rfl) ?_
  refine xr_aload_n (pc := 45) (i := 0) (hI := d_Findings_judge_45) (hi := rfl) (hl := rfl) ?_
  refine xg_getf (pc := 46) (ci := 1) (k := 0) (N := 6) (v9 := 2) (v := 41) (T := xF1) (hI := d_Findings_judge_46) (hw := w_406) rfl xi1 (Or.inl rfl) (Nat.le_of_ble_eq_true rfl) (Nat.le_of_ble_eq_true rfl) rfl (ft_40 F) (fp_40_0 F) (fun f1_ => ?_)
  clear f1_
  refine xr_aload (pc := 49) (i := 6) (hI := d_Findings_judge_49) (hl := rfl) ?_
  refine xr_iload_n (pc := 51) (i := 3) (hI := d_Findings_judge_51) (hi := rfl) (hl := rfl) ?_
  refine xr_aload (pc := 52) (i := 4) (hI := d_Findings_judge_52) (hl := rfl) ?_
  exact xq_callV (pc := 54) (index := 100) (K := m_Fits_unitWeight) (As := [xR x6, xI x3, xR x4]) (S := []) (L0 := [xR 41, xR x6, xI x3, xR x4, xZ, xZ, xZ, xZ]) (hI := d_Findings_judge_54) (hK := k_Fits_unitWeight) (hlk := w_714) (hnoM := rfl) (hS8 := Nat.le_of_ble_eq_true rfl) (ci := 2) (N := 4) (C := "BeaconIndex$Fits") (T := xF2) (hc := rfl) (hci := Nat.le_of_ble_eq_true rfl) (htb := (ft_41 F)) (hinst := w_715) (hsel := w_716) (hlen := Nat.le_of_ble_eq_true rfl) (hst := rfl) (hL0 := rfl)  hyp
theorem d_Findings_judge_57 : decode prog_2_method_7_code 57 = .ok (.istore 8, 2) := by decide +kernel
theorem d_Findings_judge_59 : decode prog_2_method_7_code 59 = .ok (.aload 6, 2) := by decide +kernel
theorem d_Findings_judge_61 : decode prog_2_method_7_code 61 = .ok (.getfield 104, 3) := by decide +kernel
theorem w_230 : Cond.fieldLink "BeaconIndex$Findings" 104 "BeaconIndex$Part" "kind" "I" ∈ lw_tbl := List.mem_append_right _ (List.mem_of_getElem? (i := 230) (by decide +kernel))
theorem d_Findings_judge_64 : decode prog_2_method_7_code 64 = .ok (.iconst 3, 1) := by decide +kernel
theorem d_Findings_judge_65 : decode prog_2_method_7_code 65 = .ok (.if_icmp .ne 49, 3) := by decide +kernel
theorem d_Findings_judge_68 : decode prog_2_method_7_code 68 = .ok (.aload 6, 2) := by decide +kernel
theorem d_Findings_judge_70 : decode prog_2_method_7_code 70 = .ok (.getfield 107, 3) := by decide +kernel
theorem w_245 : Cond.fieldLink "BeaconIndex$Findings" 107 "BeaconIndex$Part" "inner" "I" ∈ lw_tbl := List.mem_append_right _ (List.mem_of_getElem? (i := 245) (by decide +kernel))
theorem d_Findings_judge_73 : decode prog_2_method_7_code 73 = .ok (.aload_n 2, 1) := by decide +kernel
theorem d_Findings_judge_74 : decode prog_2_method_7_code 74 = .ok (.invokevirtual 59, 3) := by decide +kernel
theorem d_Findings_judge_77 : decode prog_2_method_7_code 77 = .ok (.if_icmp .ge 37, 3) := by decide +kernel
theorem d_Findings_judge_80 : decode prog_2_method_7_code 80 = .ok (.aload_n 2, 1) := by decide +kernel
theorem d_Findings_judge_81 : decode prog_2_method_7_code 81 = .ok (.aload 6, 2) := by decide +kernel
theorem d_Findings_judge_83 : decode prog_2_method_7_code 83 = .ok (.getfield 107, 3) := by decide +kernel
theorem d_Findings_judge_86 : decode prog_2_method_7_code 86 = .ok (.invokevirtual 63, 3) := by decide +kernel
theorem d_Findings_judge_89 : decode prog_2_method_7_code 89 = .ok (.checkcast 73, 3) := by decide +kernel
theorem w_700 : Cond.classLink "BeaconIndex$Findings" 73 "BeaconIndex$Question" ∈ lw_tbl := List.mem_append_right _ (List.mem_of_getElem? (i := 700) (by decide +kernel))
theorem d_Findings_judge_92 : decode prog_2_method_7_code 92 = .ok (.invokevirtual 82, 3) := by decide +kernel
theorem k_Question_finds : xCal m_Question_finds 0 := ⟨List.mem_append_right _ (List.mem_of_getElem? (i := 729) (by decide +kernel)), w_11, Nat.le_of_ble_eq_true rfl, ⟨by decide +kernel, by decide +kernel⟩, by decide +kernel, by decide +kernel, rfl⟩
theorem w_726 : Cond.methodLink "BeaconIndex$Findings" 82 ⟨"BeaconIndex$Question", "finds", "()Z"⟩ ∈ lw_tbl := List.mem_append_right _ (List.mem_of_getElem? (i := 726) (by decide +kernel))
theorem w_727 : Cond.instanceMethod ⟨"BeaconIndex$Question", "finds", "()Z"⟩ ∈ lw_tbl := List.mem_append_right _ (List.mem_of_getElem? (i := 727) (by decide +kernel))
theorem w_728 : Cond.selects "BeaconIndex$Question" ⟨"BeaconIndex$Question", "finds", "()Z"⟩ ⟨"BeaconIndex$Question", "finds", "()Z"⟩ ∈ lw_tbl := List.mem_append_right _ (List.mem_of_getElem? (i := 728) (by decide +kernel))
theorem v_Findings_judge_57 {G : XG} {d : Nat} {h : XH} {Q : XV → XH → Prop} {X : Nat → XH → Prop} {x1 x2 x3 x4 x5 x6 x7 s0 : Int} (F : xFix h) (hyp : xtg h x6 = 4 ∧ (((xpl h x6 5) = 3 → xtg h x2 = 13 ∧ alok h x2 ∧ (((als h x2) ≤ (xpl h x6 10) → (xwp G m_Findings_judge (d + 4) 114 [xR 40, xR x1, xR x2, xI x3, xR x4, xI x5, xR x6, xI x7, xI s0] [] h Q X)) ∧ (¬ (als h x2) ≤ (xpl h x6 10) → 0 ≤ (xpl h x6 10) ∧ xtg h (alg h x2 (xpl h x6 10)) = 5 ∧ (xwp G m_Question_finds (d + 3) 0 [xR (alg h x2 (xpl h x6 10))] [] h (fun v9 h9 => xwp G m_Findings_judge (d + 4) 95 [xR 40, xR x1, xR x2, xI x3, xR x4, xI x5, xR x6, xZ, xZ] (xpush v9 []) h9 Q X) X)))) ∧ (¬ (xpl h x6 5) = 3 → (xwp G m_Findings_judge (d + 4) 114 [xR 40, xR x1, xR x2, xI x3, xR x4, xI x5, xR x6, xI x7, xI s0] [] h Q X)))) : xwp G m_Findings_judge (d + 4) 57 [xR 40, xR x1, xR x2, xI x3, xR x4, xI x5, xR x6, xI x7, xZ] [xI s0] h Q X := by
  have hnx9 : (93 : Int) ≤ xnx h := F.2.2
  refine xr_okL (fun hl9 => ?_)
  have r_x3 : -2147483648 ≤ x3 ∧ x3 ≤ 2147483647 := hl9 (xI x3) (.tail _ (.tail _ (.tail _ (.head _)))) (Nat.le_of_ble_eq_true rfl)
  have r_x5 : -2147483648 ≤ x5 ∧ x5 ≤ 2147483647 := hl9 (xI x5) (.tail _ (.tail _ (.tail _ (.tail _ (.tail _ (.head _)))))) (Nat.le_of_ble_eq_true rfl)
  have r_x7 : -2147483648 ≤ x7 ∧ x7 ≤ 2147483647 := hl9 (xI x7) (.tail _ (.tail _ (.tail _ (.tail _ (.tail _ (.tail _ (.tail _ (.head _)))))))) (Nat.le_of_ble_eq_true rfl)
  refine xr_okS (fun hs9 => ?_)
  have r_s0 : -2147483648 ≤ s0 ∧ s0 ≤ 2147483647 := hs9 (xI s0) (.head _)
  refine xr_istore (pc := 57) (i := 8) (L9 := [xR 40, xR x1, xR x2, xI x3, xR x4, xI x5, xR x6, xI x7, xI s0]) (hI := d_Findings_judge_57) (hn := Nat.le_of_ble_eq_true rfl) (hL9 := rfl) ?_
  refine xr_aload (pc := 59) (i := 6) (hI := d_Findings_judge_59) (hl := rfl) ?_
  obtain ⟨c9, hyp⟩ := hyp
  have t1_ := c9
  clear c9
  refine xg_getf (pc := 61) (ci := 4) (k := 5) (N := 13) (v9 := 0) (v := (xpl h x6 5)) (T := xF4) (hI := d_Findings_judge_61) (hw := w_230) rfl xi4 (Or.inl rfl) (Nat.le_of_ble_eq_true rfl) (Nat.le_of_ble_eq_true rfl) rfl t1_ rfl (fun f2_ => ?_)
  replace f2_ : -2147483648 ≤ (xpl h x6 5) ∧ (xpl h x6 5) ≤ 2147483647 := f2_
  refine xr_iconst (pc := 64) (hI := d_Findings_judge_64) (hr := by decide) ?_
  refine xr_icmp_ne (pc := 65) (tgt := 114) (hI := d_Findings_judge_65) (ht := by decide) (fun q9 => ?_) (fun q9 => ?_)
  · replace hyp := hyp.2 q9
    have q3_ := q9
    clear q9
    exact hyp
  · replace hyp := hyp.1 q9
    have q3_ := q9
    clear q9
    refine xr_aload (pc := 68) (i := 6) (hI := d_Findings_judge_68) (hl := rfl) ?_
    refine xg_getf (pc := 70) (ci := 4) (k := 10) (N := 13) (v9 := 0) (v := (xpl h x6 10)) (T := xF4) (hI := d_Findings_judge_70) (hw := w_245) rfl xi4 (Or.inl rfl) (Nat.le_of_ble_eq_true rfl) (Nat.le_of_ble_eq_true rfl) rfl t1_ rfl (fun f4_ => ?_)
    replace f4_ : -2147483648 ≤ (xpl h x6 10) ∧ (xpl h x6 10) ≤ 2147483647 := f4_
    refine xr_aload_n (pc := 73) (i := 2) (hI := d_Findings_judge_73) (hi := rfl) (hl := rfl) ?_
    obtain ⟨c9, hyp⟩ := hyp
    have t5_ := c9
    clear c9
    obtain ⟨c6_, hyp⟩ := hyp
    refine xq_callV (pc := 74) (index := 59) (K := m_ArrayList_size) (As := []) (S := [xI (xpl h x6 10)]) (L0 := [xR x2]) (hI := d_Findings_judge_74) (hK := k_ArrayList_size) (hlk := w_697) (hnoM := rfl) (hS8 := Nat.le_of_ble_eq_true rfl) (ci := 13) (N := 3) (C := "java/util/ArrayList") (T := xF13) (hc := rfl) (hci := Nat.le_of_ble_eq_true rfl) (htb := t5_) (hinst := w_465) (hsel := w_466) (hlen := Nat.le_of_ble_eq_true rfl) (hst := rfl) (hL0 := rfl)  (p_AL_size F c6_ ?_)
    show xwp G m_Findings_judge (d + 4) 77 [xR 40, xR x1, xR x2, xI x3, xR x4, xI x5, xR x6, xI x7, xI s0] [xI (als h x2), xI (xpl h x6 10)] _ _ _
    have f7_ : 0 ≤ (als h x2) ∧ (als h x2) ≤ 1000000 := ⟨c6_.2.2.1, c6_.2.2.2.2⟩
    refine xr_icmp_ge (pc := 77) (tgt := 114) (hI := d_Findings_judge_77) (ht := by decide) (fun q9 => ?_) (fun q9 => ?_)
    · replace hyp := hyp.1 q9
      have q8_ := q9
      clear q9
      exact hyp
    · replace hyp := hyp.2 q9
      have q8_ := q9
      clear q9
      refine xr_aload_n (pc := 80) (i := 2) (hI := d_Findings_judge_80) (hi := rfl) (hl := rfl) ?_
      refine xr_aload (pc := 81) (i := 6) (hI := d_Findings_judge_81) (hl := rfl) ?_
      refine xg_getf (pc := 83) (ci := 4) (k := 10) (N := 13) (v9 := 0) (v := (xpl h x6 10)) (T := xF4) (hI := d_Findings_judge_83) (hw := w_245) rfl xi4 (Or.inl rfl) (Nat.le_of_ble_eq_true rfl) (Nat.le_of_ble_eq_true rfl) rfl t1_ rfl (fun f9_ => ?_)
      replace f9_ : -2147483648 ≤ (xpl h x6 10) ∧ (xpl h x6 10) ≤ 2147483647 := f9_
      obtain ⟨c10_, hyp⟩ := hyp
      refine xq_callV (pc := 86) (index := 63) (K := m_ArrayList_get) (As := [xI (xpl h x6 10)]) (S := []) (L0 := [xR x2, xI (xpl h x6 10)]) (hI := d_Findings_judge_86) (hK := k_ArrayList_get) (hlk := w_698) (hnoM := rfl) (hS8 := Nat.le_of_ble_eq_true rfl) (ci := 13) (N := 3) (C := "java/util/ArrayList") (T := xF13) (hc := rfl) (hci := Nat.le_of_ble_eq_true rfl) (htb := t5_) (hinst := w_469) (hsel := w_470) (hlen := Nat.le_of_ble_eq_true rfl) (hst := rfl) (hL0 := rfl)  (p_AL_get F c6_ c10_ (by clear hyp; omega) ?_)
      show xwp G m_Findings_judge (d + 4) 89 [xR 40, xR x1, xR x2, xI x3, xR x4, xI x5, xR x6, xI x7, xI s0] [xR (alg h x2 (xpl h x6 10))] _ _ _
      obtain ⟨c9, hyp⟩ := hyp
      have t11_ := c9
      clear c9
      refine xr_cast (pc := 89) (ci := 5) (T := xF5) (N := 5) (hI := d_Findings_judge_89) w_700 rfl (Nat.le_of_ble_eq_true rfl) t11_ ?_
      exact xq_callV (pc := 92) (index := 82) (K := m_Question_finds) (As := []) (S := []) (L0 := [xR (alg h x2 (xpl h x6 10))]) (hI := d_Findings_judge_92) (hK := k_Question_finds) (hlk := w_726) (hnoM := rfl) (hS8 := Nat.le_of_ble_eq_true rfl) (ci := 5) (N := 5) (C := "BeaconIndex$Question") (T := xF5) (hc := rfl) (hci := Nat.le_of_ble_eq_true rfl) (htb := t11_) (hinst := w_727) (hsel := w_728) (hlen := Nat.le_of_ble_eq_true rfl) (hst := rfl) (hL0 := rfl)  (xwp_mono hyp (fun v9 h9 q9 => xr_drop (L9 := [xR 40, xR x1, xR x2, xI x3, xR x4, xI x5, xR x6, xZ, xZ]) (xdrs (xdrs (xdrs (xdrs (xdrs (xdrs (xdrs (xdrz (xdrz xdr0))))))))) q9) (fun _ _ z9 => z9))
theorem d_Findings_judge_95 : decode prog_2_method_7_code 95 = .ok (.istore 7, 2) := by decide +kernel
theorem d_Findings_judge_97 : decode prog_2_method_7_code 97 = .ok (.aload_n 2, 1) := by decide +kernel
theorem d_Findings_judge_98 : decode prog_2_method_7_code 98 = .ok (.aload 6, 2) := by decide +kernel
theorem d_Findings_judge_100 : decode prog_2_method_7_code 100 = .ok (.getfield 107, 3) := by decide +kernel
theorem d_Findings_judge_103 : decode prog_2_method_7_code 103 = .ok (.invokevirtual 63, 3) := by decide +kernel
theorem d_Findings_judge_106 : decode prog_2_method_7_code 106 = .ok (.checkcast 73, 3) := by decide +kernel
theorem d_Findings_judge_109 : decode prog_2_method_7_code 109 = .ok (.invokevirtual 79, 3) := by decide +kernel
abbrev m_Question_weightIfFinds : XM := (⟨"BeaconIndex$Question", "weightIfFinds", "()I"⟩, prog_6_method_5_code, 1, (some .int), [])
theorem k_Question_weightIfFinds : xCal m_Question_weightIfFinds 0 := ⟨List.mem_append_right _ (List.mem_of_getElem? (i := 733) (by decide +kernel)), w_11, Nat.le_of_ble_eq_true rfl, ⟨by decide +kernel, by decide +kernel⟩, by decide +kernel, by decide +kernel, rfl⟩
theorem w_730 : Cond.methodLink "BeaconIndex$Findings" 79 ⟨"BeaconIndex$Question", "weightIfFinds", "()I"⟩ ∈ lw_tbl := List.mem_append_right _ (List.mem_of_getElem? (i := 730) (by decide +kernel))
theorem w_731 : Cond.instanceMethod ⟨"BeaconIndex$Question", "weightIfFinds", "()I"⟩ ∈ lw_tbl := List.mem_append_right _ (List.mem_of_getElem? (i := 731) (by decide +kernel))
theorem w_732 : Cond.selects "BeaconIndex$Question" ⟨"BeaconIndex$Question", "weightIfFinds", "()I"⟩ ⟨"BeaconIndex$Question", "weightIfFinds", "()I"⟩ ∈ lw_tbl := List.mem_append_right _ (List.mem_of_getElem? (i := 732) (by decide +kernel))
theorem v_Findings_judge_95 {G : XG} {d : Nat} {h : XH} {Q : XV → XH → Prop} {X : Nat → XH → Prop} {x1 x2 x3 x4 x5 x6 s0 : Int} (F : xFix h) (hyp : xtg h x6 = 4 ∧ xtg h x2 = 13 ∧ alok h x2 ∧ 0 ≤ (xpl h x6 10) ∧ (xpl h x6 10) < als h x2 ∧ xtg h (alg h x2 (xpl h x6 10)) = 5 ∧ (xwp G m_Question_weightIfFinds (d + 3) 0 [xR (alg h x2 (xpl h x6 10))] [] h (fun v9 h9 => xwp G m_Findings_judge (d + 4) 112 [xR 40, xR x1, xR x2, xI x3, xR x4, xI x5, xR x6, xI s0, xZ] (xpush v9 []) h9 Q X) X)) : xwp G m_Findings_judge (d + 4) 95 [xR 40, xR x1, xR x2, xI x3, xR x4, xI x5, xR x6, xZ, xZ] [xI s0] h Q X := by
  have hnx9 : (93 : Int) ≤ xnx h := F.2.2
  refine xr_okL (fun hl9 => ?_)
  have r_x3 : -2147483648 ≤ x3 ∧ x3 ≤ 2147483647 := hl9 (xI x3) (.tail _ (.tail _ (.tail _ (.head _)))) (Nat.le_of_ble_eq_true rfl)
  have r_x5 : -2147483648 ≤ x5 ∧ x5 ≤ 2147483647 := hl9 (xI x5) (.tail _ (.tail _ (.tail _ (.tail _ (.tail _ (.head _)))))) (Nat.le_of_ble_eq_true rfl)
  refine xr_okS (fun hs9 => ?_)
  have r_s0 : -2147483648 ≤ s0 ∧ s0 ≤ 2147483647 := hs9 (xI s0) (.head _)
  refine xr_istore (pc := 95) (i := 7) (L9 := [xR 40, xR x1, xR x2, xI x3, xR x4, xI x5, xR x6, xI s0, xZ]) (hI := d_Findings_judge_95) (hn := Nat.le_of_ble_eq_true rfl) (hL9 := rfl) ?_
  refine xr_aload_n (pc := 97) (i := 2) (hI := d_Findings_judge_97) (hi := rfl) (hl := rfl) ?_
  refine xr_aload (pc := 98) (i := 6) (hI := d_Findings_judge_98) (hl := rfl) ?_
  obtain ⟨c9, hyp⟩ := hyp
  have t1_ := c9
  clear c9
  refine xg_getf (pc := 100) (ci := 4) (k := 10) (N := 13) (v9 := 0) (v := (xpl h x6 10)) (T := xF4) (hI := d_Findings_judge_100) (hw := w_245) rfl xi4 (Or.inl rfl) (Nat.le_of_ble_eq_true rfl) (Nat.le_of_ble_eq_true rfl) rfl t1_ rfl (fun f2_ => ?_)
  replace f2_ : -2147483648 ≤ (xpl h x6 10) ∧ (xpl h x6 10) ≤ 2147483647 := f2_
  obtain ⟨c9, hyp⟩ := hyp
  have t3_ := c9
  clear c9
  obtain ⟨c4_, hyp⟩ := hyp
  obtain ⟨c5_, hyp⟩ := hyp
  obtain ⟨c6_, hyp⟩ := hyp
  refine xq_callV (pc := 103) (index := 63) (K := m_ArrayList_get) (As := [xI (xpl h x6 10)]) (S := []) (L0 := [xR x2, xI (xpl h x6 10)]) (hI := d_Findings_judge_103) (hK := k_ArrayList_get) (hlk := w_698) (hnoM := rfl) (hS8 := Nat.le_of_ble_eq_true rfl) (ci := 13) (N := 3) (C := "java/util/ArrayList") (T := xF13) (hc := rfl) (hci := Nat.le_of_ble_eq_true rfl) (htb := t3_) (hinst := w_469) (hsel := w_470) (hlen := Nat.le_of_ble_eq_true rfl) (hst := rfl) (hL0 := rfl)  (p_AL_get F c4_ c5_ c6_ ?_)
  show xwp G m_Findings_judge (d + 4) 106 [xR 40, xR x1, xR x2, xI x3, xR x4, xI x5, xR x6, xI s0, xZ] [xR (alg h x2 (xpl h x6 10))] _ _ _
  obtain ⟨c9, hyp⟩ := hyp
  have t7_ := c9
  clear c9
  refine xr_cast (pc := 106) (ci := 5) (T := xF5) (N := 5) (hI := d_Findings_judge_106) w_700 rfl (Nat.le_of_ble_eq_true rfl) t7_ ?_
  exact xq_callV (pc := 109) (index := 79) (K := m_Question_weightIfFinds) (As := []) (S := []) (L0 := [xR (alg h x2 (xpl h x6 10))]) (hI := d_Findings_judge_109) (hK := k_Question_weightIfFinds) (hlk := w_730) (hnoM := rfl) (hS8 := Nat.le_of_ble_eq_true rfl) (ci := 5) (N := 5) (C := "BeaconIndex$Question") (T := xF5) (hc := rfl) (hci := Nat.le_of_ble_eq_true rfl) (htb := t7_) (hinst := w_731) (hsel := w_732) (hlen := Nat.le_of_ble_eq_true rfl) (hst := rfl) (hL0 := rfl)  hyp
theorem d_Findings_judge_112 : decode prog_2_method_7_code 112 = .ok (.istore 8, 2) := by decide +kernel
theorem v_Findings_judge_112 {G : XG} {d : Nat} {h : XH} {Q : XV → XH → Prop} {X : Nat → XH → Prop} {x1 x2 x3 x4 x5 x6 x7 s0 : Int} (F : xFix h) (hyp : (xwp G m_Findings_judge (d + 4) 114 [xR 40, xR x1, xR x2, xI x3, xR x4, xI x5, xR x6, xI x7, xI s0] [] h Q X)) : xwp G m_Findings_judge (d + 4) 112 [xR 40, xR x1, xR x2, xI x3, xR x4, xI x5, xR x6, xI x7, xZ] [xI s0] h Q X := by
  have hnx9 : (93 : Int) ≤ xnx h := F.2.2
  refine xr_okL (fun hl9 => ?_)
  have r_x3 : -2147483648 ≤ x3 ∧ x3 ≤ 2147483647 := hl9 (xI x3) (.tail _ (.tail _ (.tail _ (.head _)))) (Nat.le_of_ble_eq_true rfl)
  have r_x5 : -2147483648 ≤ x5 ∧ x5 ≤ 2147483647 := hl9 (xI x5) (.tail _ (.tail _ (.tail _ (.tail _ (.tail _ (.head _)))))) (Nat.le_of_ble_eq_true rfl)
  have r_x7 : -2147483648 ≤ x7 ∧ x7 ≤ 2147483647 := hl9 (xI x7) (.tail _ (.tail _ (.tail _ (.tail _ (.tail _ (.tail _ (.tail _ (.head _)))))))) (Nat.le_of_ble_eq_true rfl)
  refine xr_okS (fun hs9 => ?_)
  have r_s0 : -2147483648 ≤ s0 ∧ s0 ≤ 2147483647 := hs9 (xI s0) (.head _)
  refine xr_istore (pc := 112) (i := 8) (L9 := [xR 40, xR x1, xR x2, xI x3, xR x4, xI x5, xR x6, xI x7, xI s0]) (hI := d_Findings_judge_112) (hn := Nat.le_of_ble_eq_true rfl) (hL9 := rfl) ?_
  exact hyp
theorem d_Findings_judge_114 : decode prog_2_method_7_code 114 = .ok (.aload 6, 2) := by decide +kernel
theorem d_Findings_judge_116 : decode prog_2_method_7_code 116 = .ok (.getfield 110, 3) := by decide +kernel
theorem w_219 : Cond.fieldLink "BeaconIndex$Findings" 110 "BeaconIndex$Part" "sign" "I" ∈ lw_tbl := List.mem_append_right _ (List.mem_of_getElem? (i := 219) (by decide +kernel))
theorem d_Findings_judge_119 : decode prog_2_method_7_code 119 = .ok (.bipush 45, 2) := by decide +kernel
theorem d_Findings_judge_121 : decode prog_2_method_7_code 121 = .ok (.if_icmp .ne 7, 3) := by decide +kernel
theorem d_Findings_judge_128 : decode prog_2_method_7_code 128 = .ok (.iload 8, 2) := by decide +kernel
theorem d_Findings_judge_130 : decode prog_2_method_7_code 130 = .ok (.aload 6, 2) := by decide +kernel
theorem d_Findings_judge_132 : decode prog_2_method_7_code 132 = .ok (.getfield 113, 3) := by decide +kernel
theorem w_233 : Cond.fieldLink "BeaconIndex$Findings" 113 "BeaconIndex$Part" "factor" "I" ∈ lw_tbl := List.mem_append_right _ (List.mem_of_getElem? (i := 233) (by decide +kernel))
theorem d_Findings_judge_135 : decode prog_2_method_7_code 135 = .ok (.imul, 1) := by decide +kernel
theorem d_Findings_judge_136 : decode prog_2_method_7_code 136 = .ok (.invokestatic 116, 3) := by decide +kernel
theorem w_736 : Cond.methodLink "BeaconIndex$Findings" 116 ⟨"BeaconIndex$Fits", "capped", "(I)I"⟩ ∈ lw_tbl := List.mem_append_right _ (List.mem_of_getElem? (i := 736) (by decide +kernel))
theorem d_Findings_judge_124 : decode prog_2_method_7_code 124 = .ok (.iconst 0, 1) := by decide +kernel
theorem d_Findings_judge_125 : decode prog_2_method_7_code 125 = .ok (.goto 14, 3) := by decide +kernel
theorem v_Findings_judge_114 {G : XG} {d : Nat} {h : XH} {Q : XV → XH → Prop} {X : Nat → XH → Prop} {x1 x2 x3 x4 x5 x6 x7 x8 : Int} (F : xFix h) (hyp : xtg h x6 = 4 ∧ (((xpl h x6 1) = 45 → (xwp G m_Findings_judge (d + 4) 139 [xR 40, xR x1, xR x2, xI x3, xR x4, xI x5, xR x6, xI x7, xZ] [xI 0] h Q X)) ∧ (¬ (xpl h x6 1) = 45 → xiR (x8 * (xpl h x6 6)) ∧ (xwp G m_Findings_judge (d + 4) 139 [xR 40, xR x1, xR x2, xI x3, xR x4, xI x5, xR x6, xI x7, xZ] [xI (min (x8 * (xpl h x6 6)) 1000000)] h Q X)))) : xwp G m_Findings_judge (d + 4) 114 [xR 40, xR x1, xR x2, xI x3, xR x4, xI x5, xR x6, xI x7, xI x8] [] h Q X := by
  have hnx9 : (93 : Int) ≤ xnx h := F.2.2
  refine xr_okL (fun hl9 => ?_)
  have r_x3 : -2147483648 ≤ x3 ∧ x3 ≤ 2147483647 := hl9 (xI x3) (.tail _ (.tail _ (.tail _ (.head _)))) (Nat.le_of_ble_eq_true rfl)
  have r_x5 : -2147483648 ≤ x5 ∧ x5 ≤ 2147483647 := hl9 (xI x5) (.tail _ (.tail _ (.tail _ (.tail _ (.tail _ (.head _)))))) (Nat.le_of_ble_eq_true rfl)
  have r_x7 : -2147483648 ≤ x7 ∧ x7 ≤ 2147483647 := hl9 (xI x7) (.tail _ (.tail _ (.tail _ (.tail _ (.tail _ (.tail _ (.tail _ (.head _)))))))) (Nat.le_of_ble_eq_true rfl)
  have r_x8 : -2147483648 ≤ x8 ∧ x8 ≤ 2147483647 := hl9 (xI x8) (.tail _ (.tail _ (.tail _ (.tail _ (.tail _ (.tail _ (.tail _ (.tail _ (.head _))))))))) (Nat.le_of_ble_eq_true rfl)
  refine xr_aload (pc := 114) (i := 6) (hI := d_Findings_judge_114) (hl := rfl) ?_
  obtain ⟨c9, hyp⟩ := hyp
  have t1_ := c9
  clear c9
  refine xg_getf (pc := 116) (ci := 4) (k := 1) (N := 13) (v9 := 0) (v := (xpl h x6 1)) (T := xF4) (hI := d_Findings_judge_116) (hw := w_219) rfl xi4 (Or.inl rfl) (Nat.le_of_ble_eq_true rfl) (Nat.le_of_ble_eq_true rfl) rfl t1_ rfl (fun f2_ => ?_)
  replace f2_ : -2147483648 ≤ (xpl h x6 1) ∧ (xpl h x6 1) ≤ 2147483647 := f2_
  refine xr_bipush (pc := 119) (hI := d_Findings_judge_119) (hr := by decide) (hv := by decide) ?_
  refine xr_icmp_ne (pc := 121) (tgt := 128) (hI := d_Findings_judge_121) (ht := by decide) (fun q9 => ?_) (fun q9 => ?_)
  · replace hyp := hyp.2 q9
    have q3_ := q9
    clear q9
    refine xr_iload (pc := 128) (i := 8) (hI := d_Findings_judge_128) (hl := rfl) ?_
    refine xr_aload (pc := 130) (i := 6) (hI := d_Findings_judge_130) (hl := rfl) ?_
    refine xg_getf (pc := 132) (ci := 4) (k := 6) (N := 13) (v9 := 0) (v := (xpl h x6 6)) (T := xF4) (hI := d_Findings_judge_132) (hw := w_233) rfl xi4 (Or.inl rfl) (Nat.le_of_ble_eq_true rfl) (Nat.le_of_ble_eq_true rfl) rfl t1_ rfl (fun f4_ => ?_)
    replace f4_ : -2147483648 ≤ (xpl h x6 6) ∧ (xpl h x6 6) ≤ 2147483647 := f4_
    obtain ⟨c9, hyp⟩ := hyp
    refine xr_imul (pc := 135) (hI := d_Findings_judge_135) (hr := c9) ?_
    refine xq_callS (pc := 136) (index := 116) (K := m_Fits_capped) (As := [xI (x8 * (xpl h x6 6))]) (S := []) (L0 := [xI (x8 * (xpl h x6 6))]) (hI := d_Findings_judge_136) (hK := k_Fits_capped) (hlk := w_736) (hnoM := rfl) (hS8 := Nat.le_of_ble_eq_true rfl) (hstat := w_722) (hlen := Nat.le_of_ble_eq_true rfl) (hst := rfl) (hL0 := rfl)  (p_Fits_capped F  ?_)
    show xwp G m_Findings_judge (d + 4) 139 [xR 40, xR x1, xR x2, xI x3, xR x4, xI x5, xR x6, xI x7, xI x8] [xI (min (x8 * (xpl h x6 6)) 1000000)] _ _ _
    exact xr_drop (L9 := [xR 40, xR x1, xR x2, xI x3, xR x4, xI x5, xR x6, xI x7, xZ]) (xdrs (xdrs (xdrs (xdrs (xdrs (xdrs (xdrs (xdrs (xdrz xdr0))))))))) hyp
  · replace hyp := hyp.1 q9
    have q3_ := q9
    clear q9
    refine xr_iconst (pc := 124) (hI := d_Findings_judge_124) (hr := by decide) ?_
    refine xr_goto (pc := 125) (tgt := 139) (hI := d_Findings_judge_125) (ht := by decide) ?_
    exact xr_drop (L9 := [xR 40, xR x1, xR x2, xI x3, xR x4, xI x5, xR x6, xI x7, xZ]) (xdrs (xdrs (xdrs (xdrs (xdrs (xdrs (xdrs (xdrs (xdrz xdr0))))))))) hyp
theorem d_Findings_judge_139 : decode prog_2_method_7_code 139 = .ok (.istore 8, 2) := by decide +kernel
theorem d_Findings_judge_141 : decode prog_2_method_7_code 141 = .ok (.aload_n 0, 1) := by decide +kernel
theorem d_Findings_judge_142 : decode prog_2_method_7_code 142 = .ok (.getfield 18, 3) := by decide +kernel
theorem w_408 : Cond.fieldLink "BeaconIndex$Findings" 18 "BeaconIndex$Findings" "partIsIn" "[Z" ∈ lw_tbl := List.mem_append_right _ (List.mem_of_getElem? (i := 408) (by decide +kernel))
theorem d_Findings_judge_145 : decode prog_2_method_7_code 145 = .ok (.aload 6, 2) := by decide +kernel
theorem d_Findings_judge_147 : decode prog_2_method_7_code 147 = .ok (.iload_n 3, 1) := by decide +kernel
theorem d_Findings_judge_148 : decode prog_2_method_7_code 148 = .ok (.invokestatic 45, 3) := by decide +kernel
theorem d_Findings_judge_151 : decode prog_2_method_7_code 151 = .ok (.iload 7, 2) := by decide +kernel
theorem d_Findings_judge_153 : decode prog_2_method_7_code 153 = .ok (.bastore, 1) := by decide +kernel
theorem xfa_48 : xfreeA 48 = true := by decide +kernel
theorem d_Findings_judge_154 : decode prog_2_method_7_code 154 = .ok (.aload_n 0, 1) := by decide +kernel
theorem d_Findings_judge_155 : decode prog_2_method_7_code 155 = .ok (.getfield 22, 3) := by decide +kernel
theorem d_Findings_judge_158 : decode prog_2_method_7_code 158 = .ok (.aload 6, 2) := by decide +kernel
theorem d_Findings_judge_160 : decode prog_2_method_7_code 160 = .ok (.iload_n 3, 1) := by decide +kernel
theorem d_Findings_judge_161 : decode prog_2_method_7_code 161 = .ok (.invokestatic 45, 3) := by decide +kernel
theorem d_Findings_judge_164 : decode prog_2_method_7_code 164 = .ok (.iload 8, 2) := by decide +kernel
theorem d_Findings_judge_166 : decode prog_2_method_7_code 166 = .ok (.iastore, 1) := by decide +kernel
theorem xfa_49 : xfreeA 49 = true := by decide +kernel
theorem d_Findings_judge_167 : decode prog_2_method_7_code 167 = .ok (.aload_n 1, 1) := by decide +kernel
theorem d_Findings_judge_168 : decode prog_2_method_7_code 168 = .ok (.aload 6, 2) := by decide +kernel
theorem d_Findings_judge_170 : decode prog_2_method_7_code 170 = .ok (.getfield 110, 3) := by decide +kernel
theorem d_Findings_judge_173 : decode prog_2_method_7_code 173 = .ok (.iload 7, 2) := by decide +kernel
theorem d_Findings_judge_175 : decode prog_2_method_7_code 175 = .ok (.iload 8, 2) := by decide +kernel
theorem d_Findings_judge_177 : decode prog_2_method_7_code 177 = .ok (.invokevirtual 119, 3) := by decide +kernel
theorem k_Question_count : xCal m_Question_count 3 := ⟨List.mem_append_right _ (List.mem_of_getElem? (i := 741) (by decide +kernel)), w_11, Nat.le_of_ble_eq_true rfl, ⟨by decide +kernel, by decide +kernel⟩, by decide +kernel, by decide +kernel, rfl⟩
theorem w_738 : Cond.methodLink "BeaconIndex$Findings" 119 ⟨"BeaconIndex$Question", "count", "(IZI)V"⟩ ∈ lw_tbl := List.mem_append_right _ (List.mem_of_getElem? (i := 738) (by decide +kernel))
theorem w_739 : Cond.instanceMethod ⟨"BeaconIndex$Question", "count", "(IZI)V"⟩ ∈ lw_tbl := List.mem_append_right _ (List.mem_of_getElem? (i := 739) (by decide +kernel))
theorem w_740 : Cond.selects "BeaconIndex$Question" ⟨"BeaconIndex$Question", "count", "(IZI)V"⟩ ⟨"BeaconIndex$Question", "count", "(IZI)V"⟩ ∈ lw_tbl := List.mem_append_right _ (List.mem_of_getElem? (i := 740) (by decide +kernel))
theorem v_Findings_judge_139 {G : XG} {d : Nat} {h : XH} {Q : XV → XH → Prop} {X : Nat → XH → Prop} {x1 x2 x3 x4 x5 x6 x7 s0 : Int} (F : xFix h) (hyp : xtg h x6 = 4 ∧ (0 ≤ x7 ∧ x7 ≤ 1) ∧ xtg (xst h 48 (slF (xpl h x6 0) x3) x7) x6 = 4 ∧ xtg h x6 = 4 ∧ xtg h x1 = 5 ∧ (xFix (xst (xst h 48 (slF (xpl h x6 0) x3) x7) 49 (slF (xpl (xst h 48 (slF (xpl h x6 0) x3) x7) x6 0) x3) s0) → xwp G m_Question_count (d + 3) 0 [xR x1, xI (xpl h x6 1), xI x7, xI s0] [] (xst (xst h 48 (slF (xpl h x6 0) x3) x7) 49 (slF (xpl (xst h 48 (slF (xpl h x6 0) x3) x7) x6 0) x3) s0) (fun v9 h9 => xwp G m_Findings_judge (d + 4) 180 [xR 40, xR x1, xR x2, xI x3, xR x4, xI x5, xZ, xZ, xZ] (xpush v9 []) h9 Q X) X)) : xwp G m_Findings_judge (d + 4) 139 [xR 40, xR x1, xR x2, xI x3, xR x4, xI x5, xR x6, xI x7, xZ] [xI s0] h Q X := by
  have hnx9 : (93 : Int) ≤ xnx h := F.2.2
  refine xr_okL (fun hl9 => ?_)
  have r_x3 : -2147483648 ≤ x3 ∧ x3 ≤ 2147483647 := hl9 (xI x3) (.tail _ (.tail _ (.tail _ (.head _)))) (Nat.le_of_ble_eq_true rfl)
  have r_x5 : -2147483648 ≤ x5 ∧ x5 ≤ 2147483647 := hl9 (xI x5) (.tail _ (.tail _ (.tail _ (.tail _ (.tail _ (.head _)))))) (Nat.le_of_ble_eq_true rfl)
  have r_x7 : -2147483648 ≤ x7 ∧ x7 ≤ 2147483647 := hl9 (xI x7) (.tail _ (.tail _ (.tail _ (.tail _ (.tail _ (.tail _ (.tail _ (.head _)))))))) (Nat.le_of_ble_eq_true rfl)
  refine xr_okS (fun hs9 => ?_)
  have r_s0 : -2147483648 ≤ s0 ∧ s0 ≤ 2147483647 := hs9 (xI s0) (.head _)
  refine xr_istore (pc := 139) (i := 8) (L9 := [xR 40, xR x1, xR x2, xI x3, xR x4, xI x5, xR x6, xI x7, xI s0]) (hI := d_Findings_judge_139) (hn := Nat.le_of_ble_eq_true rfl) (hL9 := rfl) ?_
  refine xr_aload_n (pc := 141) (i := 0) (hI := d_Findings_judge_141) (hi := rfl) (hl := rfl) ?_
  refine xg_getf (pc := 142) (ci := 1) (k := 1) (N := 6) (v9 := 2) (v := 48) (T := xF1) (hI := d_Findings_judge_142) (hw := w_408) rfl xi1 (Or.inl rfl) (Nat.le_of_ble_eq_true rfl) (Nat.le_of_ble_eq_true rfl) rfl (ft_40 F) (fp_40_1 F) (fun f1_ => ?_)
  clear f1_
  refine xr_aload (pc := 145) (i := 6) (hI := d_Findings_judge_145) (hl := rfl) ?_
  refine xr_iload_n (pc := 147) (i := 3) (hI := d_Findings_judge_147) (hi := rfl) (hl := rfl) ?_
  obtain ⟨c2_, hyp⟩ := hyp
  refine xq_callS (pc := 148) (index := 45) (K := m_Findings_slot) (As := [xR x6, xI x3]) (S := [xR 48]) (L0 := [xR x6, xI x3, xZ]) (hI := d_Findings_judge_148) (hK := k_Findings_slot) (hlk := w_737) (hnoM := rfl) (hS8 := Nat.le_of_ble_eq_true rfl) (hstat := w_689) (hlen := Nat.le_of_ble_eq_true rfl) (hst := rfl) (hL0 := rfl)  (p_Findings_slot F c2_ ?_)
  show xwp G m_Findings_judge (d + 4) 151 [xR 40, xR x1, xR x2, xI x3, xR x4, xI x5, xR x6, xI x7, xI s0] [xI (slF (xpl h x6 0) x3), xR 48] _ _ _
  have f3_ : 0 ≤ (slF (xpl h x6 0) x3) ∧ (slF (xpl h x6 0) x3) ≤ 2399 := (slF_rng _ _)
  refine xr_iload (pc := 151) (i := 7) (hI := d_Findings_judge_151) (hl := rfl) ?_
  obtain ⟨c4_, hyp⟩ := hyp
  refine xr_bastoreZ (pc := 153) (hI := d_Findings_judge_153) (ft_48 F) (by decide) (by clear hyp; omega) (xlt_of (fl_48 F) (by clear hyp; omega)) c4_ ?_
  have F5_ : xFix (xst h 48 (slF (xpl h x6 0) x3) x7) := F.stA xfa_48
  refine xr_aload_n (pc := 154) (i := 0) (hI := d_Findings_judge_154) (hi := rfl) (hl := rfl) ?_
  refine xg_getf (pc := 155) (ci := 1) (k := 2) (N := 6) (v9 := 2) (v := 49) (T := xF1) (hI := d_Findings_judge_155) (hw := w_409) rfl xi1 (Or.inl rfl) (Nat.le_of_ble_eq_true rfl) (Nat.le_of_ble_eq_true rfl) rfl (ft_40 F5_) (fp_40_2 F5_) (fun f6_ => ?_)
  clear f6_
  refine xr_aload (pc := 158) (i := 6) (hI := d_Findings_judge_158) (hl := rfl) ?_
  refine xr_iload_n (pc := 160) (i := 3) (hI := d_Findings_judge_160) (hi := rfl) (hl := rfl) ?_
  obtain ⟨c7_, hyp⟩ := hyp
  refine xq_callS (pc := 161) (index := 45) (K := m_Findings_slot) (As := [xR x6, xI x3]) (S := [xR 49]) (L0 := [xR x6, xI x3, xZ]) (hI := d_Findings_judge_161) (hK := k_Findings_slot) (hlk := w_737) (hnoM := rfl) (hS8 := Nat.le_of_ble_eq_true rfl) (hstat := w_689) (hlen := Nat.le_of_ble_eq_true rfl) (hst := rfl) (hL0 := rfl)  (p_Findings_slot F5_ c7_ ?_)
  show xwp G m_Findings_judge (d + 4) 164 [xR 40, xR x1, xR x2, xI x3, xR x4, xI x5, xR x6, xI x7, xI s0] [xI (slF (xpl (xst h 48 (slF (xpl h x6 0) x3) x7) x6 0) x3), xR 49] _ _ _
  have f8_ : 0 ≤ (slF (xpl (xst h 48 (slF (xpl h x6 0) x3) x7) x6 0) x3) ∧ (slF (xpl (xst h 48 (slF (xpl h x6 0) x3) x7) x6 0) x3) ≤ 2399 := (slF_rng _ _)
  refine xr_iload (pc := 164) (i := 8) (hI := d_Findings_judge_164) (hl := rfl) ?_
  refine xr_iastore (pc := 166) (hI := d_Findings_judge_166) (ft_49 F5_) (by decide) (by clear hyp; omega) (xlt_of (fl_49 F5_) (by clear hyp; omega)) ?_
  have F9_ : xFix (xst (xst h 48 (slF (xpl h x6 0) x3) x7) 49 (slF (xpl (xst h 48 (slF (xpl h x6 0) x3) x7) x6 0) x3) s0) := F5_.stA xfa_49
  refine xr_aload_n (pc := 167) (i := 1) (hI := d_Findings_judge_167) (hi := rfl) (hl := rfl) ?_
  refine xr_aload (pc := 168) (i := 6) (hI := d_Findings_judge_168) (hl := rfl) ?_
  obtain ⟨c9, hyp⟩ := hyp
  have t10_ := c9
  clear c9
  refine xg_getf (pc := 170) (ci := 4) (k := 1) (N := 13) (v9 := 0) (v := (xpl h x6 1)) (T := xF4) (hI := d_Findings_judge_170) (hw := w_219) rfl xi4 (Or.inl rfl) (Nat.le_of_ble_eq_true rfl) (Nat.le_of_ble_eq_true rfl) rfl t10_ (Eq.trans (xpl_oa (xne_tag t10_ (have z9 := (ft_49 F9_); z9) (by decide))) (xpl_oa (xne_tag t10_ (have z9 := (ft_48 F9_); z9) (by decide)))) (fun f11_ => ?_)
  replace f11_ : -2147483648 ≤ (xpl h x6 1) ∧ (xpl h x6 1) ≤ 2147483647 := f11_
  refine xr_iload (pc := 173) (i := 7) (hI := d_Findings_judge_173) (hl := rfl) ?_
  refine xr_iload (pc := 175) (i := 8) (hI := d_Findings_judge_175) (hl := rfl) ?_
  obtain ⟨c9, hyp⟩ := hyp
  have t12_ := c9
  clear c9
  exact xq_callV (pc := 177) (index := 119) (K := m_Question_count) (As := [xI (xpl h x6 1), xI x7, xI s0]) (S := []) (L0 := [xR x1, xI (xpl h x6 1), xI x7, xI s0]) (hI := d_Findings_judge_177) (hK := k_Question_count) (hlk := w_738) (hnoM := rfl) (hS8 := Nat.le_of_ble_eq_true rfl) (ci := 5) (N := 5) (C := "BeaconIndex$Question") (T := xF5) (hc := rfl) (hci := Nat.le_of_ble_eq_true rfl) (htb := t12_) (hinst := w_739) (hsel := w_740) (hlen := Nat.le_of_ble_eq_true rfl) (hst := rfl) (hL0 := rfl)  (xwp_mono (hyp F9_) (fun v9 h9 q9 => xr_drop (L9 := [xR 40, xR x1, xR x2, xI x3, xR x4, xI x5, xZ, xZ, xZ]) (xdrs (xdrs (xdrs (xdrs (xdrs (xdrs (xdrz (xdrz (xdrz xdr0))))))))) q9) (fun _ _ z9 => z9))
theorem d_Findings_judge_180 : decode prog_2_method_7_code 180 = .ok (.iinc 5 1, 3) := by decide +kernel
theorem d_Findings_judge_183 : decode prog_2_method_7_code 183 = .ok (.goto (-176), 3) := by decide +kernel
theorem v_Findings_judge_180 {G : XG} {d : Nat} {h : XH} {Q : XV → XH → Prop} {X : Nat → XH → Prop} {x1 x2 x3 x4 x5 : Int} (F : xFix h) (hyp : xiR (x5 + 1) ∧ (xwp G m_Findings_judge (d + 4) 7 [xR 40, xR x1, xR x2, xI x3, xR x4, xI (x5 + 1), xZ, xZ, xZ] [] h Q X)) : xwp G m_Findings_judge (d + 4) 180 [xR 40, xR x1, xR x2, xI x3, xR x4, xI x5, xZ, xZ, xZ] [] h Q X := by
  have hnx9 : (93 : Int) ≤ xnx h := F.2.2
  refine xr_okL (fun hl9 => ?_)
  have r_x3 : -2147483648 ≤ x3 ∧ x3 ≤ 2147483647 := hl9 (xI x3) (.tail _ (.tail _ (.tail _ (.head _)))) (Nat.le_of_ble_eq_true rfl)
  have r_x5 : -2147483648 ≤ x5 ∧ x5 ≤ 2147483647 := hl9 (xI x5) (.tail _ (.tail _ (.tail _ (.tail _ (.tail _ (.head _)))))) (Nat.le_of_ble_eq_true rfl)
  obtain ⟨c9, hyp⟩ := hyp
  refine xr_iinc (pc := 180) (i := 5) (L9 := [xR 40, xR x1, xR x2, xI x3, xR x4, xI (x5 + 1), xZ, xZ, xZ]) (hI := d_Findings_judge_180) (hl := rfl) (hn := Nat.le_of_ble_eq_true rfl) (hr := c9) (hL9 := rfl) ?_
  refine xr_goto (pc := 183) (tgt := 7) (hI := d_Findings_judge_183) (ht := by decide) ?_
  exact hyp
abbrev m_Findings_isAhead : XM := (⟨"BeaconIndex$Findings", "isAhead", "(IILjava/util/ArrayList;)Z"⟩, prog_2_method_9_code, 6, (some .boolean), [])
theorem d_Findings_isAhead_0 : decode prog_2_method_9_code 0 = .ok (.aload_n 0, 1) := by decide +kernel
theorem d_Findings_isAhead_1 : decode prog_2_method_9_code 1 = .ok (.getfield 26, 3) := by decide +kernel
theorem d_Findings_isAhead_4 : decode prog_2_method_9_code 4 = .ok (.iload_n 1, 1) := by decide +kernel
theorem d_Findings_isAhead_5 : decode prog_2_method_9_code 5 = .ok (.iaload, 1) := by decide +kernel
theorem d_Findings_isAhead_6 : decode prog_2_method_9_code 6 = .ok (.aload_n 0, 1) := by decide +kernel
theorem d_Findings_isAhead_7 : decode prog_2_method_9_code 7 = .ok (.getfield 26, 3) := by decide +kernel
theorem d_Findings_isAhead_10 : decode prog_2_method_9_code 10 = .ok (.iload_n 2, 1) := by decide +kernel
theorem d_Findings_isAhead_11 : decode prog_2_method_9_code 11 = .ok (.iaload, 1) := by decide +kernel
theorem d_Findings_isAhead_12 : decode prog_2_method_9_code 12 = .ok (.if_icmp .eq 24, 3) := by decide +kernel
theorem d_Findings_isAhead_36 : decode prog_2_method_9_code 36 = .ok (.aload_n 3, 1) := by decide +kernel
theorem d_Findings_isAhead_37 : decode prog_2_method_9_code 37 = .ok (.iload_n 1, 1) := by decide +kernel
theorem d_Findings_isAhead_38 : decode prog_2_method_9_code 38 = .ok (.invokevirtual 63, 3) := by decide +kernel
theorem d_Findings_isAhead_41 : decode prog_2_method_9_code 41 = .ok (.checkcast 67, 3) := by decide +kernel
theorem w_699 : Cond.classLink "BeaconIndex$Findings" 67 "BeaconIndex$Text" ∈ lw_tbl := List.mem_append_right _ (List.mem_of_getElem? (i := 699) (by decide +kernel))
theorem d_Findings_isAhead_44 : decode prog_2_method_9_code 44 = .ok (.astore 4, 2) := by decide +kernel
theorem d_Findings_isAhead_46 : decode prog_2_method_9_code 46 = .ok (.aload_n 3, 1) := by decide +kernel
theorem d_Findings_isAhead_47 : decode prog_2_method_9_code 47 = .ok (.iload_n 2, 1) := by decide +kernel
theorem d_Findings_isAhead_48 : decode prog_2_method_9_code 48 = .ok (.invokevirtual 63, 3) := by decide +kernel
theorem d_Findings_isAhead_51 : decode prog_2_method_9_code 51 = .ok (.checkcast 67, 3) := by decide +kernel
theorem d_Findings_isAhead_54 : decode prog_2_method_9_code 54 = .ok (.astore 5, 2) := by decide +kernel
theorem d_Findings_isAhead_56 : decode prog_2_method_9_code 56 = .ok (.aload 4, 2) := by decide +kernel
theorem d_Findings_isAhead_58 : decode prog_2_method_9_code 58 = .ok (.getfield 126, 3) := by decide +kernel
theorem w_126 : Cond.fieldLink "BeaconIndex$Findings" 126 "BeaconIndex$Text" "rank" "I" ∈ lw_tbl := List.mem_append_right _ (List.mem_of_getElem? (i := 126) (by decide +kernel))
theorem d_Findings_isAhead_61 : decode prog_2_method_9_code 61 = .ok (.aload 5, 2) := by decide +kernel
theorem d_Findings_isAhead_63 : decode prog_2_method_9_code 63 = .ok (.getfield 126, 3) := by decide +kernel
theorem d_Findings_isAhead_66 : decode prog_2_method_9_code 66 = .ok (.if_icmp .eq 24, 3) := by decide +kernel
theorem d_Findings_isAhead_90 : decode prog_2_method_9_code 90 = .ok (.aload 4, 2) := by decide +kernel
theorem d_Findings_isAhead_92 : decode prog_2_method_9_code 92 = .ok (.getfield 129, 3) := by decide +kernel
theorem w_121 : Cond.fieldLink "BeaconIndex$Findings" 129 "BeaconIndex$Text" "key" "I" ∈ lw_tbl := List.mem_append_right _ (List.mem_of_getElem? (i := 121) (by decide +kernel))
theorem d_Findings_isAhead_95 : decode prog_2_method_9_code 95 = .ok (.aload 5, 2) := by decide +kernel
theorem d_Findings_isAhead_97 : decode prog_2_method_9_code 97 = .ok (.getfield 129, 3) := by decide +kernel
theorem d_Findings_isAhead_100 : decode prog_2_method_9_code 100 = .ok (.if_icmp .ge 7, 3) := by decide +kernel
theorem d_Findings_isAhead_107 : decode prog_2_method_9_code 107 = .ok (.iconst 0, 1) := by decide +kernel
theorem d_Findings_isAhead_108 : decode prog_2_method_9_code 108 = .ok (.ireturn, 1) := by decide +kernel
theorem d_Findings_isAhead_103 : decode prog_2_method_9_code 103 = .ok (.iconst 1, 1) := by decide +kernel
theorem d_Findings_isAhead_104 : decode prog_2_method_9_code 104 = .ok (.goto 4, 3) := by decide +kernel
theorem d_Findings_isAhead_69 : decode prog_2_method_9_code 69 = .ok (.aload 4, 2) := by decide +kernel
theorem d_Findings_isAhead_71 : decode prog_2_method_9_code 71 = .ok (.getfield 126, 3) := by decide +kernel
theorem d_Findings_isAhead_74 : decode prog_2_method_9_code 74 = .ok (.aload 5, 2) := by decide +kernel
theorem d_Findings_isAhead_76 : decode prog_2_method_9_code 76 = .ok (.getfield 126, 3) := by decide +kernel
theorem d_Findings_isAhead_79 : decode prog_2_method_9_code 79 = .ok (.if_icmp .le 7, 3) := by decide +kernel
theorem d_Findings_isAhead_86 : decode prog_2_method_9_code 86 = .ok (.iconst 0, 1) := by decide +kernel
theorem d_Findings_isAhead_87 : decode prog_2_method_9_code 87 = .ok (.goto 21, 3) := by decide +kernel
theorem d_Findings_isAhead_82 : decode prog_2_method_9_code 82 = .ok (.iconst 1, 1) := by decide +kernel
theorem d_Findings_isAhead_83 : decode prog_2_method_9_code 83 = .ok (.goto 25, 3) := by decide +kernel
theorem d_Findings_isAhead_15 : decode prog_2_method_9_code 15 = .ok (.aload_n 0, 1) := by decide +kernel
theorem d_Findings_isAhead_16 : decode prog_2_method_9_code 16 = .ok (.getfield 26, 3) := by decide +kernel
theorem d_Findings_isAhead_19 : decode prog_2_method_9_code 19 = .ok (.iload_n 1, 1) := by decide +kernel
theorem d_Findings_isAhead_20 : decode prog_2_method_9_code 20 = .ok (.iaload, 1) := by decide +kernel
theorem d_Findings_isAhead_21 : decode prog_2_method_9_code 21 = .ok (.aload_n 0, 1) := by decide +kernel
theorem d_Findings_isAhead_22 : decode prog_2_method_9_code 22 = .ok (.getfield 26, 3) := by decide +kernel
theorem d_Findings_isAhead_25 : decode prog_2_method_9_code 25 = .ok (.iload_n 2, 1) := by decide +kernel
theorem d_Findings_isAhead_26 : decode prog_2_method_9_code 26 = .ok (.iaload, 1) := by decide +kernel
theorem d_Findings_isAhead_27 : decode prog_2_method_9_code 27 = .ok (.if_icmp .le 7, 3) := by decide +kernel
theorem d_Findings_isAhead_34 : decode prog_2_method_9_code 34 = .ok (.iconst 0, 1) := by decide +kernel
theorem d_Findings_isAhead_35 : decode prog_2_method_9_code 35 = .ok (.ireturn, 1) := by decide +kernel
theorem d_Findings_isAhead_30 : decode prog_2_method_9_code 30 = .ok (.iconst 1, 1) := by decide +kernel
theorem d_Findings_isAhead_31 : decode prog_2_method_9_code 31 = .ok (.goto 4, 3) := by decide +kernel
theorem v_Findings_isAhead_0 {G : XG} {d : Nat} {h : XH} {Q : XV → XH → Prop} {X : Nat → XH → Prop} {x1 x2 x3 : Int} (F : xFix h) (hyp : 0 ≤ x1 ∧ x1 < 60 ∧ 0 ≤ x2 ∧ x2 < 60 ∧ (((xpl h 50 x1) = (xpl h 50 x2) → xtg h x3 = 13 ∧ alok h x3 ∧ x1 < als h x3 ∧ xtg h (alg h x3 x1) = 9 ∧ x2 < als h x3 ∧ xtg h (alg h x3 x2) = 9 ∧ (((xpl h (alg h x3 x1) 2) = (xpl h (alg h x3 x2) 2) → (((xpl h (alg h x3 x2) 0) ≤ (xpl h (alg h x3 x1) 0) → (Q (xI 0) h)) ∧ (¬ (xpl h (alg h x3 x2) 0) ≤ (xpl h (alg h x3 x1) 0) → (Q (xI 1) h)))) ∧ (¬ (xpl h (alg h x3 x1) 2) = (xpl h (alg h x3 x2) 2) → (((xpl h (alg h x3 x1) 2) ≤ (xpl h (alg h x3 x2) 2) → (Q (xI 0) h)) ∧ (¬ (xpl h (alg h x3 x1) 2) ≤ (xpl h (alg h x3 x2) 2) → (Q (xI 1) h)))))) ∧ (¬ (xpl h 50 x1) = (xpl h 50 x2) → (((xpl h 50 x1) ≤ (xpl h 50 x2) → (Q (xI 0) h)) ∧ (¬ (xpl h 50 x1) ≤ (xpl h 50 x2) → (Q (xI 1) h)))))) : xwp G m_Findings_isAhead (d + 4) 0 [xR 40, xI x1, xI x2, xR x3, xZ, xZ] [] h Q X := by
  have hnx9 : (93 : Int) ≤ xnx h := F.2.2
  refine xr_okL (fun hl9 => ?_)
  have r_x1 : -2147483648 ≤ x1 ∧ x1 ≤ 2147483647 := hl9 (xI x1) (.tail _ (.head _)) (Nat.le_of_ble_eq_true rfl)
  have r_x2 : -2147483648 ≤ x2 ∧ x2 ≤ 2147483647 := hl9 (xI x2) (.tail _ (.tail _ (.head _))) (Nat.le_of_ble_eq_true rfl)
  refine xr_aload_n (pc := 0) (i := 0) (hI := d_Findings_isAhead_0) (hi := rfl) (hl := rfl) ?_
  refine xg_getf (pc := 1) (ci := 1) (k := 3) (N := 6) (v9 := 2) (v := 50) (T := xF1) (hI := d_Findings_isAhead_1) (hw := w_410) rfl xi1 (Or.inl rfl) (Nat.le_of_ble_eq_true rfl) (Nat.le_of_ble_eq_true rfl) rfl (ft_40 F) (fp_40_3 F) (fun f1_ => ?_)
  clear f1_
  refine xr_iload_n (pc := 4) (i := 1) (hI := d_Findings_isAhead_4) (hi := rfl) (hl := rfl) ?_
  obtain ⟨c2_, hyp⟩ := hyp
  obtain ⟨c3_, hyp⟩ := hyp
  refine xg_iaload (pc := 5) (v := (xpl h 50 x1)) (hI := d_Findings_isAhead_5) (ft_50 F) c2_ (xlt_of (fl_50 F) c3_) rfl (fun f4_ => ?_)
  replace f4_ : -2147483648 ≤ (xpl h 50 x1) ∧ (xpl h 50 x1) ≤ 2147483647 := f4_
  refine xr_aload_n (pc := 6) (i := 0) (hI := d_Findings_isAhead_6) (hi := rfl) (hl := rfl) ?_
  refine xg_getf (pc := 7) (ci := 1) (k := 3) (N := 6) (v9 := 2) (v := 50) (T := xF1) (hI := d_Findings_isAhead_7) (hw := w_410) rfl xi1 (Or.inl rfl) (Nat.le_of_ble_eq_true rfl) (Nat.le_of_ble_eq_true rfl) rfl (ft_40 F) (fp_40_3 F) (fun f5_ => ?_)
  clear f5_
  refine xr_iload_n (pc := 10) (i := 2) (hI := d_Findings_isAhead_10) (hi := rfl) (hl := rfl) ?_
  obtain ⟨c6_, hyp⟩ := hyp
  obtain ⟨c7_, hyp⟩ := hyp
  refine xg_iaload (pc := 11) (v := (xpl h 50 x2)) (hI := d_Findings_isAhead_11) (ft_50 F) c6_ (xlt_of (fl_50 F) c7_) rfl (fun f8_ => ?_)
  replace f8_ : -2147483648 ≤ (xpl h 50 x2) ∧ (xpl h 50 x2) ≤ 2147483647 := f8_
  refine xr_icmp_eq (pc := 12) (tgt := 36) (hI := d_Findings_isAhead_12) (ht := by decide) (fun q9 => ?_) (fun q9 => ?_)
  · replace hyp := hyp.1 q9
    have q9_ := q9
    clear q9
    refine xr_aload_n (pc := 36) (i := 3) (hI := d_Findings_isAhead_36) (hi := rfl) (hl := rfl) ?_
    refine xr_iload_n (pc := 37) (i := 1) (hI := d_Findings_isAhead_37) (hi := rfl) (hl := rfl) ?_
    obtain ⟨c9, hyp⟩ := hyp
    have t10_ := c9
    clear c9
    obtain ⟨c11_, hyp⟩ := hyp
    obtain ⟨c12_, hyp⟩ := hyp
    refine xq_callV (pc := 38) (index := 63) (K := m_ArrayList_get) (As := [xI x1]) (S := []) (L0 := [xR x3, xI x1]) (hI := d_Findings_isAhead_38) (hK := k_ArrayList_get) (hlk := w_698) (hnoM := rfl) (hS8 := Nat.le_of_ble_eq_true rfl) (ci := 13) (N := 3) (C := "java/util/ArrayList") (T := xF13) (hc := rfl) (hci := Nat.le_of_ble_eq_true rfl) (htb := t10_) (hinst := w_469) (hsel := w_470) (hlen := Nat.le_of_ble_eq_true rfl) (hst := rfl) (hL0 := rfl)  (p_AL_get F c11_ (by clear hyp; omega) c12_ ?_)
    show xwp G m_Findings_isAhead (d + 4) 41 [xR 40, xI x1, xI x2, xR x3, xZ, xZ] [xR (alg h x3 x1)] _ _ _
    obtain ⟨c9, hyp⟩ := hyp
    have t13_ := c9
    clear c9
    refine xr_cast (pc := 41) (ci := 9) (T := xF9) (N := 6) (hI := d_Findings_isAhead_41) w_699 rfl (Nat.le_of_ble_eq_true rfl) t13_ ?_
    refine xr_astore (pc := 44) (i := 4) (L9 := [xR 40, xI x1, xI x2, xR x3, xR (alg h x3 x1), xZ]) (hI := d_Findings_isAhead_44) (hn := Nat.le_of_ble_eq_true rfl) (hL9 := rfl) ?_
    refine xr_aload_n (pc := 46) (i := 3) (hI := d_Findings_isAhead_46) (hi := rfl) (hl := rfl) ?_
    refine xr_iload_n (pc := 47) (i := 2) (hI := d_Findings_isAhead_47) (hi := rfl) (hl := rfl) ?_
    obtain ⟨c14_, hyp⟩ := hyp
    refine xq_callV (pc := 48) (index := 63) (K := m_ArrayList_get) (As := [xI x2]) (S := []) (L0 := [xR x3, xI x2]) (hI := d_Findings_isAhead_48) (hK := k_ArrayList_get) (hlk := w_698) (hnoM := rfl) (hS8 := Nat.le_of_ble_eq_true rfl) (ci := 13) (N := 3) (C := "java/util/ArrayList") (T := xF13) (hc := rfl) (hci := Nat.le_of_ble_eq_true rfl) (htb := t10_) (hinst := w_469) (hsel := w_470) (hlen := Nat.le_of_ble_eq_true rfl) (hst := rfl) (hL0 := rfl)  (p_AL_get F c11_ (by clear hyp; omega) c14_ ?_)
    show xwp G m_Findings_isAhead (d + 4) 51 [xR 40, xI x1, xI x2, xR x3, xR (alg h x3 x1), xZ] [xR (alg h x3 x2)] _ _ _
    obtain ⟨c9, hyp⟩ := hyp
    have t15_ := c9
    clear c9
    refine xr_cast (pc := 51) (ci := 9) (T := xF9) (N := 6) (hI := d_Findings_isAhead_51) w_699 rfl (Nat.le_of_ble_eq_true rfl) t15_ ?_
    refine xr_astore (pc := 54) (i := 5) (L9 := [xR 40, xI x1, xI x2, xR x3, xR (alg h x3 x1), xR (alg h x3 x2)]) (hI := d_Findings_isAhead_54) (hn := Nat.le_of_ble_eq_true rfl) (hL9 := rfl) ?_
    refine xr_aload (pc := 56) (i := 4) (hI := d_Findings_isAhead_56) (hl := rfl) ?_
    refine xg_getf (pc := 58) (ci := 9) (k := 2) (N := 6) (v9 := 0) (v := (xpl h (alg h x3 x1) 2)) (T := xF9) (hI := d_Findings_isAhead_58) (hw := w_126) rfl xi9 (Or.inl rfl) (Nat.le_of_ble_eq_true rfl) (Nat.le_of_ble_eq_true rfl) rfl t13_ rfl (fun f16_ => ?_)
    replace f16_ : -2147483648 ≤ (xpl h (alg h x3 x1) 2) ∧ (xpl h (alg h x3 x1) 2) ≤ 2147483647 := f16_
    refine xr_aload (pc := 61) (i := 5) (hI := d_Findings_isAhead_61) (hl := rfl) ?_
    refine xg_getf (pc := 63) (ci := 9) (k := 2) (N := 6) (v9 := 0) (v := (xpl h (alg h x3 x2) 2)) (T := xF9) (hI := d_Findings_isAhead_63) (hw := w_126) rfl xi9 (Or.inl rfl) (Nat.le_of_ble_eq_true rfl) (Nat.le_of_ble_eq_true rfl) rfl t15_ rfl (fun f17_ => ?_)
    replace f17_ : -2147483648 ≤ (xpl h (alg h x3 x2) 2) ∧ (xpl h (alg h x3 x2) 2) ≤ 2147483647 := f17_
    refine xr_icmp_eq (pc := 66) (tgt := 90) (hI := d_Findings_isAhead_66) (ht := by decide) (fun q9 => ?_) (fun q9 => ?_)
    · replace hyp := hyp.1 q9
      have q18_ := q9
      clear q9
      refine xr_aload (pc := 90) (i := 4) (hI := d_Findings_isAhead_90) (hl := rfl) ?_
      refine xg_getf (pc := 92) (ci := 9) (k := 0) (N := 6) (v9 := 0) (v := (xpl h (alg h x3 x1) 0)) (T := xF9) (hI := d_Findings_isAhead_92) (hw := w_121) rfl xi9 (Or.inl rfl) (Nat.le_of_ble_eq_true rfl) (Nat.le_of_ble_eq_true rfl) rfl t13_ rfl (fun f19_ => ?_)
      replace f19_ : -2147483648 ≤ (xpl h (alg h x3 x1) 0) ∧ (xpl h (alg h x3 x1) 0) ≤ 2147483647 := f19_
      refine xr_aload (pc := 95) (i := 5) (hI := d_Findings_isAhead_95) (hl := rfl) ?_
      refine xg_getf (pc := 97) (ci := 9) (k := 0) (N := 6) (v9 := 0) (v := (xpl h (alg h x3 x2) 0)) (T := xF9) (hI := d_Findings_isAhead_97) (hw := w_121) rfl xi9 (Or.inl rfl) (Nat.le_of_ble_eq_true rfl) (Nat.le_of_ble_eq_true rfl) rfl t15_ rfl (fun f20_ => ?_)
      replace f20_ : -2147483648 ≤ (xpl h (alg h x3 x2) 0) ∧ (xpl h (alg h x3 x2) 0) ≤ 2147483647 := f20_
      refine xr_icmp_ge (pc := 100) (tgt := 107) (hI := d_Findings_isAhead_100) (ht := by decide) (fun q9 => ?_) (fun q9 => ?_)
      · replace hyp := hyp.1 q9
        have q21_ := q9
        clear q9
        refine xr_iconst (pc := 107) (hI := d_Findings_isAhead_107) (hr := by decide) ?_
        refine xr_ireturnT (S := []) (pc := 108) (hI := d_Findings_isAhead_108) (hr := rfl) (xnar_z (by decide)) ?_
        exact hyp
      · replace hyp := hyp.2 q9
        have q21_ := q9
        clear q9
        refine xr_iconst (pc := 103) (hI := d_Findings_isAhead_103) (hr := by decide) ?_
        refine xr_goto (pc := 104) (tgt := 108) (hI := d_Findings_isAhead_104) (ht := by decide) ?_
        refine xr_ireturnT (S := []) (pc := 108) (hI := d_Findings_isAhead_108) (hr := rfl) (xnar_z (by decide)) ?_
        exact hyp
    · replace hyp := hyp.2 q9
      have q18_ := q9
      clear q9
      refine xr_aload (pc := 69) (i := 4) (hI := d_Findings_isAhead_69) (hl := rfl) ?_
      refine xg_getf (pc := 71) (ci := 9) (k := 2) (N := 6) (v9 := 0) (v := (xpl h (alg h x3 x1) 2)) (T := xF9) (hI := d_Findings_isAhead_71) (hw := w_126) rfl xi9 (Or.inl rfl) (Nat.le_of_ble_eq_true rfl) (Nat.le_of_ble_eq_true rfl) rfl t13_ rfl (fun f22_ => ?_)
      replace f22_ : -2147483648 ≤ (xpl h (alg h x3 x1) 2) ∧ (xpl h (alg h x3 x1) 2) ≤ 2147483647 := f22_
      refine xr_aload (pc := 74) (i := 5) (hI := d_Findings_isAhead_74) (hl := rfl) ?_
      refine xg_getf (pc := 76) (ci := 9) (k := 2) (N := 6) (v9 := 0) (v := (xpl h (alg h x3 x2) 2)) (T := xF9) (hI := d_Findings_isAhead_76) (hw := w_126) rfl xi9 (Or.inl rfl) (Nat.le_of_ble_eq_true rfl) (Nat.le_of_ble_eq_true rfl) rfl t15_ rfl (fun f23_ => ?_)
      replace f23_ : -2147483648 ≤ (xpl h (alg h x3 x2) 2) ∧ (xpl h (alg h x3 x2) 2) ≤ 2147483647 := f23_
      refine xr_icmp_le (pc := 79) (tgt := 86) (hI := d_Findings_isAhead_79) (ht := by decide) (fun q9 => ?_) (fun q9 => ?_)
      · replace hyp := hyp.1 q9
        have q24_ := q9
        clear q9
        refine xr_iconst (pc := 86) (hI := d_Findings_isAhead_86) (hr := by decide) ?_
        refine xr_goto (pc := 87) (tgt := 108) (hI := d_Findings_isAhead_87) (ht := by decide) ?_
        refine xr_ireturnT (S := []) (pc := 108) (hI := d_Findings_isAhead_108) (hr := rfl) (xnar_z (by decide)) ?_
        exact hyp
      · replace hyp := hyp.2 q9
        have q24_ := q9
        clear q9
        refine xr_iconst (pc := 82) (hI := d_Findings_isAhead_82) (hr := by decide) ?_
        refine xr_goto (pc := 83) (tgt := 108) (hI := d_Findings_isAhead_83) (ht := by decide) ?_
        refine xr_ireturnT (S := []) (pc := 108) (hI := d_Findings_isAhead_108) (hr := rfl) (xnar_z (by decide)) ?_
        exact hyp
  · replace hyp := hyp.2 q9
    have q9_ := q9
    clear q9
    refine xr_aload_n (pc := 15) (i := 0) (hI := d_Findings_isAhead_15) (hi := rfl) (hl := rfl) ?_
    refine xg_getf (pc := 16) (ci := 1) (k := 3) (N := 6) (v9 := 2) (v := 50) (T := xF1) (hI := d_Findings_isAhead_16) (hw := w_410) rfl xi1 (Or.inl rfl) (Nat.le_of_ble_eq_true rfl) (Nat.le_of_ble_eq_true rfl) rfl (ft_40 F) (fp_40_3 F) (fun f25_ => ?_)
    clear f25_
    refine xr_iload_n (pc := 19) (i := 1) (hI := d_Findings_isAhead_19) (hi := rfl) (hl := rfl) ?_
    refine xg_iaload (pc := 20) (v := (xpl h 50 x1)) (hI := d_Findings_isAhead_20) (ft_50 F) (by clear hyp; omega) (xlt_of (fl_50 F) (by clear hyp; omega)) rfl (fun f26_ => ?_)
    replace f26_ : -2147483648 ≤ (xpl h 50 x1) ∧ (xpl h 50 x1) ≤ 2147483647 := f26_
    refine xr_aload_n (pc := 21) (i := 0) (hI := d_Findings_isAhead_21) (hi := rfl) (hl := rfl) ?_
    refine xg_getf (pc := 22) (ci := 1) (k := 3) (N := 6) (v9 := 2) (v := 50) (T := xF1) (hI := d_Findings_isAhead_22) (hw := w_410) rfl xi1 (Or.inl rfl) (Nat.le_of_ble_eq_true rfl) (Nat.le_of_ble_eq_true rfl) rfl (ft_40 F) (fp_40_3 F) (fun f27_ => ?_)
    clear f27_
    refine xr_iload_n (pc := 25) (i := 2) (hI := d_Findings_isAhead_25) (hi := rfl) (hl := rfl) ?_
    refine xg_iaload (pc := 26) (v := (xpl h 50 x2)) (hI := d_Findings_isAhead_26) (ft_50 F) (by clear hyp; omega) (xlt_of (fl_50 F) (by clear hyp; omega)) rfl (fun f28_ => ?_)
    replace f28_ : -2147483648 ≤ (xpl h 50 x2) ∧ (xpl h 50 x2) ≤ 2147483647 := f28_
    refine xr_icmp_le (pc := 27) (tgt := 34) (hI := d_Findings_isAhead_27) (ht := by decide) (fun q9 => ?_) (fun q9 => ?_)
    · replace hyp := hyp.1 q9
      have q29_ := q9
      clear q9
      refine xr_iconst (pc := 34) (hI := d_Findings_isAhead_34) (hr := by decide) ?_
      refine xr_ireturnT (S := []) (pc := 35) (hI := d_Findings_isAhead_35) (hr := rfl) (xnar_z (by decide)) ?_
      exact hyp
    · replace hyp := hyp.2 q9
      have q29_ := q9
      clear q9
      refine xr_iconst (pc := 30) (hI := d_Findings_isAhead_30) (hr := by decide) ?_
      refine xr_goto (pc := 31) (tgt := 35) (hI := d_Findings_isAhead_31) (ht := by decide) ?_
      refine xr_ireturnT (S := []) (pc := 35) (hI := d_Findings_isAhead_35) (hr := rfl) (xnar_z (by decide)) ?_
      exact hyp
abbrev m_Findings_putInOrder : XM := (⟨"BeaconIndex$Findings", "putInOrder", "(ILjava/util/ArrayList;)V"⟩, prog_2_method_8_code, 4, none, [])
theorem d_Findings_putInOrder_0 : decode prog_2_method_8_code 0 = .ok (.aload_n 0, 1) := by decide +kernel
theorem d_Findings_putInOrder_1 : decode prog_2_method_8_code 1 = .ok (.getfield 32, 3) := by decide +kernel
theorem d_Findings_putInOrder_4 : decode prog_2_method_8_code 4 = .ok (.aload_n 0, 1) := by decide +kernel
theorem d_Findings_putInOrder_5 : decode prog_2_method_8_code 5 = .ok (.getfield 29, 3) := by decide +kernel
theorem d_Findings_putInOrder_8 : decode prog_2_method_8_code 8 = .ok (.arraylength, 1) := by decide +kernel
theorem d_Findings_putInOrder_9 : decode prog_2_method_8_code 9 = .ok (.if_icmp .lt 4, 3) := by decide +kernel
theorem d_Findings_putInOrder_13 : decode prog_2_method_8_code 13 = .ok (.aload_n 0, 1) := by decide +kernel
theorem d_Findings_putInOrder_14 : decode prog_2_method_8_code 14 = .ok (.getfield 32, 3) := by decide +kernel
theorem d_Findings_putInOrder_17 : decode prog_2_method_8_code 17 = .ok (.istore_n 3, 1) := by decide +kernel
theorem d_Findings_putInOrder_12 : decode prog_2_method_8_code 12 = .ok (.return_, 1) := by decide +kernel
theorem v_Findings_putInOrder_0 {G : XG} {d : Nat} {h : XH} {Q : XV → XH → Prop} {X : Nat → XH → Prop} {x1 x2 : Int} (F : xFix h) (hyp : (((xpl h 40 5) < 60 → (xwp G m_Findings_putInOrder (d + 5) 18 [xR 40, xI x1, xR x2, xI (xpl h 40 5)] [] h Q X)) ∧ (¬ (xpl h 40 5) < 60 → (Q xN h)))) : xwp G m_Findings_putInOrder (d + 5) 0 [xR 40, xI x1, xR x2, xZ] [] h Q X := by
  have hnx9 : (93 : Int) ≤ xnx h := F.2.2
  refine xr_okL (fun hl9 => ?_)
  have r_x1 : -2147483648 ≤ x1 ∧ x1 ≤ 2147483647 := hl9 (xI x1) (.tail _ (.head _)) (Nat.le_of_ble_eq_true rfl)
  refine xr_aload_n (pc := 0) (i := 0) (hI := d_Findings_putInOrder_0) (hi := rfl) (hl := rfl) ?_
  refine xg_getf (pc := 1) (ci := 1) (k := 5) (N := 6) (v9 := 0) (v := (xpl h 40 5)) (T := xF1) (hI := d_Findings_putInOrder_1) (hw := w_412) rfl xi1 (Or.inl rfl) (Nat.le_of_ble_eq_true rfl) (Nat.le_of_ble_eq_true rfl) rfl (ft_40 F) rfl (fun f1_ => ?_)
  replace f1_ : -2147483648 ≤ (xpl h 40 5) ∧ (xpl h 40 5) ≤ 2147483647 := f1_
  refine xr_aload_n (pc := 4) (i := 0) (hI := d_Findings_putInOrder_4) (hi := rfl) (hl := rfl) ?_
  refine xg_getf (pc := 5) (ci := 1) (k := 4) (N := 6) (v9 := 2) (v := 51) (T := xF1) (hI := d_Findings_putInOrder_5) (hw := w_411) rfl xi1 (Or.inl rfl) (Nat.le_of_ble_eq_true rfl) (Nat.le_of_ble_eq_true rfl) rfl (ft_40 F) (fp_40_4 F) (fun f2_ => ?_)
  clear f2_
  refine xg_alen (pc := 8) (t := 100) (v := 60) (hI := d_Findings_putInOrder_8) (ft_51 F) (Nat.le_of_ble_eq_true rfl) (Nat.le_of_ble_eq_true rfl) rfl (fl_51 F) (fun f3_ f4_ => ?_)
  clear f3_ f4_
  refine xr_icmp_lt (pc := 9) (tgt := 13) (hI := d_Findings_putInOrder_9) (ht := by decide) (fun q9 => ?_) (fun q9 => ?_)
  · replace hyp := hyp.1 q9
    have q5_ := q9
    clear q9
    refine xr_aload_n (pc := 13) (i := 0) (hI := d_Findings_putInOrder_13) (hi := rfl) (hl := rfl) ?_
    refine xg_getf (pc := 14) (ci := 1) (k := 5) (N := 6) (v9 := 0) (v := (xpl h 40 5)) (T := xF1) (hI := d_Findings_putInOrder_14) (hw := w_412) rfl xi1 (Or.inl rfl) (Nat.le_of_ble_eq_true rfl) (Nat.le_of_ble_eq_true rfl) rfl (ft_40 F) rfl (fun f6_ => ?_)
    replace f6_ : -2147483648 ≤ (xpl h 40 5) ∧ (xpl h 40 5) ≤ 2147483647 := f6_
    refine xr_istore_n (pc := 17) (i := 3) (L9 := [xR 40, xI x1, xR x2, xI (xpl h 40 5)]) (hI := d_Findings_putInOrder_17) (hi := rfl) (hn := Nat.le_of_ble_eq_true rfl) (hL9 := rfl) ?_
    exact hyp
  · replace hyp := hyp.2 q9
    have q5_ := q9
    clear q9
    refine xr_return (S := []) (pc := 12) (hI := d_Findings_putInOrder_12) (hr := rfl) ?_
    exact hyp
theorem d_Findings_putInOrder_18 : decode prog_2_method_8_code 18 = .ok (.iload_n 3, 1) := by decide +kernel
theorem d_Findings_putInOrder_19 : decode prog_2_method_8_code 19 = .ok (.ifCond .le 40, 3) := by decide +kernel
theorem d_Findings_putInOrder_22 : decode prog_2_method_8_code 22 = .ok (.aload_n 0, 1) := by decide +kernel
theorem d_Findings_putInOrder_23 : decode prog_2_method_8_code 23 = .ok (.iload_n 1, 1) := by decide +kernel
theorem d_Findings_putInOrder_24 : decode prog_2_method_8_code 24 = .ok (.aload_n 0, 1) := by decide +kernel
theorem d_Findings_putInOrder_25 : decode prog_2_method_8_code 25 = .ok (.getfield 29, 3) := by decide +kernel
theorem d_Findings_putInOrder_28 : decode prog_2_method_8_code 28 = .ok (.iload_n 3, 1) := by decide +kernel
theorem d_Findings_putInOrder_29 : decode prog_2_method_8_code 29 = .ok (.iconst 1, 1) := by decide +kernel
theorem d_Findings_putInOrder_30 : decode prog_2_method_8_code 30 = .ok (.isub, 1) := by decide +kernel
theorem d_Findings_putInOrder_31 : decode prog_2_method_8_code 31 = .ok (.iaload, 1) := by decide +kernel
theorem d_Findings_putInOrder_32 : decode prog_2_method_8_code 32 = .ok (.aload_n 2, 1) := by decide +kernel
theorem d_Findings_putInOrder_33 : decode prog_2_method_8_code 33 = .ok (.invokevirtual 122, 3) := by decide +kernel
theorem k_Findings_isAhead : xCal m_Findings_isAhead 3 := ⟨List.mem_append_right _ (List.mem_of_getElem? (i := 749) (by decide +kernel)), w_12, Nat.le_of_ble_eq_true rfl, ⟨by decide +kernel, by decide +kernel⟩, by decide +kernel, by decide +kernel, rfl⟩
theorem w_746 : Cond.methodLink "BeaconIndex$Findings" 122 ⟨"BeaconIndex$Findings", "isAhead", "(IILjava/util/ArrayList;)Z"⟩ ∈ lw_tbl := List.mem_append_right _ (List.mem_of_getElem? (i := 746) (by decide +kernel))
theorem w_748 : Cond.instanceMethod ⟨"BeaconIndex$Findings", "isAhead", "(IILjava/util/ArrayList;)Z"⟩ ∈ lw_tbl := List.mem_append_right _ (List.mem_of_getElem? (i := 748) (by decide +kernel))
theorem sel_Findings_isAhead : Cond.selects "BeaconIndex$Findings" ⟨"BeaconIndex$Findings", "isAhead", "(IILjava/util/ArrayList;)Z"⟩ ⟨"BeaconIndex$Findings", "isAhead", "(IILjava/util/ArrayList;)Z"⟩ ∈ lw_tbl := List.mem_append_left _ (by decide +kernel)
theorem v_Findings_putInOrder_18 {G : XG} {d : Nat} {h : XH} {Q : XV → XH → Prop} {X : Nat → XH → Prop} {x1 x2 x3 : Int} (F : xFix h) (hyp : ((x3 ≤ 0 → (xwp G m_Findings_putInOrder (d + 5) 59 [xR 40, xI x1, xZ, xI x3] [] h Q X)) ∧ (¬ x3 ≤ 0 → (x3 - 1) < 60 ∧ (xwp G m_Findings_isAhead (d + 4) 0 [xR 40, xI x1, xI (xpl h 51 (x3 - 1)), xR x2, xZ, xZ] [] h (fun v9 h9 => xwp G m_Findings_putInOrder (d + 5) 36 [xR 40, xI x1, xR x2, xI x3] (xpush v9 []) h9 Q X) X)))) : xwp G m_Findings_putInOrder (d + 5) 18 [xR 40, xI x1, xR x2, xI x3] [] h Q X := by
  have hnx9 : (93 : Int) ≤ xnx h := F.2.2
  refine xr_okL (fun hl9 => ?_)
  have r_x1 : -2147483648 ≤ x1 ∧ x1 ≤ 2147483647 := hl9 (xI x1) (.tail _ (.head _)) (Nat.le_of_ble_eq_true rfl)
  have r_x3 : -2147483648 ≤ x3 ∧ x3 ≤ 2147483647 := hl9 (xI x3) (.tail _ (.tail _ (.tail _ (.head _)))) (Nat.le_of_ble_eq_true rfl)
  refine xr_iload_n (pc := 18) (i := 3) (hI := d_Findings_putInOrder_18) (hi := rfl) (hl := rfl) ?_
  refine xr_if_le (pc := 19) (tgt := 59) (hI := d_Findings_putInOrder_19) (ht := by decide) (fun q9 => ?_) (fun q9 => ?_)
  · replace hyp := hyp.1 q9
    have q1_ := q9
    clear q9
    exact xr_drop (L9 := [xR 40, xI x1, xZ, xI x3]) (xdrs (xdrs (xdrz (xdrs xdr0)))) hyp
  · replace hyp := hyp.2 q9
    have q1_ := q9
    clear q9
    refine xr_aload_n (pc := 22) (i := 0) (hI := d_Findings_putInOrder_22) (hi := rfl) (hl := rfl) ?_
    refine xr_iload_n (pc := 23) (i := 1) (hI := d_Findings_putInOrder_23) (hi := rfl) (hl := rfl) ?_
    refine xr_aload_n (pc := 24) (i := 0) (hI := d_Findings_putInOrder_24) (hi := rfl) (hl := rfl) ?_
    refine xg_getf (pc := 25) (ci := 1) (k := 4) (N := 6) (v9 := 2) (v := 51) (T := xF1) (hI := d_Findings_putInOrder_25) (hw := w_411) rfl xi1 (Or.inl rfl) (Nat.le_of_ble_eq_true rfl) (Nat.le_of_ble_eq_true rfl) rfl (ft_40 F) (fp_40_4 F) (fun f2_ => ?_)
    clear f2_
    refine xr_iload_n (pc := 28) (i := 3) (hI := d_Findings_putInOrder_28) (hi := rfl) (hl := rfl) ?_
    refine xr_iconst (pc := 29) (hI := d_Findings_putInOrder_29) (hr := by decide) ?_
    refine xr_isub (pc := 30) (hI := d_Findings_putInOrder_30) (hr := ⟨by clear hyp; omega, by clear hyp; omega⟩) ?_
    obtain ⟨c3_, hyp⟩ := hyp
    refine xg_iaload (pc := 31) (v := (xpl h 51 (x3 - 1))) (hI := d_Findings_putInOrder_31) (ft_51 F) (by clear hyp; omega) (xlt_of (fl_51 F) c3_) rfl (fun f4_ => ?_)
    replace f4_ : -2147483648 ≤ (xpl h 51 (x3 - 1)) ∧ (xpl h 51 (x3 - 1)) ≤ 2147483647 := f4_
    refine xr_aload_n (pc := 32) (i := 2) (hI := d_Findings_putInOrder_32) (hi := rfl) (hl := rfl) ?_
    exact xq_callV (pc := 33) (index := 122) (K := m_Findings_isAhead) (As := [xI x1, xI (xpl h 51 (x3 - 1)), xR x2]) (S := []) (L0 := [xR 40, xI x1, xI (xpl h 51 (x3 - 1)), xR x2, xZ, xZ]) (hI := d_Findings_putInOrder_33) (hK := k_Findings_isAhead) (hlk := w_746) (hnoM := rfl) (hS8 := Nat.le_of_ble_eq_true rfl) (ci := 1) (N := 6) (C := "BeaconIndex$Findings") (T := xF1) (hc := rfl) (hci := Nat.le_of_ble_eq_true rfl) (htb := (ft_40 F)) (hinst := w_748) (hsel := sel_Findings_isAhead) (hlen := Nat.le_of_ble_eq_true rfl) (hst := rfl) (hL0 := rfl)  hyp
theorem d_Findings_putInOrder_36 : decode prog_2_method_8_code 36 = .ok (.ifCond .eq 23, 3) := by decide +kernel
theorem d_Findings_putInOrder_39 : decode prog_2_method_8_code 39 = .ok (.aload_n 0, 1) := by decide +kernel
theorem d_Findings_putInOrder_40 : decode prog_2_method_8_code 40 = .ok (.getfield 29, 3) := by decide +kernel
theorem d_Findings_putInOrder_43 : decode prog_2_method_8_code 43 = .ok (.iload_n 3, 1) := by decide +kernel
theorem d_Findings_putInOrder_44 : decode prog_2_method_8_code 44 = .ok (.aload_n 0, 1) := by decide +kernel
theorem d_Findings_putInOrder_45 : decode prog_2_method_8_code 45 = .ok (.getfield 29, 3) := by decide +kernel
theorem d_Findings_putInOrder_48 : decode prog_2_method_8_code 48 = .ok (.iload_n 3, 1) := by decide +kernel
theorem d_Findings_putInOrder_49 : decode prog_2_method_8_code 49 = .ok (.iconst 1, 1) := by decide +kernel
theorem d_Findings_putInOrder_50 : decode prog_2_method_8_code 50 = .ok (.isub, 1) := by decide +kernel
theorem d_Findings_putInOrder_51 : decode prog_2_method_8_code 51 = .ok (.iaload, 1) := by decide +kernel
theorem d_Findings_putInOrder_52 : decode prog_2_method_8_code 52 = .ok (.iastore, 1) := by decide +kernel
theorem xfa_51 : xfreeA 51 = true := by decide +kernel
theorem d_Findings_putInOrder_53 : decode prog_2_method_8_code 53 = .ok (.iinc 3 (-1), 3) := by decide +kernel
theorem d_Findings_putInOrder_56 : decode prog_2_method_8_code 56 = .ok (.goto (-38), 3) := by decide +kernel
theorem v_Findings_putInOrder_36 {G : XG} {d : Nat} {h : XH} {Q : XV → XH → Prop} {X : Nat → XH → Prop} {x1 x2 x3 s0 : Int} (F : xFix h) (hyp : ((s0 = 0 → (xwp G m_Findings_putInOrder (d + 5) 59 [xR 40, xI x1, xZ, xI x3] [] h Q X)) ∧ (¬ s0 = 0 → xiR (x3 - 1) ∧ 0 ≤ (x3 - 1) ∧ (x3 - 1) < 60 ∧ x3 < 60 ∧ (xFix (xst h 51 x3 (xpl h 51 (x3 - 1))) → xwp G m_Findings_putInOrder (d + 5) 18 [xR 40, xI x1, xR x2, xI (x3 + (-1))] [] (xst h 51 x3 (xpl h 51 (x3 - 1))) Q X)))) : xwp G m_Findings_putInOrder (d + 5) 36 [xR 40, xI x1, xR x2, xI x3] [xI s0] h Q X := by
  have hnx9 : (93 : Int) ≤ xnx h := F.2.2
  refine xr_okL (fun hl9 => ?_)
  have r_x1 : -2147483648 ≤ x1 ∧ x1 ≤ 2147483647 := hl9 (xI x1) (.tail _ (.head _)) (Nat.le_of_ble_eq_true rfl)
  have r_x3 : -2147483648 ≤ x3 ∧ x3 ≤ 2147483647 := hl9 (xI x3) (.tail _ (.tail _ (.tail _ (.head _)))) (Nat.le_of_ble_eq_true rfl)
  refine xr_okS (fun hs9 => ?_)
  have r_s0 : -2147483648 ≤ s0 ∧ s0 ≤ 2147483647 := hs9 (xI s0) (.head _)
  refine xr_if_eq (pc := 36) (tgt := 59) (hI := d_Findings_putInOrder_36) (ht := by decide) (fun q9 => ?_) (fun q9 => ?_)
  · replace hyp := hyp.1 q9
    have q1_ := q9
    clear q9
    exact xr_drop (L9 := [xR 40, xI x1, xZ, xI x3]) (xdrs (xdrs (xdrz (xdrs xdr0)))) hyp
  · replace hyp := hyp.2 q9
    have q1_ := q9
    clear q9
    refine xr_aload_n (pc := 39) (i := 0) (hI := d_Findings_putInOrder_39) (hi := rfl) (hl := rfl) ?_
    refine xg_getf (pc := 40) (ci := 1) (k := 4) (N := 6) (v9 := 2) (v := 51) (T := xF1) (hI := d_Findings_putInOrder_40) (hw := w_411) rfl xi1 (Or.inl rfl) (Nat.le_of_ble_eq_true rfl) (Nat.le_of_ble_eq_true rfl) rfl (ft_40 F) (fp_40_4 F) (fun f2_ => ?_)
    clear f2_
    refine xr_iload_n (pc := 43) (i := 3) (hI := d_Findings_putInOrder_43) (hi := rfl) (hl := rfl) ?_
    refine xr_aload_n (pc := 44) (i := 0) (hI := d_Findings_putInOrder_44) (hi := rfl) (hl := rfl) ?_
    refine xg_getf (pc := 45) (ci := 1) (k := 4) (N := 6) (v9 := 2) (v := 51) (T := xF1) (hI := d_Findings_putInOrder_45) (hw := w_411) rfl xi1 (Or.inl rfl) (Nat.le_of_ble_eq_true rfl) (Nat.le_of_ble_eq_true rfl) rfl (ft_40 F) (fp_40_4 F) (fun f3_ => ?_)
    clear f3_
    refine xr_iload_n (pc := 48) (i := 3) (hI := d_Findings_putInOrder_48) (hi := rfl) (hl := rfl) ?_
    refine xr_iconst (pc := 49) (hI := d_Findings_putInOrder_49) (hr := by decide) ?_
    obtain ⟨c9, hyp⟩ := hyp
    refine xr_isub (pc := 50) (hI := d_Findings_putInOrder_50) (hr := c9) ?_
    obtain ⟨c4_, hyp⟩ := hyp
    obtain ⟨c5_, hyp⟩ := hyp
    refine xg_iaload (pc := 51) (v := (xpl h 51 (x3 - 1))) (hI := d_Findings_putInOrder_51) (ft_51 F) c4_ (xlt_of (fl_51 F) c5_) rfl (fun f6_ => ?_)
    replace f6_ : -2147483648 ≤ (xpl h 51 (x3 - 1)) ∧ (xpl h 51 (x3 - 1)) ≤ 2147483647 := f6_
    obtain ⟨c7_, hyp⟩ := hyp
    refine xr_iastore (pc := 52) (hI := d_Findings_putInOrder_52) (ft_51 F) (by decide) (by clear hyp; omega) (xlt_of (fl_51 F) c7_) ?_
    have F8_ : xFix (xst h 51 x3 (xpl h 51 (x3 - 1))) := F.stA xfa_51
    refine xr_iinc (pc := 53) (i := 3) (L9 := [xR 40, xI x1, xR x2, xI (x3 + (-1))]) (hI := d_Findings_putInOrder_53) (hl := rfl) (hn := Nat.le_of_ble_eq_true rfl) (hr := ⟨by clear hyp; omega, by clear hyp; omega⟩) (hL9 := rfl) ?_
    refine xr_goto (pc := 56) (tgt := 18) (hI := d_Findings_putInOrder_56) (ht := by decide) ?_
    exact (hyp F8_)
theorem d_Findings_putInOrder_59 : decode prog_2_method_8_code 59 = .ok (.aload_n 0, 1) := by decide +kernel
theorem d_Findings_putInOrder_60 : decode prog_2_method_8_code 60 = .ok (.getfield 29, 3) := by decide +kernel
theorem d_Findings_putInOrder_63 : decode prog_2_method_8_code 63 = .ok (.iload_n 3, 1) := by decide +kernel
theorem d_Findings_putInOrder_64 : decode prog_2_method_8_code 64 = .ok (.iload_n 1, 1) := by decide +kernel
theorem d_Findings_putInOrder_65 : decode prog_2_method_8_code 65 = .ok (.iastore, 1) := by decide +kernel
theorem d_Findings_putInOrder_66 : decode prog_2_method_8_code 66 = .ok (.aload_n 0, 1) := by decide +kernel
theorem d_Findings_putInOrder_67 : decode prog_2_method_8_code 67 = .ok (.dup, 1) := by decide +kernel
theorem d_Findings_putInOrder_68 : decode prog_2_method_8_code 68 = .ok (.getfield 32, 3) := by decide +kernel
theorem d_Findings_putInOrder_71 : decode prog_2_method_8_code 71 = .ok (.iconst 1, 1) := by decide +kernel
theorem d_Findings_putInOrder_72 : decode prog_2_method_8_code 72 = .ok (.iadd, 1) := by decide +kernel
theorem d_Findings_putInOrder_73 : decode prog_2_method_8_code 73 = .ok (.putfield 32, 3) := by decide +kernel
theorem xfk_40_5 : xfree 40 5 = true := by decide +kernel
theorem d_Findings_putInOrder_76 : decode prog_2_method_8_code 76 = .ok (.return_, 1) := by decide +kernel
theorem v_Findings_putInOrder_59 {G : XG} {d : Nat} {h : XH} {Q : XV → XH → Prop} {X : Nat → XH → Prop} {x1 x3 : Int} (F : xFix h) (hyp : 0 ≤ x3 ∧ x3 < 60 ∧ xiR ((xpl h 40 5) + 1) ∧ (xFix (xst (xst h 51 x3 x1) 40 5 ((xpl h 40 5) + 1)) → Q xN (xst (xst h 51 x3 x1) 40 5 ((xpl h 40 5) + 1)))) : xwp G m_Findings_putInOrder (d + 5) 59 [xR 40, xI x1, xZ, xI x3] [] h Q X := by
  have hnx9 : (93 : Int) ≤ xnx h := F.2.2
  refine xr_okL (fun hl9 => ?_)
  have r_x1 : -2147483648 ≤ x1 ∧ x1 ≤ 2147483647 := hl9 (xI x1) (.tail _ (.head _)) (Nat.le_of_ble_eq_true rfl)
  have r_x3 : -2147483648 ≤ x3 ∧ x3 ≤ 2147483647 := hl9 (xI x3) (.tail _ (.tail _ (.tail _ (.head _)))) (Nat.le_of_ble_eq_true rfl)
  refine xr_aload_n (pc := 59) (i := 0) (hI := d_Findings_putInOrder_59) (hi := rfl) (hl := rfl) ?_
  refine xg_getf (pc := 60) (ci := 1) (k := 4) (N := 6) (v9 := 2) (v := 51) (T := xF1) (hI := d_Findings_putInOrder_60) (hw := w_411) rfl xi1 (Or.inl rfl) (Nat.le_of_ble_eq_true rfl) (Nat.le_of_ble_eq_true rfl) rfl (ft_40 F) (fp_40_4 F) (fun f1_ => ?_)
  clear f1_
  refine xr_iload_n (pc := 63) (i := 3) (hI := d_Findings_putInOrder_63) (hi := rfl) (hl := rfl) ?_
  refine xr_iload_n (pc := 64) (i := 1) (hI := d_Findings_putInOrder_64) (hi := rfl) (hl := rfl) ?_
  obtain ⟨c2_, hyp⟩ := hyp
  obtain ⟨c3_, hyp⟩ := hyp
  refine xr_iastore (pc := 65) (hI := d_Findings_putInOrder_65) (ft_51 F) (by decide) c2_ (xlt_of (fl_51 F) c3_) ?_
  have F4_ : xFix (xst h 51 x3 x1) := F.stA xfa_51
  refine xr_aload_n (pc := 66) (i := 0) (hI := d_Findings_putInOrder_66) (hi := rfl) (hl := rfl) ?_
  refine xr_dup (pc := 67) (hI := d_Findings_putInOrder_67) (hv := rfl) ?_
  refine xg_getf (pc := 68) (ci := 1) (k := 5) (N := 6) (v9 := 0) (v := (xpl h 40 5)) (T := xF1) (hI := d_Findings_putInOrder_68) (hw := w_412) rfl xi1 (Or.inl rfl) (Nat.le_of_ble_eq_true rfl) (Nat.le_of_ble_eq_true rfl) rfl (ft_40 F4_) (xpl_oa (by decide)) (fun f5_ => ?_)
  replace f5_ : -2147483648 ≤ (xpl h 40 5) ∧ (xpl h 40 5) ≤ 2147483647 := f5_
  refine xr_iconst (pc := 71) (hI := d_Findings_putInOrder_71) (hr := by decide) ?_
  obtain ⟨c9, hyp⟩ := hyp
  refine xr_iadd (pc := 72) (hI := d_Findings_putInOrder_72) (hr := c9) ?_
  refine xr_putf (pc := 73) (ci := 1) (k := 5) (N := 6) (v9 := 0) (T := xF1) (tF := xT1) (hI := d_Findings_putInOrder_73) (hw := w_412) rfl xi1 xt1 xn1 (Or.inl rfl) (Nat.le_of_ble_eq_true rfl) (Nat.le_of_ble_eq_true rfl) rfl xfit_i rfl (ft_40 F4_) (by decide) (fun z => z) ?_
  have F6_ : xFix (xst (xst h 51 x3 x1) 40 5 ((xpl h 40 5) + 1)) := F4_.stL xfk_40_5
  refine xr_return (S := []) (pc := 76) (hI := d_Findings_putInOrder_76) (hr := rfl) ?_
  exact hyp F6_
abbrev m_Findings_refresh : XM := (⟨"BeaconIndex$Findings", "refresh", "(Ljava/util/ArrayList;Ljava/util/ArrayList;)V"⟩, prog_2_method_6_code, 5, none, [])
theorem d_Findings_refresh_0 : decode prog_2_method_6_code 0 = .ok (.aload_n 0, 1) := by decide +kernel
theorem d_Findings_refresh_1 : decode prog_2_method_6_code 1 = .ok (.iconst 0, 1) := by decide +kernel
theorem d_Findings_refresh_2 : decode prog_2_method_6_code 2 = .ok (.putfield 32, 3) := by decide +kernel
theorem d_Findings_refresh_5 : decode prog_2_method_6_code 5 = .ok (.aload_n 1, 1) := by decide +kernel
theorem d_Findings_refresh_6 : decode prog_2_method_6_code 6 = .ok (.invokevirtual 49, 3) := by decide +kernel
theorem w_598 : Cond.methodLink "BeaconIndex$Findings" 49 ⟨"java/util/ArrayList", "isEmpty", "()Z"⟩ ∈ lw_tbl := List.mem_append_right _ (List.mem_of_getElem? (i := 598) (by decide +kernel))
theorem d_Findings_refresh_9 : decode prog_2_method_6_code 9 = .ok (.ifCond .eq 4, 3) := by decide +kernel
theorem d_Findings_refresh_13 : decode prog_2_method_6_code 13 = .ok (.aload_n 0, 1) := by decide +kernel
theorem d_Findings_refresh_14 : decode prog_2_method_6_code 14 = .ok (.getfield 12, 3) := by decide +kernel
theorem d_Findings_refresh_17 : decode prog_2_method_6_code 17 = .ok (.aload_n 1, 1) := by decide +kernel
theorem d_Findings_refresh_18 : decode prog_2_method_6_code 18 = .ok (.aload_n 2, 1) := by decide +kernel
theorem d_Findings_refresh_19 : decode prog_2_method_6_code 19 = .ok (.invokevirtual 55, 3) := by decide +kernel
theorem k_Fits_fill : xCal m_Fits_fill 2 := ⟨List.mem_append_right _ (List.mem_of_getElem? (i := 602) (by decide +kernel)), w_13, Nat.le_of_ble_eq_true rfl, ⟨by decide +kernel, by decide +kernel⟩, by decide +kernel, by decide +kernel, rfl⟩
theorem w_599 : Cond.methodLink "BeaconIndex$Findings" 55 ⟨"BeaconIndex$Fits", "fill", "(Ljava/util/ArrayList;Ljava/util/ArrayList;)V"⟩ ∈ lw_tbl := List.mem_append_right _ (List.mem_of_getElem? (i := 599) (by decide +kernel))
theorem w_600 : Cond.instanceMethod ⟨"BeaconIndex$Fits", "fill", "(Ljava/util/ArrayList;Ljava/util/ArrayList;)V"⟩ ∈ lw_tbl := List.mem_append_right _ (List.mem_of_getElem? (i := 600) (by decide +kernel))
theorem w_601 : Cond.selects "BeaconIndex$Fits" ⟨"BeaconIndex$Fits", "fill", "(Ljava/util/ArrayList;Ljava/util/ArrayList;)V"⟩ ⟨"BeaconIndex$Fits", "fill", "(Ljava/util/ArrayList;Ljava/util/ArrayList;)V"⟩ ∈ lw_tbl := List.mem_append_right _ (List.mem_of_getElem? (i := 601) (by decide +kernel))
theorem d_Findings_refresh_12 : decode prog_2_method_6_code 12 = .ok (.return_, 1) := by decide +kernel
theorem v_Findings_refresh_0 {G : XG} {d : Nat} {h : XH} {Q : XV → XH → Prop} {X : Nat → XH → Prop} {x1 x2 : Int} (F : xFix h) (hyp : xtg h x1 = 13 ∧ alok (xst h 40 5 0) x1 ∧ ((((decide (als (xst h 40 5 0) x1 = 0)) = true) → (xFix (xst h 40 5 0) → Q xN (xst h 40 5 0))) ∧ (¬ ((decide (als (xst h 40 5 0) x1 = 0)) = true) → (xFix (xst h 40 5 0) → xwp G m_Fits_fill (d + 6) 0 [xR 41, xR x1, xR x2, xZ, xZ, xZ, xZ] [] (xst h 40 5 0) (fun v9 h9 => xwp G m_Findings_refresh (d + 7) 22 [xR 40, xR x1, xR x2, xZ, xZ] (xpush v9 []) h9 Q X) X)))) : xwp G m_Findings_refresh (d + 7) 0 [xR 40, xR x1, xR x2, xZ, xZ] [] h Q X := by
  have hnx9 : (93 : Int) ≤ xnx h := F.2.2
  refine xr_aload_n (pc := 0) (i := 0) (hI := d_Findings_refresh_0) (hi := rfl) (hl := rfl) ?_
  refine xr_iconst (pc := 1) (hI := d_Findings_refresh_1) (hr := by decide) ?_
  refine xr_putf (pc := 2) (ci := 1) (k := 5) (N := 6) (v9 := 0) (T := xF1) (tF := xT1) (hI := d_Findings_refresh_2) (hw := w_412) rfl xi1 xt1 xn1 (Or.inl rfl) (Nat.le_of_ble_eq_true rfl) (Nat.le_of_ble_eq_true rfl) rfl xfit_i rfl (ft_40 F) (by decide) (fun z => z) ?_
  have F1_ : xFix (xst h 40 5 0) := F.stL xfk_40_5
  refine xr_aload_n (pc := 5) (i := 1) (hI := d_Findings_refresh_5) (hi := rfl) (hl := rfl) ?_
  obtain ⟨c9, hyp⟩ := hyp
  have t2_ := c9
  clear c9
  obtain ⟨c3_, hyp⟩ := hyp
  refine xq_callV (pc := 6) (index := 49) (K := m_ArrayList_isEmpty) (As := []) (S := []) (L0 := [xR x1]) (hI := d_Findings_refresh_6) (hK := k_ArrayList_isEmpty) (hlk := w_598) (hnoM := rfl) (hS8 := Nat.le_of_ble_eq_true rfl) (ci := 13) (N := 3) (C := "java/util/ArrayList") (T := xF13) (hc := rfl) (hci := Nat.le_of_ble_eq_true rfl) (htb := t2_) (hinst := w_461) (hsel := w_462) (hlen := Nat.le_of_ble_eq_true rfl) (hst := rfl) (hL0 := rfl)  (p_AL_isEmpty F1_ c3_ ?_)
  show xwp G m_Findings_refresh (d + 7) 9 [xR 40, xR x1, xR x2, xZ, xZ] [xI (b2i (decide (als (xst h 40 5 0) x1 = 0)))] _ _ _
  refine xr_if_eq (pc := 9) (tgt := 13) (hI := d_Findings_refresh_9) (ht := by decide) (fun q9 => ?_) (fun q9 => ?_)
  · replace hyp := hyp.2 (b2i_0.mp q9)
    have q4_ := b2i_0.mp q9
    clear q9
    refine xr_aload_n (pc := 13) (i := 0) (hI := d_Findings_refresh_13) (hi := rfl) (hl := rfl) ?_
    refine xg_getf (pc := 14) (ci := 1) (k := 0) (N := 6) (v9 := 2) (v := 41) (T := xF1) (hI := d_Findings_refresh_14) (hw := w_406) rfl xi1 (Or.inl rfl) (Nat.le_of_ble_eq_true rfl) (Nat.le_of_ble_eq_true rfl) rfl (ft_40 F1_) (fp_40_0 F1_) (fun f5_ => ?_)
    clear f5_
    refine xr_aload_n (pc := 17) (i := 1) (hI := d_Findings_refresh_17) (hi := rfl) (hl := rfl) ?_
    refine xr_aload_n (pc := 18) (i := 2) (hI := d_Findings_refresh_18) (hi := rfl) (hl := rfl) ?_
    exact xq_callV (pc := 19) (index := 55) (K := m_Fits_fill) (As := [xR x1, xR x2]) (S := []) (L0 := [xR 41, xR x1, xR x2, xZ, xZ, xZ, xZ]) (hI := d_Findings_refresh_19) (hK := k_Fits_fill) (hlk := w_599) (hnoM := rfl) (hS8 := Nat.le_of_ble_eq_true rfl) (ci := 2) (N := 4) (C := "BeaconIndex$Fits") (T := xF2) (hc := rfl) (hci := Nat.le_of_ble_eq_true rfl) (htb := (ft_41 F1_)) (hinst := w_600) (hsel := w_601) (hlen := Nat.le_of_ble_eq_true rfl) (hst := rfl) (hL0 := rfl)  (hyp F1_)
  · replace hyp := hyp.1 (b2i_1.mp q9)
    have q4_ := b2i_1.mp q9
    clear q9
    refine xr_return (S := []) (pc := 12) (hI := d_Findings_refresh_12) (hr := rfl) ?_
    exact hyp F1_
theorem d_Findings_refresh_22 : decode prog_2_method_6_code 22 = .ok (.iconst 0, 1) := by decide +kernel
theorem d_Findings_refresh_23 : decode prog_2_method_6_code 23 = .ok (.istore_n 3, 1) := by decide +kernel
theorem v_Findings_refresh_22 {G : XG} {d : Nat} {h : XH} {Q : XV → XH → Prop} {X : Nat → XH → Prop} {x1 x2 : Int} (F : xFix h) (hyp : (xwp G m_Findings_refresh (d + 7) 24 [xR 40, xR x1, xR x2, xI 0, xZ] [] h Q X)) : xwp G m_Findings_refresh (d + 7) 22 [xR 40, xR x1, xR x2, xZ, xZ] [] h Q X := by
  have hnx9 : (93 : Int) ≤ xnx h := F.2.2
  refine xr_iconst (pc := 22) (hI := d_Findings_refresh_22) (hr := by decide) ?_
  refine xr_istore_n (pc := 23) (i := 3) (L9 := [xR 40, xR x1, xR x2, xI 0, xZ]) (hI := d_Findings_refresh_23) (hi := rfl) (hn := Nat.le_of_ble_eq_true rfl) (hL9 := rfl) ?_
  exact hyp
theorem d_Findings_refresh_24 : decode prog_2_method_6_code 24 = .ok (.iload_n 3, 1) := by decide +kernel
theorem d_Findings_refresh_25 : decode prog_2_method_6_code 25 = .ok (.aload_n 2, 1) := by decide +kernel
theorem d_Findings_refresh_26 : decode prog_2_method_6_code 26 = .ok (.invokevirtual 59, 3) := by decide +kernel
theorem d_Findings_refresh_29 : decode prog_2_method_6_code 29 = .ok (.if_icmp .ge 108, 3) := by decide +kernel
theorem d_Findings_refresh_137 : decode prog_2_method_6_code 137 = .ok (.return_, 1) := by decide +kernel
theorem d_Findings_refresh_32 : decode prog_2_method_6_code 32 = .ok (.iload_n 3, 1) := by decide +kernel
theorem d_Findings_refresh_33 : decode prog_2_method_6_code 33 = .ok (.bipush 60, 2) := by decide +kernel
theorem d_Findings_refresh_35 : decode prog_2_method_6_code 35 = .ok (.if_icmp .ge 102, 3) := by decide +kernel
theorem d_Findings_refresh_38 : decode prog_2_method_6_code 38 = .ok (.aload_n 2, 1) := by decide +kernel
theorem d_Findings_refresh_39 : decode prog_2_method_6_code 39 = .ok (.iload_n 3, 1) := by decide +kernel
theorem d_Findings_refresh_40 : decode prog_2_method_6_code 40 = .ok (.invokevirtual 63, 3) := by decide +kernel
theorem d_Findings_refresh_43 : decode prog_2_method_6_code 43 = .ok (.checkcast 67, 3) := by decide +kernel
theorem d_Findings_refresh_46 : decode prog_2_method_6_code 46 = .ok (.getfield 69, 3) := by decide +kernel
theorem w_133 : Cond.fieldLink "BeaconIndex$Findings" 69 "BeaconIndex$Text" "marked" "Z" ∈ lw_tbl := List.mem_append_right _ (List.mem_of_getElem? (i := 133) (by decide +kernel))
theorem d_Findings_refresh_49 : decode prog_2_method_6_code 49 = .ok (.ifCond .ne 82, 3) := by decide +kernel
theorem d_Findings_refresh_52 : decode prog_2_method_6_code 52 = .ok (.aload_n 1, 1) := by decide +kernel
theorem d_Findings_refresh_53 : decode prog_2_method_6_code 53 = .ok (.invokevirtual 59, 3) := by decide +kernel
theorem d_Findings_refresh_56 : decode prog_2_method_6_code 56 = .ok (.iconst 1, 1) := by decide +kernel
theorem d_Findings_refresh_57 : decode prog_2_method_6_code 57 = .ok (.isub, 1) := by decide +kernel
theorem d_Findings_refresh_58 : decode prog_2_method_6_code 58 = .ok (.istore 4, 2) := by decide +kernel
theorem v_Findings_refresh_24 {G : XG} {d : Nat} {h : XH} {Q : XV → XH → Prop} {X : Nat → XH → Prop} {x1 x2 x3 : Int} (F : xFix h) (hyp : xtg h x2 = 13 ∧ alok h x2 ∧ (((als h x2) ≤ x3 → (Q xN h)) ∧ (¬ (als h x2) ≤ x3 → (((60 : Int) ≤ x3 → (Q xN h)) ∧ (¬ (60 : Int) ≤ x3 → 0 ≤ x3 ∧ xtg h (alg h x2 x3) = 9 ∧ (((xpl h (alg h x2 x3) 5) = 0 → xtg h x1 = 13 ∧ alok h x1 ∧ (xwp G m_Findings_refresh (d + 7) 60 [xR 40, xR x1, xR x2, xI x3, xI ((als h x1) - 1)] [] h Q X)) ∧ (¬ (xpl h (alg h x2 x3) 5) = 0 → (xwp G m_Findings_refresh (d + 7) 131 [xR 40, xR x1, xR x2, xI x3, xZ] [] h Q X)))))))) : xwp G m_Findings_refresh (d + 7) 24 [xR 40, xR x1, xR x2, xI x3, xZ] [] h Q X := by
  have hnx9 : (93 : Int) ≤ xnx h := F.2.2
  refine xr_okL (fun hl9 => ?_)
  have r_x3 : -2147483648 ≤ x3 ∧ x3 ≤ 2147483647 := hl9 (xI x3) (.tail _ (.tail _ (.tail _ (.head _)))) (Nat.le_of_ble_eq_true rfl)
  refine xr_iload_n (pc := 24) (i := 3) (hI := d_Findings_refresh_24) (hi := rfl) (hl := rfl) ?_
  refine xr_aload_n (pc := 25) (i := 2) (hI := d_Findings_refresh_25) (hi := rfl) (hl := rfl) ?_
  obtain ⟨c9, hyp⟩ := hyp
  have t1_ := c9
  clear c9
  obtain ⟨c2_, hyp⟩ := hyp
  refine xq_callV (pc := 26) (index := 59) (K := m_ArrayList_size) (As := []) (S := [xI x3]) (L0 := [xR x2]) (hI := d_Findings_refresh_26) (hK := k_ArrayList_size) (hlk := w_697) (hnoM := rfl) (hS8 := Nat.le_of_ble_eq_true rfl) (ci := 13) (N := 3) (C := "java/util/ArrayList") (T := xF13) (hc := rfl) (hci := Nat.le_of_ble_eq_true rfl) (htb := t1_) (hinst := w_465) (hsel := w_466) (hlen := Nat.le_of_ble_eq_true rfl) (hst := rfl) (hL0 := rfl)  (p_AL_size F c2_ ?_)
  show xwp G m_Findings_refresh (d + 7) 29 [xR 40, xR x1, xR x2, xI x3, xZ] [xI (als h x2), xI x3] _ _ _
  have f3_ : 0 ≤ (als h x2) ∧ (als h x2) ≤ 1000000 := ⟨c2_.2.2.1, c2_.2.2.2.2⟩
  refine xr_icmp_ge (pc := 29) (tgt := 137) (hI := d_Findings_refresh_29) (ht := by decide) (fun q9 => ?_) (fun q9 => ?_)
  · replace hyp := hyp.1 q9
    have q4_ := q9
    clear q9
    refine xr_return (S := []) (pc := 137) (hI := d_Findings_refresh_137) (hr := rfl) ?_
    exact hyp
  · replace hyp := hyp.2 q9
    have q4_ := q9
    clear q9
    refine xr_iload_n (pc := 32) (i := 3) (hI := d_Findings_refresh_32) (hi := rfl) (hl := rfl) ?_
    refine xr_bipush (pc := 33) (hI := d_Findings_refresh_33) (hr := by decide) (hv := by decide) ?_
    refine xr_icmp_ge (pc := 35) (tgt := 137) (hI := d_Findings_refresh_35) (ht := by decide) (fun q9 => ?_) (fun q9 => ?_)
    · replace hyp := hyp.1 q9
      have q5_ := q9
      clear q9
      refine xr_return (S := []) (pc := 137) (hI := d_Findings_refresh_137) (hr := rfl) ?_
      exact hyp
    · replace hyp := hyp.2 q9
      have q5_ := q9
      clear q9
      refine xr_aload_n (pc := 38) (i := 2) (hI := d_Findings_refresh_38) (hi := rfl) (hl := rfl) ?_
      refine xr_iload_n (pc := 39) (i := 3) (hI := d_Findings_refresh_39) (hi := rfl) (hl := rfl) ?_
      obtain ⟨c6_, hyp⟩ := hyp
      refine xq_callV (pc := 40) (index := 63) (K := m_ArrayList_get) (As := [xI x3]) (S := []) (L0 := [xR x2, xI x3]) (hI := d_Findings_refresh_40) (hK := k_ArrayList_get) (hlk := w_698) (hnoM := rfl) (hS8 := Nat.le_of_ble_eq_true rfl) (ci := 13) (N := 3) (C := "java/util/ArrayList") (T := xF13) (hc := rfl) (hci := Nat.le_of_ble_eq_true rfl) (htb := t1_) (hinst := w_469) (hsel := w_470) (hlen := Nat.le_of_ble_eq_true rfl) (hst := rfl) (hL0 := rfl)  (p_AL_get F c2_ c6_ (by clear hyp; omega) ?_)
      show xwp G m_Findings_refresh (d + 7) 43 [xR 40, xR x1, xR x2, xI x3, xZ] [xR (alg h x2 x3)] _ _ _
      obtain ⟨c9, hyp⟩ := hyp
      have t7_ := c9
      clear c9
      refine xr_cast (pc := 43) (ci := 9) (T := xF9) (N := 6) (hI := d_Findings_refresh_43) w_699 rfl (Nat.le_of_ble_eq_true rfl) t7_ ?_
      refine xg_getfZ (pc := 46) (ci := 9) (k := 5) (N := 6) (v := (xpl h (alg h x2 x3) 5)) (T := xF9) (hI := d_Findings_refresh_46) (hw := w_133) rfl xi9 (Or.inl rfl) (Nat.le_of_ble_eq_true rfl) (Nat.le_of_ble_eq_true rfl) rfl t7_ rfl (fun f8_ => ?_)
      refine xr_if_ne (pc := 49) (tgt := 131) (hI := d_Findings_refresh_49) (ht := by decide) (fun q9 => ?_) (fun q9 => ?_)
      · replace hyp := hyp.2 q9
        have q9_ := q9
        clear q9
        exact hyp
      · replace hyp := hyp.1 q9
        have q9_ := q9
        clear q9
        refine xr_aload_n (pc := 52) (i := 1) (hI := d_Findings_refresh_52) (hi := rfl) (hl := rfl) ?_
        obtain ⟨c9, hyp⟩ := hyp
        have t10_ := c9
        clear c9
        obtain ⟨c11_, hyp⟩ := hyp
        refine xq_callV (pc := 53) (index := 59) (K := m_ArrayList_size) (As := []) (S := []) (L0 := [xR x1]) (hI := d_Findings_refresh_53) (hK := k_ArrayList_size) (hlk := w_697) (hnoM := rfl) (hS8 := Nat.le_of_ble_eq_true rfl) (ci := 13) (N := 3) (C := "java/util/ArrayList") (T := xF13) (hc := rfl) (hci := Nat.le_of_ble_eq_true rfl) (htb := t10_) (hinst := w_465) (hsel := w_466) (hlen := Nat.le_of_ble_eq_true rfl) (hst := rfl) (hL0 := rfl)  (p_AL_size F c11_ ?_)
        show xwp G m_Findings_refresh (d + 7) 56 [xR 40, xR x1, xR x2, xI x3, xZ] [xI (als h x1)] _ _ _
        have f12_ : 0 ≤ (als h x1) ∧ (als h x1) ≤ 1000000 := ⟨c11_.2.2.1, c11_.2.2.2.2⟩
        refine xr_iconst (pc := 56) (hI := d_Findings_refresh_56) (hr := by decide) ?_
        refine xr_isub (pc := 57) (hI := d_Findings_refresh_57) (hr := ⟨by clear hyp; omega, by clear hyp; omega⟩) ?_
        refine xr_istore (pc := 58) (i := 4) (L9 := [xR 40, xR x1, xR x2, xI x3, xI ((als h x1) - 1)]) (hI := d_Findings_refresh_58) (hn := Nat.le_of_ble_eq_true rfl) (hL9 := rfl) ?_
        exact hyp
theorem d_Findings_refresh_60 : decode prog_2_method_6_code 60 = .ok (.iload 4, 2) := by decide +kernel
theorem d_Findings_refresh_62 : decode prog_2_method_6_code 62 = .ok (.ifCond .lt 32, 3) := by decide +kernel
theorem d_Findings_refresh_94 : decode prog_2_method_6_code 94 = .ok (.aload_n 0, 1) := by decide +kernel
theorem d_Findings_refresh_95 : decode prog_2_method_6_code 95 = .ok (.getfield 26, 3) := by decide +kernel
theorem d_Findings_refresh_98 : decode prog_2_method_6_code 98 = .ok (.iload_n 3, 1) := by decide +kernel
theorem d_Findings_refresh_99 : decode prog_2_method_6_code 99 = .ok (.aload_n 1, 1) := by decide +kernel
theorem d_Findings_refresh_100 : decode prog_2_method_6_code 100 = .ok (.iconst 0, 1) := by decide +kernel
theorem d_Findings_refresh_101 : decode prog_2_method_6_code 101 = .ok (.invokevirtual 63, 3) := by decide +kernel
theorem d_Findings_refresh_104 : decode prog_2_method_6_code 104 = .ok (.checkcast 73, 3) := by decide +kernel
theorem d_Findings_refresh_107 : decode prog_2_method_6_code 107 = .ok (.invokevirtual 79, 3) := by decide +kernel
theorem d_Findings_refresh_65 : decode prog_2_method_6_code 65 = .ok (.aload_n 0, 1) := by decide +kernel
theorem d_Findings_refresh_66 : decode prog_2_method_6_code 66 = .ok (.aload_n 1, 1) := by decide +kernel
theorem d_Findings_refresh_67 : decode prog_2_method_6_code 67 = .ok (.iload 4, 2) := by decide +kernel
theorem d_Findings_refresh_69 : decode prog_2_method_6_code 69 = .ok (.invokevirtual 63, 3) := by decide +kernel
theorem d_Findings_refresh_72 : decode prog_2_method_6_code 72 = .ok (.checkcast 73, 3) := by decide +kernel
theorem d_Findings_refresh_75 : decode prog_2_method_6_code 75 = .ok (.aload_n 1, 1) := by decide +kernel
theorem d_Findings_refresh_76 : decode prog_2_method_6_code 76 = .ok (.iload_n 3, 1) := by decide +kernel
theorem d_Findings_refresh_77 : decode prog_2_method_6_code 77 = .ok (.aload_n 2, 1) := by decide +kernel
theorem d_Findings_refresh_78 : decode prog_2_method_6_code 78 = .ok (.iload_n 3, 1) := by decide +kernel
theorem d_Findings_refresh_79 : decode prog_2_method_6_code 79 = .ok (.invokevirtual 63, 3) := by decide +kernel
theorem d_Findings_refresh_82 : decode prog_2_method_6_code 82 = .ok (.checkcast 67, 3) := by decide +kernel
theorem d_Findings_refresh_85 : decode prog_2_method_6_code 85 = .ok (.invokevirtual 75, 3) := by decide +kernel
theorem k_Findings_judge : xCal m_Findings_judge 4 := ⟨List.mem_append_right _ (List.mem_of_getElem? (i := 704) (by decide +kernel)), w_12, Nat.le_of_ble_eq_true rfl, ⟨by decide +kernel, by decide +kernel⟩, by decide +kernel, by decide +kernel, rfl⟩
theorem w_701 : Cond.methodLink "BeaconIndex$Findings" 75 ⟨"BeaconIndex$Findings", "judge", "(LBeaconIndex$Question;Ljava/util/ArrayList;ILBeaconIndex$Text;)V"⟩ ∈ lw_tbl := List.mem_append_right _ (List.mem_of_getElem? (i := 701) (by decide +kernel))
theorem w_703 : Cond.instanceMethod ⟨"BeaconIndex$Findings", "judge", "(LBeaconIndex$Question;Ljava/util/ArrayList;ILBeaconIndex$Text;)V"⟩ ∈ lw_tbl := List.mem_append_right _ (List.mem_of_getElem? (i := 703) (by decide +kernel))
theorem sel_Findings_judge : Cond.selects "BeaconIndex$Findings" ⟨"BeaconIndex$Findings", "judge", "(LBeaconIndex$Question;Ljava/util/ArrayList;ILBeaconIndex$Text;)V"⟩ ⟨"BeaconIndex$Findings", "judge", "(LBeaconIndex$Question;Ljava/util/ArrayList;ILBeaconIndex$Text;)V"⟩ ∈ lw_tbl := List.mem_append_left _ (by decide +kernel)
theorem v_Findings_refresh_60 {G : XG} {d : Nat} {h : XH} {Q : XV → XH → Prop} {X : Nat → XH → Prop} {x1 x2 x3 x4 : Int} (F : xFix h) (hyp : ((x4 < 0 → xtg h x1 = 13 ∧ alok h x1 ∧ (0 : Int) < als h x1 ∧ xtg h (alg h x1 0) = 5 ∧ (xwp G m_Question_weightIfFinds (d + 6) 0 [xR (alg h x1 0)] [] h (fun v9 h9 => xwp G m_Findings_refresh (d + 7) 110 [xR 40, xR x1, xR x2, xI x3, xZ] (xpush v9 [xI x3, xR 50]) h9 Q X) X)) ∧ (¬ x4 < 0 → xtg h x1 = 13 ∧ alok h x1 ∧ x4 < als h x1 ∧ xtg h (alg h x1 x4) = 5 ∧ xtg h x2 = 13 ∧ alok h x2 ∧ 0 ≤ x3 ∧ x3 < als h x2 ∧ xtg h (alg h x2 x3) = 9 ∧ (xwp G m_Findings_judge (d + 6) 0 [xR 40, xR (alg h x1 x4), xR x1, xI x3, xR (alg h x2 x3), xZ, xZ, xZ, xZ] [] h (fun v9 h9 => xwp G m_Findings_refresh (d + 7) 88 [xR 40, xR x1, xR x2, xI x3, xI x4] (xpush v9 []) h9 Q X) X)))) : xwp G m_Findings_refresh (d + 7) 60 [xR 40, xR x1, xR x2, xI x3, xI x4] [] h Q X := by
  have hnx9 : (93 : Int) ≤ xnx h := F.2.2
  refine xr_okL (fun hl9 => ?_)
  have r_x3 : -2147483648 ≤ x3 ∧ x3 ≤ 2147483647 := hl9 (xI x3) (.tail _ (.tail _ (.tail _ (.head _)))) (Nat.le_of_ble_eq_true rfl)
  have r_x4 : -2147483648 ≤ x4 ∧ x4 ≤ 2147483647 := hl9 (xI x4) (.tail _ (.tail _ (.tail _ (.tail _ (.head _))))) (Nat.le_of_ble_eq_true rfl)
  refine xr_iload (pc := 60) (i := 4) (hI := d_Findings_refresh_60) (hl := rfl) ?_
  refine xr_if_lt (pc := 62) (tgt := 94) (hI := d_Findings_refresh_62) (ht := by decide) (fun q9 => ?_) (fun q9 => ?_)
  · replace hyp := hyp.1 q9
    have q1_ := q9
    clear q9
    refine xr_aload_n (pc := 94) (i := 0) (hI := d_Findings_refresh_94) (hi := rfl) (hl := rfl) ?_
    refine xg_getf (pc := 95) (ci := 1) (k := 3) (N := 6) (v9 := 2) (v := 50) (T := xF1) (hI := d_Findings_refresh_95) (hw := w_410) rfl xi1 (Or.inl rfl) (Nat.le_of_ble_eq_true rfl) (Nat.le_of_ble_eq_true rfl) rfl (ft_40 F) (fp_40_3 F) (fun f2_ => ?_)
    clear f2_
    refine xr_iload_n (pc := 98) (i := 3) (hI := d_Findings_refresh_98) (hi := rfl) (hl := rfl) ?_
    refine xr_aload_n (pc := 99) (i := 1) (hI := d_Findings_refresh_99) (hi := rfl) (hl := rfl) ?_
    refine xr_iconst (pc := 100) (hI := d_Findings_refresh_100) (hr := by decide) ?_
    obtain ⟨c9, hyp⟩ := hyp
    have t3_ := c9
    clear c9
    obtain ⟨c4_, hyp⟩ := hyp
    obtain ⟨c5_, hyp⟩ := hyp
    refine xq_callV (pc := 101) (index := 63) (K := m_ArrayList_get) (As := [xI 0]) (S := [xI x3, xR 50]) (L0 := [xR x1, xI 0]) (hI := d_Findings_refresh_101) (hK := k_ArrayList_get) (hlk := w_698) (hnoM := rfl) (hS8 := Nat.le_of_ble_eq_true rfl) (ci := 13) (N := 3) (C := "java/util/ArrayList") (T := xF13) (hc := rfl) (hci := Nat.le_of_ble_eq_true rfl) (htb := t3_) (hinst := w_469) (hsel := w_470) (hlen := Nat.le_of_ble_eq_true rfl) (hst := rfl) (hL0 := rfl)  (p_AL_get F c4_ (by decide) c5_ ?_)
    show xwp G m_Findings_refresh (d + 7) 104 [xR 40, xR x1, xR x2, xI x3, xI x4] [xR (alg h x1 0), xI x3, xR 50] _ _ _
    obtain ⟨c9, hyp⟩ := hyp
    have t6_ := c9
    clear c9
    refine xr_cast (pc := 104) (ci := 5) (T := xF5) (N := 5) (hI := d_Findings_refresh_104) w_700 rfl (Nat.le_of_ble_eq_true rfl) t6_ ?_
    exact xq_callV (pc := 107) (index := 79) (K := m_Question_weightIfFinds) (As := []) (S := [xI x3, xR 50]) (L0 := [xR (alg h x1 0)]) (hI := d_Findings_refresh_107) (hK := k_Question_weightIfFinds) (hlk := w_730) (hnoM := rfl) (hS8 := Nat.le_of_ble_eq_true rfl) (ci := 5) (N := 5) (C := "BeaconIndex$Question") (T := xF5) (hc := rfl) (hci := Nat.le_of_ble_eq_true rfl) (htb := t6_) (hinst := w_731) (hsel := w_732) (hlen := Nat.le_of_ble_eq_true rfl) (hst := rfl) (hL0 := rfl)  (xwp_mono hyp (fun v9 h9 q9 => xr_drop (L9 := [xR 40, xR x1, xR x2, xI x3, xZ]) (xdrs (xdrs (xdrs (xdrs (xdrz xdr0))))) q9) (fun _ _ z9 => z9))
  · replace hyp := hyp.2 q9
    have q1_ := q9
    clear q9
    refine xr_aload_n (pc := 65) (i := 0) (hI := d_Findings_refresh_65) (hi := rfl) (hl := rfl) ?_
    refine xr_aload_n (pc := 66) (i := 1) (hI := d_Findings_refresh_66) (hi := rfl) (hl := rfl) ?_
    refine xr_iload (pc := 67) (i := 4) (hI := d_Findings_refresh_67) (hl := rfl) ?_
    obtain ⟨c9, hyp⟩ := hyp
    have t7_ := c9
    clear c9
    obtain ⟨c8_, hyp⟩ := hyp
    obtain ⟨c9_, hyp⟩ := hyp
    refine xq_callV (pc := 69) (index := 63) (K := m_ArrayList_get) (As := [xI x4]) (S := [xR 40]) (L0 := [xR x1, xI x4]) (hI := d_Findings_refresh_69) (hK := k_ArrayList_get) (hlk := w_698) (hnoM := rfl) (hS8 := Nat.le_of_ble_eq_true rfl) (ci := 13) (N := 3) (C := "java/util/ArrayList") (T := xF13) (hc := rfl) (hci := Nat.le_of_ble_eq_true rfl) (htb := t7_) (hinst := w_469) (hsel := w_470) (hlen := Nat.le_of_ble_eq_true rfl) (hst := rfl) (hL0 := rfl)  (p_AL_get F c8_ (by clear hyp; omega) c9_ ?_)
    show xwp G m_Findings_refresh (d + 7) 72 [xR 40, xR x1, xR x2, xI x3, xI x4] [xR (alg h x1 x4), xR 40] _ _ _
    obtain ⟨c9, hyp⟩ := hyp
    have t10_ := c9
    clear c9
    refine xr_cast (pc := 72) (ci := 5) (T := xF5) (N := 5) (hI := d_Findings_refresh_72) w_700 rfl (Nat.le_of_ble_eq_true rfl) t10_ ?_
    refine xr_aload_n (pc := 75) (i := 1) (hI := d_Findings_refresh_75) (hi := rfl) (hl := rfl) ?_
    refine xr_iload_n (pc := 76) (i := 3) (hI := d_Findings_refresh_76) (hi := rfl) (hl := rfl) ?_
    refine xr_aload_n (pc := 77) (i := 2) (hI := d_Findings_refresh_77) (hi := rfl) (hl := rfl) ?_
    refine xr_iload_n (pc := 78) (i := 3) (hI := d_Findings_refresh_78) (hi := rfl) (hl := rfl) ?_
    obtain ⟨c9, hyp⟩ := hyp
    have t11_ := c9
    clear c9
    obtain ⟨c12_, hyp⟩ := hyp
    obtain ⟨c13_, hyp⟩ := hyp
    obtain ⟨c14_, hyp⟩ := hyp
    refine xq_callV (pc := 79) (index := 63) (K := m_ArrayList_get) (As := [xI x3]) (S := [xI x3, xR x1, xR (alg h x1 x4), xR 40]) (L0 := [xR x2, xI x3]) (hI := d_Findings_refresh_79) (hK := k_ArrayList_get) (hlk := w_698) (hnoM := rfl) (hS8 := Nat.le_of_ble_eq_true rfl) (ci := 13) (N := 3) (C := "java/util/ArrayList") (T := xF13) (hc := rfl) (hci := Nat.le_of_ble_eq_true rfl) (htb := t11_) (hinst := w_469) (hsel := w_470) (hlen := Nat.le_of_ble_eq_true rfl) (hst := rfl) (hL0 := rfl)  (p_AL_get F c12_ c13_ c14_ ?_)
    show xwp G m_Findings_refresh (d + 7) 82 [xR 40, xR x1, xR x2, xI x3, xI x4] [xR (alg h x2 x3), xI x3, xR x1, xR (alg h x1 x4), xR 40] _ _ _
    obtain ⟨c9, hyp⟩ := hyp
    have t15_ := c9
    clear c9
    refine xr_cast (pc := 82) (ci := 9) (T := xF9) (N := 6) (hI := d_Findings_refresh_82) w_699 rfl (Nat.le_of_ble_eq_true rfl) t15_ ?_
    exact xq_callV (pc := 85) (index := 75) (K := m_Findings_judge) (As := [xR (alg h x1 x4), xR x1, xI x3, xR (alg h x2 x3)]) (S := []) (L0 := [xR 40, xR (alg h x1 x4), xR x1, xI x3, xR (alg h x2 x3), xZ, xZ, xZ, xZ]) (hI := d_Findings_refresh_85) (hK := k_Findings_judge) (hlk := w_701) (hnoM := rfl) (hS8 := Nat.le_of_ble_eq_true rfl) (ci := 1) (N := 6) (C := "BeaconIndex$Findings") (T := xF1) (hc := rfl) (hci := Nat.le_of_ble_eq_true rfl) (htb := (ft_40 F)) (hinst := w_703) (hsel := sel_Findings_judge) (hlen := Nat.le_of_ble_eq_true rfl) (hst := rfl) (hL0 := rfl)  hyp
theorem d_Findings_refresh_88 : decode prog_2_method_6_code 88 = .ok (.iinc 4 (-1), 3) := by decide +kernel
theorem d_Findings_refresh_91 : decode prog_2_method_6_code 91 = .ok (.goto (-31), 3) := by decide +kernel
theorem v_Findings_refresh_88 {G : XG} {d : Nat} {h : XH} {Q : XV → XH → Prop} {X : Nat → XH → Prop} {x1 x2 x3 x4 : Int} (F : xFix h) (hyp : xiR (x4 + (-1)) ∧ (xwp G m_Findings_refresh (d + 7) 60 [xR 40, xR x1, xR x2, xI x3, xI (x4 + (-1))] [] h Q X)) : xwp G m_Findings_refresh (d + 7) 88 [xR 40, xR x1, xR x2, xI x3, xI x4] [] h Q X := by
  have hnx9 : (93 : Int) ≤ xnx h := F.2.2
  refine xr_okL (fun hl9 => ?_)
  have r_x3 : -2147483648 ≤ x3 ∧ x3 ≤ 2147483647 := hl9 (xI x3) (.tail _ (.tail _ (.tail _ (.head _)))) (Nat.le_of_ble_eq_true rfl)
  have r_x4 : -2147483648 ≤ x4 ∧ x4 ≤ 2147483647 := hl9 (xI x4) (.tail _ (.tail _ (.tail _ (.tail _ (.head _))))) (Nat.le_of_ble_eq_true rfl)
  obtain ⟨c9, hyp⟩ := hyp
  refine xr_iinc (pc := 88) (i := 4) (L9 := [xR 40, xR x1, xR x2, xI x3, xI (x4 + (-1))]) (hI := d_Findings_refresh_88) (hl := rfl) (hn := Nat.le_of_ble_eq_true rfl) (hr := c9) (hL9 := rfl) ?_
  refine xr_goto (pc := 91) (tgt := 60) (hI := d_Findings_refresh_91) (ht := by decide) ?_
  exact hyp
theorem d_Findings_refresh_110 : decode prog_2_method_6_code 110 = .ok (.iastore, 1) := by decide +kernel
theorem d_Findings_refresh_111 : decode prog_2_method_6_code 111 = .ok (.aload_n 1, 1) := by decide +kernel
theorem d_Findings_refresh_112 : decode prog_2_method_6_code 112 = .ok (.iconst 0, 1) := by decide +kernel
theorem d_Findings_refresh_113 : decode prog_2_method_6_code 113 = .ok (.invokevirtual 63, 3) := by decide +kernel
theorem d_Findings_refresh_116 : decode prog_2_method_6_code 116 = .ok (.checkcast 73, 3) := by decide +kernel
theorem d_Findings_refresh_119 : decode prog_2_method_6_code 119 = .ok (.invokevirtual 82, 3) := by decide +kernel
theorem v_Findings_refresh_110 {G : XG} {d : Nat} {h : XH} {Q : XV → XH → Prop} {X : Nat → XH → Prop} {x1 x2 x3 s0 s1 s2 : Int} (F : xFix h) (hyp : xtg h s2 = 100 ∧ 0 ≤ s2 ∧ 0 ≤ s1 ∧ s1 < (xln h s2) ∧ xtg h x1 = 13 ∧ alok (xst h s2 s1 s0) x1 ∧ (0 : Int) < als (xst h s2 s1 s0) x1 ∧ xtg h (alg (xst h s2 s1 s0) x1 0) = 5 ∧ (xFix (xst h s2 s1 s0) → xwp G m_Question_finds (d + 6) 0 [xR (alg (xst h s2 s1 s0) x1 0)] [] (xst h s2 s1 s0) (fun v9 h9 => xwp G m_Findings_refresh (d + 7) 122 [xR 40, xR x1, xR x2, xI x3, xZ] (xpush v9 []) h9 Q X) X)) : xwp G m_Findings_refresh (d + 7) 110 [xR 40, xR x1, xR x2, xI x3, xZ] [xI s0, xI s1, xR s2] h Q X := by
  have hnx9 : (93 : Int) ≤ xnx h := F.2.2
  refine xr_okL (fun hl9 => ?_)
  have r_x3 : -2147483648 ≤ x3 ∧ x3 ≤ 2147483647 := hl9 (xI x3) (.tail _ (.tail _ (.tail _ (.head _)))) (Nat.le_of_ble_eq_true rfl)
  refine xr_okS (fun hs9 => ?_)
  have r_s0 : -2147483648 ≤ s0 ∧ s0 ≤ 2147483647 := hs9 (xI s0) (.head _)
  have r_s1 : -2147483648 ≤ s1 ∧ s1 ≤ 2147483647 := hs9 (xI s1) (.tail _ (.head _))
  obtain ⟨c9, hyp⟩ := hyp
  have t1_ := c9
  clear c9
  obtain ⟨c2_, hyp⟩ := hyp
  obtain ⟨c3_, hyp⟩ := hyp
  obtain ⟨c4_, hyp⟩ := hyp
  refine xr_iastore (pc := 110) (hI := d_Findings_refresh_110) t1_ c2_ c3_ (xlt_of rfl c4_) ?_
  have F5_ : xFix (xst h s2 s1 s0) := F.stTA (t := 100) c2_ t1_ xta_100
  refine xr_aload_n (pc := 111) (i := 1) (hI := d_Findings_refresh_111) (hi := rfl) (hl := rfl) ?_
  refine xr_iconst (pc := 112) (hI := d_Findings_refresh_112) (hr := by decide) ?_
  obtain ⟨c9, hyp⟩ := hyp
  have t6_ := c9
  clear c9
  obtain ⟨c7_, hyp⟩ := hyp
  obtain ⟨c8_, hyp⟩ := hyp
  refine xq_callV (pc := 113) (index := 63) (K := m_ArrayList_get) (As := [xI 0]) (S := []) (L0 := [xR x1, xI 0]) (hI := d_Findings_refresh_113) (hK := k_ArrayList_get) (hlk := w_698) (hnoM := rfl) (hS8 := Nat.le_of_ble_eq_true rfl) (ci := 13) (N := 3) (C := "java/util/ArrayList") (T := xF13) (hc := rfl) (hci := Nat.le_of_ble_eq_true rfl) (htb := t6_) (hinst := w_469) (hsel := w_470) (hlen := Nat.le_of_ble_eq_true rfl) (hst := rfl) (hL0 := rfl)  (p_AL_get F5_ c7_ (by decide) c8_ ?_)
  show xwp G m_Findings_refresh (d + 7) 116 [xR 40, xR x1, xR x2, xI x3, xZ] [xR (alg (xst h s2 s1 s0) x1 0)] _ _ _
  obtain ⟨c9, hyp⟩ := hyp
  have t9_ := c9
  clear c9
  refine xr_cast (pc := 116) (ci := 5) (T := xF5) (N := 5) (hI := d_Findings_refresh_116) w_700 rfl (Nat.le_of_ble_eq_true rfl) t9_ ?_
  exact xq_callV (pc := 119) (index := 82) (K := m_Question_finds) (As := []) (S := []) (L0 := [xR (alg (xst h s2 s1 s0) x1 0)]) (hI := d_Findings_refresh_119) (hK := k_Question_finds) (hlk := w_726) (hnoM := rfl) (hS8 := Nat.le_of_ble_eq_true rfl) (ci := 5) (N := 5) (C := "BeaconIndex$Question") (T := xF5) (hc := rfl) (hci := Nat.le_of_ble_eq_true rfl) (htb := t9_) (hinst := w_727) (hsel := w_728) (hlen := Nat.le_of_ble_eq_true rfl) (hst := rfl) (hL0 := rfl)  (hyp F5_)
theorem d_Findings_refresh_122 : decode prog_2_method_6_code 122 = .ok (.ifCond .eq 9, 3) := by decide +kernel
theorem d_Findings_refresh_125 : decode prog_2_method_6_code 125 = .ok (.aload_n 0, 1) := by decide +kernel
theorem d_Findings_refresh_126 : decode prog_2_method_6_code 126 = .ok (.iload_n 3, 1) := by decide +kernel
theorem d_Findings_refresh_127 : decode prog_2_method_6_code 127 = .ok (.aload_n 2, 1) := by decide +kernel
theorem d_Findings_refresh_128 : decode prog_2_method_6_code 128 = .ok (.invokevirtual 85, 3) := by decide +kernel
theorem k_Findings_putInOrder : xCal m_Findings_putInOrder 2 := ⟨List.mem_append_right _ (List.mem_of_getElem? (i := 745) (by decide +kernel)), w_12, Nat.le_of_ble_eq_true rfl, ⟨by decide +kernel, by decide +kernel⟩, by decide +kernel, by decide +kernel, rfl⟩
theorem w_742 : Cond.methodLink "BeaconIndex$Findings" 85 ⟨"BeaconIndex$Findings", "putInOrder", "(ILjava/util/ArrayList;)V"⟩ ∈ lw_tbl := List.mem_append_right _ (List.mem_of_getElem? (i := 742) (by decide +kernel))
theorem w_744 : Cond.instanceMethod ⟨"BeaconIndex$Findings", "putInOrder", "(ILjava/util/ArrayList;)V"⟩ ∈ lw_tbl := List.mem_append_right _ (List.mem_of_getElem? (i := 744) (by decide +kernel))
theorem sel_Findings_putInOrder : Cond.selects "BeaconIndex$Findings" ⟨"BeaconIndex$Findings", "putInOrder", "(ILjava/util/ArrayList;)V"⟩ ⟨"BeaconIndex$Findings", "putInOrder", "(ILjava/util/ArrayList;)V"⟩ ∈ lw_tbl := List.mem_append_left _ (by decide +kernel)
theorem v_Findings_refresh_122 {G : XG} {d : Nat} {h : XH} {Q : XV → XH → Prop} {X : Nat → XH → Prop} {x1 x2 x3 s0 : Int} (F : xFix h) (hyp : ((s0 = 0 → (xwp G m_Findings_refresh (d + 7) 131 [xR 40, xR x1, xR x2, xI x3, xZ] [] h Q X)) ∧ (¬ s0 = 0 → (xwp G m_Findings_putInOrder (d + 6) 0 [xR 40, xI x3, xR x2, xZ] [] h (fun v9 h9 => xwp G m_Findings_refresh (d + 7) 131 [xR 40, xR x1, xR x2, xI x3, xZ] (xpush v9 []) h9 Q X) X)))) : xwp G m_Findings_refresh (d + 7) 122 [xR 40, xR x1, xR x2, xI x3, xZ] [xI s0] h Q X := by
  have hnx9 : (93 : Int) ≤ xnx h := F.2.2
  refine xr_okL (fun hl9 => ?_)
  have r_x3 : -2147483648 ≤ x3 ∧ x3 ≤ 2147483647 := hl9 (xI x3) (.tail _ (.tail _ (.tail _ (.head _)))) (Nat.le_of_ble_eq_true rfl)
  refine xr_okS (fun hs9 => ?_)
  have r_s0 : -2147483648 ≤ s0 ∧ s0 ≤ 2147483647 := hs9 (xI s0) (.head _)
  refine xr_if_eq (pc := 122) (tgt := 131) (hI := d_Findings_refresh_122) (ht := by decide) (fun q9 => ?_) (fun q9 => ?_)
  · replace hyp := hyp.1 q9
    have q1_ := q9
    clear q9
    exact hyp
  · replace hyp := hyp.2 q9
    have q1_ := q9
    clear q9
    refine xr_aload_n (pc := 125) (i := 0) (hI := d_Findings_refresh_125) (hi := rfl) (hl := rfl) ?_
    refine xr_iload_n (pc := 126) (i := 3) (hI := d_Findings_refresh_126) (hi := rfl) (hl := rfl) ?_
    refine xr_aload_n (pc := 127) (i := 2) (hI := d_Findings_refresh_127) (hi := rfl) (hl := rfl) ?_
    exact xq_callV (pc := 128) (index := 85) (K := m_Findings_putInOrder) (As := [xI x3, xR x2]) (S := []) (L0 := [xR 40, xI x3, xR x2, xZ]) (hI := d_Findings_refresh_128) (hK := k_Findings_putInOrder) (hlk := w_742) (hnoM := rfl) (hS8 := Nat.le_of_ble_eq_true rfl) (ci := 1) (N := 6) (C := "BeaconIndex$Findings") (T := xF1) (hc := rfl) (hci := Nat.le_of_ble_eq_true rfl) (htb := (ft_40 F)) (hinst := w_744) (hsel := sel_Findings_putInOrder) (hlen := Nat.le_of_ble_eq_true rfl) (hst := rfl) (hL0 := rfl)  hyp
theorem d_Findings_refresh_131 : decode prog_2_method_6_code 131 = .ok (.iinc 3 1, 3) := by decide +kernel
theorem d_Findings_refresh_134 : decode prog_2_method_6_code 134 = .ok (.goto (-110), 3) := by decide +kernel
theorem v_Findings_refresh_131 {G : XG} {d : Nat} {h : XH} {Q : XV → XH → Prop} {X : Nat → XH → Prop} {x1 x2 x3 : Int} (F : xFix h) (hyp : xiR (x3 + 1) ∧ (xwp G m_Findings_refresh (d + 7) 24 [xR 40, xR x1, xR x2, xI (x3 + 1), xZ] [] h Q X)) : xwp G m_Findings_refresh (d + 7) 131 [xR 40, xR x1, xR x2, xI x3, xZ] [] h Q X := by
  have hnx9 : (93 : Int) ≤ xnx h := F.2.2
  refine xr_okL (fun hl9 => ?_)
  have r_x3 : -2147483648 ≤ x3 ∧ x3 ≤ 2147483647 := hl9 (xI x3) (.tail _ (.tail _ (.tail _ (.head _)))) (Nat.le_of_ble_eq_true rfl)
  obtain ⟨c9, hyp⟩ := hyp
  refine xr_iinc (pc := 131) (i := 3) (L9 := [xR 40, xR x1, xR x2, xI (x3 + 1), xZ]) (hI := d_Findings_refresh_131) (hl := rfl) (hn := Nat.le_of_ble_eq_true rfl) (hr := c9) (hL9 := rfl) ?_
  refine xr_goto (pc := 134) (tgt := 24) (hI := d_Findings_refresh_134) (ht := by decide) ?_
  exact hyp
abbrev m_Findings_isFoundWithout : XM := (⟨"BeaconIndex$Findings", "isFoundWithout", "(ILBeaconIndex$Question;I)Z"⟩, prog_2_method_11_code, 6, (some .boolean), [])
theorem d_Findings_isFoundWithout_0 : decode prog_2_method_11_code 0 = .ok (.aload_n 2, 1) := by decide +kernel
theorem d_Findings_isFoundWithout_1 : decode prog_2_method_11_code 1 = .ok (.invokevirtual 89, 3) := by decide +kernel
theorem v_Findings_isFoundWithout_0 {G : XG} {d : Nat} {h : XH} {Q : XV → XH → Prop} {X : Nat → XH → Prop} {x1 x2 x3 : Int} (F : xFix h) (hyp : xtg h x2 = 5 ∧ (xwp G m_Question_forgetText (d + 3) 0 [xR x2] [] h (fun v9 h9 => xwp G m_Findings_isFoundWithout (d + 4) 4 [xR 40, xI x1, xR x2, xI x3, xZ, xZ] (xpush v9 []) h9 Q X) X)) : xwp G m_Findings_isFoundWithout (d + 4) 0 [xR 40, xI x1, xR x2, xI x3, xZ, xZ] [] h Q X := by
  have hnx9 : (93 : Int) ≤ xnx h := F.2.2
  refine xr_okL (fun hl9 => ?_)
  have r_x1 : -2147483648 ≤ x1 ∧ x1 ≤ 2147483647 := hl9 (xI x1) (.tail _ (.head _)) (Nat.le_of_ble_eq_true rfl)
  have r_x3 : -2147483648 ≤ x3 ∧ x3 ≤ 2147483647 := hl9 (xI x3) (.tail _ (.tail _ (.tail _ (.head _)))) (Nat.le_of_ble_eq_true rfl)
  refine xr_aload_n (pc := 0) (i := 2) (hI := d_Findings_isFoundWithout_0) (hi := rfl) (hl := rfl) ?_
  obtain ⟨c9, hyp⟩ := hyp
  have t1_ := c9
  clear c9
  exact xq_callV (pc := 1) (index := 89) (K := m_Question_forgetText) (As := []) (S := []) (L0 := [xR x2]) (hI := d_Findings_isFoundWithout_1) (hK := k_Question_forgetText) (hlk := w_705) (hnoM := rfl) (hS8 := Nat.le_of_ble_eq_true rfl) (ci := 5) (N := 5) (C := "BeaconIndex$Question") (T := xF5) (hc := rfl) (hci := Nat.le_of_ble_eq_true rfl) (htb := t1_) (hinst := w_706) (hsel := w_707) (hlen := Nat.le_of_ble_eq_true rfl) (hst := rfl) (hL0 := rfl)  hyp
theorem d_Findings_isFoundWithout_4 : decode prog_2_method_11_code 4 = .ok (.iconst 0, 1) := by decide +kernel
theorem d_Findings_isFoundWithout_5 : decode prog_2_method_11_code 5 = .ok (.istore 4, 2) := by decide +kernel
theorem v_Findings_isFoundWithout_4 {G : XG} {d : Nat} {h : XH} {Q : XV → XH → Prop} {X : Nat → XH → Prop} {x1 x2 x3 : Int} (F : xFix h) (hyp : (xwp G m_Findings_isFoundWithout (d + 4) 7 [xR 40, xI x1, xR x2, xI x3, xI 0, xZ] [] h Q X)) : xwp G m_Findings_isFoundWithout (d + 4) 4 [xR 40, xI x1, xR x2, xI x3, xZ, xZ] [] h Q X := by
  have hnx9 : (93 : Int) ≤ xnx h := F.2.2
  refine xr_okL (fun hl9 => ?_)
  have r_x1 : -2147483648 ≤ x1 ∧ x1 ≤ 2147483647 := hl9 (xI x1) (.tail _ (.head _)) (Nat.le_of_ble_eq_true rfl)
  have r_x3 : -2147483648 ≤ x3 ∧ x3 ≤ 2147483647 := hl9 (xI x3) (.tail _ (.tail _ (.tail _ (.head _)))) (Nat.le_of_ble_eq_true rfl)
  refine xr_iconst (pc := 4) (hI := d_Findings_isFoundWithout_4) (hr := by decide) ?_
  refine xr_istore (pc := 5) (i := 4) (L9 := [xR 40, xI x1, xR x2, xI x3, xI 0, xZ]) (hI := d_Findings_isFoundWithout_5) (hn := Nat.le_of_ble_eq_true rfl) (hL9 := rfl) ?_
  exact hyp
theorem d_Findings_isFoundWithout_7 : decode prog_2_method_11_code 7 = .ok (.iload 4, 2) := by decide +kernel
theorem d_Findings_isFoundWithout_9 : decode prog_2_method_11_code 9 = .ok (.aload_n 2, 1) := by decide +kernel
theorem d_Findings_isFoundWithout_10 : decode prog_2_method_11_code 10 = .ok (.getfield 92, 3) := by decide +kernel
theorem d_Findings_isFoundWithout_13 : decode prog_2_method_11_code 13 = .ok (.invokevirtual 59, 3) := by decide +kernel
theorem d_Findings_isFoundWithout_16 : decode prog_2_method_11_code 16 = .ok (.if_icmp .ge 50, 3) := by decide +kernel
theorem d_Findings_isFoundWithout_66 : decode prog_2_method_11_code 66 = .ok (.aload_n 2, 1) := by decide +kernel
theorem d_Findings_isFoundWithout_67 : decode prog_2_method_11_code 67 = .ok (.invokevirtual 82, 3) := by decide +kernel
theorem d_Findings_isFoundWithout_19 : decode prog_2_method_11_code 19 = .ok (.iload 4, 2) := by decide +kernel
theorem d_Findings_isFoundWithout_21 : decode prog_2_method_11_code 21 = .ok (.iload_n 1, 1) := by decide +kernel
theorem d_Findings_isFoundWithout_22 : decode prog_2_method_11_code 22 = .ok (.if_icmp .eq 38, 3) := by decide +kernel
theorem d_Findings_isFoundWithout_25 : decode prog_2_method_11_code 25 = .ok (.aload_n 2, 1) := by decide +kernel
theorem d_Findings_isFoundWithout_26 : decode prog_2_method_11_code 26 = .ok (.getfield 92, 3) := by decide +kernel
theorem d_Findings_isFoundWithout_29 : decode prog_2_method_11_code 29 = .ok (.iload 4, 2) := by decide +kernel
theorem d_Findings_isFoundWithout_31 : decode prog_2_method_11_code 31 = .ok (.invokevirtual 63, 3) := by decide +kernel
theorem d_Findings_isFoundWithout_34 : decode prog_2_method_11_code 34 = .ok (.checkcast 37, 3) := by decide +kernel
theorem d_Findings_isFoundWithout_37 : decode prog_2_method_11_code 37 = .ok (.astore 5, 2) := by decide +kernel
theorem d_Findings_isFoundWithout_39 : decode prog_2_method_11_code 39 = .ok (.aload_n 2, 1) := by decide +kernel
theorem d_Findings_isFoundWithout_40 : decode prog_2_method_11_code 40 = .ok (.aload 5, 2) := by decide +kernel
theorem d_Findings_isFoundWithout_42 : decode prog_2_method_11_code 42 = .ok (.getfield 110, 3) := by decide +kernel
theorem d_Findings_isFoundWithout_45 : decode prog_2_method_11_code 45 = .ok (.aload_n 0, 1) := by decide +kernel
theorem d_Findings_isFoundWithout_46 : decode prog_2_method_11_code 46 = .ok (.getfield 18, 3) := by decide +kernel
theorem d_Findings_isFoundWithout_49 : decode prog_2_method_11_code 49 = .ok (.aload 5, 2) := by decide +kernel
theorem d_Findings_isFoundWithout_51 : decode prog_2_method_11_code 51 = .ok (.iload_n 3, 1) := by decide +kernel
theorem d_Findings_isFoundWithout_52 : decode prog_2_method_11_code 52 = .ok (.invokestatic 45, 3) := by decide +kernel
theorem d_Findings_isFoundWithout_55 : decode prog_2_method_11_code 55 = .ok (.baload, 1) := by decide +kernel
theorem d_Findings_isFoundWithout_56 : decode prog_2_method_11_code 56 = .ok (.iconst 0, 1) := by decide +kernel
theorem d_Findings_isFoundWithout_57 : decode prog_2_method_11_code 57 = .ok (.invokevirtual 119, 3) := by decide +kernel
theorem v_Findings_isFoundWithout_7 {G : XG} {d : Nat} {h : XH} {Q : XV → XH → Prop} {X : Nat → XH → Prop} {x1 x2 x3 x4 : Int} (F : xFix h) (hyp : xtg h x2 = 5 ∧ xtg h (xpl h x2 0) = 13 ∧ alok h (xpl h x2 0) ∧ (((als h (xpl h x2 0)) ≤ x4 → (xwp G m_Question_finds (d + 3) 0 [xR x2] [] h (fun v9 h9 => xwp G m_Findings_isFoundWithout (d + 4) 70 [xZ, xZ, xZ, xZ, xZ, xZ] (xpush v9 []) h9 Q X) X)) ∧ (¬ (als h (xpl h x2 0)) ≤ x4 → ((x4 = x1 → (xwp G m_Findings_isFoundWithout (d + 4) 60 [xR 40, xI x1, xR x2, xI x3, xI x4, xZ] [] h Q X)) ∧ (¬ x4 = x1 → 0 ≤ x4 ∧ xtg h (alg h (xpl h x2 0) x4) = 4 ∧ xtg h (alg h (xpl h x2 0) x4) = 4 ∧ (xwp G m_Question_count (d + 3) 0 [xR x2, xI (xpl h (alg h (xpl h x2 0) x4) 1), xI (xpl h 48 (slF (xpl h (alg h (xpl h x2 0) x4) 0) x3)), xI 0] [] h (fun v9 h9 => xwp G m_Findings_isFoundWithout (d + 4) 60 [xR 40, xI x1, xR x2, xI x3, xI x4, xZ] (xpush v9 []) h9 Q X) X)))))) : xwp G m_Findings_isFoundWithout (d + 4) 7 [xR 40, xI x1, xR x2, xI x3, xI x4, xZ] [] h Q X := by
  have hnx9 : (93 : Int) ≤ xnx h := F.2.2
  refine xr_okL (fun hl9 => ?_)
  have r_x1 : -2147483648 ≤ x1 ∧ x1 ≤ 2147483647 := hl9 (xI x1) (.tail _ (.head _)) (Nat.le_of_ble_eq_true rfl)
  have r_x3 : -2147483648 ≤ x3 ∧ x3 ≤ 2147483647 := hl9 (xI x3) (.tail _ (.tail _ (.tail _ (.head _)))) (Nat.le_of_ble_eq_true rfl)
  have r_x4 : -2147483648 ≤ x4 ∧ x4 ≤ 2147483647 := hl9 (xI x4) (.tail _ (.tail _ (.tail _ (.tail _ (.head _))))) (Nat.le_of_ble_eq_true rfl)
  refine xr_iload (pc := 7) (i := 4) (hI := d_Findings_isFoundWithout_7) (hl := rfl) ?_
  refine xr_aload_n (pc := 9) (i := 2) (hI := d_Findings_isFoundWithout_9) (hi := rfl) (hl := rfl) ?_
  obtain ⟨c9, hyp⟩ := hyp
  have t1_ := c9
  clear c9
  refine xg_getf (pc := 10) (ci := 5) (k := 0) (N := 5) (v9 := 2) (v := (xpl h x2 0)) (T := xF5) (hI := d_Findings_isFoundWithout_10) (hw := w_288) rfl xi5 (Or.inl rfl) (Nat.le_of_ble_eq_true rfl) (Nat.le_of_ble_eq_true rfl) rfl t1_ rfl (fun f2_ => ?_)
  clear f2_
  obtain ⟨c9, hyp⟩ := hyp
  have t3_ := c9
  clear c9
  obtain ⟨c4_, hyp⟩ := hyp
  refine xq_callV (pc := 13) (index := 59) (K := m_ArrayList_size) (As := []) (S := [xI x4]) (L0 := [xR (xpl h x2 0)]) (hI := d_Findings_isFoundWithout_13) (hK := k_ArrayList_size) (hlk := w_697) (hnoM := rfl) (hS8 := Nat.le_of_ble_eq_true rfl) (ci := 13) (N := 3) (C := "java/util/ArrayList") (T := xF13) (hc := rfl) (hci := Nat.le_of_ble_eq_true rfl) (htb := t3_) (hinst := w_465) (hsel := w_466) (hlen := Nat.le_of_ble_eq_true rfl) (hst := rfl) (hL0 := rfl)  (p_AL_size F c4_ ?_)
  show xwp G m_Findings_isFoundWithout (d + 4) 16 [xR 40, xI x1, xR x2, xI x3, xI x4, xZ] [xI (als h (xpl h x2 0)), xI x4] _ _ _
  have f5_ : 0 ≤ (als h (xpl h x2 0)) ∧ (als h (xpl h x2 0)) ≤ 1000000 := ⟨c4_.2.2.1, c4_.2.2.2.2⟩
  refine xr_icmp_ge (pc := 16) (tgt := 66) (hI := d_Findings_isFoundWithout_16) (ht := by decide) (fun q9 => ?_) (fun q9 => ?_)
  · replace hyp := hyp.1 q9
    have q6_ := q9
    clear q9
    refine xr_aload_n (pc := 66) (i := 2) (hI := d_Findings_isFoundWithout_66) (hi := rfl) (hl := rfl) ?_
    exact xq_callV (pc := 67) (index := 82) (K := m_Question_finds) (As := []) (S := []) (L0 := [xR x2]) (hI := d_Findings_isFoundWithout_67) (hK := k_Question_finds) (hlk := w_726) (hnoM := rfl) (hS8 := Nat.le_of_ble_eq_true rfl) (ci := 5) (N := 5) (C := "BeaconIndex$Question") (T := xF5) (hc := rfl) (hci := Nat.le_of_ble_eq_true rfl) (htb := t1_) (hinst := w_727) (hsel := w_728) (hlen := Nat.le_of_ble_eq_true rfl) (hst := rfl) (hL0 := rfl)  (xwp_mono hyp (fun v9 h9 q9 => xr_drop (L9 := [xZ, xZ, xZ, xZ, xZ, xZ]) (xdrz (xdrz (xdrz (xdrz (xdrz (xdrs xdr0)))))) q9) (fun _ _ z9 => z9))
  · replace hyp := hyp.2 q9
    have q6_ := q9
    clear q9
    refine xr_iload (pc := 19) (i := 4) (hI := d_Findings_isFoundWithout_19) (hl := rfl) ?_
    refine xr_iload_n (pc := 21) (i := 1) (hI := d_Findings_isFoundWithout_21) (hi := rfl) (hl := rfl) ?_
    refine xr_icmp_eq (pc := 22) (tgt := 60) (hI := d_Findings_isFoundWithout_22) (ht := by decide) (fun q9 => ?_) (fun q9 => ?_)
    · replace hyp := hyp.1 q9
      have q7_ := q9
      clear q9
      exact hyp
    · replace hyp := hyp.2 q9
      have q7_ := q9
      clear q9
      refine xr_aload_n (pc := 25) (i := 2) (hI := d_Findings_isFoundWithout_25) (hi := rfl) (hl := rfl) ?_
      refine xg_getf (pc := 26) (ci := 5) (k := 0) (N := 5) (v9 := 2) (v := (xpl h x2 0)) (T := xF5) (hI := d_Findings_isFoundWithout_26) (hw := w_288) rfl xi5 (Or.inl rfl) (Nat.le_of_ble_eq_true rfl) (Nat.le_of_ble_eq_true rfl) rfl t1_ rfl (fun f8_ => ?_)
      clear f8_
      refine xr_iload (pc := 29) (i := 4) (hI := d_Findings_isFoundWithout_29) (hl := rfl) ?_
      obtain ⟨c9_, hyp⟩ := hyp
      refine xq_callV (pc := 31) (index := 63) (K := m_ArrayList_get) (As := [xI x4]) (S := []) (L0 := [xR (xpl h x2 0), xI x4]) (hI := d_Findings_isFoundWithout_31) (hK := k_ArrayList_get) (hlk := w_698) (hnoM := rfl) (hS8 := Nat.le_of_ble_eq_true rfl) (ci := 13) (N := 3) (C := "java/util/ArrayList") (T := xF13) (hc := rfl) (hci := Nat.le_of_ble_eq_true rfl) (htb := t3_) (hinst := w_469) (hsel := w_470) (hlen := Nat.le_of_ble_eq_true rfl) (hst := rfl) (hL0 := rfl)  (p_AL_get F c4_ c9_ (by clear hyp; omega) ?_)
      show xwp G m_Findings_isFoundWithout (d + 4) 34 [xR 40, xI x1, xR x2, xI x3, xI x4, xZ] [xR (alg h (xpl h x2 0) x4)] _ _ _
      obtain ⟨c9, hyp⟩ := hyp
      have t10_ := c9
      clear c9
      refine xr_cast (pc := 34) (ci := 4) (T := xF4) (N := 13) (hI := d_Findings_isFoundWithout_34) w_709 rfl (Nat.le_of_ble_eq_true rfl) t10_ ?_
      refine xr_astore (pc := 37) (i := 5) (L9 := [xR 40, xI x1, xR x2, xI x3, xI x4, xR (alg h (xpl h x2 0) x4)]) (hI := d_Findings_isFoundWithout_37) (hn := Nat.le_of_ble_eq_true rfl) (hL9 := rfl) ?_
      refine xr_aload_n (pc := 39) (i := 2) (hI := d_Findings_isFoundWithout_39) (hi := rfl) (hl := rfl) ?_
      refine xr_aload (pc := 40) (i := 5) (hI := d_Findings_isFoundWithout_40) (hl := rfl) ?_
      refine xg_getf (pc := 42) (ci := 4) (k := 1) (N := 13) (v9 := 0) (v := (xpl h (alg h (xpl h x2 0) x4) 1)) (T := xF4) (hI := d_Findings_isFoundWithout_42) (hw := w_219) rfl xi4 (Or.inl rfl) (Nat.le_of_ble_eq_true rfl) (Nat.le_of_ble_eq_true rfl) rfl t10_ rfl (fun f11_ => ?_)
      replace f11_ : -2147483648 ≤ (xpl h (alg h (xpl h x2 0) x4) 1) ∧ (xpl h (alg h (xpl h x2 0) x4) 1) ≤ 2147483647 := f11_
      refine xr_aload_n (pc := 45) (i := 0) (hI := d_Findings_isFoundWithout_45) (hi := rfl) (hl := rfl) ?_
      refine xg_getf (pc := 46) (ci := 1) (k := 1) (N := 6) (v9 := 2) (v := 48) (T := xF1) (hI := d_Findings_isFoundWithout_46) (hw := w_408) rfl xi1 (Or.inl rfl) (Nat.le_of_ble_eq_true rfl) (Nat.le_of_ble_eq_true rfl) rfl (ft_40 F) (fp_40_1 F) (fun f12_ => ?_)
      clear f12_
      refine xr_aload (pc := 49) (i := 5) (hI := d_Findings_isFoundWithout_49) (hl := rfl) ?_
      refine xr_iload_n (pc := 51) (i := 3) (hI := d_Findings_isFoundWithout_51) (hi := rfl) (hl := rfl) ?_
      obtain ⟨c13_, hyp⟩ := hyp
      refine xq_callS (pc := 52) (index := 45) (K := m_Findings_slot) (As := [xR (alg h (xpl h x2 0) x4), xI x3]) (S := [xR 48, xI (xpl h (alg h (xpl h x2 0) x4) 1), xR x2]) (L0 := [xR (alg h (xpl h x2 0) x4), xI x3, xZ]) (hI := d_Findings_isFoundWithout_52) (hK := k_Findings_slot) (hlk := w_737) (hnoM := rfl) (hS8 := Nat.le_of_ble_eq_true rfl) (hstat := w_689) (hlen := Nat.le_of_ble_eq_true rfl) (hst := rfl) (hL0 := rfl)  (p_Findings_slot F c13_ ?_)
      show xwp G m_Findings_isFoundWithout (d + 4) 55 [xR 40, xI x1, xR x2, xI x3, xI x4, xR (alg h (xpl h x2 0) x4)] [xI (slF (xpl h (alg h (xpl h x2 0) x4) 0) x3), xR 48, xI (xpl h (alg h (xpl h x2 0) x4) 1), xR x2] _ _ _
      have f14_ : 0 ≤ (slF (xpl h (alg h (xpl h x2 0) x4) 0) x3) ∧ (slF (xpl h (alg h (xpl h x2 0) x4) 0) x3) ≤ 2399 := (slF_rng _ _)
      refine xg_baloadZ (pc := 55) (v := (xpl h 48 (slF (xpl h (alg h (xpl h x2 0) x4) 0) x3))) (hI := d_Findings_isFoundWithout_55) (ft_48 F) (by clear hyp; omega) (xlt_of (fl_48 F) (by clear hyp; omega)) rfl (fun f15_ => ?_)
      replace f15_ : 0 ≤ (xpl h 48 (slF (xpl h (alg h (xpl h x2 0) x4) 0) x3)) ∧ (xpl h 48 (slF (xpl h (alg h (xpl h x2 0) x4) 0) x3)) ≤ 1 := f15_
      refine xr_iconst (pc := 56) (hI := d_Findings_isFoundWithout_56) (hr := by decide) ?_
      exact xq_callV (pc := 57) (index := 119) (K := m_Question_count) (As := [xI (xpl h (alg h (xpl h x2 0) x4) 1), xI (xpl h 48 (slF (xpl h (alg h (xpl h x2 0) x4) 0) x3)), xI 0]) (S := []) (L0 := [xR x2, xI (xpl h (alg h (xpl h x2 0) x4) 1), xI (xpl h 48 (slF (xpl h (alg h (xpl h x2 0) x4) 0) x3)), xI 0]) (hI := d_Findings_isFoundWithout_57) (hK := k_Question_count) (hlk := w_738) (hnoM := rfl) (hS8 := Nat.le_of_ble_eq_true rfl) (ci := 5) (N := 5) (C := "BeaconIndex$Question") (T := xF5) (hc := rfl) (hci := Nat.le_of_ble_eq_true rfl) (htb := t1_) (hinst := w_739) (hsel := w_740) (hlen := Nat.le_of_ble_eq_true rfl) (hst := rfl) (hL0 := rfl)  (xwp_mono hyp (fun v9 h9 q9 => xr_drop (L9 := [xR 40, xI x1, xR x2, xI x3, xI x4, xZ]) (xdrs (xdrs (xdrs (xdrs (xdrs (xdrz xdr0)))))) q9) (fun _ _ z9 => z9))
theorem d_Findings_isFoundWithout_60 : decode prog_2_method_11_code 60 = .ok (.iinc 4 1, 3) := by decide +kernel
theorem d_Findings_isFoundWithout_63 : decode prog_2_method_11_code 63 = .ok (.goto (-56), 3) := by decide +kernel
theorem v_Findings_isFoundWithout_60 {G : XG} {d : Nat} {h : XH} {Q : XV → XH → Prop} {X : Nat → XH → Prop} {x1 x2 x3 x4 : Int} (F : xFix h) (hyp : xiR (x4 + 1) ∧ (xwp G m_Findings_isFoundWithout (d + 4) 7 [xR 40, xI x1, xR x2, xI x3, xI (x4 + 1), xZ] [] h Q X)) : xwp G m_Findings_isFoundWithout (d + 4) 60 [xR 40, xI x1, xR x2, xI x3, xI x4, xZ] [] h Q X := by
  have hnx9 : (93 : Int) ≤ xnx h := F.2.2
  refine xr_okL (fun hl9 => ?_)
  have r_x1 : -2147483648 ≤ x1 ∧ x1 ≤ 2147483647 := hl9 (xI x1) (.tail _ (.head _)) (Nat.le_of_ble_eq_true rfl)
  have r_x3 : -2147483648 ≤ x3 ∧ x3 ≤ 2147483647 := hl9 (xI x3) (.tail _ (.tail _ (.tail _ (.head _)))) (Nat.le_of_ble_eq_true rfl)
  have r_x4 : -2147483648 ≤ x4 ∧ x4 ≤ 2147483647 := hl9 (xI x4) (.tail _ (.tail _ (.tail _ (.tail _ (.head _))))) (Nat.le_of_ble_eq_true rfl)
  obtain ⟨c9, hyp⟩ := hyp
  refine xr_iinc (pc := 60) (i := 4) (L9 := [xR 40, xI x1, xR x2, xI x3, xI (x4 + 1), xZ]) (hI := d_Findings_isFoundWithout_60) (hl := rfl) (hn := Nat.le_of_ble_eq_true rfl) (hr := c9) (hL9 := rfl) ?_
  refine xr_goto (pc := 63) (tgt := 7) (hI := d_Findings_isFoundWithout_63) (ht := by decide) ?_
  exact hyp
theorem d_Findings_isFoundWithout_70 : decode prog_2_method_11_code 70 = .ok (.ireturn, 1) := by decide +kernel
theorem v_Findings_isFoundWithout_70 {G : XG} {d : Nat} {h : XH} {Q : XV → XH → Prop} {X : Nat → XH → Prop} {s0 : Int} (F : xFix h) (hyp : (0 ≤ s0 ∧ s0 ≤ 1) ∧ (Q (xI s0) h)) : xwp G m_Findings_isFoundWithout (d + 4) 70 [xZ, xZ, xZ, xZ, xZ, xZ] [xI s0] h Q X := by
  have hnx9 : (93 : Int) ≤ xnx h := F.2.2
  refine xr_okS (fun hs9 => ?_)
  have r_s0 : -2147483648 ≤ s0 ∧ s0 ≤ 2147483647 := hs9 (xI s0) (.head _)
  obtain ⟨c9, hyp⟩ := hyp
  refine xr_ireturnT (S := []) (pc := 70) (hI := d_Findings_isFoundWithout_70) (hr := rfl) (xnar_z c9) ?_
  exact hyp
abbrev m_Findings_countWithout : XM := (⟨"BeaconIndex$Findings", "countWithout", "(ILBeaconIndex$Question;Ljava/util/ArrayList;)I"⟩, prog_2_method_10_code, 6, (some .int), [])
theorem d_Findings_countWithout_0 : decode prog_2_method_10_code 0 = .ok (.iconst 0, 1) := by decide +kernel
theorem d_Findings_countWithout_1 : decode prog_2_method_10_code 1 = .ok (.istore 4, 2) := by decide +kernel
theorem d_Findings_countWithout_3 : decode prog_2_method_10_code 3 = .ok (.iconst 0, 1) := by decide +kernel
theorem d_Findings_countWithout_4 : decode prog_2_method_10_code 4 = .ok (.istore 5, 2) := by decide +kernel
theorem v_Findings_countWithout_0 {G : XG} {d : Nat} {h : XH} {Q : XV → XH → Prop} {X : Nat → XH → Prop} {x1 x2 x3 : Int} (F : xFix h) (hyp : (xwp G m_Findings_countWithout (d + 5) 6 [xR 40, xI x1, xR x2, xR x3, xI 0, xI 0] [] h Q X)) : xwp G m_Findings_countWithout (d + 5) 0 [xR 40, xI x1, xR x2, xR x3, xZ, xZ] [] h Q X := by
  have hnx9 : (93 : Int) ≤ xnx h := F.2.2
  refine xr_okL (fun hl9 => ?_)
  have r_x1 : -2147483648 ≤ x1 ∧ x1 ≤ 2147483647 := hl9 (xI x1) (.tail _ (.head _)) (Nat.le_of_ble_eq_true rfl)
  refine xr_iconst (pc := 0) (hI := d_Findings_countWithout_0) (hr := by decide) ?_
  refine xr_istore (pc := 1) (i := 4) (L9 := [xR 40, xI x1, xR x2, xR x3, xI 0, xZ]) (hI := d_Findings_countWithout_1) (hn := Nat.le_of_ble_eq_true rfl) (hL9 := rfl) ?_
  refine xr_iconst (pc := 3) (hI := d_Findings_countWithout_3) (hr := by decide) ?_
  refine xr_istore (pc := 4) (i := 5) (L9 := [xR 40, xI x1, xR x2, xR x3, xI 0, xI 0]) (hI := d_Findings_countWithout_4) (hn := Nat.le_of_ble_eq_true rfl) (hL9 := rfl) ?_
  exact hyp
theorem d_Findings_countWithout_6 : decode prog_2_method_10_code 6 = .ok (.iload 5, 2) := by decide +kernel
theorem d_Findings_countWithout_8 : decode prog_2_method_10_code 8 = .ok (.aload_n 3, 1) := by decide +kernel
theorem d_Findings_countWithout_9 : decode prog_2_method_10_code 9 = .ok (.invokevirtual 59, 3) := by decide +kernel
theorem d_Findings_countWithout_12 : decode prog_2_method_10_code 12 = .ok (.if_icmp .ge 45, 3) := by decide +kernel
theorem d_Findings_countWithout_57 : decode prog_2_method_10_code 57 = .ok (.iload 4, 2) := by decide +kernel
theorem d_Findings_countWithout_59 : decode prog_2_method_10_code 59 = .ok (.ireturn, 1) := by decide +kernel
theorem d_Findings_countWithout_15 : decode prog_2_method_10_code 15 = .ok (.iload 5, 2) := by decide +kernel
theorem d_Findings_countWithout_17 : decode prog_2_method_10_code 17 = .ok (.bipush 60, 2) := by decide +kernel
theorem d_Findings_countWithout_19 : decode prog_2_method_10_code 19 = .ok (.if_icmp .ge 38, 3) := by decide +kernel
theorem d_Findings_countWithout_22 : decode prog_2_method_10_code 22 = .ok (.aload_n 3, 1) := by decide +kernel
theorem d_Findings_countWithout_23 : decode prog_2_method_10_code 23 = .ok (.iload 5, 2) := by decide +kernel
theorem d_Findings_countWithout_25 : decode prog_2_method_10_code 25 = .ok (.invokevirtual 63, 3) := by decide +kernel
theorem d_Findings_countWithout_28 : decode prog_2_method_10_code 28 = .ok (.checkcast 67, 3) := by decide +kernel
theorem d_Findings_countWithout_31 : decode prog_2_method_10_code 31 = .ok (.getfield 69, 3) := by decide +kernel
theorem d_Findings_countWithout_34 : decode prog_2_method_10_code 34 = .ok (.ifCond .ne 17, 3) := by decide +kernel
theorem d_Findings_countWithout_51 : decode prog_2_method_10_code 51 = .ok (.iinc 5 1, 3) := by decide +kernel
theorem d_Findings_countWithout_54 : decode prog_2_method_10_code 54 = .ok (.goto (-48), 3) := by decide +kernel
theorem d_Findings_countWithout_37 : decode prog_2_method_10_code 37 = .ok (.aload_n 0, 1) := by decide +kernel
theorem d_Findings_countWithout_38 : decode prog_2_method_10_code 38 = .ok (.iload_n 1, 1) := by decide +kernel
theorem d_Findings_countWithout_39 : decode prog_2_method_10_code 39 = .ok (.aload_n 2, 1) := by decide +kernel
theorem d_Findings_countWithout_40 : decode prog_2_method_10_code 40 = .ok (.iload 5, 2) := by decide +kernel
theorem d_Findings_countWithout_42 : decode prog_2_method_10_code 42 = .ok (.invokevirtual 132, 3) := by decide +kernel
theorem k_Findings_isFoundWithout : xCal m_Findings_isFoundWithout 3 := ⟨List.mem_append_right _ (List.mem_of_getElem? (i := 1337) (by decide +kernel)), w_12, Nat.le_of_ble_eq_true rfl, ⟨by decide +kernel, by decide +kernel⟩, by decide +kernel, by decide +kernel, rfl⟩
theorem w_1334 : Cond.methodLink "BeaconIndex$Findings" 132 ⟨"BeaconIndex$Findings", "isFoundWithout", "(ILBeaconIndex$Question;I)Z"⟩ ∈ lw_tbl := List.mem_append_right _ (List.mem_of_getElem? (i := 1334) (by decide +kernel))
theorem w_1336 : Cond.instanceMethod ⟨"BeaconIndex$Findings", "isFoundWithout", "(ILBeaconIndex$Question;I)Z"⟩ ∈ lw_tbl := List.mem_append_right _ (List.mem_of_getElem? (i := 1336) (by decide +kernel))
theorem sel_Findings_isFoundWithout : Cond.selects "BeaconIndex$Findings" ⟨"BeaconIndex$Findings", "isFoundWithout", "(ILBeaconIndex$Question;I)Z"⟩ ⟨"BeaconIndex$Findings", "isFoundWithout", "(ILBeaconIndex$Question;I)Z"⟩ ∈ lw_tbl := List.mem_append_left _ (by decide +kernel)
theorem v_Findings_countWithout_6 {G : XG} {d : Nat} {h : XH} {Q : XV → XH → Prop} {X : Nat → XH → Prop} {x1 x2 x3 x4 x5 : Int} (F : xFix h) (hyp : xtg h x3 = 13 ∧ alok h x3 ∧ (((als h x3) ≤ x5 → (Q (xI x4) h)) ∧ (¬ (als h x3) ≤ x5 → (((60 : Int) ≤ x5 → (Q (xI x4) h)) ∧ (¬ (60 : Int) ≤ x5 → 0 ≤ x5 ∧ xtg h (alg h x3 x5) = 9 ∧ (((xpl h (alg h x3 x5) 5) = 0 → (xwp G m_Findings_isFoundWithout (d + 4) 0 [xR 40, xI x1, xR x2, xI x5, xZ, xZ] [] h (fun v9 h9 => xwp G m_Findings_countWithout (d + 5) 45 [xR 40, xI x1, xR x2, xR x3, xI x4, xI x5] (xpush v9 []) h9 Q X) X)) ∧ (¬ (xpl h (alg h x3 x5) 5) = 0 → (xwp G m_Findings_countWithout (d + 5) 6 [xR 40, xI x1, xR x2, xR x3, xI x4, xI (x5 + 1)] [] h Q X)))))))) : xwp G m_Findings_countWithout (d + 5) 6 [xR 40, xI x1, xR x2, xR x3, xI x4, xI x5] [] h Q X := by
  have hnx9 : (93 : Int) ≤ xnx h := F.2.2
  refine xr_okL (fun hl9 => ?_)
  have r_x1 : -2147483648 ≤ x1 ∧ x1 ≤ 2147483647 := hl9 (xI x1) (.tail _ (.head _)) (Nat.le_of_ble_eq_true rfl)
  have r_x4 : -2147483648 ≤ x4 ∧ x4 ≤ 2147483647 := hl9 (xI x4) (.tail _ (.tail _ (.tail _ (.tail _ (.head _))))) (Nat.le_of_ble_eq_true rfl)
  have r_x5 : -2147483648 ≤ x5 ∧ x5 ≤ 2147483647 := hl9 (xI x5) (.tail _ (.tail _ (.tail _ (.tail _ (.tail _ (.head _)))))) (Nat.le_of_ble_eq_true rfl)
  refine xr_iload (pc := 6) (i := 5) (hI := d_Findings_countWithout_6) (hl := rfl) ?_
  refine xr_aload_n (pc := 8) (i := 3) (hI := d_Findings_countWithout_8) (hi := rfl) (hl := rfl) ?_
  obtain ⟨c9, hyp⟩ := hyp
  have t1_ := c9
  clear c9
  obtain ⟨c2_, hyp⟩ := hyp
  refine xq_callV (pc := 9) (index := 59) (K := m_ArrayList_size) (As := []) (S := [xI x5]) (L0 := [xR x3]) (hI := d_Findings_countWithout_9) (hK := k_ArrayList_size) (hlk := w_697) (hnoM := rfl) (hS8 := Nat.le_of_ble_eq_true rfl) (ci := 13) (N := 3) (C := "java/util/ArrayList") (T := xF13) (hc := rfl) (hci := Nat.le_of_ble_eq_true rfl) (htb := t1_) (hinst := w_465) (hsel := w_466) (hlen := Nat.le_of_ble_eq_true rfl) (hst := rfl) (hL0 := rfl)  (p_AL_size F c2_ ?_)
  show xwp G m_Findings_countWithout (d + 5) 12 [xR 40, xI x1, xR x2, xR x3, xI x4, xI x5] [xI (als h x3), xI x5] _ _ _
  have f3_ : 0 ≤ (als h x3) ∧ (als h x3) ≤ 1000000 := ⟨c2_.2.2.1, c2_.2.2.2.2⟩
  refine xr_icmp_ge (pc := 12) (tgt := 57) (hI := d_Findings_countWithout_12) (ht := by decide) (fun q9 => ?_) (fun q9 => ?_)
  · replace hyp := hyp.1 q9
    have q4_ := q9
    clear q9
    refine xr_iload (pc := 57) (i := 4) (hI := d_Findings_countWithout_57) (hl := rfl) ?_
    refine xr_ireturn (S := []) (pc := 59) (hI := d_Findings_countWithout_59) (hr := rfl) ?_
    exact hyp
  · replace hyp := hyp.2 q9
    have q4_ := q9
    clear q9
    refine xr_iload (pc := 15) (i := 5) (hI := d_Findings_countWithout_15) (hl := rfl) ?_
    refine xr_bipush (pc := 17) (hI := d_Findings_countWithout_17) (hr := by decide) (hv := by decide) ?_
    refine xr_icmp_ge (pc := 19) (tgt := 57) (hI := d_Findings_countWithout_19) (ht := by decide) (fun q9 => ?_) (fun q9 => ?_)
    · replace hyp := hyp.1 q9
      have q5_ := q9
      clear q9
      refine xr_iload (pc := 57) (i := 4) (hI := d_Findings_countWithout_57) (hl := rfl) ?_
      refine xr_ireturn (S := []) (pc := 59) (hI := d_Findings_countWithout_59) (hr := rfl) ?_
      exact hyp
    · replace hyp := hyp.2 q9
      have q5_ := q9
      clear q9
      refine xr_aload_n (pc := 22) (i := 3) (hI := d_Findings_countWithout_22) (hi := rfl) (hl := rfl) ?_
      refine xr_iload (pc := 23) (i := 5) (hI := d_Findings_countWithout_23) (hl := rfl) ?_
      obtain ⟨c6_, hyp⟩ := hyp
      refine xq_callV (pc := 25) (index := 63) (K := m_ArrayList_get) (As := [xI x5]) (S := []) (L0 := [xR x3, xI x5]) (hI := d_Findings_countWithout_25) (hK := k_ArrayList_get) (hlk := w_698) (hnoM := rfl) (hS8 := Nat.le_of_ble_eq_true rfl) (ci := 13) (N := 3) (C := "java/util/ArrayList") (T := xF13) (hc := rfl) (hci := Nat.le_of_ble_eq_true rfl) (htb := t1_) (hinst := w_469) (hsel := w_470) (hlen := Nat.le_of_ble_eq_true rfl) (hst := rfl) (hL0 := rfl)  (p_AL_get F c2_ c6_ (by clear hyp; omega) ?_)
      show xwp G m_Findings_countWithout (d + 5) 28 [xR 40, xI x1, xR x2, xR x3, xI x4, xI x5] [xR (alg h x3 x5)] _ _ _
      obtain ⟨c9, hyp⟩ := hyp
      have t7_ := c9
      clear c9
      refine xr_cast (pc := 28) (ci := 9) (T := xF9) (N := 6) (hI := d_Findings_countWithout_28) w_699 rfl (Nat.le_of_ble_eq_true rfl) t7_ ?_
      refine xg_getfZ (pc := 31) (ci := 9) (k := 5) (N := 6) (v := (xpl h (alg h x3 x5) 5)) (T := xF9) (hI := d_Findings_countWithout_31) (hw := w_133) rfl xi9 (Or.inl rfl) (Nat.le_of_ble_eq_true rfl) (Nat.le_of_ble_eq_true rfl) rfl t7_ rfl (fun f8_ => ?_)
      refine xr_if_ne (pc := 34) (tgt := 51) (hI := d_Findings_countWithout_34) (ht := by decide) (fun q9 => ?_) (fun q9 => ?_)
      · replace hyp := hyp.2 q9
        have q9_ := q9
        clear q9
        refine xr_iinc (pc := 51) (i := 5) (L9 := [xR 40, xI x1, xR x2, xR x3, xI x4, xI (x5 + 1)]) (hI := d_Findings_countWithout_51) (hl := rfl) (hn := Nat.le_of_ble_eq_true rfl) (hr := ⟨by clear hyp; omega, by clear hyp; omega⟩) (hL9 := rfl) ?_
        refine xr_goto (pc := 54) (tgt := 6) (hI := d_Findings_countWithout_54) (ht := by decide) ?_
        exact hyp
      · replace hyp := hyp.1 q9
        have q9_ := q9
        clear q9
        refine xr_aload_n (pc := 37) (i := 0) (hI := d_Findings_countWithout_37) (hi := rfl) (hl := rfl) ?_
        refine xr_iload_n (pc := 38) (i := 1) (hI := d_Findings_countWithout_38) (hi := rfl) (hl := rfl) ?_
        refine xr_aload_n (pc := 39) (i := 2) (hI := d_Findings_countWithout_39) (hi := rfl) (hl := rfl) ?_
        refine xr_iload (pc := 40) (i := 5) (hI := d_Findings_countWithout_40) (hl := rfl) ?_
        exact xq_callV (pc := 42) (index := 132) (K := m_Findings_isFoundWithout) (As := [xI x1, xR x2, xI x5]) (S := []) (L0 := [xR 40, xI x1, xR x2, xI x5, xZ, xZ]) (hI := d_Findings_countWithout_42) (hK := k_Findings_isFoundWithout) (hlk := w_1334) (hnoM := rfl) (hS8 := Nat.le_of_ble_eq_true rfl) (ci := 1) (N := 6) (C := "BeaconIndex$Findings") (T := xF1) (hc := rfl) (hci := Nat.le_of_ble_eq_true rfl) (htb := (ft_40 F)) (hinst := w_1336) (hsel := sel_Findings_isFoundWithout) (hlen := Nat.le_of_ble_eq_true rfl) (hst := rfl) (hL0 := rfl)  hyp
theorem d_Findings_countWithout_45 : decode prog_2_method_10_code 45 = .ok (.ifCond .eq 6, 3) := by decide +kernel
theorem d_Findings_countWithout_48 : decode prog_2_method_10_code 48 = .ok (.iinc 4 1, 3) := by decide +kernel
theorem v_Findings_countWithout_45 {G : XG} {d : Nat} {h : XH} {Q : XV → XH → Prop} {X : Nat → XH → Prop} {x1 x2 x3 x4 x5 s0 : Int} (F : xFix h) (hyp : ((s0 = 0 → xiR (x5 + 1) ∧ (xwp G m_Findings_countWithout (d + 5) 6 [xR 40, xI x1, xR x2, xR x3, xI x4, xI (x5 + 1)] [] h Q X)) ∧ (¬ s0 = 0 → xiR (x4 + 1) ∧ xiR (x5 + 1) ∧ (xwp G m_Findings_countWithout (d + 5) 6 [xR 40, xI x1, xR x2, xR x3, xI (x4 + 1), xI (x5 + 1)] [] h Q X)))) : xwp G m_Findings_countWithout (d + 5) 45 [xR 40, xI x1, xR x2, xR x3, xI x4, xI x5] [xI s0] h Q X := by
  have hnx9 : (93 : Int) ≤ xnx h := F.2.2
  refine xr_okL (fun hl9 => ?_)
  have r_x1 : -2147483648 ≤ x1 ∧ x1 ≤ 2147483647 := hl9 (xI x1) (.tail _ (.head _)) (Nat.le_of_ble_eq_true rfl)
  have r_x4 : -2147483648 ≤ x4 ∧ x4 ≤ 2147483647 := hl9 (xI x4) (.tail _ (.tail _ (.tail _ (.tail _ (.head _))))) (Nat.le_of_ble_eq_true rfl)
  have r_x5 : -2147483648 ≤ x5 ∧ x5 ≤ 2147483647 := hl9 (xI x5) (.tail _ (.tail _ (.tail _ (.tail _ (.tail _ (.head _)))))) (Nat.le_of_ble_eq_true rfl)
  refine xr_okS (fun hs9 => ?_)
  have r_s0 : -2147483648 ≤ s0 ∧ s0 ≤ 2147483647 := hs9 (xI s0) (.head _)
  refine xr_if_eq (pc := 45) (tgt := 51) (hI := d_Findings_countWithout_45) (ht := by decide) (fun q9 => ?_) (fun q9 => ?_)
  · replace hyp := hyp.1 q9
    have q1_ := q9
    clear q9
    obtain ⟨c9, hyp⟩ := hyp
    refine xr_iinc (pc := 51) (i := 5) (L9 := [xR 40, xI x1, xR x2, xR x3, xI x4, xI (x5 + 1)]) (hI := d_Findings_countWithout_51) (hl := rfl) (hn := Nat.le_of_ble_eq_true rfl) (hr := c9) (hL9 := rfl) ?_
    refine xr_goto (pc := 54) (tgt := 6) (hI := d_Findings_countWithout_54) (ht := by decide) ?_
    exact hyp
  · replace hyp := hyp.2 q9
    have q1_ := q9
    clear q9
    obtain ⟨c9, hyp⟩ := hyp
    refine xr_iinc (pc := 48) (i := 4) (L9 := [xR 40, xI x1, xR x2, xR x3, xI (x4 + 1), xI x5]) (hI := d_Findings_countWithout_48) (hl := rfl) (hn := Nat.le_of_ble_eq_true rfl) (hr := c9) (hL9 := rfl) ?_
    obtain ⟨c9, hyp⟩ := hyp
    refine xr_iinc (pc := 51) (i := 5) (L9 := [xR 40, xI x1, xR x2, xR x3, xI (x4 + 1), xI (x5 + 1)]) (hI := d_Findings_countWithout_51) (hl := rfl) (hn := Nat.le_of_ble_eq_true rfl) (hr := c9) (hL9 := rfl) ?_
    refine xr_goto (pc := 54) (tgt := 6) (hI := d_Findings_countWithout_54) (ht := by decide) ?_
    exact hyp

end
