/-! ===== parts ===== -/
section
abbrev m_Part_isLookedForIn : XM := (⟨"BeaconIndex$Part", "isLookedForIn", "(I)Z"⟩, prog_5_method_2_code, 2, (some .boolean), [])
theorem d_Part_isLookedForIn_0 : decode prog_5_method_2_code 0 = .ok (.aload_n 0, 1) := by decide +kernel
theorem d_Part_isLookedForIn_1 : decode prog_5_method_2_code 1 = .ok (.getfield 47, 3) := by decide +kernel
theorem w_228 : Cond.fieldLink "BeaconIndex$Part" 47 "BeaconIndex$Part" "kind" "I" ∈ lw_tbl := List.mem_append_right _ (List.mem_of_getElem? (i := 228) (by decide +kernel))
theorem d_Part_isLookedForIn_4 : decode prog_5_method_2_code 4 = .ok (.iconst 3, 1) := by decide +kernel
theorem d_Part_isLookedForIn_5 : decode prog_5_method_2_code 5 = .ok (.if_icmp .eq 23, 3) := by decide +kernel
theorem d_Part_isLookedForIn_28 : decode prog_5_method_2_code 28 = .ok (.iconst 0, 1) := by decide +kernel
theorem d_Part_isLookedForIn_29 : decode prog_5_method_2_code 29 = .ok (.ireturn, 1) := by decide +kernel
theorem d_Part_isLookedForIn_8 : decode prog_5_method_2_code 8 = .ok (.aload_n 0, 1) := by decide +kernel
theorem d_Part_isLookedForIn_9 : decode prog_5_method_2_code 9 = .ok (.getfield 40, 3) := by decide +kernel
theorem w_220 : Cond.fieldLink "BeaconIndex$Part" 40 "BeaconIndex$Part" "field" "I" ∈ lw_tbl := List.mem_append_right _ (List.mem_of_getElem? (i := 220) (by decide +kernel))
theorem d_Part_isLookedForIn_12 : decode prog_5_method_2_code 12 = .ok (.iconst 2, 1) := by decide +kernel
theorem d_Part_isLookedForIn_13 : decode prog_5_method_2_code 13 = .ok (.if_icmp .eq 11, 3) := by decide +kernel
theorem d_Part_isLookedForIn_24 : decode prog_5_method_2_code 24 = .ok (.iconst 1, 1) := by decide +kernel
theorem d_Part_isLookedForIn_25 : decode prog_5_method_2_code 25 = .ok (.goto 4, 3) := by decide +kernel
theorem d_Part_isLookedForIn_16 : decode prog_5_method_2_code 16 = .ok (.aload_n 0, 1) := by decide +kernel
theorem d_Part_isLookedForIn_17 : decode prog_5_method_2_code 17 = .ok (.getfield 40, 3) := by decide +kernel
theorem d_Part_isLookedForIn_20 : decode prog_5_method_2_code 20 = .ok (.iload_n 1, 1) := by decide +kernel
theorem d_Part_isLookedForIn_21 : decode prog_5_method_2_code 21 = .ok (.if_icmp .ne 7, 3) := by decide +kernel
theorem v_Part_isLookedForIn_0 {G : XG} {d : Nat} {h : XH} {Q : XV → XH → Prop} {X : Nat → XH → Prop} {x0 x1 : Int} (F : xFix h) (hyp : xtg h x0 = 4 ∧ (((xpl h x0 5) = 3 → (Q (xI 0) h)) ∧ (¬ (xpl h x0 5) = 3 → (((xpl h x0 2) = 2 → (Q (xI 1) h)) ∧ (¬ (xpl h x0 2) = 2 → (((xpl h x0 2) = x1 → (Q (xI 1) h)) ∧ (¬ (xpl h x0 2) = x1 → (Q (xI 0) h)))))))) : xwp G m_Part_isLookedForIn (d + 1) 0 [xR x0, xI x1] [] h Q X := by
  have hnx9 : (93 : Int) ≤ xnx h := F.2.2
  refine xr_okL (fun hl9 => ?_)
  have r_x1 : -2147483648 ≤ x1 ∧ x1 ≤ 2147483647 := hl9 (xI x1) (.tail _ (.head _)) (Nat.le_of_ble_eq_true rfl)
  refine xr_aload_n (pc := 0) (i := 0) (hI := d_Part_isLookedForIn_0) (hi := rfl) (hl := rfl) ?_
  obtain ⟨c9, hyp⟩ := hyp
  have t1_ := c9
  clear c9
  refine xg_getf (pc := 1) (ci := 4) (k := 5) (N := 13) (v9 := 0) (v := (xpl h x0 5)) (T := xF4) (hI := d_Part_isLookedForIn_1) (hw := w_228) rfl xi4 (Or.inl rfl) (Nat.le_of_ble_eq_true rfl) (Nat.le_of_ble_eq_true rfl) rfl t1_ rfl (fun f2_ => ?_)
  replace f2_ : -2147483648 ≤ (xpl h x0 5) ∧ (xpl h x0 5) ≤ 2147483647 := f2_
  refine xr_iconst (pc := 4) (hI := d_Part_isLookedForIn_4) (hr := by decide) ?_
  refine xr_icmp_eq (pc := 5) (tgt := 28) (hI := d_Part_isLookedForIn_5) (ht := by decide) (fun q9 => ?_) (fun q9 => ?_)
  · replace hyp := hyp.1 q9
    have q3_ := q9
    clear q9
    refine xr_iconst (pc := 28) (hI := d_Part_isLookedForIn_28) (hr := by decide) ?_
    refine xr_ireturnT (S := []) (pc := 29) (hI := d_Part_isLookedForIn_29) (hr := rfl) (xnar_z (by decide)) ?_
    exact hyp
  · replace hyp := hyp.2 q9
    have q3_ := q9
    clear q9
    refine xr_aload_n (pc := 8) (i := 0) (hI := d_Part_isLookedForIn_8) (hi := rfl) (hl := rfl) ?_
    refine xg_getf (pc := 9) (ci := 4) (k := 2) (N := 13) (v9 := 0) (v := (xpl h x0 2)) (T := xF4) (hI := d_Part_isLookedForIn_9) (hw := w_220) rfl xi4 (Or.inl rfl) (Nat.le_of_ble_eq_true rfl) (Nat.le_of_ble_eq_true rfl) rfl t1_ rfl (fun f4_ => ?_)
    replace f4_ : -2147483648 ≤ (xpl h x0 2) ∧ (xpl h x0 2) ≤ 2147483647 := f4_
    refine xr_iconst (pc := 12) (hI := d_Part_isLookedForIn_12) (hr := by decide) ?_
    refine xr_icmp_eq (pc := 13) (tgt := 24) (hI := d_Part_isLookedForIn_13) (ht := by decide) (fun q9 => ?_) (fun q9 => ?_)
    · replace hyp := hyp.1 q9
      have q5_ := q9
      clear q9
      refine xr_iconst (pc := 24) (hI := d_Part_isLookedForIn_24) (hr := by decide) ?_
      refine xr_goto (pc := 25) (tgt := 29) (hI := d_Part_isLookedForIn_25) (ht := by decide) ?_
      refine xr_ireturnT (S := []) (pc := 29) (hI := d_Part_isLookedForIn_29) (hr := rfl) (xnar_z (by decide)) ?_
      exact hyp
    · replace hyp := hyp.2 q9
      have q5_ := q9
      clear q9
      refine xr_aload_n (pc := 16) (i := 0) (hI := d_Part_isLookedForIn_16) (hi := rfl) (hl := rfl) ?_
      refine xg_getf (pc := 17) (ci := 4) (k := 2) (N := 13) (v9 := 0) (v := (xpl h x0 2)) (T := xF4) (hI := d_Part_isLookedForIn_17) (hw := w_220) rfl xi4 (Or.inl rfl) (Nat.le_of_ble_eq_true rfl) (Nat.le_of_ble_eq_true rfl) rfl t1_ rfl (fun f6_ => ?_)
      replace f6_ : -2147483648 ≤ (xpl h x0 2) ∧ (xpl h x0 2) ≤ 2147483647 := f6_
      refine xr_iload_n (pc := 20) (i := 1) (hI := d_Part_isLookedForIn_20) (hi := rfl) (hl := rfl) ?_
      refine xr_icmp_ne (pc := 21) (tgt := 28) (hI := d_Part_isLookedForIn_21) (ht := by decide) (fun q9 => ?_) (fun q9 => ?_)
      · replace hyp := hyp.2 q9
        have q7_ := q9
        clear q9
        refine xr_iconst (pc := 28) (hI := d_Part_isLookedForIn_28) (hr := by decide) ?_
        refine xr_ireturnT (S := []) (pc := 29) (hI := d_Part_isLookedForIn_29) (hr := rfl) (xnar_z (by decide)) ?_
        exact hyp
      · replace hyp := hyp.1 q9
        have q7_ := q9
        clear q9
        refine xr_iconst (pc := 24) (hI := d_Part_isLookedForIn_24) (hr := by decide) ?_
        refine xr_goto (pc := 25) (tgt := 29) (hI := d_Part_isLookedForIn_25) (ht := by decide) ?_
        refine xr_ireturnT (S := []) (pc := 29) (hI := d_Part_isLookedForIn_29) (hr := rfl) (xnar_z (by decide)) ?_
        exact hyp
abbrev m_Part_firstWord : XM := (⟨"BeaconIndex$Part", "firstWord", "()J"⟩, prog_5_method_3_code, 2, (some .long), [])
theorem d_Part_firstWord_0 : decode prog_5_method_3_code 0 = .ok (.iconst 0, 1) := by decide +kernel
theorem d_Part_firstWord_1 : decode prog_5_method_3_code 1 = .ok (.istore_n 1, 1) := by decide +kernel
theorem v_Part_firstWord_0 {G : XG} {d : Nat} {h : XH} {Q : XV → XH → Prop} {X : Nat → XH → Prop} {x0 : Int} (F : xFix h) (hyp : (xwp G m_Part_firstWord (d + 1) 2 [xR x0, xI 0] [] h Q X)) : xwp G m_Part_firstWord (d + 1) 0 [xR x0, xZ] [] h Q X := by
  have hnx9 : (93 : Int) ≤ xnx h := F.2.2
  refine xr_iconst (pc := 0) (hI := d_Part_firstWord_0) (hr := by decide) ?_
  refine xr_istore_n (pc := 1) (i := 1) (L9 := [xR x0, xI 0]) (hI := d_Part_firstWord_1) (hi := rfl) (hn := Nat.le_of_ble_eq_true rfl) (hL9 := rfl) ?_
  exact hyp
theorem d_Part_firstWord_2 : decode prog_5_method_3_code 2 = .ok (.iload_n 1, 1) := by decide +kernel
theorem d_Part_firstWord_3 : decode prog_5_method_3_code 3 = .ok (.aload_n 0, 1) := by decide +kernel
theorem d_Part_firstWord_4 : decode prog_5_method_3_code 4 = .ok (.getfield 50, 3) := by decide +kernel
theorem w_225 : Cond.fieldLink "BeaconIndex$Part" 50 "BeaconIndex$Part" "words" "[J" ∈ lw_tbl := List.mem_append_right _ (List.mem_of_getElem? (i := 225) (by decide +kernel))
theorem d_Part_firstWord_7 : decode prog_5_method_3_code 7 = .ok (.arraylength, 1) := by decide +kernel
theorem d_Part_firstWord_8 : decode prog_5_method_3_code 8 = .ok (.if_icmp .ge 27, 3) := by decide +kernel
theorem d_Part_firstWord_35 : decode prog_5_method_3_code 35 = .ok (.lconst 0, 1) := by decide +kernel
theorem d_Part_firstWord_36 : decode prog_5_method_3_code 36 = .ok (.lreturn, 1) := by decide +kernel
theorem d_Part_firstWord_11 : decode prog_5_method_3_code 11 = .ok (.aload_n 0, 1) := by decide +kernel
theorem d_Part_firstWord_12 : decode prog_5_method_3_code 12 = .ok (.getfield 50, 3) := by decide +kernel
theorem d_Part_firstWord_15 : decode prog_5_method_3_code 15 = .ok (.iload_n 1, 1) := by decide +kernel
theorem d_Part_firstWord_16 : decode prog_5_method_3_code 16 = .ok (.laload, 1) := by decide +kernel
theorem d_Part_firstWord_17 : decode prog_5_method_3_code 17 = .ok (.lconst 0, 1) := by decide +kernel
theorem d_Part_firstWord_18 : decode prog_5_method_3_code 18 = .ok (.lcmp, 1) := by decide +kernel
theorem d_Part_firstWord_19 : decode prog_5_method_3_code 19 = .ok (.ifCond .eq 10, 3) := by decide +kernel
theorem d_Part_firstWord_29 : decode prog_5_method_3_code 29 = .ok (.iinc 1 1, 3) := by decide +kernel
theorem d_Part_firstWord_32 : decode prog_5_method_3_code 32 = .ok (.goto (-30), 3) := by decide +kernel
theorem d_Part_firstWord_22 : decode prog_5_method_3_code 22 = .ok (.aload_n 0, 1) := by decide +kernel
theorem d_Part_firstWord_23 : decode prog_5_method_3_code 23 = .ok (.getfield 50, 3) := by decide +kernel
theorem d_Part_firstWord_26 : decode prog_5_method_3_code 26 = .ok (.iload_n 1, 1) := by decide +kernel
theorem d_Part_firstWord_27 : decode prog_5_method_3_code 27 = .ok (.laload, 1) := by decide +kernel
theorem d_Part_firstWord_28 : decode prog_5_method_3_code 28 = .ok (.lreturn, 1) := by decide +kernel
theorem v_Part_firstWord_2 {G : XG} {d : Nat} {h : XH} {Q : XV → XH → Prop} {X : Nat → XH → Prop} {x0 x1 : Int} (F : xFix h) (hyp : xtg h x0 = 4 ∧ xtg h (xpl h x0 4) = 101 ∧ (((xln h (xpl h x0 4)) ≤ x1 → (Q (xL 0) h)) ∧ (¬ (xln h (xpl h x0 4)) ≤ x1 → 0 ≤ x1 ∧ (((xpl h (xpl h x0 4) x1) = 0 → (xwp G m_Part_firstWord (d + 1) 2 [xR x0, xI (x1 + 1)] [] h Q X)) ∧ (¬ (xpl h (xpl h x0 4) x1) = 0 → (Q (xL (xpl h (xpl h x0 4) x1)) h)))))) : xwp G m_Part_firstWord (d + 1) 2 [xR x0, xI x1] [] h Q X := by
  have hnx9 : (93 : Int) ≤ xnx h := F.2.2
  refine xr_okL (fun hl9 => ?_)
  have r_x1 : -2147483648 ≤ x1 ∧ x1 ≤ 2147483647 := hl9 (xI x1) (.tail _ (.head _)) (Nat.le_of_ble_eq_true rfl)
  refine xr_iload_n (pc := 2) (i := 1) (hI := d_Part_firstWord_2) (hi := rfl) (hl := rfl) ?_
  refine xr_aload_n (pc := 3) (i := 0) (hI := d_Part_firstWord_3) (hi := rfl) (hl := rfl) ?_
  obtain ⟨c9, hyp⟩ := hyp
  have t1_ := c9
  clear c9
  refine xg_getf (pc := 4) (ci := 4) (k := 4) (N := 13) (v9 := 2) (v := (xpl h x0 4)) (T := xF4) (hI := d_Part_firstWord_4) (hw := w_225) rfl xi4 (Or.inl rfl) (Nat.le_of_ble_eq_true rfl) (Nat.le_of_ble_eq_true rfl) rfl t1_ rfl (fun f2_ => ?_)
  clear f2_
  obtain ⟨c9, hyp⟩ := hyp
  have t3_ := c9
  clear c9
  refine xg_alen (pc := 7) (t := 101) (v := (xln h (xpl h x0 4))) (hI := d_Part_firstWord_7) t3_ (Nat.le_of_ble_eq_true rfl) (Nat.le_of_ble_eq_true rfl) rfl rfl (fun f4_ f5_ => ?_)
  refine xr_icmp_ge (pc := 8) (tgt := 35) (hI := d_Part_firstWord_8) (ht := by decide) (fun q9 => ?_) (fun q9 => ?_)
  · replace hyp := hyp.1 q9
    have q6_ := q9
    clear q9
    refine xr_lconst (pc := 35) (z := 0) (hI := d_Part_firstWord_35) (hr := by decide) (hv := by decide) ?_
    refine xr_lreturn (S := []) (pc := 36) (hI := d_Part_firstWord_36) (hr := rfl) ?_
    exact hyp
  · replace hyp := hyp.2 q9
    have q6_ := q9
    clear q9
    refine xr_aload_n (pc := 11) (i := 0) (hI := d_Part_firstWord_11) (hi := rfl) (hl := rfl) ?_
    refine xg_getf (pc := 12) (ci := 4) (k := 4) (N := 13) (v9 := 2) (v := (xpl h x0 4)) (T := xF4) (hI := d_Part_firstWord_12) (hw := w_225) rfl xi4 (Or.inl rfl) (Nat.le_of_ble_eq_true rfl) (Nat.le_of_ble_eq_true rfl) rfl t1_ rfl (fun f7_ => ?_)
    clear f7_
    refine xr_iload_n (pc := 15) (i := 1) (hI := d_Part_firstWord_15) (hi := rfl) (hl := rfl) ?_
    obtain ⟨c8_, hyp⟩ := hyp
    refine xg_laload (pc := 16) (v := (xpl h (xpl h x0 4) x1)) (hI := d_Part_firstWord_16) t3_ c8_ (xlt_of rfl (by clear hyp; omega)) rfl (fun f9_ => ?_)
    replace f9_ : -9223372036854775808 ≤ (xpl h (xpl h x0 4) x1) ∧ (xpl h (xpl h x0 4) x1) ≤ 9223372036854775807 := f9_
    refine xr_lconst (pc := 17) (z := 0) (hI := d_Part_firstWord_17) (hr := by decide) (hv := by decide) ?_
    refine xr_lcmp (pc := 18) (hI := d_Part_firstWord_18) ?_
    refine xg_lif_eq (pc := 19) (tgt := 29) (hI := d_Part_firstWord_19) (ht := by decide) (fun q9 => ?_) (fun q9 => ?_)
    · replace hyp := hyp.1 q9
      have q10_ := q9
      clear q9
      refine xr_iinc (pc := 29) (i := 1) (L9 := [xR x0, xI (x1 + 1)]) (hI := d_Part_firstWord_29) (hl := rfl) (hn := Nat.le_of_ble_eq_true rfl) (hr := ⟨by clear hyp; omega, by clear hyp; omega⟩) (hL9 := rfl) ?_
      refine xr_goto (pc := 32) (tgt := 2) (hI := d_Part_firstWord_32) (ht := by decide) ?_
      exact hyp
    · replace hyp := hyp.2 q9
      have q10_ := q9
      clear q9
      refine xr_aload_n (pc := 22) (i := 0) (hI := d_Part_firstWord_22) (hi := rfl) (hl := rfl) ?_
      refine xg_getf (pc := 23) (ci := 4) (k := 4) (N := 13) (v9 := 2) (v := (xpl h x0 4)) (T := xF4) (hI := d_Part_firstWord_23) (hw := w_225) rfl xi4 (Or.inl rfl) (Nat.le_of_ble_eq_true rfl) (Nat.le_of_ble_eq_true rfl) rfl t1_ rfl (fun f11_ => ?_)
      clear f11_
      refine xr_iload_n (pc := 26) (i := 1) (hI := d_Part_firstWord_26) (hi := rfl) (hl := rfl) ?_
      refine xg_laload (pc := 27) (v := (xpl h (xpl h x0 4) x1)) (hI := d_Part_firstWord_27) t3_ (by clear hyp; omega) (xlt_of rfl (by clear hyp; omega)) rfl (fun f12_ => ?_)
      replace f12_ : -9223372036854775808 ≤ (xpl h (xpl h x0 4) x1) ∧ (xpl h (xpl h x0 4) x1) ≤ 9223372036854775807 := f12_
      refine xr_lreturn (S := []) (pc := 28) (hI := d_Part_firstWord_28) (hr := rfl) ?_
      exact hyp
abbrev m_Fits_capped : XM := (⟨"BeaconIndex$Fits", "capped", "(I)I"⟩, prog_3_method_12_code, 1, (some .int), [])
theorem d_Fits_capped_0 : decode prog_3_method_12_code 0 = .ok (.iload_n 0, 1) := by decide +kernel
theorem d_Fits_capped_1 : decode prog_3_method_12_code 1 = .ok (.ldc 127, 2) := by decide +kernel
theorem w_724 : Cond.constant "BeaconIndex$Fits" 127 (1000000 : Int32) ∈ lw_tbl := List.mem_append_right _ (List.mem_of_getElem? (i := 724) (by decide +kernel))
theorem d_Fits_capped_3 : decode prog_3_method_12_code 3 = .ok (.invokestatic 128, 3) := by decide +kernel
theorem w_725 : Cond.methodLink "BeaconIndex$Fits" 128 ⟨"java/lang/Math", "min", "(II)I"⟩ ∈ lw_tbl := List.mem_append_right _ (List.mem_of_getElem? (i := 725) (by decide +kernel))
theorem d_Fits_capped_6 : decode prog_3_method_12_code 6 = .ok (.ireturn, 1) := by decide +kernel
theorem v_Fits_capped_0 {G : XG} {d : Nat} {h : XH} {Q : XV → XH → Prop} {X : Nat → XH → Prop} {x0 : Int} (F : xFix h) (hyp : (Q (xI (min x0 1000000)) h)) : xwp G m_Fits_capped (d + 2) 0 [xI x0] [] h Q X := by
  have hnx9 : (93 : Int) ≤ xnx h := F.2.2
  refine xr_okL (fun hl9 => ?_)
  have r_x0 : -2147483648 ≤ x0 ∧ x0 ≤ 2147483647 := hl9 (xI x0) (.head _) (Nat.le_of_ble_eq_true rfl)
  refine xr_iload_n (pc := 0) (i := 0) (hI := d_Fits_capped_0) (hi := rfl) (hl := rfl) ?_
  refine xr_ldc (pc := 1) (z := 1000000) (hI := d_Fits_capped_1) (hw := w_724) (hr := by decide) (hv := by decide) ?_
  refine xr_mmin (pc := 3) (index := 128) (hI := d_Fits_capped_3) w_725 w_542 w_25 w_mmin (Nat.le_add_left_of_le (by decide)) (Nat.le_of_ble_eq_true rfl) ?_
  have f1_ : (min x0 1000000) ≤ x0 := (by clear hyp; omega)
  have f2_ : (min x0 1000000) ≤ 1000000 := (by clear hyp; omega)
  have f3_ : (-2147483648) ≤ (min x0 1000000) := (by clear hyp; omega)
  refine xr_ireturn (S := []) (pc := 6) (hI := d_Fits_capped_6) (hr := rfl) ?_
  exact hyp
abbrev m_Question_forgetText : XM := (⟨"BeaconIndex$Question", "forgetText", "()V"⟩, prog_6_method_2_code, 1, none, [])
theorem d_Question_forgetText_0 : decode prog_6_method_2_code 0 = .ok (.aload_n 0, 1) := by decide +kernel
theorem d_Question_forgetText_1 : decode prog_6_method_2_code 1 = .ok (.iconst 0, 1) := by decide +kernel
theorem d_Question_forgetText_2 : decode prog_6_method_2_code 2 = .ok (.putfield 16, 3) := by decide +kernel
theorem w_291 : Cond.fieldLink "BeaconIndex$Question" 16 "BeaconIndex$Question" "hasPlus" "Z" ∈ lw_tbl := List.mem_append_right _ (List.mem_of_getElem? (i := 291) (by decide +kernel))
theorem xtk_5_1 : xfTK 5 1 = true := by decide +kernel
theorem d_Question_forgetText_5 : decode prog_6_method_2_code 5 = .ok (.aload_n 0, 1) := by decide +kernel
theorem d_Question_forgetText_6 : decode prog_6_method_2_code 6 = .ok (.iconst 0, 1) := by decide +kernel
theorem d_Question_forgetText_7 : decode prog_6_method_2_code 7 = .ok (.putfield 20, 3) := by decide +kernel
theorem w_292 : Cond.fieldLink "BeaconIndex$Question" 20 "BeaconIndex$Question" "isRefused" "Z" ∈ lw_tbl := List.mem_append_right _ (List.mem_of_getElem? (i := 292) (by decide +kernel))
theorem xtk_5_2 : xfTK 5 2 = true := by decide +kernel
theorem d_Question_forgetText_10 : decode prog_6_method_2_code 10 = .ok (.aload_n 0, 1) := by decide +kernel
theorem d_Question_forgetText_11 : decode prog_6_method_2_code 11 = .ok (.iconst 0, 1) := by decide +kernel
theorem d_Question_forgetText_12 : decode prog_6_method_2_code 12 = .ok (.putfield 23, 3) := by decide +kernel
theorem w_293 : Cond.fieldLink "BeaconIndex$Question" 23 "BeaconIndex$Question" "isTouched" "Z" ∈ lw_tbl := List.mem_append_right _ (List.mem_of_getElem? (i := 293) (by decide +kernel))
theorem xtk_5_3 : xfTK 5 3 = true := by decide +kernel
theorem d_Question_forgetText_15 : decode prog_6_method_2_code 15 = .ok (.aload_n 0, 1) := by decide +kernel
theorem d_Question_forgetText_16 : decode prog_6_method_2_code 16 = .ok (.iconst 0, 1) := by decide +kernel
theorem d_Question_forgetText_17 : decode prog_6_method_2_code 17 = .ok (.putfield 26, 3) := by decide +kernel
theorem w_294 : Cond.fieldLink "BeaconIndex$Question" 26 "BeaconIndex$Question" "weight" "I" ∈ lw_tbl := List.mem_append_right _ (List.mem_of_getElem? (i := 294) (by decide +kernel))
theorem xtk_5_4 : xfTK 5 4 = true := by decide +kernel
theorem d_Question_forgetText_20 : decode prog_6_method_2_code 20 = .ok (.return_, 1) := by decide +kernel
theorem v_Question_forgetText_0 {G : XG} {d : Nat} {h : XH} {Q : XV → XH → Prop} {X : Nat → XH → Prop} {x0 : Int} (F : xFix h) (hyp : xtg h x0 = 5 ∧ 0 ≤ x0 ∧ (xFix (xst (xst (xst (xst h x0 1 0) x0 2 0) x0 3 0) x0 4 0) → Q xN (xst (xst (xst (xst h x0 1 0) x0 2 0) x0 3 0) x0 4 0))) : xwp G m_Question_forgetText (d + 1) 0 [xR x0] [] h Q X := by
  have hnx9 : (93 : Int) ≤ xnx h := F.2.2
  refine xr_aload_n (pc := 0) (i := 0) (hI := d_Question_forgetText_0) (hi := rfl) (hl := rfl) ?_
  refine xr_iconst (pc := 1) (hI := d_Question_forgetText_1) (hr := by decide) ?_
  obtain ⟨c9, hyp⟩ := hyp
  have t1_ := c9
  clear c9
  obtain ⟨c2_, hyp⟩ := hyp
  refine xr_putf (pc := 2) (ci := 5) (k := 1) (N := 5) (v9 := 0) (T := xF5) (tF := xT5) (hI := d_Question_forgetText_2) (hw := w_291) rfl xi5 xt5 xn5 (Or.inl rfl) (Nat.le_of_ble_eq_true rfl) (Nat.le_of_ble_eq_true rfl) rfl xfit_z rfl t1_ c2_ (fun _ => (by decide : (0 : Int) ≤ 0 ∧ (0 : Int) ≤ 1)) ?_
  have F3_ : xFix (xst h x0 1 0) := F.stT (t := 5) c2_ t1_ xtk_5_1
  refine xr_aload_n (pc := 5) (i := 0) (hI := d_Question_forgetText_5) (hi := rfl) (hl := rfl) ?_
  refine xr_iconst (pc := 6) (hI := d_Question_forgetText_6) (hr := by decide) ?_
  refine xr_putf (pc := 7) (ci := 5) (k := 2) (N := 5) (v9 := 0) (T := xF5) (tF := xT5) (hI := d_Question_forgetText_7) (hw := w_292) rfl xi5 xt5 xn5 (Or.inl rfl) (Nat.le_of_ble_eq_true rfl) (Nat.le_of_ble_eq_true rfl) rfl xfit_z rfl t1_ (by clear hyp; omega) (fun _ => (by decide : (0 : Int) ≤ 0 ∧ (0 : Int) ≤ 1)) ?_
  have F4_ : xFix (xst (xst h x0 1 0) x0 2 0) := F3_.stT (t := 5) (by clear hyp; omega) t1_ xtk_5_2
  refine xr_aload_n (pc := 10) (i := 0) (hI := d_Question_forgetText_10) (hi := rfl) (hl := rfl) ?_
  refine xr_iconst (pc := 11) (hI := d_Question_forgetText_11) (hr := by decide) ?_
  refine xr_putf (pc := 12) (ci := 5) (k := 3) (N := 5) (v9 := 0) (T := xF5) (tF := xT5) (hI := d_Question_forgetText_12) (hw := w_293) rfl xi5 xt5 xn5 (Or.inl rfl) (Nat.le_of_ble_eq_true rfl) (Nat.le_of_ble_eq_true rfl) rfl xfit_z rfl t1_ (by clear hyp; omega) (fun _ => (by decide : (0 : Int) ≤ 0 ∧ (0 : Int) ≤ 1)) ?_
  have F5_ : xFix (xst (xst (xst h x0 1 0) x0 2 0) x0 3 0) := F4_.stT (t := 5) (by clear hyp; omega) t1_ xtk_5_3
  refine xr_aload_n (pc := 15) (i := 0) (hI := d_Question_forgetText_15) (hi := rfl) (hl := rfl) ?_
  refine xr_iconst (pc := 16) (hI := d_Question_forgetText_16) (hr := by decide) ?_
  refine xr_putf (pc := 17) (ci := 5) (k := 4) (N := 5) (v9 := 0) (T := xF5) (tF := xT5) (hI := d_Question_forgetText_17) (hw := w_294) rfl xi5 xt5 xn5 (Or.inl rfl) (Nat.le_of_ble_eq_true rfl) (Nat.le_of_ble_eq_true rfl) rfl xfit_i rfl t1_ (by clear hyp; omega) (fun z => z) ?_
  have F6_ : xFix (xst (xst (xst (xst h x0 1 0) x0 2 0) x0 3 0) x0 4 0) := F5_.stT (t := 5) (by clear hyp; omega) t1_ xtk_5_4
  refine xr_return (S := []) (pc := 20) (hI := d_Question_forgetText_20) (hr := rfl) ?_
  exact hyp F6_
abbrev m_Question_count : XM := (⟨"BeaconIndex$Question", "count", "(IZI)V"⟩, prog_6_method_3_code, 4, none, [])
theorem d_Question_count_0 : decode prog_6_method_3_code 0 = .ok (.iload_n 1, 1) := by decide +kernel
theorem d_Question_count_1 : decode prog_6_method_3_code 1 = .ok (.bipush 43, 2) := by decide +kernel
theorem d_Question_count_3 : decode prog_6_method_3_code 3 = .ok (.if_icmp .ne 31, 3) := by decide +kernel
theorem d_Question_count_34 : decode prog_6_method_3_code 34 = .ok (.iload_n 1, 1) := by decide +kernel
theorem d_Question_count_35 : decode prog_6_method_3_code 35 = .ok (.bipush 45, 2) := by decide +kernel
theorem d_Question_count_37 : decode prog_6_method_3_code 37 = .ok (.if_icmp .ne 26, 3) := by decide +kernel
theorem d_Question_count_63 : decode prog_6_method_3_code 63 = .ok (.aload_n 0, 1) := by decide +kernel
theorem d_Question_count_64 : decode prog_6_method_3_code 64 = .ok (.aload_n 0, 1) := by decide +kernel
theorem d_Question_count_65 : decode prog_6_method_3_code 65 = .ok (.getfield 23, 3) := by decide +kernel
theorem d_Question_count_68 : decode prog_6_method_3_code 68 = .ok (.ifCond .ne 7, 3) := by decide +kernel
theorem d_Question_count_71 : decode prog_6_method_3_code 71 = .ok (.iload_n 2, 1) := by decide +kernel
theorem d_Question_count_72 : decode prog_6_method_3_code 72 = .ok (.ifCond .eq 7, 3) := by decide +kernel
theorem d_Question_count_79 : decode prog_6_method_3_code 79 = .ok (.iconst 0, 1) := by decide +kernel
theorem d_Question_count_40 : decode prog_6_method_3_code 40 = .ok (.aload_n 0, 1) := by decide +kernel
theorem d_Question_count_41 : decode prog_6_method_3_code 41 = .ok (.aload_n 0, 1) := by decide +kernel
theorem d_Question_count_42 : decode prog_6_method_3_code 42 = .ok (.getfield 20, 3) := by decide +kernel
theorem d_Question_count_45 : decode prog_6_method_3_code 45 = .ok (.ifCond .ne 7, 3) := by decide +kernel
theorem d_Question_count_48 : decode prog_6_method_3_code 48 = .ok (.iload_n 2, 1) := by decide +kernel
theorem d_Question_count_49 : decode prog_6_method_3_code 49 = .ok (.ifCond .eq 7, 3) := by decide +kernel
theorem d_Question_count_56 : decode prog_6_method_3_code 56 = .ok (.iconst 0, 1) := by decide +kernel
theorem d_Question_count_6 : decode prog_6_method_3_code 6 = .ok (.aload_n 0, 1) := by decide +kernel
theorem d_Question_count_7 : decode prog_6_method_3_code 7 = .ok (.iconst 1, 1) := by decide +kernel
theorem d_Question_count_8 : decode prog_6_method_3_code 8 = .ok (.putfield 16, 3) := by decide +kernel
theorem d_Question_count_11 : decode prog_6_method_3_code 11 = .ok (.aload_n 0, 1) := by decide +kernel
theorem d_Question_count_12 : decode prog_6_method_3_code 12 = .ok (.aload_n 0, 1) := by decide +kernel
theorem d_Question_count_13 : decode prog_6_method_3_code 13 = .ok (.getfield 20, 3) := by decide +kernel
theorem d_Question_count_16 : decode prog_6_method_3_code 16 = .ok (.ifCond .ne 7, 3) := by decide +kernel
theorem d_Question_count_19 : decode prog_6_method_3_code 19 = .ok (.iload_n 2, 1) := by decide +kernel
theorem d_Question_count_20 : decode prog_6_method_3_code 20 = .ok (.ifCond .ne 7, 3) := by decide +kernel
theorem d_Question_count_27 : decode prog_6_method_3_code 27 = .ok (.iconst 0, 1) := by decide +kernel
theorem v_Question_count_0 {G : XG} {d : Nat} {h : XH} {Q : XV → XH → Prop} {X : Nat → XH → Prop} {x0 x1 x2 x3 : Int} (F : xFix h) (hyp : ((x1 = 43 → xtg h x0 = 5 ∧ 0 ≤ x0 ∧ (((xpl h x0 2) = 0 → ((x2 = 0 → (xFix (xst h x0 1 1) → xwp G m_Question_count (d + 1) 23 [xR x0, xZ, xZ, xI x3] [xR x0] (xst h x0 1 1) Q X)) ∧ (¬ x2 = 0 → (xFix (xst h x0 1 1) → xwp G m_Question_count (d + 1) 28 [xR x0, xZ, xZ, xI x3] [xI 0, xR x0] (xst h x0 1 1) Q X)))) ∧ (¬ (xpl h x0 2) = 0 → (xFix (xst h x0 1 1) → xwp G m_Question_count (d + 1) 23 [xR x0, xZ, xZ, xI x3] [xR x0] (xst h x0 1 1) Q X)))) ∧ (¬ x1 = 43 → ((x1 = 45 → xtg h x0 = 5 ∧ (((xpl h x0 2) = 0 → ((x2 = 0 → (xwp G m_Question_count (d + 1) 57 [xR x0, xZ, xZ, xI x3] [xI 0, xR x0] h Q X)) ∧ (¬ x2 = 0 → (xwp G m_Question_count (d + 1) 52 [xR x0, xZ, xZ, xI x3] [xR x0] h Q X)))) ∧ (¬ (xpl h x0 2) = 0 → (xwp G m_Question_count (d + 1) 52 [xR x0, xZ, xZ, xI x3] [xR x0] h Q X)))) ∧ (¬ x1 = 45 → xtg h x0 = 5 ∧ (((xpl h x0 3) = 0 → ((x2 = 0 → (xwp G m_Question_count (d + 1) 80 [xR x0, xZ, xZ, xI x3] [xI 0, xR x0] h Q X)) ∧ (¬ x2 = 0 → (xwp G m_Question_count (d + 1) 75 [xR x0, xZ, xZ, xI x3] [xR x0] h Q X)))) ∧ (¬ (xpl h x0 3) = 0 → (xwp G m_Question_count (d + 1) 75 [xR x0, xZ, xZ, xI x3] [xR x0] h Q X)))))))) : xwp G m_Question_count (d + 1) 0 [xR x0, xI x1, xI x2, xI x3] [] h Q X := by
  have hnx9 : (93 : Int) ≤ xnx h := F.2.2
  refine xr_okL (fun hl9 => ?_)
  have r_x1 : -2147483648 ≤ x1 ∧ x1 ≤ 2147483647 := hl9 (xI x1) (.tail _ (.head _)) (Nat.le_of_ble_eq_true rfl)
  have r_x2 : -2147483648 ≤ x2 ∧ x2 ≤ 2147483647 := hl9 (xI x2) (.tail _ (.tail _ (.head _))) (Nat.le_of_ble_eq_true rfl)
  have r_x3 : -2147483648 ≤ x3 ∧ x3 ≤ 2147483647 := hl9 (xI x3) (.tail _ (.tail _ (.tail _ (.head _)))) (Nat.le_of_ble_eq_true rfl)
  refine xr_iload_n (pc := 0) (i := 1) (hI := d_Question_count_0) (hi := rfl) (hl := rfl) ?_
  refine xr_bipush (pc := 1) (hI := d_Question_count_1) (hr := by decide) (hv := by decide) ?_
  refine xr_icmp_ne (pc := 3) (tgt := 34) (hI := d_Question_count_3) (ht := by decide) (fun q9 => ?_) (fun q9 => ?_)
  · replace hyp := hyp.2 q9
    have q1_ := q9
    clear q9
    refine xr_iload_n (pc := 34) (i := 1) (hI := d_Question_count_34) (hi := rfl) (hl := rfl) ?_
    refine xr_bipush (pc := 35) (hI := d_Question_count_35) (hr := by decide) (hv := by decide) ?_
    refine xr_icmp_ne (pc := 37) (tgt := 63) (hI := d_Question_count_37) (ht := by decide) (fun q9 => ?_) (fun q9 => ?_)
    · replace hyp := hyp.2 q9
      have q2_ := q9
      clear q9
      refine xr_aload_n (pc := 63) (i := 0) (hI := d_Question_count_63) (hi := rfl) (hl := rfl) ?_
      refine xr_aload_n (pc := 64) (i := 0) (hI := d_Question_count_64) (hi := rfl) (hl := rfl) ?_
      obtain ⟨c9, hyp⟩ := hyp
      have t3_ := c9
      clear c9
      refine xg_getfZ (pc := 65) (ci := 5) (k := 3) (N := 5) (v := (xpl h x0 3)) (T := xF5) (hI := d_Question_count_65) (hw := w_293) rfl xi5 (Or.inl rfl) (Nat.le_of_ble_eq_true rfl) (Nat.le_of_ble_eq_true rfl) rfl t3_ rfl (fun f4_ => ?_)
      refine xr_if_ne (pc := 68) (tgt := 75) (hI := d_Question_count_68) (ht := by decide) (fun q9 => ?_) (fun q9 => ?_)
      · replace hyp := hyp.2 q9
        have q5_ := q9
        clear q9
        exact xr_drop (L9 := [xR x0, xZ, xZ, xI x3]) (xdrs (xdrz (xdrz (xdrs xdr0)))) hyp
      · replace hyp := hyp.1 q9
        have q5_ := q9
        clear q9
        refine xr_iload_n (pc := 71) (i := 2) (hI := d_Question_count_71) (hi := rfl) (hl := rfl) ?_
        refine xr_if_eq (pc := 72) (tgt := 79) (hI := d_Question_count_72) (ht := by decide) (fun q9 => ?_) (fun q9 => ?_)
        · replace hyp := hyp.1 q9
          have q6_ := q9
          clear q9
          refine xr_iconst (pc := 79) (hI := d_Question_count_79) (hr := by decide) ?_
          exact xr_drop (L9 := [xR x0, xZ, xZ, xI x3]) (xdrs (xdrz (xdrz (xdrs xdr0)))) hyp
        · replace hyp := hyp.2 q9
          have q6_ := q9
          clear q9
          exact xr_drop (L9 := [xR x0, xZ, xZ, xI x3]) (xdrs (xdrz (xdrz (xdrs xdr0)))) hyp
    · replace hyp := hyp.1 q9
      have q2_ := q9
      clear q9
      refine xr_aload_n (pc := 40) (i := 0) (hI := d_Question_count_40) (hi := rfl) (hl := rfl) ?_
      refine xr_aload_n (pc := 41) (i := 0) (hI := d_Question_count_41) (hi := rfl) (hl := rfl) ?_
      obtain ⟨c9, hyp⟩ := hyp
      have t7_ := c9
      clear c9
      refine xg_getfZ (pc := 42) (ci := 5) (k := 2) (N := 5) (v := (xpl h x0 2)) (T := xF5) (hI := d_Question_count_42) (hw := w_292) rfl xi5 (Or.inl rfl) (Nat.le_of_ble_eq_true rfl) (Nat.le_of_ble_eq_true rfl) rfl t7_ rfl (fun f8_ => ?_)
      refine xr_if_ne (pc := 45) (tgt := 52) (hI := d_Question_count_45) (ht := by decide) (fun q9 => ?_) (fun q9 => ?_)
      · replace hyp := hyp.2 q9
        have q9_ := q9
        clear q9
        exact xr_drop (L9 := [xR x0, xZ, xZ, xI x3]) (xdrs (xdrz (xdrz (xdrs xdr0)))) hyp
      · replace hyp := hyp.1 q9
        have q9_ := q9
        clear q9
        refine xr_iload_n (pc := 48) (i := 2) (hI := d_Question_count_48) (hi := rfl) (hl := rfl) ?_
        refine xr_if_eq (pc := 49) (tgt := 56) (hI := d_Question_count_49) (ht := by decide) (fun q9 => ?_) (fun q9 => ?_)
        · replace hyp := hyp.1 q9
          have q10_ := q9
          clear q9
          refine xr_iconst (pc := 56) (hI := d_Question_count_56) (hr := by decide) ?_
          exact xr_drop (L9 := [xR x0, xZ, xZ, xI x3]) (xdrs (xdrz (xdrz (xdrs xdr0)))) hyp
        · replace hyp := hyp.2 q9
          have q10_ := q9
          clear q9
          exact xr_drop (L9 := [xR x0, xZ, xZ, xI x3]) (xdrs (xdrz (xdrz (xdrs xdr0)))) hyp
  · replace hyp := hyp.1 q9
    have q1_ := q9
    clear q9
    refine xr_aload_n (pc := 6) (i := 0) (hI := d_Question_count_6) (hi := rfl) (hl := rfl) ?_
    refine xr_iconst (pc := 7) (hI := d_Question_count_7) (hr := by decide) ?_
    obtain ⟨c9, hyp⟩ := hyp
    have t11_ := c9
    clear c9
    obtain ⟨c12_, hyp⟩ := hyp
    refine xr_putf (pc := 8) (ci := 5) (k := 1) (N := 5) (v9 := 0) (T := xF5) (tF := xT5) (hI := d_Question_count_8) (hw := w_291) rfl xi5 xt5 xn5 (Or.inl rfl) (Nat.le_of_ble_eq_true rfl) (Nat.le_of_ble_eq_true rfl) rfl xfit_z rfl t11_ c12_ (fun _ => (by decide : (0 : Int) ≤ 1 ∧ (1 : Int) ≤ 1)) ?_
    have F13_ : xFix (xst h x0 1 1) := F.stT (t := 5) c12_ t11_ xtk_5_1
    refine xr_aload_n (pc := 11) (i := 0) (hI := d_Question_count_11) (hi := rfl) (hl := rfl) ?_
    refine xr_aload_n (pc := 12) (i := 0) (hI := d_Question_count_12) (hi := rfl) (hl := rfl) ?_
    refine xg_getfZ (pc := 13) (ci := 5) (k := 2) (N := 5) (v := (xpl h x0 2)) (T := xF5) (hI := d_Question_count_13) (hw := w_292) rfl xi5 (Or.inl rfl) (Nat.le_of_ble_eq_true rfl) (Nat.le_of_ble_eq_true rfl) rfl t11_ (xpl_ok (by decide)) (fun f14_ => ?_)
    refine xr_if_ne (pc := 16) (tgt := 23) (hI := d_Question_count_16) (ht := by decide) (fun q9 => ?_) (fun q9 => ?_)
    · replace hyp := hyp.2 q9
      have q15_ := q9
      clear q9
      exact xr_drop (L9 := [xR x0, xZ, xZ, xI x3]) (xdrs (xdrz (xdrz (xdrs xdr0)))) (hyp F13_)
    · replace hyp := hyp.1 q9
      have q15_ := q9
      clear q9
      refine xr_iload_n (pc := 19) (i := 2) (hI := d_Question_count_19) (hi := rfl) (hl := rfl) ?_
      refine xr_if_ne (pc := 20) (tgt := 27) (hI := d_Question_count_20) (ht := by decide) (fun q9 => ?_) (fun q9 => ?_)
      · replace hyp := hyp.2 q9
        have q16_ := q9
        clear q9
        refine xr_iconst (pc := 27) (hI := d_Question_count_27) (hr := by decide) ?_
        exact xr_drop (L9 := [xR x0, xZ, xZ, xI x3]) (xdrs (xdrz (xdrz (xdrs xdr0)))) (hyp F13_)
      · replace hyp := hyp.1 q9
        have q16_ := q9
        clear q9
        exact xr_drop (L9 := [xR x0, xZ, xZ, xI x3]) (xdrs (xdrz (xdrz (xdrs xdr0)))) (hyp F13_)
theorem d_Question_count_23 : decode prog_6_method_3_code 23 = .ok (.iconst 1, 1) := by decide +kernel
theorem d_Question_count_24 : decode prog_6_method_3_code 24 = .ok (.goto 4, 3) := by decide +kernel
theorem v_Question_count_23 {G : XG} {d : Nat} {h : XH} {Q : XV → XH → Prop} {X : Nat → XH → Prop} {x0 x3 s0 : Int} (F : xFix h) (hyp : (xwp G m_Question_count (d + 1) 28 [xR x0, xZ, xZ, xI x3] [xI 1, xR s0] h Q X)) : xwp G m_Question_count (d + 1) 23 [xR x0, xZ, xZ, xI x3] [xR s0] h Q X := by
  have hnx9 : (93 : Int) ≤ xnx h := F.2.2
  refine xr_okL (fun hl9 => ?_)
  have r_x3 : -2147483648 ≤ x3 ∧ x3 ≤ 2147483647 := hl9 (xI x3) (.tail _ (.tail _ (.tail _ (.head _)))) (Nat.le_of_ble_eq_true rfl)
  refine xr_iconst (pc := 23) (hI := d_Question_count_23) (hr := by decide) ?_
  refine xr_goto (pc := 24) (tgt := 28) (hI := d_Question_count_24) (ht := by decide) ?_
  exact hyp
theorem d_Question_count_28 : decode prog_6_method_3_code 28 = .ok (.putfield 20, 3) := by decide +kernel
theorem d_Question_count_31 : decode prog_6_method_3_code 31 = .ok (.goto 52, 3) := by decide +kernel
theorem v_Question_count_28 {G : XG} {d : Nat} {h : XH} {Q : XV → XH → Prop} {X : Nat → XH → Prop} {x0 x3 s0 s1 : Int} (F : xFix h) (hyp : xtg h s1 = 5 ∧ 0 ≤ s1 ∧ (0 ≤ s0 ∧ s0 ≤ 1) ∧ (xFix (xst h s1 2 s0) → xwp G m_Question_count (d + 1) 83 [xR x0, xZ, xZ, xI x3] [] (xst h s1 2 s0) Q X)) : xwp G m_Question_count (d + 1) 28 [xR x0, xZ, xZ, xI x3] [xI s0, xR s1] h Q X := by
  have hnx9 : (93 : Int) ≤ xnx h := F.2.2
  refine xr_okL (fun hl9 => ?_)
  have r_x3 : -2147483648 ≤ x3 ∧ x3 ≤ 2147483647 := hl9 (xI x3) (.tail _ (.tail _ (.tail _ (.head _)))) (Nat.le_of_ble_eq_true rfl)
  refine xr_okS (fun hs9 => ?_)
  have r_s0 : -2147483648 ≤ s0 ∧ s0 ≤ 2147483647 := hs9 (xI s0) (.head _)
  obtain ⟨c9, hyp⟩ := hyp
  have t1_ := c9
  clear c9
  obtain ⟨c2_, hyp⟩ := hyp
  obtain ⟨c3_, hyp⟩ := hyp
  refine xr_putf (pc := 28) (ci := 5) (k := 2) (N := 5) (v9 := 0) (T := xF5) (tF := xT5) (hI := d_Question_count_28) (hw := w_292) rfl xi5 xt5 xn5 (Or.inl rfl) (Nat.le_of_ble_eq_true rfl) (Nat.le_of_ble_eq_true rfl) rfl xfit_z rfl t1_ c2_ (fun _ => c3_) ?_
  have F4_ : xFix (xst h s1 2 s0) := F.stT (t := 5) c2_ t1_ xtk_5_2
  refine xr_goto (pc := 31) (tgt := 83) (hI := d_Question_count_31) (ht := by decide) ?_
  exact (hyp F4_)
theorem d_Question_count_52 : decode prog_6_method_3_code 52 = .ok (.iconst 1, 1) := by decide +kernel
theorem d_Question_count_53 : decode prog_6_method_3_code 53 = .ok (.goto 4, 3) := by decide +kernel
theorem v_Question_count_52 {G : XG} {d : Nat} {h : XH} {Q : XV → XH → Prop} {X : Nat → XH → Prop} {x0 x3 s0 : Int} (F : xFix h) (hyp : (xwp G m_Question_count (d + 1) 57 [xR x0, xZ, xZ, xI x3] [xI 1, xR s0] h Q X)) : xwp G m_Question_count (d + 1) 52 [xR x0, xZ, xZ, xI x3] [xR s0] h Q X := by
  have hnx9 : (93 : Int) ≤ xnx h := F.2.2
  refine xr_okL (fun hl9 => ?_)
  have r_x3 : -2147483648 ≤ x3 ∧ x3 ≤ 2147483647 := hl9 (xI x3) (.tail _ (.tail _ (.tail _ (.head _)))) (Nat.le_of_ble_eq_true rfl)
  refine xr_iconst (pc := 52) (hI := d_Question_count_52) (hr := by decide) ?_
  refine xr_goto (pc := 53) (tgt := 57) (hI := d_Question_count_53) (ht := by decide) ?_
  exact hyp
theorem d_Question_count_57 : decode prog_6_method_3_code 57 = .ok (.putfield 20, 3) := by decide +kernel
theorem d_Question_count_60 : decode prog_6_method_3_code 60 = .ok (.goto 23, 3) := by decide +kernel
theorem v_Question_count_57 {G : XG} {d : Nat} {h : XH} {Q : XV → XH → Prop} {X : Nat → XH → Prop} {x0 x3 s0 s1 : Int} (F : xFix h) (hyp : xtg h s1 = 5 ∧ 0 ≤ s1 ∧ (0 ≤ s0 ∧ s0 ≤ 1) ∧ (xFix (xst h s1 2 s0) → xwp G m_Question_count (d + 1) 83 [xR x0, xZ, xZ, xI x3] [] (xst h s1 2 s0) Q X)) : xwp G m_Question_count (d + 1) 57 [xR x0, xZ, xZ, xI x3] [xI s0, xR s1] h Q X := by
  have hnx9 : (93 : Int) ≤ xnx h := F.2.2
  refine xr_okL (fun hl9 => ?_)
  have r_x3 : -2147483648 ≤ x3 ∧ x3 ≤ 2147483647 := hl9 (xI x3) (.tail _ (.tail _ (.tail _ (.head _)))) (Nat.le_of_ble_eq_true rfl)
  refine xr_okS (fun hs9 => ?_)
  have r_s0 : -2147483648 ≤ s0 ∧ s0 ≤ 2147483647 := hs9 (xI s0) (.head _)
  obtain ⟨c9, hyp⟩ := hyp
  have t1_ := c9
  clear c9
  obtain ⟨c2_, hyp⟩ := hyp
  obtain ⟨c3_, hyp⟩ := hyp
  refine xr_putf (pc := 57) (ci := 5) (k := 2) (N := 5) (v9 := 0) (T := xF5) (tF := xT5) (hI := d_Question_count_57) (hw := w_292) rfl xi5 xt5 xn5 (Or.inl rfl) (Nat.le_of_ble_eq_true rfl) (Nat.le_of_ble_eq_true rfl) rfl xfit_z rfl t1_ c2_ (fun _ => c3_) ?_
  have F4_ : xFix (xst h s1 2 s0) := F.stT (t := 5) c2_ t1_ xtk_5_2
  refine xr_goto (pc := 60) (tgt := 83) (hI := d_Question_count_60) (ht := by decide) ?_
  exact (hyp F4_)
theorem d_Question_count_75 : decode prog_6_method_3_code 75 = .ok (.iconst 1, 1) := by decide +kernel
theorem d_Question_count_76 : decode prog_6_method_3_code 76 = .ok (.goto 4, 3) := by decide +kernel
theorem v_Question_count_75 {G : XG} {d : Nat} {h : XH} {Q : XV → XH → Prop} {X : Nat → XH → Prop} {x0 x3 s0 : Int} (F : xFix h) (hyp : (xwp G m_Question_count (d + 1) 80 [xR x0, xZ, xZ, xI x3] [xI 1, xR s0] h Q X)) : xwp G m_Question_count (d + 1) 75 [xR x0, xZ, xZ, xI x3] [xR s0] h Q X := by
  have hnx9 : (93 : Int) ≤ xnx h := F.2.2
  refine xr_okL (fun hl9 => ?_)
  have r_x3 : -2147483648 ≤ x3 ∧ x3 ≤ 2147483647 := hl9 (xI x3) (.tail _ (.tail _ (.tail _ (.head _)))) (Nat.le_of_ble_eq_true rfl)
  refine xr_iconst (pc := 75) (hI := d_Question_count_75) (hr := by decide) ?_
  refine xr_goto (pc := 76) (tgt := 80) (hI := d_Question_count_76) (ht := by decide) ?_
  exact hyp
theorem d_Question_count_80 : decode prog_6_method_3_code 80 = .ok (.putfield 23, 3) := by decide +kernel
theorem v_Question_count_80 {G : XG} {d : Nat} {h : XH} {Q : XV → XH → Prop} {X : Nat → XH → Prop} {x0 x3 s0 s1 : Int} (F : xFix h) (hyp : xtg h s1 = 5 ∧ 0 ≤ s1 ∧ (0 ≤ s0 ∧ s0 ≤ 1) ∧ (xFix (xst h s1 3 s0) → xwp G m_Question_count (d + 1) 83 [xR x0, xZ, xZ, xI x3] [] (xst h s1 3 s0) Q X)) : xwp G m_Question_count (d + 1) 80 [xR x0, xZ, xZ, xI x3] [xI s0, xR s1] h Q X := by
  have hnx9 : (93 : Int) ≤ xnx h := F.2.2
  refine xr_okL (fun hl9 => ?_)
  have r_x3 : -2147483648 ≤ x3 ∧ x3 ≤ 2147483647 := hl9 (xI x3) (.tail _ (.tail _ (.tail _ (.head _)))) (Nat.le_of_ble_eq_true rfl)
  refine xr_okS (fun hs9 => ?_)
  have r_s0 : -2147483648 ≤ s0 ∧ s0 ≤ 2147483647 := hs9 (xI s0) (.head _)
  obtain ⟨c9, hyp⟩ := hyp
  have t1_ := c9
  clear c9
  obtain ⟨c2_, hyp⟩ := hyp
  obtain ⟨c3_, hyp⟩ := hyp
  refine xr_putf (pc := 80) (ci := 5) (k := 3) (N := 5) (v9 := 0) (T := xF5) (tF := xT5) (hI := d_Question_count_80) (hw := w_293) rfl xi5 xt5 xn5 (Or.inl rfl) (Nat.le_of_ble_eq_true rfl) (Nat.le_of_ble_eq_true rfl) rfl xfit_z rfl t1_ c2_ (fun _ => c3_) ?_
  have F4_ : xFix (xst h s1 3 s0) := F.stT (t := 5) c2_ t1_ xtk_5_3
  exact (hyp F4_)
theorem d_Question_count_83 : decode prog_6_method_3_code 83 = .ok (.aload_n 0, 1) := by decide +kernel
theorem d_Question_count_84 : decode prog_6_method_3_code 84 = .ok (.dup, 1) := by decide +kernel
theorem d_Question_count_85 : decode prog_6_method_3_code 85 = .ok (.getfield 26, 3) := by decide +kernel
theorem d_Question_count_88 : decode prog_6_method_3_code 88 = .ok (.iload_n 3, 1) := by decide +kernel
theorem d_Question_count_89 : decode prog_6_method_3_code 89 = .ok (.iadd, 1) := by decide +kernel
theorem d_Question_count_90 : decode prog_6_method_3_code 90 = .ok (.putfield 26, 3) := by decide +kernel
theorem d_Question_count_93 : decode prog_6_method_3_code 93 = .ok (.return_, 1) := by decide +kernel
theorem v_Question_count_83 {G : XG} {d : Nat} {h : XH} {Q : XV → XH → Prop} {X : Nat → XH → Prop} {x0 x3 : Int} (F : xFix h) (hyp : xtg h x0 = 5 ∧ xiR ((xpl h x0 4) + x3) ∧ 0 ≤ x0 ∧ (xFix (xst h x0 4 ((xpl h x0 4) + x3)) → Q xN (xst h x0 4 ((xpl h x0 4) + x3)))) : xwp G m_Question_count (d + 1) 83 [xR x0, xZ, xZ, xI x3] [] h Q X := by
  have hnx9 : (93 : Int) ≤ xnx h := F.2.2
  refine xr_okL (fun hl9 => ?_)
  have r_x3 : -2147483648 ≤ x3 ∧ x3 ≤ 2147483647 := hl9 (xI x3) (.tail _ (.tail _ (.tail _ (.head _)))) (Nat.le_of_ble_eq_true rfl)
  refine xr_aload_n (pc := 83) (i := 0) (hI := d_Question_count_83) (hi := rfl) (hl := rfl) ?_
  refine xr_dup (pc := 84) (hI := d_Question_count_84) (hv := rfl) ?_
  obtain ⟨c9, hyp⟩ := hyp
  have t1_ := c9
  clear c9
  refine xg_getf (pc := 85) (ci := 5) (k := 4) (N := 5) (v9 := 0) (v := (xpl h x0 4)) (T := xF5) (hI := d_Question_count_85) (hw := w_294) rfl xi5 (Or.inl rfl) (Nat.le_of_ble_eq_true rfl) (Nat.le_of_ble_eq_true rfl) rfl t1_ rfl (fun f2_ => ?_)
  replace f2_ : -2147483648 ≤ (xpl h x0 4) ∧ (xpl h x0 4) ≤ 2147483647 := f2_
  refine xr_iload_n (pc := 88) (i := 3) (hI := d_Question_count_88) (hi := rfl) (hl := rfl) ?_
  obtain ⟨c9, hyp⟩ := hyp
  refine xr_iadd (pc := 89) (hI := d_Question_count_89) (hr := c9) ?_
  obtain ⟨c3_, hyp⟩ := hyp
  refine xr_putf (pc := 90) (ci := 5) (k := 4) (N := 5) (v9 := 0) (T := xF5) (tF := xT5) (hI := d_Question_count_90) (hw := w_294) rfl xi5 xt5 xn5 (Or.inl rfl) (Nat.le_of_ble_eq_true rfl) (Nat.le_of_ble_eq_true rfl) rfl xfit_i rfl t1_ c3_ (fun z => z) ?_
  have F4_ : xFix (xst h x0 4 ((xpl h x0 4) + x3)) := F.stT (t := 5) c3_ t1_ xtk_5_4
  refine xr_return (S := []) (pc := 93) (hI := d_Question_count_93) (hr := rfl) ?_
  exact hyp F4_
abbrev m_Question_finds : XM := (⟨"BeaconIndex$Question", "finds", "()Z"⟩, prog_6_method_4_code, 1, (some .boolean), [])
theorem d_Question_finds_0 : decode prog_6_method_4_code 0 = .ok (.aload_n 0, 1) := by decide +kernel
theorem d_Question_finds_1 : decode prog_6_method_4_code 1 = .ok (.getfield 20, 3) := by decide +kernel
theorem d_Question_finds_4 : decode prog_6_method_4_code 4 = .ok (.ifCond .ne 21, 3) := by decide +kernel
theorem d_Question_finds_25 : decode prog_6_method_4_code 25 = .ok (.iconst 0, 1) := by decide +kernel
theorem d_Question_finds_26 : decode prog_6_method_4_code 26 = .ok (.ireturn, 1) := by decide +kernel
theorem d_Question_finds_7 : decode prog_6_method_4_code 7 = .ok (.aload_n 0, 1) := by decide +kernel
theorem d_Question_finds_8 : decode prog_6_method_4_code 8 = .ok (.getfield 16, 3) := by decide +kernel
theorem d_Question_finds_11 : decode prog_6_method_4_code 11 = .ok (.ifCond .ne 10, 3) := by decide +kernel
theorem d_Question_finds_21 : decode prog_6_method_4_code 21 = .ok (.iconst 1, 1) := by decide +kernel
theorem d_Question_finds_22 : decode prog_6_method_4_code 22 = .ok (.goto 4, 3) := by decide +kernel
theorem d_Question_finds_14 : decode prog_6_method_4_code 14 = .ok (.aload_n 0, 1) := by decide +kernel
theorem d_Question_finds_15 : decode prog_6_method_4_code 15 = .ok (.getfield 23, 3) := by decide +kernel
theorem d_Question_finds_18 : decode prog_6_method_4_code 18 = .ok (.ifCond .eq 7, 3) := by decide +kernel
theorem v_Question_finds_0 {G : XG} {d : Nat} {h : XH} {Q : XV → XH → Prop} {X : Nat → XH → Prop} {x0 : Int} (F : xFix h) (hyp : xtg h x0 = 5 ∧ (((xpl h x0 2) = 0 → (((xpl h x0 1) = 0 → (((xpl h x0 3) = 0 → (Q (xI 0) h)) ∧ (¬ (xpl h x0 3) = 0 → (Q (xI 1) h)))) ∧ (¬ (xpl h x0 1) = 0 → (Q (xI 1) h)))) ∧ (¬ (xpl h x0 2) = 0 → (Q (xI 0) h)))) : xwp G m_Question_finds (d + 1) 0 [xR x0] [] h Q X := by
  have hnx9 : (93 : Int) ≤ xnx h := F.2.2
  refine xr_aload_n (pc := 0) (i := 0) (hI := d_Question_finds_0) (hi := rfl) (hl := rfl) ?_
  obtain ⟨c9, hyp⟩ := hyp
  have t1_ := c9
  clear c9
  refine xg_getfZ (pc := 1) (ci := 5) (k := 2) (N := 5) (v := (xpl h x0 2)) (T := xF5) (hI := d_Question_finds_1) (hw := w_292) rfl xi5 (Or.inl rfl) (Nat.le_of_ble_eq_true rfl) (Nat.le_of_ble_eq_true rfl) rfl t1_ rfl (fun f2_ => ?_)
  refine xr_if_ne (pc := 4) (tgt := 25) (hI := d_Question_finds_4) (ht := by decide) (fun q9 => ?_) (fun q9 => ?_)
  · replace hyp := hyp.2 q9
    have q3_ := q9
    clear q9
    refine xr_iconst (pc := 25) (hI := d_Question_finds_25) (hr := by decide) ?_
    refine xr_ireturnT (S := []) (pc := 26) (hI := d_Question_finds_26) (hr := rfl) (xnar_z (by decide)) ?_
    exact hyp
  · replace hyp := hyp.1 q9
    have q3_ := q9
    clear q9
    refine xr_aload_n (pc := 7) (i := 0) (hI := d_Question_finds_7) (hi := rfl) (hl := rfl) ?_
    refine xg_getfZ (pc := 8) (ci := 5) (k := 1) (N := 5) (v := (xpl h x0 1)) (T := xF5) (hI := d_Question_finds_8) (hw := w_291) rfl xi5 (Or.inl rfl) (Nat.le_of_ble_eq_true rfl) (Nat.le_of_ble_eq_true rfl) rfl t1_ rfl (fun f4_ => ?_)
    refine xr_if_ne (pc := 11) (tgt := 21) (hI := d_Question_finds_11) (ht := by decide) (fun q9 => ?_) (fun q9 => ?_)
    · replace hyp := hyp.2 q9
      have q5_ := q9
      clear q9
      refine xr_iconst (pc := 21) (hI := d_Question_finds_21) (hr := by decide) ?_
      refine xr_goto (pc := 22) (tgt := 26) (hI := d_Question_finds_22) (ht := by decide) ?_
      refine xr_ireturnT (S := []) (pc := 26) (hI := d_Question_finds_26) (hr := rfl) (xnar_z (by decide)) ?_
      exact hyp
    · replace hyp := hyp.1 q9
      have q5_ := q9
      clear q9
      refine xr_aload_n (pc := 14) (i := 0) (hI := d_Question_finds_14) (hi := rfl) (hl := rfl) ?_
      refine xg_getfZ (pc := 15) (ci := 5) (k := 3) (N := 5) (v := (xpl h x0 3)) (T := xF5) (hI := d_Question_finds_15) (hw := w_293) rfl xi5 (Or.inl rfl) (Nat.le_of_ble_eq_true rfl) (Nat.le_of_ble_eq_true rfl) rfl t1_ rfl (fun f6_ => ?_)
      refine xr_if_eq (pc := 18) (tgt := 25) (hI := d_Question_finds_18) (ht := by decide) (fun q9 => ?_) (fun q9 => ?_)
      · replace hyp := hyp.1 q9
        have q7_ := q9
        clear q9
        refine xr_iconst (pc := 25) (hI := d_Question_finds_25) (hr := by decide) ?_
        refine xr_ireturnT (S := []) (pc := 26) (hI := d_Question_finds_26) (hr := rfl) (xnar_z (by decide)) ?_
        exact hyp
      · replace hyp := hyp.2 q9
        have q7_ := q9
        clear q9
        refine xr_iconst (pc := 21) (hI := d_Question_finds_21) (hr := by decide) ?_
        refine xr_goto (pc := 22) (tgt := 26) (hI := d_Question_finds_22) (ht := by decide) ?_
        refine xr_ireturnT (S := []) (pc := 26) (hI := d_Question_finds_26) (hr := rfl) (xnar_z (by decide)) ?_
        exact hyp
/-- a part: its fields by their places (the words' place 4 is not read), its words -/
abbrev PT : Type := (Int → Int) × List Int
def PartR (h : XH) (p : Int) (t : PT) : Prop := (93 ≤ p ∧ p < xnx h ∧ xtg h p = 4) ∧ (∀ k : Int, 0 ≤ k → k ≤ 10 → k ≠ 4 → xpl h p k = t.1 k) ∧ RowOK h (xpl h p 4) t.2
theorem PartR.frame {C : Int → Prop} {h h' : XH} {p : Int} {t : PT} (R : PartR h p t) (e : xsm C h h') (hp : ∀ k, 0 ≤ k → k ≤ 10 → xpl h' p k = xpl h p k) (hC : ∀ r, xtg h r = 101 → xpl h r (-1) = 0 → 93 ≤ r → ¬ C r) : PartR h' p t := by
  obtain ⟨⟨a1, a2, a3⟩, b, c⟩ := R
  refine ⟨⟨a1, by have := e.nx; omega, by rw [e.tg a2]; exact a3⟩, fun k k0 k1 k2 => by rw [hp k k0 k1]; exact b k k0 k1 k2, ?_⟩
  rw [hp 4 (by decide) (by decide)]
  exact c.frame e (hC _)
def lkF (t : PT) (f : Int) : Bool := decide (t.1 5 ≠ 3) && (decide (t.1 2 = 2) || decide (t.1 2 = f))
theorem p_Part_isLookedForIn {G : XG} {d : Nat} {h : XH} {Q : XV → XH → Prop} {X : Nat → XH → Prop} {p f : Int} {t : PT} (F : xFix h) (R : PartR h p t) (hq : Q (xI (b2i (lkF t f))) h) : xwp G m_Part_isLookedForIn (d + 1) 0 [xR p, xI f] [] h Q X := by
  have e5 := R.2.1 5 (by decide) (by decide) (by decide)
  have e2 := R.2.1 2 (by decide) (by decide) (by decide)
  unfold lkF at hq
  rw [← e5, ← e2] at hq
  refine v_Part_isLookedForIn_0 F ?_
  refine ⟨?_, ?_⟩
  · exact R.1.2.2
  · refine ⟨fun q1 => ?_, fun q1 => ?_⟩
    · rw [q1] at hq; exact hq
    · refine ⟨fun q2 => ?_, fun q2 => ?_⟩
      · simp only [decide_eq_true q1, decide_eq_true q2] at hq; exact hq
      · refine ⟨fun q3 => ?_, fun q3 => ?_⟩
        · simp only [decide_eq_true q1, decide_eq_false q2, decide_eq_true q3] at hq; exact hq
        · simp only [decide_eq_true q1, decide_eq_false q2, decide_eq_false q3] at hq; exact hq
/-- the first word that isn't small -/
def fwL : List Int → Int
  | [] => 0
  | w :: r => if w = 0 then fwL r else w
theorem p_Part_firstWord {G : XG} {d : Nat} {h : XH} {Q : XV → XH → Prop} {X : Nat → XH → Prop} {p : Int} {t : PT} (F : xFix h) (R : PartR h p t) (hq : Q (xL (fwL t.2)) h) : xwp G m_Part_firstWord (d + 1) 0 [xR p, xZ] [] h Q X := by
  have hw := R.2.2.2.2.2.1
  have hl := hw.2.1
  have loop : ∀ (m k : Nat), k + m = t.2.length → fwL (t.2.drop k) = fwL t.2 → xwp G m_Part_firstWord (d + 1) 2 [xR p, xI k] [] h Q X := by
    intro m
    induction m with
    | zero =>
      intro k e hv
      refine v_Part_firstWord_2 F ?_
      refine ⟨?_, ?_⟩
      · first | exact R.1.2.2 | exact hw.1 | omega
      · refine ⟨?_, ?_⟩
        · first | exact R.1.2.2 | exact hw.1 | omega
        · refine ⟨fun q1 => ?_, fun q1 => ?_⟩
          · rw [List.drop_eq_nil_of_le (by omega)] at hv
            rw [← hv] at hq
            exact hq
          · refine ⟨?_, ?_⟩
            · first | exact R.1.2.2 | exact hw.1 | omega
            · refine ⟨fun q2 => ?_, fun q2 => ?_⟩
              · omega
              · omega
    | succ m ih =>
      intro k e hv
      obtain ⟨a1, a2⟩ := List.getElem?_eq_some_iff.mp (hw.2.2 k (by omega))
      rw [List.drop_eq_getElem_cons a1, a2] at hv
      have hv2 : (if xpl h (xpl h p 4) k = 0 then fwL (t.2.drop (k + 1)) else xpl h (xpl h p 4) k) = fwL t.2 := hv
      refine v_Part_firstWord_2 F ?_
      refine ⟨?_, ?_⟩
      · first | exact R.1.2.2 | exact hw.1 | omega
      · refine ⟨?_, ?_⟩
        · first | exact R.1.2.2 | exact hw.1 | omega
        · refine ⟨fun q1 => ?_, fun q1 => ?_⟩
          · omega
          · refine ⟨?_, ?_⟩
            · first | exact R.1.2.2 | exact hw.1 | omega
            · refine ⟨fun q2 => ?_, fun q2 => ?_⟩
              · rw [if_pos q2] at hv2
                exact ih (k + 1) (by omega) hv2
              · rw [if_neg q2] at hv2
                rw [hv2]; exact hq
  refine v_Part_firstWord_0 F ?_
  exact loop t.2.length 0 (by omega) rfl
theorem p_Fits_capped {G : XG} {d : Nat} {h : XH} {Q : XV → XH → Prop} {X : Nat → XH → Prop} {w : Int} (F : xFix h) (hq : Q (xI (min w 1000000)) h) : xwp G m_Fits_capped (d + 2) 0 [xI w] [] h Q X := by
  refine v_Fits_capped_0 F ?_
  exact hq
/-- what a question knows of the text that is looked at -/
abbrev JS : Type := Bool × Bool × Bool × Int
def QuesJ (h : XH) (q : Int) (j : JS) : Prop := (xtg h q = 5 ∧ 0 ≤ q) ∧ xpl h q 1 = b2i j.1 ∧ xpl h q 2 = b2i j.2.1 ∧ xpl h q 3 = b2i j.2.2.1 ∧ xpl h q 4 = j.2.2.2
def qcnt (j : JS) (s : Int) (i : Bool) (w : Int) : JS :=
  if s = 43 then (true, j.2.1 || !i, j.2.2.1, j.2.2.2 + w) else if s = 45 then (j.1, j.2.1 || i, j.2.2.1, j.2.2.2 + w) else (j.1, j.2.1, j.2.2.1 || i, j.2.2.2 + w)
def qfin (j : JS) : Bool := !j.2.1 && (j.1 || j.2.2.1)
def qwif (j : JS) : Int := if qfin j = true then min j.2.2.2 1000000 else 0
def q000 : JS := (false, false, false, 0)
theorem bz0 {b : Bool} (h : b2i b = 0) : b = false := by
  cases b
  · rfl
  · cases h
theorem bz1 {b : Bool} (h : ¬ b2i b = 0) : b = true := by
  cases b
  · exact absurd rfl h
  · rfl
theorem xs2 {h : XH} {q v v2 : Int} {k k2 : Nat} : xsm (fun c => c = q) h (xst (xst h q k v) q k2 v2) := ((xsm.refl (C := fun c => c = q) h).st (k := k) (by omega) (Or.inl rfl)).st (k := k2) (by omega) (Or.inl rfl)
theorem xs4 {h : XH} {q v v2 v3 v4 : Int} {k k2 k3 k4 : Nat} : xsm (fun c => c = q) h (xst (xst (xst (xst h q k v) q k2 v2) q k3 v3) q k4 v4) := (xs2.st (k := k3) (by omega) (Or.inl rfl)).st (k := k4) (by omega) (Or.inl rfl)
theorem s_Question_forgetText {G : XG} {d : Nat} {h : XH} {Q : XV → XH → Prop} {X : Nat → XH → Prop} {q : Int} (F : xFix h) (h0 : xtg h q = 5) (h1 : 0 ≤ q)
    (hq : ∀ h', xFix h' → xsm (fun c => c = q) h h' → QuesJ h' q q000 → xpl h' q 0 = xpl h q 0 → xnx h' = xnx h → xsl h' = xsl h → Q xN h') : xwp G m_Question_forgetText (d + 1) 0 [xR q] [] h Q X := by
  refine v_Question_forgetText_0 F ?_
  refine ⟨?_, ?_⟩
  · first | exact h0 | exact h1
  · refine ⟨?_, ?_⟩
    · first | exact h0 | exact h1
    · intro F9
      refine hq _ F9 (xs4 (k := 1) (k2 := 2) (k3 := 3) (k4 := 4)) ⟨⟨h0, h1⟩, ?_, ?_, ?_, ?_⟩ ?_ rfl rfl
      · rw [xpl_st, if_neg (by omega), xpl_st, if_neg (by omega), xpl_st, if_neg (by omega), xpl_st, if_pos ⟨rfl, rfl⟩]; rfl
      · rw [xpl_st, if_neg (by omega), xpl_st, if_neg (by omega), xpl_st, if_pos ⟨rfl, rfl⟩]; rfl
      · rw [xpl_st, if_neg (by omega), xpl_st, if_pos ⟨rfl, rfl⟩]; rfl
      · rw [xpl_st, if_pos ⟨rfl, rfl⟩]; rfl
      · rw [xpl_st, if_neg (by omega), xpl_st, if_neg (by omega), xpl_st, if_neg (by omega), xpl_st, if_neg (by omega)]
theorem p_Question_finds {G : XG} {d : Nat} {h : XH} {Q : XV → XH → Prop} {X : Nat → XH → Prop} {q : Int} {j : JS} (F : xFix h) (J : QuesJ h q j) (hq : Q (xI (b2i (qfin j))) h) : xwp G m_Question_finds (d + 1) 0 [xR q] [] h Q X := by
  obtain ⟨⟨j0, j1⟩, j2, j3, j4, j5⟩ := J
  unfold qfin at hq
  refine v_Question_finds_0 F ?_
  refine ⟨?_, ?_⟩
  · exact j0
  · refine ⟨fun q1 => ?_, fun q1 => ?_⟩
    · refine ⟨fun q2 => ?_, fun q2 => ?_⟩
      · refine ⟨fun q3 => ?_, fun q3 => ?_⟩
        · rw [j2] at q2; rw [j3] at q1; rw [j4] at q3; rw [bz0 q1, bz0 q2, bz0 q3] at hq; exact hq
        · rw [j2] at q2; rw [j3] at q1; rw [j4] at q3; rw [bz0 q1, bz0 q2, bz1 q3] at hq; exact hq
      · rw [j2] at q2; rw [j3] at q1; rw [bz0 q1, bz1 q2] at hq; exact hq
    · rw [j3] at q1; rw [bz1 q1] at hq; exact hq
theorem s_Question_count {G : XG} {d : Nat} {h : XH} {Q : XV → XH → Prop} {X : Nat → XH → Prop} {q s w : Int} {i : Bool} {j : JS} (F : xFix h) (J : QuesJ h q j) (hr : xiR (j.2.2.2 + w))
    (hq : ∀ h', xFix h' → xsm (fun c => c = q) h h' → QuesJ h' q (qcnt j s i w) → xpl h' q 0 = xpl h q 0 → xnx h' = xnx h → xsl h' = xsl h → Q xN h') : xwp G m_Question_count (d + 1) 0 [xR q, xI s, xI (b2i i), xI w] [] h Q X := by
  obtain ⟨⟨j0, j1⟩, j2, j3, j4, j5⟩ := J
  have fin : ∀ (h2 : XH) (k : JS), xFix h2 → xsm (fun c => c = q) h h2 → QuesJ h2 q k → k.2.2.2 = j.2.2.2 → xpl h2 q 0 = xpl h q 0 → xnx h2 = xnx h → xsl h2 = xsl h → (k.1, k.2.1, k.2.2.1, k.2.2.2 + w) = qcnt j s i w → xwp G m_Question_count (d + 1) 83 [xR q, xZ, xZ, xI w] [] h2 Q X := by
    intro h2 k F2 S2 J2 e4 e0 n2 l2 hv
    obtain ⟨⟨k0, k1⟩, k2, k3, k4, k5⟩ := J2
    refine v_Question_count_83 F2 ?_
    refine ⟨?_, ?_⟩
    · first | exact k0 | (rw [k5, e4]; exact hr) | omega
    · refine ⟨?_, ?_⟩
      · first | exact k0 | (rw [k5, e4]; exact hr) | omega
      · refine ⟨?_, ?_⟩
        · first | exact k0 | (rw [k5, e4]; exact hr) | omega
        · intro F9
          rw [k5] at F9 ⊢
          refine hq _ F9 (S2.st (by decide) (Or.inl rfl)) ?_ (by rw [xpl_st, if_neg (by omega)]; exact e0) n2 l2
          rw [← hv]
          refine ⟨⟨k0, k1⟩, ?_, ?_, ?_, ?_⟩
          · rw [xpl_st, if_neg (by omega)]; exact k2
          · rw [xpl_st, if_neg (by omega)]; exact k3
          · rw [xpl_st, if_neg (by omega)]; exact k4
          · rw [xpl_st, if_pos ⟨rfl, rfl⟩]
  have p28 : ∀ (b : Bool) , s = 43 → b = (j.2.1 || !i) → xFix (xst h q 1 1) → xwp G m_Question_count (d + 1) 28 [xR q, xZ, xZ, xI w] [xI (b2i b), xR q] (xst h q 1 1) Q X := by
    intro b hs hb F2
    refine v_Question_count_28 F2 ?_
    refine ⟨?_, ?_⟩
    · first | exact j0 | exact j1 | (cases b <;> exact ⟨by decide, by decide⟩)
    · refine ⟨?_, ?_⟩
      · first | exact j0 | exact j1 | (cases b <;> exact ⟨by decide, by decide⟩)
      · refine ⟨?_, ?_⟩
        · first | exact j0 | exact j1 | (cases b <;> exact ⟨by decide, by decide⟩)
        · intro F9
          refine fin _ (true, b, j.2.2.1, j.2.2.2) F9 (xs2 (k := 1) (k2 := 2)) ⟨⟨j0, j1⟩, ?_, ?_, ?_, ?_⟩ rfl ?_ rfl rfl ?_
          · rw [xpl_st, if_neg (by omega), xpl_st, if_pos ⟨rfl, rfl⟩]; rfl
          · rw [xpl_st, if_pos ⟨rfl, rfl⟩]
          · rw [xpl_st, if_neg (by omega), xpl_st, if_neg (by omega)]; exact j4
          · rw [xpl_st, if_neg (by omega), xpl_st, if_neg (by omega)]; exact j5
          · rw [xpl_st, if_neg (by omega), xpl_st, if_neg (by omega)]
          · unfold qcnt; rw [if_pos hs, hb]
  have p57 : ∀ (b : Bool) , s ≠ 43 → s = 45 → b = (j.2.1 || i) → xwp G m_Question_count (d + 1) 57 [xR q, xZ, xZ, xI w] [xI (b2i b), xR q] h Q X := by
    intro b hs1 hs hb
    refine v_Question_count_57 F ?_
    refine ⟨?_, ?_⟩
    · first | exact j0 | exact j1 | (cases b <;> exact ⟨by decide, by decide⟩)
    · refine ⟨?_, ?_⟩
      · first | exact j0 | exact j1 | (cases b <;> exact ⟨by decide, by decide⟩)
      · refine ⟨?_, ?_⟩
        · first | exact j0 | exact j1 | (cases b <;> exact ⟨by decide, by decide⟩)
        · intro F9
          refine fin _ (j.1, b, j.2.2.1, j.2.2.2) F9 (xsm.st (xsm.refl h) (by decide) (Or.inl rfl)) ⟨⟨j0, j1⟩, ?_, ?_, ?_, ?_⟩ rfl ?_ rfl rfl ?_
          · rw [xpl_st, if_neg (by omega)]; exact j2
          · rw [xpl_st, if_pos ⟨rfl, rfl⟩]
          · rw [xpl_st, if_neg (by omega)]; exact j4
          · rw [xpl_st, if_neg (by omega)]; exact j5
          · rw [xpl_st, if_neg (by omega)]
          · unfold qcnt; rw [if_neg hs1, if_pos hs, hb]
  have p80 : ∀ (b : Bool) , s ≠ 43 → s ≠ 45 → b = (j.2.2.1 || i) → xwp G m_Question_count (d + 1) 80 [xR q, xZ, xZ, xI w] [xI (b2i b), xR q] h Q X := by
    intro b hs1 hs hb
    refine v_Question_count_80 F ?_
    refine ⟨?_, ?_⟩
    · first | exact j0 | exact j1 | (cases b <;> exact ⟨by decide, by decide⟩)
    · refine ⟨?_, ?_⟩
      · first | exact j0 | exact j1 | (cases b <;> exact ⟨by decide, by decide⟩)
      · refine ⟨?_, ?_⟩
        · first | exact j0 | exact j1 | (cases b <;> exact ⟨by decide, by decide⟩)
        · intro F9
          refine fin _ (j.1, j.2.1, b, j.2.2.2) F9 (xsm.st (xsm.refl h) (by decide) (Or.inl rfl)) ⟨⟨j0, j1⟩, ?_, ?_, ?_, ?_⟩ rfl ?_ rfl rfl ?_
          · rw [xpl_st, if_neg (by omega)]; exact j2
          · rw [xpl_st, if_neg (by omega)]; exact j3
          · rw [xpl_st, if_pos ⟨rfl, rfl⟩]
          · rw [xpl_st, if_neg (by omega)]; exact j5
          · rw [xpl_st, if_neg (by omega)]
          · unfold qcnt; rw [if_neg hs1, if_neg hs, hb]
  refine v_Question_count_0 F ?_
  refine ⟨fun q1 => ?_, fun q1 => ?_⟩
  · refine ⟨?_, ?_⟩
    · first | exact j0 | exact j1
    · refine ⟨?_, ?_⟩
      · first | exact j0 | exact j1
      · refine ⟨fun q2 => ?_, fun q2 => ?_⟩
        · refine ⟨fun q3 => ?_, fun q3 => ?_⟩
          · intro F9
            rw [j3] at q2
            refine v_Question_count_23 F9 ?_
            exact p28 true q1 (by rw [bz0 q2, bz0 q3]; rfl) F9
          · intro F9
            rw [j3] at q2
            exact p28 false q1 (by rw [bz0 q2, bz1 q3]; rfl) F9
        · intro F9
          rw [j3] at q2
          refine v_Question_count_23 F9 ?_
          exact p28 true q1 (by rw [bz1 q2]; rfl) F9
  · refine ⟨fun q2 => ?_, fun q2 => ?_⟩
    · refine ⟨?_, ?_⟩
      · first | exact j0 | exact j1
      · refine ⟨fun q3 => ?_, fun q3 => ?_⟩
        · refine ⟨fun q4 => ?_, fun q4 => ?_⟩
          · rw [j3] at q3
            exact p57 false q1 q2 (by rw [bz0 q3, bz0 q4]; rfl)
          · refine v_Question_count_52 F ?_
            exact p57 true q1 q2 (by rw [bz1 q4]; exact (Bool.or_true _).symm)
        · rw [j3] at q3
          refine v_Question_count_52 F ?_
          exact p57 true q1 q2 (by rw [bz1 q3]; rfl)
    · refine ⟨?_, ?_⟩
      · first | exact j0 | exact j1
      · refine ⟨fun q3 => ?_, fun q3 => ?_⟩
        · refine ⟨fun q4 => ?_, fun q4 => ?_⟩
          · rw [j4] at q3
            exact p80 false q1 q2 (by rw [bz0 q3, bz0 q4]; rfl)
          · refine v_Question_count_75 F ?_
            exact p80 true q1 q2 (by rw [bz1 q4]; exact (Bool.or_true _).symm)
        · rw [j4] at q3
          refine v_Question_count_75 F ?_
          exact p80 true q1 q2 (by rw [bz1 q3]; rfl)

end
