section
abbrev m_Words_signOf : XM := (⟨"BeaconIndex$Words", "signOf", "(I)I"⟩, prog_12_method_2_code, 1, (some .int), [])
theorem d_Words_signOf_0 : decode prog_12_method_2_code 0 = .ok (.iload_n 0, 1) := by decide +kernel
theorem d_Words_signOf_1 : decode prog_12_method_2_code 1 = .ok (.bipush 48, 2) := by decide +kernel
theorem d_Words_signOf_3 : decode prog_12_method_2_code 3 = .ok (.if_icmp .lt 16, 3) := by decide +kernel
theorem d_Words_signOf_6 : decode prog_12_method_2_code 6 = .ok (.iload_n 0, 1) := by decide +kernel
theorem d_Words_signOf_7 : decode prog_12_method_2_code 7 = .ok (.bipush 57, 2) := by decide +kernel
theorem d_Words_signOf_9 : decode prog_12_method_2_code 9 = .ok (.if_icmp .gt 10, 3) := by decide +kernel
theorem d_Words_signOf_12 : decode prog_12_method_2_code 12 = .ok (.iload_n 0, 1) := by decide +kernel
theorem d_Words_signOf_13 : decode prog_12_method_2_code 13 = .ok (.bipush 48, 2) := by decide +kernel
theorem d_Words_signOf_15 : decode prog_12_method_2_code 15 = .ok (.isub, 1) := by decide +kernel
theorem d_Words_signOf_16 : decode prog_12_method_2_code 16 = .ok (.iconst 1, 1) := by decide +kernel
theorem d_Words_signOf_17 : decode prog_12_method_2_code 17 = .ok (.iadd, 1) := by decide +kernel
theorem d_Words_signOf_18 : decode prog_12_method_2_code 18 = .ok (.ireturn, 1) := by decide +kernel
theorem v_Words_signOf_0 {G : XG} {d : Nat} {h : XH} {Q : XV → XH → Prop} {X : Nat → XH → Prop} {x0 : Int} (hyp : ((x0 < 48 → xwp G m_Words_signOf (d + 1) 19 [xI x0] [] h Q X) ∧ (¬ x0 < 48 → ((57 < x0 → xwp G m_Words_signOf (d + 1) 19 [xI x0] [] h Q X) ∧ (¬ 57 < x0 → xiR (x0 - 48) ∧ xiR ((x0 - 48) + 1) ∧ Q (xI ((x0 - 48) + 1)) h))))) : xwp G m_Words_signOf (d + 1) 0 [xI x0] [] h Q X := by
  refine xr_iload_n (pc := 0) (i := 0) (hI := d_Words_signOf_0) (hi := rfl) (hl := rfl) ?_
  refine xr_bipush (pc := 1) (hI := d_Words_signOf_1) (hr := by decide) (hv := by decide) ?_
  refine xr_icmp_lt (pc := 3) (tgt := 19) (hI := d_Words_signOf_3) (ht := by decide) (fun q9 => ?_) (fun q9 => ?_)
  · replace hyp := hyp.1 q9
    exact hyp
  · replace hyp := hyp.2 q9
    refine xr_iload_n (pc := 6) (i := 0) (hI := d_Words_signOf_6) (hi := rfl) (hl := rfl) ?_
    refine xr_bipush (pc := 7) (hI := d_Words_signOf_7) (hr := by decide) (hv := by decide) ?_
    refine xr_icmp_gt (pc := 9) (tgt := 19) (hI := d_Words_signOf_9) (ht := by decide) (fun q9 => ?_) (fun q9 => ?_)
    · replace hyp := hyp.1 q9
      exact hyp
    · replace hyp := hyp.2 q9
      refine xr_iload_n (pc := 12) (i := 0) (hI := d_Words_signOf_12) (hi := rfl) (hl := rfl) ?_
      refine xr_bipush (pc := 13) (hI := d_Words_signOf_13) (hr := by decide) (hv := by decide) ?_
      obtain ⟨c9, hyp⟩ := hyp
      refine xr_isub (pc := 15) (hI := d_Words_signOf_15) (hr := c9) ?_
      refine xr_iconst (pc := 16) (hI := d_Words_signOf_16) (hr := by decide) ?_
      obtain ⟨c9, hyp⟩ := hyp
      refine xr_iadd (pc := 17) (hI := d_Words_signOf_17) (hr := c9) ?_
      exact xr_ireturn (S := []) (pc := 18) (hI := d_Words_signOf_18) (hr := rfl) hyp
theorem d_Words_signOf_19 : decode prog_12_method_2_code 19 = .ok (.iload_n 0, 1) := by decide +kernel
theorem d_Words_signOf_20 : decode prog_12_method_2_code 20 = .ok (.bipush 97, 2) := by decide +kernel
theorem d_Words_signOf_22 : decode prog_12_method_2_code 22 = .ok (.if_icmp .lt 17, 3) := by decide +kernel
theorem d_Words_signOf_25 : decode prog_12_method_2_code 25 = .ok (.iload_n 0, 1) := by decide +kernel
theorem d_Words_signOf_26 : decode prog_12_method_2_code 26 = .ok (.bipush 122, 2) := by decide +kernel
theorem d_Words_signOf_28 : decode prog_12_method_2_code 28 = .ok (.if_icmp .gt 11, 3) := by decide +kernel
theorem d_Words_signOf_31 : decode prog_12_method_2_code 31 = .ok (.iload_n 0, 1) := by decide +kernel
theorem d_Words_signOf_32 : decode prog_12_method_2_code 32 = .ok (.bipush 97, 2) := by decide +kernel
theorem d_Words_signOf_34 : decode prog_12_method_2_code 34 = .ok (.isub, 1) := by decide +kernel
theorem d_Words_signOf_35 : decode prog_12_method_2_code 35 = .ok (.bipush 11, 2) := by decide +kernel
theorem d_Words_signOf_37 : decode prog_12_method_2_code 37 = .ok (.iadd, 1) := by decide +kernel
theorem d_Words_signOf_38 : decode prog_12_method_2_code 38 = .ok (.ireturn, 1) := by decide +kernel
theorem v_Words_signOf_19 {G : XG} {d : Nat} {h : XH} {Q : XV → XH → Prop} {X : Nat → XH → Prop} {x0 : Int} (hyp : ((x0 < 97 → xwp G m_Words_signOf (d + 1) 39 [xI x0] [] h Q X) ∧ (¬ x0 < 97 → ((122 < x0 → xwp G m_Words_signOf (d + 1) 39 [xI x0] [] h Q X) ∧ (¬ 122 < x0 → xiR (x0 - 97) ∧ xiR ((x0 - 97) + 11) ∧ Q (xI ((x0 - 97) + 11)) h))))) : xwp G m_Words_signOf (d + 1) 19 [xI x0] [] h Q X := by
  refine xr_iload_n (pc := 19) (i := 0) (hI := d_Words_signOf_19) (hi := rfl) (hl := rfl) ?_
  refine xr_bipush (pc := 20) (hI := d_Words_signOf_20) (hr := by decide) (hv := by decide) ?_
  refine xr_icmp_lt (pc := 22) (tgt := 39) (hI := d_Words_signOf_22) (ht := by decide) (fun q9 => ?_) (fun q9 => ?_)
  · replace hyp := hyp.1 q9
    exact hyp
  · replace hyp := hyp.2 q9
    refine xr_iload_n (pc := 25) (i := 0) (hI := d_Words_signOf_25) (hi := rfl) (hl := rfl) ?_
    refine xr_bipush (pc := 26) (hI := d_Words_signOf_26) (hr := by decide) (hv := by decide) ?_
    refine xr_icmp_gt (pc := 28) (tgt := 39) (hI := d_Words_signOf_28) (ht := by decide) (fun q9 => ?_) (fun q9 => ?_)
    · replace hyp := hyp.1 q9
      exact hyp
    · replace hyp := hyp.2 q9
      refine xr_iload_n (pc := 31) (i := 0) (hI := d_Words_signOf_31) (hi := rfl) (hl := rfl) ?_
      refine xr_bipush (pc := 32) (hI := d_Words_signOf_32) (hr := by decide) (hv := by decide) ?_
      obtain ⟨c9, hyp⟩ := hyp
      refine xr_isub (pc := 34) (hI := d_Words_signOf_34) (hr := c9) ?_
      refine xr_bipush (pc := 35) (hI := d_Words_signOf_35) (hr := by decide) (hv := by decide) ?_
      obtain ⟨c9, hyp⟩ := hyp
      refine xr_iadd (pc := 37) (hI := d_Words_signOf_37) (hr := c9) ?_
      exact xr_ireturn (S := []) (pc := 38) (hI := d_Words_signOf_38) (hr := rfl) hyp
theorem d_Words_signOf_39 : decode prog_12_method_2_code 39 = .ok (.iload_n 0, 1) := by decide +kernel
theorem d_Words_signOf_40 : decode prog_12_method_2_code 40 = .ok (.bipush 65, 2) := by decide +kernel
theorem d_Words_signOf_42 : decode prog_12_method_2_code 42 = .ok (.if_icmp .lt 17, 3) := by decide +kernel
theorem d_Words_signOf_59 : decode prog_12_method_2_code 59 = .ok (.iconst 0, 1) := by decide +kernel
theorem d_Words_signOf_60 : decode prog_12_method_2_code 60 = .ok (.ireturn, 1) := by decide +kernel
theorem d_Words_signOf_45 : decode prog_12_method_2_code 45 = .ok (.iload_n 0, 1) := by decide +kernel
theorem d_Words_signOf_46 : decode prog_12_method_2_code 46 = .ok (.bipush 90, 2) := by decide +kernel
theorem d_Words_signOf_48 : decode prog_12_method_2_code 48 = .ok (.if_icmp .gt 11, 3) := by decide +kernel
theorem d_Words_signOf_51 : decode prog_12_method_2_code 51 = .ok (.iload_n 0, 1) := by decide +kernel
theorem d_Words_signOf_52 : decode prog_12_method_2_code 52 = .ok (.bipush 65, 2) := by decide +kernel
theorem d_Words_signOf_54 : decode prog_12_method_2_code 54 = .ok (.isub, 1) := by decide +kernel
theorem d_Words_signOf_55 : decode prog_12_method_2_code 55 = .ok (.bipush 11, 2) := by decide +kernel
theorem d_Words_signOf_57 : decode prog_12_method_2_code 57 = .ok (.iadd, 1) := by decide +kernel
theorem d_Words_signOf_58 : decode prog_12_method_2_code 58 = .ok (.ireturn, 1) := by decide +kernel
theorem v_Words_signOf_39 {G : XG} {d : Nat} {h : XH} {Q : XV → XH → Prop} {X : Nat → XH → Prop} {x0 : Int} (hyp : ((x0 < 65 → Q (xI 0) h) ∧ (¬ x0 < 65 → ((90 < x0 → Q (xI 0) h) ∧ (¬ 90 < x0 → xiR (x0 - 65) ∧ xiR ((x0 - 65) + 11) ∧ Q (xI ((x0 - 65) + 11)) h))))) : xwp G m_Words_signOf (d + 1) 39 [xI x0] [] h Q X := by
  refine xr_iload_n (pc := 39) (i := 0) (hI := d_Words_signOf_39) (hi := rfl) (hl := rfl) ?_
  refine xr_bipush (pc := 40) (hI := d_Words_signOf_40) (hr := by decide) (hv := by decide) ?_
  refine xr_icmp_lt (pc := 42) (tgt := 59) (hI := d_Words_signOf_42) (ht := by decide) (fun q9 => ?_) (fun q9 => ?_)
  · replace hyp := hyp.1 q9
    refine xr_iconst (pc := 59) (hI := d_Words_signOf_59) (hr := by decide) ?_
    exact xr_ireturn (S := []) (pc := 60) (hI := d_Words_signOf_60) (hr := rfl) hyp
  · replace hyp := hyp.2 q9
    refine xr_iload_n (pc := 45) (i := 0) (hI := d_Words_signOf_45) (hi := rfl) (hl := rfl) ?_
    refine xr_bipush (pc := 46) (hI := d_Words_signOf_46) (hr := by decide) (hv := by decide) ?_
    refine xr_icmp_gt (pc := 48) (tgt := 59) (hI := d_Words_signOf_48) (ht := by decide) (fun q9 => ?_) (fun q9 => ?_)
    · replace hyp := hyp.1 q9
      refine xr_iconst (pc := 59) (hI := d_Words_signOf_59) (hr := by decide) ?_
      exact xr_ireturn (S := []) (pc := 60) (hI := d_Words_signOf_60) (hr := rfl) hyp
    · replace hyp := hyp.2 q9
      refine xr_iload_n (pc := 51) (i := 0) (hI := d_Words_signOf_51) (hi := rfl) (hl := rfl) ?_
      refine xr_bipush (pc := 52) (hI := d_Words_signOf_52) (hr := by decide) (hv := by decide) ?_
      obtain ⟨c9, hyp⟩ := hyp
      refine xr_isub (pc := 54) (hI := d_Words_signOf_54) (hr := c9) ?_
      refine xr_bipush (pc := 55) (hI := d_Words_signOf_55) (hr := by decide) (hv := by decide) ?_
      obtain ⟨c9, hyp⟩ := hyp
      refine xr_iadd (pc := 57) (hI := d_Words_signOf_57) (hr := c9) ?_
      exact xr_ireturn (S := []) (pc := 58) (hI := d_Words_signOf_58) (hr := rfl) hyp
abbrev m_Words_power : XM := (⟨"BeaconIndex$Words", "power", "(I)J"⟩, prog_12_method_4_code, 1, (some .long), [])
theorem d_Words_power_0 : decode prog_12_method_4_code 0 = .ok (.iload_n 0, 1) := by decide +kernel
theorem d_Words_power_1 : decode prog_12_method_4_code 1 = .ok (.ifCond .lt 19, 3) := by decide +kernel
theorem d_Words_power_20 : decode prog_12_method_4_code 20 = .ok (.lconst 1, 1) := by decide +kernel
theorem d_Words_power_21 : decode prog_12_method_4_code 21 = .ok (.lreturn, 1) := by decide +kernel
theorem d_Words_power_4 : decode prog_12_method_4_code 4 = .ok (.iload_n 0, 1) := by decide +kernel
theorem d_Words_power_5 : decode prog_12_method_4_code 5 = .ok (.getstatic 9, 3) := by decide +kernel
theorem w_655 : Cond.fieldLink "BeaconIndex$Words" 9 "BeaconIndex$Words" "POWERS" "[J" ∈ lw_tbl := List.mem_append_right _ (List.mem_of_getElem? (i := 655) (by decide +kernel))
theorem d_Words_power_8 : decode prog_12_method_4_code 8 = .ok (.arraylength, 1) := by decide +kernel
theorem d_Words_power_9 : decode prog_12_method_4_code 9 = .ok (.if_icmp .ge 11, 3) := by decide +kernel
theorem d_Words_power_12 : decode prog_12_method_4_code 12 = .ok (.getstatic 9, 3) := by decide +kernel
theorem d_Words_power_15 : decode prog_12_method_4_code 15 = .ok (.iload_n 0, 1) := by decide +kernel
theorem d_Words_power_16 : decode prog_12_method_4_code 16 = .ok (.laload, 1) := by decide +kernel
theorem d_Words_power_17 : decode prog_12_method_4_code 17 = .ok (.goto 4, 3) := by decide +kernel
theorem v_Words_power_0 {G : XG} {d : Nat} {h : XH} {Q : XV → XH → Prop} {X : Nat → XH → Prop} {x0 : Int} (hyp : ((x0 < 0 → Q (xL 1) h) ∧ (¬ x0 < 0 → xtg h ((-102)) = 101 ∧ (((xln h ((-102))) ≤ x0 → Q (xL 1) h) ∧ (¬ (xln h ((-102))) ≤ x0 → xtg h ((-102)) = 101 ∧ 0 ≤ x0 ∧ x0 < xln h ((-102)) ∧ Q (xL (xpl h ((-102)) x0)) h))))) : xwp G m_Words_power (d + 1) 0 [xI x0] [] h Q X := by
  refine xr_iload_n (pc := 0) (i := 0) (hI := d_Words_power_0) (hi := rfl) (hl := rfl) ?_
  refine xr_if_lt (pc := 1) (tgt := 20) (hI := d_Words_power_1) (ht := by decide) (fun q9 => ?_) (fun q9 => ?_)
  · replace hyp := hyp.1 q9
    refine xr_lconst (pc := 20) (z := 1) (hI := d_Words_power_20) (hr := by decide) (hv := by decide) ?_
    exact xr_lreturn (S := []) (pc := 21) (hI := d_Words_power_21) (hr := rfl) hyp
  · replace hyp := hyp.2 q9
    refine xr_iload_n (pc := 4) (i := 0) (hI := d_Words_power_4) (hi := rfl) (hl := rfl) ?_
    refine xr_getstatic (pc := 5) (v := xR ((-102))) (hI := d_Words_power_5) w_655 (by decide +kernel) (by first | exact trivial | decide) ?_
    obtain ⟨c9, hyp⟩ := hyp
    refine xr_alen (pc := 8) (t := 101) (hI := d_Words_power_8) c9 (Nat.le_of_ble_eq_true rfl) (Nat.le_of_ble_eq_true rfl) rfl (fun _ _ => ?_)
    refine xr_icmp_ge (pc := 9) (tgt := 20) (hI := d_Words_power_9) (ht := by decide) (fun q9 => ?_) (fun q9 => ?_)
    · replace hyp := hyp.1 q9
      refine xr_lconst (pc := 20) (z := 1) (hI := d_Words_power_20) (hr := by decide) (hv := by decide) ?_
      exact xr_lreturn (S := []) (pc := 21) (hI := d_Words_power_21) (hr := rfl) hyp
    · replace hyp := hyp.2 q9
      refine xr_getstatic (pc := 12) (v := xR ((-102))) (hI := d_Words_power_12) w_655 (by decide +kernel) (by first | exact trivial | decide) ?_
      refine xr_iload_n (pc := 15) (i := 0) (hI := d_Words_power_15) (hi := rfl) (hl := rfl) ?_
      obtain ⟨c7, c8, c9, hyp⟩ := hyp
      refine xr_laload (pc := 16) (hI := d_Words_power_16) c7 c8 c9 (fun _ => ?_)
      refine xr_goto (pc := 17) (tgt := 21) (hI := d_Words_power_17) (ht := by decide) ?_
      exact xr_lreturn (S := []) (pc := 21) (hI := d_Words_power_21) (hr := rfl) hyp
abbrev m_Words_signAt : XM := (⟨"BeaconIndex$Words", "signAt", "(JI)I"⟩, prog_12_method_6_code, 3, (some .int), [])
theorem d_Words_signAt_0 : decode prog_12_method_6_code 0 = .ok (.lload_n 0, 1) := by decide +kernel
theorem d_Words_signAt_1 : decode prog_12_method_6_code 1 = .ok (.bipush 11, 2) := by decide +kernel
theorem d_Words_signAt_3 : decode prog_12_method_6_code 3 = .ok (.iload_n 2, 1) := by decide +kernel
theorem d_Words_signAt_4 : decode prog_12_method_6_code 4 = .ok (.isub, 1) := by decide +kernel
theorem d_Words_signAt_5 : decode prog_12_method_6_code 5 = .ok (.invokestatic 15, 3) := by decide +kernel
theorem w_24 : Cond.initialized "BeaconIndex$Words" ∈ lw_tbl := List.mem_append_right _ (List.mem_of_getElem? (i := 24) (by decide +kernel))
theorem k_Words_power : xCal m_Words_power 1 := ⟨List.mem_append_right _ (List.mem_of_getElem? (i := 654) (by decide +kernel)), w_24, Nat.le_of_ble_eq_true rfl, ⟨by decide +kernel, by decide +kernel⟩, by decide +kernel, by decide +kernel, rfl⟩
theorem w_652 : Cond.methodLink "BeaconIndex$Words" 15 ⟨"BeaconIndex$Words", "power", "(I)J"⟩ ∈ lw_tbl := List.mem_append_right _ (List.mem_of_getElem? (i := 652) (by decide +kernel))
theorem w_653 : Cond.static ⟨"BeaconIndex$Words", "power", "(I)J"⟩ ∈ lw_tbl := List.mem_append_right _ (List.mem_of_getElem? (i := 653) (by decide +kernel))
theorem v_Words_signAt_0 {G : XG} {d : Nat} {h : XH} {Q : XV → XH → Prop} {X : Nat → XH → Prop} {x0 x2 : Int} (hyp : xiR (11 - x2) ∧ xwp G m_Words_power d 0 [xI (11 - x2)] [] h (fun v9 h9 => xwp G m_Words_signAt (d + 1) 8 [xL x0, xZ, xI x2] (xpush v9 [xL x0]) h9 Q X) X) : xwp G m_Words_signAt (d + 1) 0 [xL x0, xZ, xI x2] [] h Q X := by
  refine xr_lload_n (pc := 0) (i := 0) (hI := d_Words_signAt_0) (hi := rfl) (hl := rfl) ?_
  refine xr_bipush (pc := 1) (hI := d_Words_signAt_1) (hr := by decide) (hv := by decide) ?_
  refine xr_iload_n (pc := 3) (i := 2) (hI := d_Words_signAt_3) (hi := rfl) (hl := rfl) ?_
  obtain ⟨c9, hyp⟩ := hyp
  refine xr_isub (pc := 4) (hI := d_Words_signAt_4) (hr := c9) ?_
  exact xq_callS (pc := 5)  (index := 15) (K := m_Words_power) (As := [xI (11 - x2)]) (S := [xL x0]) (L0 := [xI (11 - x2)]) (hI := d_Words_signAt_5) (hK := k_Words_power) (hlk := w_652) (hnoM := rfl) (hS8 := Nat.le_of_ble_eq_true rfl) (hstat := w_653) (hlen := Nat.le_of_ble_eq_true rfl) (hst := rfl) (hL0 := rfl) hyp
theorem d_Words_signAt_8 : decode prog_12_method_6_code 8 = .ok (.ldiv, 1) := by decide +kernel
theorem d_Words_signAt_9 : decode prog_12_method_6_code 9 = .ok (.ldc2_w 19, 3) := by decide +kernel
theorem w_876 : Cond.constantLong "BeaconIndex$Words" 19 (37 : Int64) ∈ lw_tbl := List.mem_append_right _ (List.mem_of_getElem? (i := 876) (by decide +kernel))
theorem d_Words_signAt_12 : decode prog_12_method_6_code 12 = .ok (.lrem, 1) := by decide +kernel
theorem d_Words_signAt_13 : decode prog_12_method_6_code 13 = .ok (.l2i, 1) := by decide +kernel
theorem d_Words_signAt_14 : decode prog_12_method_6_code 14 = .ok (.ireturn, 1) := by decide +kernel
theorem v_Words_signAt_8 {G : XG} {d : Nat} {h : XH} {Q : XV → XH → Prop} {X : Nat → XH → Prop} {s0 s1 : Int} (hyp : (0 : Int) < s0 ∧ (0 : Int) < 37 ∧ Q (xI (xw32 ((s1.tdiv s0).tmod 37))) h) : xwp G m_Words_signAt (d + 1) 8 [xZ, xZ, xZ] [xL s0, xL s1] h Q X := by
  obtain ⟨c9, hyp⟩ := hyp
  refine xr_ldiv (pc := 8) (hI := d_Words_signAt_8) (h0 := c9) ?_
  refine xr_ldc2 (pc := 9) (z := 37) (hI := d_Words_signAt_9) (hw := w_876) (hr := by decide) (hv := by decide) ?_
  obtain ⟨c9, hyp⟩ := hyp
  refine xr_lrem (pc := 12) (hI := d_Words_signAt_12) (h0 := c9) ?_
  refine xr_l2i (pc := 13) (hI := d_Words_signAt_13) ?_
  exact xr_ireturn (S := []) (pc := 14) (hI := d_Words_signAt_14) (hr := rfl) hyp
abbrev m_Words_sizeOf : XM := (⟨"BeaconIndex$Words", "sizeOf", "(J)I"⟩, prog_12_method_7_code, 3, (some .int), [])
theorem d_Words_sizeOf_0 : decode prog_12_method_7_code 0 = .ok (.iconst 0, 1) := by decide +kernel
theorem d_Words_sizeOf_1 : decode prog_12_method_7_code 1 = .ok (.istore_n 2, 1) := by decide +kernel
theorem v_Words_sizeOf_0 {G : XG} {d : Nat} {h : XH} {Q : XV → XH → Prop} {X : Nat → XH → Prop} {x0 : Int} (hyp : xwp G m_Words_sizeOf (d + 1) 2 [xL x0, xZ, xI 0] [] h Q X) : xwp G m_Words_sizeOf (d + 1) 0 [xL x0, xZ, xZ] [] h Q X := by
  refine xr_iconst (pc := 0) (hI := d_Words_sizeOf_0) (hr := by decide) ?_
  refine xr_istore_n (pc := 1) (i := 2) (L9 := [xL x0, xZ, xI 0]) (hI := d_Words_sizeOf_1) (hi := rfl) (hn := Nat.le_of_ble_eq_true rfl) (hL9 := rfl) ?_
  exact hyp
theorem d_Words_sizeOf_2 : decode prog_12_method_7_code 2 = .ok (.iload_n 2, 1) := by decide +kernel
theorem d_Words_sizeOf_3 : decode prog_12_method_7_code 3 = .ok (.bipush 12, 2) := by decide +kernel
theorem d_Words_sizeOf_5 : decode prog_12_method_7_code 5 = .ok (.if_icmp .ge 17, 3) := by decide +kernel
theorem d_Words_sizeOf_22 : decode prog_12_method_7_code 22 = .ok (.iload_n 2, 1) := by decide +kernel
theorem d_Words_sizeOf_23 : decode prog_12_method_7_code 23 = .ok (.ireturn, 1) := by decide +kernel
theorem d_Words_sizeOf_8 : decode prog_12_method_7_code 8 = .ok (.lload_n 0, 1) := by decide +kernel
theorem d_Words_sizeOf_9 : decode prog_12_method_7_code 9 = .ok (.iload_n 2, 1) := by decide +kernel
theorem d_Words_sizeOf_10 : decode prog_12_method_7_code 10 = .ok (.invokestatic 21, 3) := by decide +kernel
theorem k_Words_signAt : xCal m_Words_signAt 2 := ⟨List.mem_append_right _ (List.mem_of_getElem? (i := 875) (by decide +kernel)), w_24, Nat.le_of_ble_eq_true rfl, ⟨by decide +kernel, by decide +kernel⟩, by decide +kernel, by decide +kernel, rfl⟩
theorem w_873 : Cond.methodLink "BeaconIndex$Words" 21 ⟨"BeaconIndex$Words", "signAt", "(JI)I"⟩ ∈ lw_tbl := List.mem_append_right _ (List.mem_of_getElem? (i := 873) (by decide +kernel))
theorem w_874 : Cond.static ⟨"BeaconIndex$Words", "signAt", "(JI)I"⟩ ∈ lw_tbl := List.mem_append_right _ (List.mem_of_getElem? (i := 874) (by decide +kernel))
theorem v_Words_sizeOf_2 {G : XG} {d : Nat} {h : XH} {Q : XV → XH → Prop} {X : Nat → XH → Prop} {x0 x2 : Int} (hyp : ((12 ≤ x2 → Q (xI x2) h) ∧ (¬ 12 ≤ x2 → xwp G m_Words_signAt d 0 [xL x0, xZ, xI x2] [] h (fun v9 h9 => xwp G m_Words_sizeOf (d + 1) 13 [xL x0, xZ, xI x2] (xpush v9 []) h9 Q X) X))) : xwp G m_Words_sizeOf (d + 1) 2 [xL x0, xZ, xI x2] [] h Q X := by
  refine xr_iload_n (pc := 2) (i := 2) (hI := d_Words_sizeOf_2) (hi := rfl) (hl := rfl) ?_
  refine xr_bipush (pc := 3) (hI := d_Words_sizeOf_3) (hr := by decide) (hv := by decide) ?_
  refine xr_icmp_ge (pc := 5) (tgt := 22) (hI := d_Words_sizeOf_5) (ht := by decide) (fun q9 => ?_) (fun q9 => ?_)
  · replace hyp := hyp.1 q9
    refine xr_iload_n (pc := 22) (i := 2) (hI := d_Words_sizeOf_22) (hi := rfl) (hl := rfl) ?_
    exact xr_ireturn (S := []) (pc := 23) (hI := d_Words_sizeOf_23) (hr := rfl) hyp
  · replace hyp := hyp.2 q9
    refine xr_lload_n (pc := 8) (i := 0) (hI := d_Words_sizeOf_8) (hi := rfl) (hl := rfl) ?_
    refine xr_iload_n (pc := 9) (i := 2) (hI := d_Words_sizeOf_9) (hi := rfl) (hl := rfl) ?_
    exact xq_callS (pc := 10)  (index := 21) (K := m_Words_signAt) (As := [xL x0, xI x2]) (S := []) (L0 := [xL x0, xZ, xI x2]) (hI := d_Words_sizeOf_10) (hK := k_Words_signAt) (hlk := w_873) (hnoM := rfl) (hS8 := Nat.le_of_ble_eq_true rfl) (hstat := w_874) (hlen := Nat.le_of_ble_eq_true rfl) (hst := rfl) (hL0 := rfl) hyp
theorem d_Words_sizeOf_13 : decode prog_12_method_7_code 13 = .ok (.ifCond .eq 9, 3) := by decide +kernel
theorem d_Words_sizeOf_16 : decode prog_12_method_7_code 16 = .ok (.iinc 2 1, 3) := by decide +kernel
theorem d_Words_sizeOf_19 : decode prog_12_method_7_code 19 = .ok (.goto (-17), 3) := by decide +kernel
theorem v_Words_sizeOf_13 {G : XG} {d : Nat} {h : XH} {Q : XV → XH → Prop} {X : Nat → XH → Prop} {x0 x2 s0 : Int} (hyp : ((s0 = 0 → Q (xI x2) h) ∧ (¬ s0 = 0 → xiR (x2 + 1) ∧ xwp G m_Words_sizeOf (d + 1) 2 [xL x0, xZ, xI (x2 + 1)] [] h Q X))) : xwp G m_Words_sizeOf (d + 1) 13 [xL x0, xZ, xI x2] [xI s0] h Q X := by
  refine xr_if_eq (pc := 13) (tgt := 22) (hI := d_Words_sizeOf_13) (ht := by decide) (fun q9 => ?_) (fun q9 => ?_)
  · replace hyp := hyp.1 q9
    refine xr_iload_n (pc := 22) (i := 2) (hI := d_Words_sizeOf_22) (hi := rfl) (hl := rfl) ?_
    exact xr_ireturn (S := []) (pc := 23) (hI := d_Words_sizeOf_23) (hr := rfl) hyp
  · replace hyp := hyp.2 q9
    obtain ⟨c9, hyp⟩ := hyp
    refine xr_iinc (pc := 16) (i := 2) (L9 := [xL x0, xZ, xI (x2 + 1)]) (hI := d_Words_sizeOf_16) (hl := rfl) (hn := Nat.le_of_ble_eq_true rfl) (hr := c9) (hL9 := rfl) ?_
    refine xr_goto (pc := 19) (tgt := 2) (hI := d_Words_sizeOf_19) (ht := by decide) ?_
    exact hyp
abbrev m_Words_beginsWith : XM := (⟨"BeaconIndex$Words", "beginsWith", "(JJI)Z"⟩, prog_12_method_8_code, 7, (some .boolean), [])
theorem d_Words_beginsWith_0 : decode prog_12_method_8_code 0 = .ok (.lload_n 0, 1) := by decide +kernel
theorem d_Words_beginsWith_1 : decode prog_12_method_8_code 1 = .ok (.lconst 0, 1) := by decide +kernel
theorem d_Words_beginsWith_2 : decode prog_12_method_8_code 2 = .ok (.lcmp, 1) := by decide +kernel
theorem d_Words_beginsWith_3 : decode prog_12_method_8_code 3 = .ok (.ifCond .le 10, 3) := by decide +kernel
theorem d_Words_beginsWith_13 : decode prog_12_method_8_code 13 = .ok (.iconst 0, 1) := by decide +kernel
theorem d_Words_beginsWith_14 : decode prog_12_method_8_code 14 = .ok (.ireturn, 1) := by decide +kernel
theorem d_Words_beginsWith_6 : decode prog_12_method_8_code 6 = .ok (.iload 4, 2) := by decide +kernel
theorem d_Words_beginsWith_8 : decode prog_12_method_8_code 8 = .ok (.bipush 12, 2) := by decide +kernel
theorem d_Words_beginsWith_10 : decode prog_12_method_8_code 10 = .ok (.if_icmp .le 5, 3) := by decide +kernel
theorem d_Words_beginsWith_15 : decode prog_12_method_8_code 15 = .ok (.bipush 12, 2) := by decide +kernel
theorem d_Words_beginsWith_17 : decode prog_12_method_8_code 17 = .ok (.iload 4, 2) := by decide +kernel
theorem d_Words_beginsWith_19 : decode prog_12_method_8_code 19 = .ok (.isub, 1) := by decide +kernel
theorem d_Words_beginsWith_20 : decode prog_12_method_8_code 20 = .ok (.invokestatic 15, 3) := by decide +kernel
theorem v_Words_beginsWith_0 {G : XG} {d : Nat} {h : XH} {Q : XV → XH → Prop} {X : Nat → XH → Prop} {x0 x2 x4 : Int} (hyp : (((xcmp x0 0) ≤ 0 → Q (xI 0) h) ∧ (¬ (xcmp x0 0) ≤ 0 → ((x4 ≤ 12 → xiR (12 - x4) ∧ xwp G m_Words_power d 0 [xI (12 - x4)] [] h (fun v9 h9 => xwp G m_Words_beginsWith (d + 1) 23 [xL x0, xZ, xL x2, xZ, xI x4, xZ, xZ] (xpush v9 []) h9 Q X) X) ∧ (¬ x4 ≤ 12 → Q (xI 0) h))))) : xwp G m_Words_beginsWith (d + 1) 0 [xL x0, xZ, xL x2, xZ, xI x4, xZ, xZ] [] h Q X := by
  refine xr_lload_n (pc := 0) (i := 0) (hI := d_Words_beginsWith_0) (hi := rfl) (hl := rfl) ?_
  refine xr_lconst (pc := 1) (z := 0) (hI := d_Words_beginsWith_1) (hr := by decide) (hv := by decide) ?_
  refine xr_lcmp (pc := 2) (hI := d_Words_beginsWith_2) ?_
  refine xr_if_le (pc := 3) (tgt := 13) (hI := d_Words_beginsWith_3) (ht := by decide) (fun q9 => ?_) (fun q9 => ?_)
  · replace hyp := hyp.1 q9
    refine xr_iconst (pc := 13) (hI := d_Words_beginsWith_13) (hr := by decide) ?_
    exact xr_ireturnT (S := []) (pc := 14) (hI := d_Words_beginsWith_14) (hr := rfl) (xnar_z (by decide)) hyp
  · replace hyp := hyp.2 q9
    refine xr_iload (pc := 6) (i := 4) (hI := d_Words_beginsWith_6) (hl := rfl) ?_
    refine xr_bipush (pc := 8) (hI := d_Words_beginsWith_8) (hr := by decide) (hv := by decide) ?_
    refine xr_icmp_le (pc := 10) (tgt := 15) (hI := d_Words_beginsWith_10) (ht := by decide) (fun q9 => ?_) (fun q9 => ?_)
    · replace hyp := hyp.1 q9
      refine xr_bipush (pc := 15) (hI := d_Words_beginsWith_15) (hr := by decide) (hv := by decide) ?_
      refine xr_iload (pc := 17) (i := 4) (hI := d_Words_beginsWith_17) (hl := rfl) ?_
      obtain ⟨c9, hyp⟩ := hyp
      refine xr_isub (pc := 19) (hI := d_Words_beginsWith_19) (hr := c9) ?_
      exact xq_callS (pc := 20)  (index := 15) (K := m_Words_power) (As := [xI (12 - x4)]) (S := []) (L0 := [xI (12 - x4)]) (hI := d_Words_beginsWith_20) (hK := k_Words_power) (hlk := w_652) (hnoM := rfl) (hS8 := Nat.le_of_ble_eq_true rfl) (hstat := w_653) (hlen := Nat.le_of_ble_eq_true rfl) (hst := rfl) (hL0 := rfl) hyp
    · replace hyp := hyp.2 q9
      refine xr_iconst (pc := 13) (hI := d_Words_beginsWith_13) (hr := by decide) ?_
      exact xr_ireturnT (S := []) (pc := 14) (hI := d_Words_beginsWith_14) (hr := rfl) (xnar_z (by decide)) hyp
theorem d_Words_beginsWith_23 : decode prog_12_method_8_code 23 = .ok (.lstore 5, 2) := by decide +kernel
theorem d_Words_beginsWith_25 : decode prog_12_method_8_code 25 = .ok (.lload_n 0, 1) := by decide +kernel
theorem d_Words_beginsWith_26 : decode prog_12_method_8_code 26 = .ok (.lload 5, 2) := by decide +kernel
theorem d_Words_beginsWith_28 : decode prog_12_method_8_code 28 = .ok (.ldiv, 1) := by decide +kernel
theorem d_Words_beginsWith_29 : decode prog_12_method_8_code 29 = .ok (.lload_n 2, 1) := by decide +kernel
theorem d_Words_beginsWith_30 : decode prog_12_method_8_code 30 = .ok (.lload 5, 2) := by decide +kernel
theorem d_Words_beginsWith_32 : decode prog_12_method_8_code 32 = .ok (.ldiv, 1) := by decide +kernel
theorem d_Words_beginsWith_33 : decode prog_12_method_8_code 33 = .ok (.lcmp, 1) := by decide +kernel
theorem d_Words_beginsWith_34 : decode prog_12_method_8_code 34 = .ok (.ifCond .ne 7, 3) := by decide +kernel
theorem d_Words_beginsWith_41 : decode prog_12_method_8_code 41 = .ok (.iconst 0, 1) := by decide +kernel
theorem d_Words_beginsWith_42 : decode prog_12_method_8_code 42 = .ok (.ireturn, 1) := by decide +kernel
theorem d_Words_beginsWith_37 : decode prog_12_method_8_code 37 = .ok (.iconst 1, 1) := by decide +kernel
theorem d_Words_beginsWith_38 : decode prog_12_method_8_code 38 = .ok (.goto 4, 3) := by decide +kernel
theorem v_Words_beginsWith_23 {G : XG} {d : Nat} {h : XH} {Q : XV → XH → Prop} {X : Nat → XH → Prop} {x0 x2 s0 : Int} (hyp : (0 : Int) < s0 ∧ (0 : Int) < s0 ∧ (((xcmp (x0.tdiv s0) (x2.tdiv s0)) = 0 → Q (xI 1) h) ∧ (¬ (xcmp (x0.tdiv s0) (x2.tdiv s0)) = 0 → Q (xI 0) h))) : xwp G m_Words_beginsWith (d + 1) 23 [xL x0, xZ, xL x2, xZ, xZ, xZ, xZ] [xL s0] h Q X := by
  refine xr_lstore (pc := 23) (i := 5) (L9 := [xL x0, xZ, xL x2, xZ, xZ, xL s0, xZ]) (hI := d_Words_beginsWith_23) (hn := Nat.le_of_ble_eq_true rfl) (hL9 := rfl) ?_
  refine xr_lload_n (pc := 25) (i := 0) (hI := d_Words_beginsWith_25) (hi := rfl) (hl := rfl) ?_
  refine xr_lload (pc := 26) (i := 5) (hI := d_Words_beginsWith_26) (hl := rfl) ?_
  obtain ⟨c9, hyp⟩ := hyp
  refine xr_ldiv (pc := 28) (hI := d_Words_beginsWith_28) (h0 := c9) ?_
  refine xr_lload_n (pc := 29) (i := 2) (hI := d_Words_beginsWith_29) (hi := rfl) (hl := rfl) ?_
  refine xr_lload (pc := 30) (i := 5) (hI := d_Words_beginsWith_30) (hl := rfl) ?_
  obtain ⟨c9, hyp⟩ := hyp
  refine xr_ldiv (pc := 32) (hI := d_Words_beginsWith_32) (h0 := c9) ?_
  refine xr_lcmp (pc := 33) (hI := d_Words_beginsWith_33) ?_
  refine xr_if_ne (pc := 34) (tgt := 41) (hI := d_Words_beginsWith_34) (ht := by decide) (fun q9 => ?_) (fun q9 => ?_)
  · replace hyp := hyp.2 q9
    refine xr_iconst (pc := 41) (hI := d_Words_beginsWith_41) (hr := by decide) ?_
    exact xr_ireturnT (S := []) (pc := 42) (hI := d_Words_beginsWith_42) (hr := rfl) (xnar_z (by decide)) hyp
  · replace hyp := hyp.1 q9
    refine xr_iconst (pc := 37) (hI := d_Words_beginsWith_37) (hr := by decide) ?_
    refine xr_goto (pc := 38) (tgt := 42) (hI := d_Words_beginsWith_38) (ht := by decide) ?_
    exact xr_ireturnT (S := []) (pc := 42) (hI := d_Words_beginsWith_42) (hr := rfl) (xnar_z (by decide)) hyp
abbrev m_Tape_at : XM := (⟨"BeaconIndex$Tape", "at", "(I)I"⟩, prog_9_method_3_code, 2, (some .int), [])
theorem d_Tape_at_0 : decode prog_9_method_3_code 0 = .ok (.iload_n 1, 1) := by decide +kernel
theorem d_Tape_at_1 : decode prog_9_method_3_code 1 = .ok (.ifCond .lt 29, 3) := by decide +kernel
theorem d_Tape_at_30 : decode prog_9_method_3_code 30 = .ok (.iconst (-1), 1) := by decide +kernel
theorem d_Tape_at_31 : decode prog_9_method_3_code 31 = .ok (.ireturn, 1) := by decide +kernel
theorem d_Tape_at_4 : decode prog_9_method_3_code 4 = .ok (.iload_n 1, 1) := by decide +kernel
theorem d_Tape_at_5 : decode prog_9_method_3_code 5 = .ok (.aload_n 0, 1) := by decide +kernel
theorem d_Tape_at_6 : decode prog_9_method_3_code 6 = .ok (.getfield 22, 3) := by decide +kernel
theorem w_57 : Cond.fieldLink "BeaconIndex$Tape" 22 "BeaconIndex$Tape" "length" "I" ∈ lw_tbl := List.mem_append_right _ (List.mem_of_getElem? (i := 57) (by decide +kernel))
theorem d_Tape_at_9 : decode prog_9_method_3_code 9 = .ok (.if_icmp .ge 21, 3) := by decide +kernel
theorem d_Tape_at_12 : decode prog_9_method_3_code 12 = .ok (.iload_n 1, 1) := by decide +kernel
theorem d_Tape_at_13 : decode prog_9_method_3_code 13 = .ok (.aload_n 0, 1) := by decide +kernel
theorem d_Tape_at_14 : decode prog_9_method_3_code 14 = .ok (.getfield 9, 3) := by decide +kernel
theorem w_54 : Cond.fieldLink "BeaconIndex$Tape" 9 "BeaconIndex$Tape" "bytes" "[I" ∈ lw_tbl := List.mem_append_right _ (List.mem_of_getElem? (i := 54) (by decide +kernel))
theorem d_Tape_at_17 : decode prog_9_method_3_code 17 = .ok (.arraylength, 1) := by decide +kernel
theorem d_Tape_at_18 : decode prog_9_method_3_code 18 = .ok (.if_icmp .ge 12, 3) := by decide +kernel
theorem d_Tape_at_21 : decode prog_9_method_3_code 21 = .ok (.aload_n 0, 1) := by decide +kernel
theorem d_Tape_at_22 : decode prog_9_method_3_code 22 = .ok (.getfield 9, 3) := by decide +kernel
theorem d_Tape_at_25 : decode prog_9_method_3_code 25 = .ok (.iload_n 1, 1) := by decide +kernel
theorem d_Tape_at_26 : decode prog_9_method_3_code 26 = .ok (.iaload, 1) := by decide +kernel
theorem d_Tape_at_27 : decode prog_9_method_3_code 27 = .ok (.goto 4, 3) := by decide +kernel
theorem v_Tape_at_0 {G : XG} {d : Nat} {h : XH} {Q : XV → XH → Prop} {X : Nat → XH → Prop} {x0 x1 : Int} (hyp : ((x1 < 0 → Q (xI (-1)) h) ∧ (¬ x1 < 0 → xtg h x0 = 8 ∧ (((xpl h x0 3) ≤ x1 → Q (xI (-1)) h) ∧ (¬ (xpl h x0 3) ≤ x1 → xtg h x0 = 8 ∧ xtg h (xpl h x0 0) = 100 ∧ (((xln h (xpl h x0 0)) ≤ x1 → Q (xI (-1)) h) ∧ (¬ (xln h (xpl h x0 0)) ≤ x1 → xtg h x0 = 8 ∧ xtg h (xpl h x0 0) = 100 ∧ 0 ≤ x1 ∧ x1 < xln h (xpl h x0 0) ∧ Q (xI (xpl h (xpl h x0 0) x1)) h))))))) : xwp G m_Tape_at (d + 1) 0 [xR x0, xI x1] [] h Q X := by
  refine xr_iload_n (pc := 0) (i := 1) (hI := d_Tape_at_0) (hi := rfl) (hl := rfl) ?_
  refine xr_if_lt (pc := 1) (tgt := 30) (hI := d_Tape_at_1) (ht := by decide) (fun q9 => ?_) (fun q9 => ?_)
  · replace hyp := hyp.1 q9
    refine xr_iconst (pc := 30) (hI := d_Tape_at_30) (hr := by decide) ?_
    exact xr_ireturn (S := []) (pc := 31) (hI := d_Tape_at_31) (hr := rfl) hyp
  · replace hyp := hyp.2 q9
    refine xr_iload_n (pc := 4) (i := 1) (hI := d_Tape_at_4) (hi := rfl) (hl := rfl) ?_
    refine xr_aload_n (pc := 5) (i := 0) (hI := d_Tape_at_5) (hi := rfl) (hl := rfl) ?_
    obtain ⟨c9, hyp⟩ := hyp
    refine xr_getf (pc := 6) (ci := 8) (k := 3) (N := 7) (v9 := 0) (T := xF8) (hI := d_Tape_at_6) (hw := w_57) rfl xi8 (Or.inl rfl) (Nat.le_of_ble_eq_true rfl) (Nat.le_of_ble_eq_true rfl) rfl c9 (fun _ => ?_)
    refine xr_icmp_ge (pc := 9) (tgt := 30) (hI := d_Tape_at_9) (ht := by decide) (fun q9 => ?_) (fun q9 => ?_)
    · replace hyp := hyp.1 q9
      refine xr_iconst (pc := 30) (hI := d_Tape_at_30) (hr := by decide) ?_
      exact xr_ireturn (S := []) (pc := 31) (hI := d_Tape_at_31) (hr := rfl) hyp
    · replace hyp := hyp.2 q9
      refine xr_iload_n (pc := 12) (i := 1) (hI := d_Tape_at_12) (hi := rfl) (hl := rfl) ?_
      refine xr_aload_n (pc := 13) (i := 0) (hI := d_Tape_at_13) (hi := rfl) (hl := rfl) ?_
      obtain ⟨c9, hyp⟩ := hyp
      refine xr_getf (pc := 14) (ci := 8) (k := 0) (N := 7) (v9 := 2) (T := xF8) (hI := d_Tape_at_14) (hw := w_54) rfl xi8 (Or.inl rfl) (Nat.le_of_ble_eq_true rfl) (Nat.le_of_ble_eq_true rfl) rfl c9 (fun _ => ?_)
      obtain ⟨c9, hyp⟩ := hyp
      refine xr_alen (pc := 17) (t := 100) (hI := d_Tape_at_17) c9 (Nat.le_of_ble_eq_true rfl) (Nat.le_of_ble_eq_true rfl) rfl (fun _ _ => ?_)
      refine xr_icmp_ge (pc := 18) (tgt := 30) (hI := d_Tape_at_18) (ht := by decide) (fun q9 => ?_) (fun q9 => ?_)
      · replace hyp := hyp.1 q9
        refine xr_iconst (pc := 30) (hI := d_Tape_at_30) (hr := by decide) ?_
        exact xr_ireturn (S := []) (pc := 31) (hI := d_Tape_at_31) (hr := rfl) hyp
      · replace hyp := hyp.2 q9
        refine xr_aload_n (pc := 21) (i := 0) (hI := d_Tape_at_21) (hi := rfl) (hl := rfl) ?_
        obtain ⟨c9, hyp⟩ := hyp
        refine xr_getf (pc := 22) (ci := 8) (k := 0) (N := 7) (v9 := 2) (T := xF8) (hI := d_Tape_at_22) (hw := w_54) rfl xi8 (Or.inl rfl) (Nat.le_of_ble_eq_true rfl) (Nat.le_of_ble_eq_true rfl) rfl c9 (fun _ => ?_)
        refine xr_iload_n (pc := 25) (i := 1) (hI := d_Tape_at_25) (hi := rfl) (hl := rfl) ?_
        obtain ⟨c7, c8, c9, hyp⟩ := hyp
        refine xr_iaload (pc := 26) (hI := d_Tape_at_26) c7 c8 c9 (fun _ => ?_)
        refine xr_goto (pc := 27) (tgt := 31) (hI := d_Tape_at_27) (ht := by decide) ?_
        exact xr_ireturn (S := []) (pc := 31) (hI := d_Tape_at_31) (hr := rfl) hyp
abbrev m_Tape_append : XM := (⟨"BeaconIndex$Tape", "append", "(I)V"⟩, prog_9_method_2_code, 3, none, [])
theorem d_Tape_append_0 : decode prog_9_method_2_code 0 = .ok (.bipush 24, 2) := by decide +kernel
theorem d_Tape_append_2 : decode prog_9_method_2_code 2 = .ok (.istore_n 2, 1) := by decide +kernel
theorem v_Tape_append_0 {G : XG} {d : Nat} {h : XH} {Q : XV → XH → Prop} {X : Nat → XH → Prop} {x0 x1 : Int} (hyp : xwp G m_Tape_append (d + 1) 3 [xR x0, xI x1, xI 24] [] h Q X) : xwp G m_Tape_append (d + 1) 0 [xR x0, xI x1, xZ] [] h Q X := by
  refine xr_bipush (pc := 0) (hI := d_Tape_append_0) (hr := by decide) (hv := by decide) ?_
  refine xr_istore_n (pc := 2) (i := 2) (L9 := [xR x0, xI x1, xI 24]) (hI := d_Tape_append_2) (hi := rfl) (hn := Nat.le_of_ble_eq_true rfl) (hL9 := rfl) ?_
  exact hyp
theorem d_Tape_append_3 : decode prog_9_method_2_code 3 = .ok (.iload_n 2, 1) := by decide +kernel
theorem d_Tape_append_4 : decode prog_9_method_2_code 4 = .ok (.ifCond .lt 54, 3) := by decide +kernel
theorem d_Tape_append_58 : decode prog_9_method_2_code 58 = .ok (.return_, 1) := by decide +kernel
theorem d_Tape_append_7 : decode prog_9_method_2_code 7 = .ok (.aload_n 0, 1) := by decide +kernel
theorem d_Tape_append_8 : decode prog_9_method_2_code 8 = .ok (.getfield 22, 3) := by decide +kernel
theorem d_Tape_append_11 : decode prog_9_method_2_code 11 = .ok (.ifCond .lt 41, 3) := by decide +kernel
theorem d_Tape_append_52 : decode prog_9_method_2_code 52 = .ok (.iinc 2 (-8), 3) := by decide +kernel
theorem d_Tape_append_55 : decode prog_9_method_2_code 55 = .ok (.goto (-52), 3) := by decide +kernel
theorem d_Tape_append_14 : decode prog_9_method_2_code 14 = .ok (.aload_n 0, 1) := by decide +kernel
theorem d_Tape_append_15 : decode prog_9_method_2_code 15 = .ok (.getfield 22, 3) := by decide +kernel
theorem d_Tape_append_18 : decode prog_9_method_2_code 18 = .ok (.aload_n 0, 1) := by decide +kernel
theorem d_Tape_append_19 : decode prog_9_method_2_code 19 = .ok (.getfield 9, 3) := by decide +kernel
theorem d_Tape_append_22 : decode prog_9_method_2_code 22 = .ok (.arraylength, 1) := by decide +kernel
theorem d_Tape_append_23 : decode prog_9_method_2_code 23 = .ok (.if_icmp .ge 29, 3) := by decide +kernel
theorem d_Tape_append_26 : decode prog_9_method_2_code 26 = .ok (.aload_n 0, 1) := by decide +kernel
theorem d_Tape_append_27 : decode prog_9_method_2_code 27 = .ok (.getfield 9, 3) := by decide +kernel
theorem d_Tape_append_30 : decode prog_9_method_2_code 30 = .ok (.aload_n 0, 1) := by decide +kernel
theorem d_Tape_append_31 : decode prog_9_method_2_code 31 = .ok (.getfield 22, 3) := by decide +kernel
theorem d_Tape_append_34 : decode prog_9_method_2_code 34 = .ok (.iload_n 1, 1) := by decide +kernel
theorem d_Tape_append_35 : decode prog_9_method_2_code 35 = .ok (.iload_n 2, 1) := by decide +kernel
theorem d_Tape_append_36 : decode prog_9_method_2_code 36 = .ok (.iushr, 1) := by decide +kernel
theorem d_Tape_append_37 : decode prog_9_method_2_code 37 = .ok (.sipush 255, 3) := by decide +kernel
theorem d_Tape_append_40 : decode prog_9_method_2_code 40 = .ok (.iand, 1) := by decide +kernel
theorem d_Tape_append_41 : decode prog_9_method_2_code 41 = .ok (.iastore, 1) := by decide +kernel
theorem d_Tape_append_42 : decode prog_9_method_2_code 42 = .ok (.aload_n 0, 1) := by decide +kernel
theorem d_Tape_append_43 : decode prog_9_method_2_code 43 = .ok (.dup, 1) := by decide +kernel
theorem d_Tape_append_44 : decode prog_9_method_2_code 44 = .ok (.getfield 22, 3) := by decide +kernel
theorem d_Tape_append_47 : decode prog_9_method_2_code 47 = .ok (.iconst 1, 1) := by decide +kernel
theorem d_Tape_append_48 : decode prog_9_method_2_code 48 = .ok (.iadd, 1) := by decide +kernel
theorem d_Tape_append_49 : decode prog_9_method_2_code 49 = .ok (.putfield 22, 3) := by decide +kernel
theorem v_Tape_append_3 {G : XG} {d : Nat} {h : XH} {Q : XV → XH → Prop} {X : Nat → XH → Prop} {x0 x1 x2 : Int} (hyp : ((x2 < 0 → Q xN h) ∧ (¬ x2 < 0 → xtg h x0 = 8 ∧ (((xpl h x0 3) < 0 → xiR (x2 + (-8)) ∧ xwp G m_Tape_append (d + 1) 3 [xR x0, xI x1, xI (x2 + (-8))] [] h Q X) ∧ (¬ (xpl h x0 3) < 0 → xtg h x0 = 8 ∧ xtg h x0 = 8 ∧ xtg h (xpl h x0 0) = 100 ∧ (((xln h (xpl h x0 0)) ≤ (xpl h x0 3) → xiR (x2 + (-8)) ∧ xwp G m_Tape_append (d + 1) 3 [xR x0, xI x1, xI (x2 + (-8))] [] h Q X) ∧ (¬ (xln h (xpl h x0 0)) ≤ (xpl h x0 3) → xtg h x0 = 8 ∧ xtg h x0 = 8 ∧ xtg h (xpl h x0 0) = 100 ∧ 0 ≤ (xpl h x0 0) ∧ 0 ≤ (xpl h x0 3) ∧ (xpl h x0 3) < xln h (xpl h x0 0) ∧ xtg (xst h (xpl h x0 0) (xpl h x0 3) (xand (xushr x1 x2) 255)) x0 = 8 ∧ xiR ((xpl (xst h (xpl h x0 0) (xpl h x0 3) (xand (xushr x1 x2) 255)) x0 3) + 1) ∧ xtg (xst h (xpl h x0 0) (xpl h x0 3) (xand (xushr x1 x2) 255)) x0 = 8 ∧ 0 ≤ x0 ∧ xiR (x2 + (-8)) ∧ xwp G m_Tape_append (d + 1) 3 [xR x0, xI x1, xI (x2 + (-8))] [] (xst (xst h (xpl h x0 0) (xpl h x0 3) (xand (xushr x1 x2) 255)) x0 3 ((xpl (xst h (xpl h x0 0) (xpl h x0 3) (xand (xushr x1 x2) 255)) x0 3) + 1)) Q X))))))) : xwp G m_Tape_append (d + 1) 3 [xR x0, xI x1, xI x2] [] h Q X := by
  refine xr_iload_n (pc := 3) (i := 2) (hI := d_Tape_append_3) (hi := rfl) (hl := rfl) ?_
  refine xr_if_lt (pc := 4) (tgt := 58) (hI := d_Tape_append_4) (ht := by decide) (fun q9 => ?_) (fun q9 => ?_)
  · replace hyp := hyp.1 q9
    exact xr_return (S := []) (pc := 58) (hI := d_Tape_append_58) (hr := rfl) hyp
  · replace hyp := hyp.2 q9
    refine xr_aload_n (pc := 7) (i := 0) (hI := d_Tape_append_7) (hi := rfl) (hl := rfl) ?_
    obtain ⟨c9, hyp⟩ := hyp
    refine xr_getf (pc := 8) (ci := 8) (k := 3) (N := 7) (v9 := 0) (T := xF8) (hI := d_Tape_append_8) (hw := w_57) rfl xi8 (Or.inl rfl) (Nat.le_of_ble_eq_true rfl) (Nat.le_of_ble_eq_true rfl) rfl c9 (fun _ => ?_)
    refine xr_if_lt (pc := 11) (tgt := 52) (hI := d_Tape_append_11) (ht := by decide) (fun q9 => ?_) (fun q9 => ?_)
    · replace hyp := hyp.1 q9
      obtain ⟨c9, hyp⟩ := hyp
      refine xr_iinc (pc := 52) (i := 2) (L9 := [xR x0, xI x1, xI (x2 + (-8))]) (hI := d_Tape_append_52) (hl := rfl) (hn := Nat.le_of_ble_eq_true rfl) (hr := c9) (hL9 := rfl) ?_
      refine xr_goto (pc := 55) (tgt := 3) (hI := d_Tape_append_55) (ht := by decide) ?_
      exact hyp
    · replace hyp := hyp.2 q9
      refine xr_aload_n (pc := 14) (i := 0) (hI := d_Tape_append_14) (hi := rfl) (hl := rfl) ?_
      obtain ⟨c9, hyp⟩ := hyp
      refine xr_getf (pc := 15) (ci := 8) (k := 3) (N := 7) (v9 := 0) (T := xF8) (hI := d_Tape_append_15) (hw := w_57) rfl xi8 (Or.inl rfl) (Nat.le_of_ble_eq_true rfl) (Nat.le_of_ble_eq_true rfl) rfl c9 (fun _ => ?_)
      refine xr_aload_n (pc := 18) (i := 0) (hI := d_Tape_append_18) (hi := rfl) (hl := rfl) ?_
      obtain ⟨c9, hyp⟩ := hyp
      refine xr_getf (pc := 19) (ci := 8) (k := 0) (N := 7) (v9 := 2) (T := xF8) (hI := d_Tape_append_19) (hw := w_54) rfl xi8 (Or.inl rfl) (Nat.le_of_ble_eq_true rfl) (Nat.le_of_ble_eq_true rfl) rfl c9 (fun _ => ?_)
      obtain ⟨c9, hyp⟩ := hyp
      refine xr_alen (pc := 22) (t := 100) (hI := d_Tape_append_22) c9 (Nat.le_of_ble_eq_true rfl) (Nat.le_of_ble_eq_true rfl) rfl (fun _ _ => ?_)
      refine xr_icmp_ge (pc := 23) (tgt := 52) (hI := d_Tape_append_23) (ht := by decide) (fun q9 => ?_) (fun q9 => ?_)
      · replace hyp := hyp.1 q9
        obtain ⟨c9, hyp⟩ := hyp
        refine xr_iinc (pc := 52) (i := 2) (L9 := [xR x0, xI x1, xI (x2 + (-8))]) (hI := d_Tape_append_52) (hl := rfl) (hn := Nat.le_of_ble_eq_true rfl) (hr := c9) (hL9 := rfl) ?_
        refine xr_goto (pc := 55) (tgt := 3) (hI := d_Tape_append_55) (ht := by decide) ?_
        exact hyp
      · replace hyp := hyp.2 q9
        refine xr_aload_n (pc := 26) (i := 0) (hI := d_Tape_append_26) (hi := rfl) (hl := rfl) ?_
        obtain ⟨c9, hyp⟩ := hyp
        refine xr_getf (pc := 27) (ci := 8) (k := 0) (N := 7) (v9 := 2) (T := xF8) (hI := d_Tape_append_27) (hw := w_54) rfl xi8 (Or.inl rfl) (Nat.le_of_ble_eq_true rfl) (Nat.le_of_ble_eq_true rfl) rfl c9 (fun _ => ?_)
        refine xr_aload_n (pc := 30) (i := 0) (hI := d_Tape_append_30) (hi := rfl) (hl := rfl) ?_
        obtain ⟨c9, hyp⟩ := hyp
        refine xr_getf (pc := 31) (ci := 8) (k := 3) (N := 7) (v9 := 0) (T := xF8) (hI := d_Tape_append_31) (hw := w_57) rfl xi8 (Or.inl rfl) (Nat.le_of_ble_eq_true rfl) (Nat.le_of_ble_eq_true rfl) rfl c9 (fun _ => ?_)
        refine xr_iload_n (pc := 34) (i := 1) (hI := d_Tape_append_34) (hi := rfl) (hl := rfl) ?_
        refine xr_iload_n (pc := 35) (i := 2) (hI := d_Tape_append_35) (hi := rfl) (hl := rfl) ?_
        refine xr_iushr (pc := 36) (hI := d_Tape_append_36) ?_
        refine xr_sipush (pc := 37) (hI := d_Tape_append_37) (hr := by decide) (hv := by decide) ?_
        refine xr_iand (pc := 40) (hI := d_Tape_append_40) ?_
        obtain ⟨c6, c7, c8, c9, hyp⟩ := hyp
        refine xr_iastore (pc := 41) (hI := d_Tape_append_41) c6 c7 c8 c9 ?_
        refine xr_aload_n (pc := 42) (i := 0) (hI := d_Tape_append_42) (hi := rfl) (hl := rfl) ?_
        refine xr_dup (pc := 43) (hI := d_Tape_append_43) (hv := rfl) ?_
        obtain ⟨c9, hyp⟩ := hyp
        refine xr_getf (pc := 44) (ci := 8) (k := 3) (N := 7) (v9 := 0) (T := xF8) (hI := d_Tape_append_44) (hw := w_57) rfl xi8 (Or.inl rfl) (Nat.le_of_ble_eq_true rfl) (Nat.le_of_ble_eq_true rfl) rfl c9 (fun _ => ?_)
        refine xr_iconst (pc := 47) (hI := d_Tape_append_47) (hr := by decide) ?_
        obtain ⟨c9, hyp⟩ := hyp
        refine xr_iadd (pc := 48) (hI := d_Tape_append_48) (hr := c9) ?_
        obtain ⟨c8, c9, hyp⟩ := hyp
        refine xr_putf (pc := 49) (ci := 8) (k := 3) (N := 7) (v9 := 0) (T := xF8) (tF := xT8) (hI := d_Tape_append_49) (hw := w_57) rfl xi8 xt8 xn8 (Or.inl rfl) (Nat.le_of_ble_eq_true rfl) (Nat.le_of_ble_eq_true rfl) rfl xfit_i rfl c8 c9 (fun z => z) ?_
        obtain ⟨c9, hyp⟩ := hyp
        refine xr_iinc (pc := 52) (i := 2) (L9 := [xR x0, xI x1, xI (x2 + (-8))]) (hI := d_Tape_append_52) (hl := rfl) (hn := Nat.le_of_ble_eq_true rfl) (hr := c9) (hL9 := rfl) ?_
        refine xr_goto (pc := 55) (tgt := 3) (hI := d_Tape_append_55) (ht := by decide) ?_
        exact hyp
abbrev m_B_checkKey : XM := (⟨"BeaconIndex", "checkKey", "(I)V"⟩, prog_1_method_43_code, 1, none, [])
theorem d_B_checkKey_0 : decode prog_1_method_43_code 0 = .ok (.iload_n 0, 1) := by decide +kernel
theorem d_B_checkKey_1 : decode prog_1_method_43_code 1 = .ok (.ifCond .lt 9, 3) := by decide +kernel
theorem d_B_checkKey_10 : decode prog_1_method_43_code 10 = .ok (.new 66, 3) := by decide +kernel
theorem d_B_checkKey_13 : decode prog_1_method_43_code 13 = .ok (.dup, 1) := by decide +kernel
theorem d_B_checkKey_14 : decode prog_1_method_43_code 14 = .ok (.invokespecial 68, 3) := by decide +kernel
theorem d_B_checkKey_17 : decode prog_1_method_43_code 17 = .ok (.athrow, 1) := by decide +kernel
theorem w_1295 : Cond.classLink "BeaconIndex" 66 "java/lang/IllegalArgumentException" ∈ lw_tbl := List.mem_append_right _ (List.mem_of_getElem? (i := 1295) (by decide +kernel))
theorem w_21 : Cond.initialized "java/lang/IllegalArgumentException" ∈ lw_tbl := List.mem_append_right _ (List.mem_of_getElem? (i := 21) (by decide +kernel))
theorem thr_B_68 : (∀ w ∈ vx_at0 "BeaconIndex" 68 (xex 0) ["java/lang/RuntimeException", "java/lang/Exception"], w ∈ lw_tbl) ∧ (∀ w ∈ vx_at0 "BeaconIndex" 68 (xex 0) ["java/lang/RuntimeException", "java/lang/Exception"], xgw w = true) := by decide +kernel
theorem d_B_checkKey_4 : decode prog_1_method_43_code 4 = .ok (.iload_n 0, 1) := by decide +kernel
theorem d_B_checkKey_5 : decode prog_1_method_43_code 5 = .ok (.bipush 100, 2) := by decide +kernel
theorem d_B_checkKey_7 : decode prog_1_method_43_code 7 = .ok (.if_icmp .lt 11, 3) := by decide +kernel
theorem d_B_checkKey_18 : decode prog_1_method_43_code 18 = .ok (.return_, 1) := by decide +kernel
theorem v_B_checkKey_0 {G : XG} {d : Nat} {h : XH} {Q : XV → XH → Prop} {X : Nat → XH → Prop} {x0 : Int} (hyp : ((x0 < 0 → 7 ≤ d + 1 ∧ xnx h + 1 ≤ xKC ∧ xsl h + 6 ≤ xKS ∧ X 0 (xmk h 300 6 (fun _ => 0))) ∧ (¬ x0 < 0 → ((x0 < 100 → Q xN h) ∧ (¬ x0 < 100 → 7 ≤ d + 1 ∧ xnx h + 1 ≤ xKC ∧ xsl h + 6 ≤ xKS ∧ X 0 (xmk h 300 6 (fun _ => 0))))))) : xwp G m_B_checkKey (d + 1) 0 [xI x0] [] h Q X := by
  refine xr_iload_n (pc := 0) (i := 0) (hI := d_B_checkKey_0) (hi := rfl) (hl := rfl) ?_
  refine xr_if_lt (pc := 1) (tgt := 10) (hI := d_B_checkKey_1) (ht := by decide) (fun q9 => ?_) (fun q9 => ?_)
  · replace hyp := hyp.1 q9
    obtain ⟨c6, c7, c8, hyp⟩ := hyp
    exact xr_throw (pc := 10) (k := 0) (ik := 66) (ic := 68) (names := ["java/lang/RuntimeException", "java/lang/Exception"]) (by decide +kernel) (by decide +kernel) (by decide) w_1295 w_21 thr_B_68.1 thr_B_68.2 d_B_checkKey_10 d_B_checkKey_13 d_B_checkKey_14 d_B_checkKey_17 rfl (Nat.le_of_ble_eq_true rfl) c6 (Nat.le_of_ble_eq_true rfl) c7 c8 hyp
  · replace hyp := hyp.2 q9
    refine xr_iload_n (pc := 4) (i := 0) (hI := d_B_checkKey_4) (hi := rfl) (hl := rfl) ?_
    refine xr_bipush (pc := 5) (hI := d_B_checkKey_5) (hr := by decide) (hv := by decide) ?_
    refine xr_icmp_lt (pc := 7) (tgt := 18) (hI := d_B_checkKey_7) (ht := by decide) (fun q9 => ?_) (fun q9 => ?_)
    · replace hyp := hyp.1 q9
      exact xr_return (S := []) (pc := 18) (hI := d_B_checkKey_18) (hr := rfl) hyp
    · replace hyp := hyp.2 q9
      obtain ⟨c6, c7, c8, hyp⟩ := hyp
      exact xr_throw (pc := 10) (k := 0) (ik := 66) (ic := 68) (names := ["java/lang/RuntimeException", "java/lang/Exception"]) (by decide +kernel) (by decide +kernel) (by decide) w_1295 w_21 thr_B_68.1 thr_B_68.2 d_B_checkKey_10 d_B_checkKey_13 d_B_checkKey_14 d_B_checkKey_17 rfl (Nat.le_of_ble_eq_true rfl) c6 (Nat.le_of_ble_eq_true rfl) c7 c8 hyp
end
