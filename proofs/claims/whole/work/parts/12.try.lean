section
abbrev m_Tape_append : XM := (⟨"BeaconIndex$Tape", "append", "(I)V"⟩, prog_9_method_2_code, 3, none, [])
theorem d_Tape_append_0 : decode prog_9_method_2_code 0 = .ok (.bipush 24, 2) := by decide +kernel
theorem d_Tape_append_2 : decode prog_9_method_2_code 2 = .ok (.istore_n 2, 1) := by decide +kernel
theorem d_Tape_append_3 : decode prog_9_method_2_code 3 = .ok (.iload_n 2, 1) := by decide +kernel
theorem d_Tape_append_4 : decode prog_9_method_2_code 4 = .ok (.ifCond .lt 54, 3) := by decide +kernel
theorem d_Tape_append_58 : decode prog_9_method_2_code 58 = .ok (.return_, 1) := by decide +kernel
theorem d_Tape_append_7 : decode prog_9_method_2_code 7 = .ok (.aload_n 0, 1) := by decide +kernel
theorem d_Tape_append_8 : decode prog_9_method_2_code 8 = .ok (.getfield 22, 3) := by decide +kernel
theorem w_57 : Cond.fieldLink "BeaconIndex$Tape" 22 "BeaconIndex$Tape" "length" "I" ∈ lw_tbl := List.mem_append_right _ (List.mem_of_getElem? (i := 57) (by decide +kernel))
theorem d_Tape_append_11 : decode prog_9_method_2_code 11 = .ok (.ifCond .lt 41, 3) := by decide +kernel
theorem d_Tape_append_52 : decode prog_9_method_2_code 52 = .ok (.iinc 2 (-8), 3) := by decide +kernel
theorem d_Tape_append_55 : decode prog_9_method_2_code 55 = .ok (.goto (-52), 3) := by decide +kernel
theorem d_Tape_append_14 : decode prog_9_method_2_code 14 = .ok (.aload_n 0, 1) := by decide +kernel
theorem d_Tape_append_15 : decode prog_9_method_2_code 15 = .ok (.getfield 22, 3) := by decide +kernel
theorem d_Tape_append_18 : decode prog_9_method_2_code 18 = .ok (.aload_n 0, 1) := by decide +kernel
theorem d_Tape_append_19 : decode prog_9_method_2_code 19 = .ok (.getfield 9, 3) := by decide +kernel
theorem w_54 : Cond.fieldLink "BeaconIndex$Tape" 9 "BeaconIndex$Tape" "bytes" "[I" ∈ lw_tbl := List.mem_append_right _ (List.mem_of_getElem? (i := 54) (by decide +kernel))
theorem d_Tape_append_22 : decode prog_9_method_2_code 22 = .ok (.arraylength, 1) := by decide +kernel
theorem d_Tape_append_23 : decode prog_9_method_2_code 23 = .ok (.if_icmp .ge 29, 3) := by decide +kernel
theorem d_Tape_append_26 : decode prog_9_method_2_code 26 = .ok (.aload_n 0, 1) := by decide +kernel
theorem d_Tape_append_27 : decode prog_9_method_2_code 27 = .ok (.getfield 9, 3) := by decide +kernel
theorem d_Tape_append_30 : decode prog_9_method_2_code 30 = .ok (.aload_n 0, 1) := by decide +kernel
theorem d_Tape_append_31 : decode prog_9_method_2_code 31 = .ok (.getfield 22, 3) := by decide +kernel
theorem d_Tape_append_34 : decode prog_9_method_2_code 34 = .ok (.iload_n 1, 1) := by decide +kernel
theorem d_Tape_append_35 : decode prog_9_method_2_code 35 = .ok (.iload_n 2, 1) := by decide +kernel
theorem d_Tape_append_36 : decode prog_9_method_2_code 36 = .ok (.iushr, 1) := by decide +kernel
theorem d_Tape_append_37 : decode prog_9_method_2_code 37 = .ok (.sipush 255, 3) := by decide +kernel
theorem d_Tape_append_40 : decode prog_9_method_2_code 40 = .ok (.iand, 1) := by decide +kernel
theorem d_Tape_append_41 : decode prog_9_method_2_code 41 = .ok (.iastore, 1) := by decide +kernel
theorem d_Tape_append_42 : decode prog_9_method_2_code 42 = .ok (.aload_n 0, 1) := by decide +kernel
theorem d_Tape_append_43 : decode prog_9_method_2_code 43 = .ok (.dup, 1) := by decide +kernel
theorem d_Tape_append_44 : decode prog_9_method_2_code 44 = .ok (.getfield 22, 3) := by decide +kernel
theorem d_Tape_append_47 : decode prog_9_method_2_code 47 = .ok (.iconst 1, 1) := by decide +kernel
theorem d_Tape_append_48 : decode prog_9_method_2_code 48 = .ok (.iadd, 1) := by decide +kernel
theorem d_Tape_append_49 : decode prog_9_method_2_code 49 = .ok (.putfield 22, 3) := by decide +kernel
theorem v_Tape_append_3_0 {G : XG} {d : Nat} {h : XH} {Q : XV → XH → Prop} {X : Nat → XH → Prop} {x0 x1 x2 : Int} (hyp : ((x2 < 0 → Q xN h) ∧ (¬ x2 < 0 → xtg h x0 = 8 ∧ (((xpl h x0 3) < 0 → xiR (x2 + (-8)) ∧ xwp G m_Tape_append (d + 1) 3 [xR x0, xI x1, xI (x2 + (-8))] [] h Q X) ∧ (¬ (xpl h x0 3) < 0 → xtg h x0 = 8 ∧ xtg h x0 = 8 ∧ xtg h (xpl h x0 0) = 100 ∧ (((xln h (xpl h x0 0)) ≤ (xpl h x0 3) → xiR (x2 + (-8)) ∧ xwp G m_Tape_append (d + 1) 3 [xR x0, xI x1, xI (x2 + (-8))] [] h Q X) ∧ (¬ (xln h (xpl h x0 0)) ≤ (xpl h x0 3) → xtg h x0 = 8 ∧ xtg h x0 = 8 ∧ xtg h (xpl h x0 0) = 100 ∧ 0 ≤ (xpl h x0 0) ∧ 0 ≤ (xpl h x0 3) ∧ (xpl h x0 3) < xln h (xpl h x0 0) ∧ xtg (xst h (xpl h x0 0) (xpl h x0 3) (xand (xushr x1 x2) 255)) x0 = 8 ∧ xiR ((xpl (xst h (xpl h x0 0) (xpl h x0 3) (xand (xushr x1 x2) 255)) x0 3) + 1) ∧ xtg (xst h (xpl h x0 0) (xpl h x0 3) (xand (xushr x1 x2) 255)) x0 = 8 ∧ 0 ≤ x0 ∧ xiR (x2 + (-8)) ∧ xwp G m_Tape_append (d + 1) 3 [xR x0, xI x1, xI (x2 + (-8))] [] xst (xst h (xpl h x0 0) (xpl h x0 3) (xand (xushr x1 x2) 255)) x0 3 ((xpl (xst h (xpl h x0 0) (xpl h x0 3) (xand (xushr x1 x2) 255)) x0 3) + 1) Q X))))))) : xwp G m_Tape_append (d + 1) 3 [xR x0, xI x1, xI x2] [] h Q X := by
  refine xr_iload_n (pc := 3) (i := 2) (hI := d_Tape_append_3) (hi := rfl) (hl := rfl) ?_
  refine xr_if_lt (pc := 4) (tgt := 58) (hI := d_Tape_append_4) (ht := by decide) (fun q9 => ?_) (fun q9 => ?_)
  · replace hyp := hyp.1 q9
    exact xr_return (S := []) (pc := 58) (hI := d_Tape_append_58) (hr := rfl) hyp
  · replace hyp := hyp.2 q9
    refine xr_aload_n (pc := 7) (i := 0) (hI := d_Tape_append_7) (hi := rfl) (hl := rfl) ?_
    obtain ⟨c9, hyp⟩ := hyp
    refine xr_getf (pc := 8) (ci := 8) (k := 3) (N := 7) (v9 := 0) (T := xF8) (hI := d_Tape_append_8) (hw := w_57) rfl xi8 (Or.inl rfl) (Nat.le_of_ble_eq_true rfl) (Nat.le_of_ble_eq_true rfl) rfl c9 (fun _ => ?_)
    refine xr_if_lt (pc := 11) (tgt := 52) (hI := d_Tape_append_11) (ht := by decide) (fun q9 => ?_) (fun q9 => ?_)
    · replace hyp := hyp.1 q9
      obtain ⟨c9, hyp⟩ := hyp
      refine xr_iinc (pc := 52) (i := 2) (L9 := [xR x0, xI x1, xI (x2 + (-8))]) (hI := d_Tape_append_52) (hl := rfl) (hn := Nat.le_of_ble_eq_true rfl) (hr := c9) (hL9 := rfl) ?_
      refine xr_goto (pc := 55) (tgt := 3) (hI := d_Tape_append_55) (ht := by decide) ?_
      exact hyp
    · replace hyp := hyp.2 q9
      refine xr_aload_n (pc := 14) (i := 0) (hI := d_Tape_append_14) (hi := rfl) (hl := rfl) ?_
      obtain ⟨c9, hyp⟩ := hyp
      refine xr_getf (pc := 15) (ci := 8) (k := 3) (N := 7) (v9 := 0) (T := xF8) (hI := d_Tape_append_15) (hw := w_57) rfl xi8 (Or.inl rfl) (Nat.le_of_ble_eq_true rfl) (Nat.le_of_ble_eq_true rfl) rfl c9 (fun _ => ?_)
      refine xr_aload_n (pc := 18) (i := 0) (hI := d_Tape_append_18) (hi := rfl) (hl := rfl) ?_
      obtain ⟨c9, hyp⟩ := hyp
      refine xr_getf (pc := 19) (ci := 8) (k := 0) (N := 7) (v9 := 2) (T := xF8) (hI := d_Tape_append_19) (hw := w_54) rfl xi8 (Or.inl rfl) (Nat.le_of_ble_eq_true rfl) (Nat.le_of_ble_eq_true rfl) rfl c9 (fun _ => ?_)
      obtain ⟨c9, hyp⟩ := hyp
      refine xr_alen (pc := 22) (t := 100) (hI := d_Tape_append_22) c9 (Nat.le_of_ble_eq_true rfl) (Nat.le_of_ble_eq_true rfl) rfl (fun _ _ => ?_)
      refine xr_icmp_ge (pc := 23) (tgt := 52) (hI := d_Tape_append_23) (ht := by decide) (fun q9 => ?_) (fun q9 => ?_)
      · replace hyp := hyp.1 q9
        obtain ⟨c9, hyp⟩ := hyp
        refine xr_iinc (pc := 52) (i := 2) (L9 := [xR x0, xI x1, xI (x2 + (-8))]) (hI := d_Tape_append_52) (hl := rfl) (hn := Nat.le_of_ble_eq_true rfl) (hr := c9) (hL9 := rfl) ?_
        refine xr_goto (pc := 55) (tgt := 3) (hI := d_Tape_append_55) (ht := by decide) ?_
        exact hyp
      · replace hyp := hyp.2 q9
        refine xr_aload_n (pc := 26) (i := 0) (hI := d_Tape_append_26) (hi := rfl) (hl := rfl) ?_
        obtain ⟨c9, hyp⟩ := hyp
        refine xr_getf (pc := 27) (ci := 8) (k := 0) (N := 7) (v9 := 2) (T := xF8) (hI := d_Tape_append_27) (hw := w_54) rfl xi8 (Or.inl rfl) (Nat.le_of_ble_eq_true rfl) (Nat.le_of_ble_eq_true rfl) rfl c9 (fun _ => ?_)
        refine xr_aload_n (pc := 30) (i := 0) (hI := d_Tape_append_30) (hi := rfl) (hl := rfl) ?_
        obtain ⟨c9, hyp⟩ := hyp
        refine xr_getf (pc := 31) (ci := 8) (k := 3) (N := 7) (v9 := 0) (T := xF8) (hI := d_Tape_append_31) (hw := w_57) rfl xi8 (Or.inl rfl) (Nat.le_of_ble_eq_true rfl) (Nat.le_of_ble_eq_true rfl) rfl c9 (fun _ => ?_)
        refine xr_iload_n (pc := 34) (i := 1) (hI := d_Tape_append_34) (hi := rfl) (hl := rfl) ?_
        refine xr_iload_n (pc := 35) (i := 2) (hI := d_Tape_append_35) (hi := rfl) (hl := rfl) ?_
        refine xr_iushr (pc := 36) (hI := d_Tape_append_36) ?_
        refine xr_sipush (pc := 37) (hI := d_Tape_append_37) (hr := by decide) (hv := by decide) ?_
        refine xr_iand (pc := 40) (hI := d_Tape_append_40) ?_
        obtain ⟨c6, c7, c8, c9, hyp⟩ := hyp
        refine xr_iastore (pc := 41) (hI := d_Tape_append_41) c6 c7 c8 c9 ?_
        refine xr_aload_n (pc := 42) (i := 0) (hI := d_Tape_append_42) (hi := rfl) (hl := rfl) ?_
        refine xr_dup (pc := 43) (hI := d_Tape_append_43) (hv := rfl) ?_
        obtain ⟨c9, hyp⟩ := hyp
        refine xr_getf (pc := 44) (ci := 8) (k := 3) (N := 7) (v9 := 0) (T := xF8) (hI := d_Tape_append_44) (hw := w_57) rfl xi8 (Or.inl rfl) (Nat.le_of_ble_eq_true rfl) (Nat.le_of_ble_eq_true rfl) rfl c9 (fun _ => ?_)
        refine xr_iconst (pc := 47) (hI := d_Tape_append_47) (hr := by decide) ?_
        obtain ⟨c9, hyp⟩ := hyp
        refine xr_iadd (pc := 48) (hI := d_Tape_append_48) (hr := c9) ?_
        obtain ⟨c8, c9, hyp⟩ := hyp
        refine xr_putf (pc := 49) (ci := 8) (k := 3) (N := 7) (v9 := 0) (T := xF8) (tF := xT8) (hI := d_Tape_append_49) (hw := w_57) rfl xi8 xt8 xn8 (Or.inl rfl) (Nat.le_of_ble_eq_true rfl) (Nat.le_of_ble_eq_true rfl) rfl xfit_i rfl c8 c9 (fun z => z) ?_
        obtain ⟨c9, hyp⟩ := hyp
        refine xr_iinc (pc := 52) (i := 2) (L9 := [xR x0, xI x1, xI (x2 + (-8))]) (hI := d_Tape_append_52) (hl := rfl) (hn := Nat.le_of_ble_eq_true rfl) (hr := c9) (hL9 := rfl) ?_
        refine xr_goto (pc := 55) (tgt := 3) (hI := d_Tape_append_55) (ht := by decide) ?_
        exact hyp
end
