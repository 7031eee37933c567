/-! ===== tape2 ===== -/
section
abbrev m_Tape_firstLetters : XM := (⟨"BeaconIndex$Tape", "firstLetters", "(I)J"⟩, prog_9_method_13_code, 5, (some .long), [])
theorem d_Tape_firstLetters_0 : decode prog_9_method_13_code 0 = .ok (.lconst 0, 1) := by decide +kernel
theorem d_Tape_firstLetters_1 : decode prog_9_method_13_code 1 = .ok (.lstore_n 2, 1) := by decide +kernel
theorem d_Tape_firstLetters_2 : decode prog_9_method_13_code 2 = .ok (.iconst 0, 1) := by decide +kernel
theorem d_Tape_firstLetters_3 : decode prog_9_method_13_code 3 = .ok (.istore 4, 2) := by decide +kernel
theorem v_Tape_firstLetters_0 {G : XG} {d : Nat} {h : XH} {Q : XV → XH → Prop} {X : Nat → XH → Prop} {x1 : Int} (F : xFix h) (hyp : (xwp G m_Tape_firstLetters (d + 3) 5 [xR 1, xI x1, xL 0, xZ, xI 0] [] h Q X)) : xwp G m_Tape_firstLetters (d + 3) 0 [xR 1, xI x1, xZ, xZ, xZ] [] h Q X := by
  have hnx9 : (93 : Int) ≤ xnx h := F.2.2
  refine xr_okL (fun hl9 => ?_)
  have r_x1 : -2147483648 ≤ x1 ∧ x1 ≤ 2147483647 := hl9 (xI x1) (.tail _ (.head _)) (Nat.le_of_ble_eq_true rfl)
  refine xr_lconst (pc := 0) (z := 0) (hI := d_Tape_firstLetters_0) (hr := by decide) (hv := by decide) ?_
  refine xr_lstore_n (pc := 1) (i := 2) (L9 := [xR 1, xI x1, xL 0, xZ, xZ]) (hI := d_Tape_firstLetters_1) (hi := rfl) (hn := Nat.le_of_ble_eq_true rfl) (hL9 := rfl) ?_
  refine xr_iconst (pc := 2) (hI := d_Tape_firstLetters_2) (hr := by decide) ?_
  refine xr_istore (pc := 3) (i := 4) (L9 := [xR 1, xI x1, xL 0, xZ, xI 0]) (hI := d_Tape_firstLetters_3) (hn := Nat.le_of_ble_eq_true rfl) (hL9 := rfl) ?_
  exact hyp
theorem d_Tape_firstLetters_5 : decode prog_9_method_13_code 5 = .ok (.iload 4, 2) := by decide +kernel
theorem d_Tape_firstLetters_7 : decode prog_9_method_13_code 7 = .ok (.iload_n 1, 1) := by decide +kernel
theorem d_Tape_firstLetters_8 : decode prog_9_method_13_code 8 = .ok (.if_icmp .ge 36, 3) := by decide +kernel
theorem d_Tape_firstLetters_44 : decode prog_9_method_13_code 44 = .ok (.lload_n 2, 1) := by decide +kernel
theorem d_Tape_firstLetters_45 : decode prog_9_method_13_code 45 = .ok (.lreturn, 1) := by decide +kernel
theorem d_Tape_firstLetters_11 : decode prog_9_method_13_code 11 = .ok (.iload 4, 2) := by decide +kernel
theorem d_Tape_firstLetters_13 : decode prog_9_method_13_code 13 = .ok (.aload_n 0, 1) := by decide +kernel
theorem d_Tape_firstLetters_14 : decode prog_9_method_13_code 14 = .ok (.getfield 19, 3) := by decide +kernel
theorem d_Tape_firstLetters_17 : decode prog_9_method_13_code 17 = .ok (.arraylength, 1) := by decide +kernel
theorem d_Tape_firstLetters_18 : decode prog_9_method_13_code 18 = .ok (.if_icmp .ge 26, 3) := by decide +kernel
theorem d_Tape_firstLetters_21 : decode prog_9_method_13_code 21 = .ok (.lload_n 2, 1) := by decide +kernel
theorem d_Tape_firstLetters_22 : decode prog_9_method_13_code 22 = .ok (.iload 4, 2) := by decide +kernel
theorem d_Tape_firstLetters_24 : decode prog_9_method_13_code 24 = .ok (.aload_n 0, 1) := by decide +kernel
theorem d_Tape_firstLetters_25 : decode prog_9_method_13_code 25 = .ok (.getfield 19, 3) := by decide +kernel
theorem d_Tape_firstLetters_28 : decode prog_9_method_13_code 28 = .ok (.iload 4, 2) := by decide +kernel
theorem d_Tape_firstLetters_30 : decode prog_9_method_13_code 30 = .ok (.iaload, 1) := by decide +kernel
theorem d_Tape_firstLetters_31 : decode prog_9_method_13_code 31 = .ok (.invokestatic 39, 3) := by decide +kernel
theorem d_Tape_firstLetters_34 : decode prog_9_method_13_code 34 = .ok (.invokestatic 107, 3) := by decide +kernel
theorem k_Words_withSign : xCal m_Words_withSign 3 := ⟨List.mem_append_right _ (List.mem_of_getElem? (i := 863) (by decide +kernel)), w_24, Nat.le_of_ble_eq_true rfl, ⟨by decide +kernel, by decide +kernel⟩, by decide +kernel, by decide +kernel, rfl⟩
theorem w_861 : Cond.methodLink "BeaconIndex$Tape" 107 ⟨"BeaconIndex$Words", "withSign", "(JII)J"⟩ ∈ lw_tbl := List.mem_append_right _ (List.mem_of_getElem? (i := 861) (by decide +kernel))
theorem w_862 : Cond.static ⟨"BeaconIndex$Words", "withSign", "(JII)J"⟩ ∈ lw_tbl := List.mem_append_right _ (List.mem_of_getElem? (i := 862) (by decide +kernel))
theorem d_Tape_firstLetters_37 : decode prog_9_method_13_code 37 = .ok (.lstore_n 2, 1) := by decide +kernel
theorem d_Tape_firstLetters_38 : decode prog_9_method_13_code 38 = .ok (.iinc 4 1, 3) := by decide +kernel
theorem d_Tape_firstLetters_41 : decode prog_9_method_13_code 41 = .ok (.goto (-36), 3) := by decide +kernel
theorem v_Tape_firstLetters_5 {G : XG} {d : Nat} {h : XH} {Q : XV → XH → Prop} {X : Nat → XH → Prop} {x1 x2 x4 : Int} (F : xFix h) (hyp : ((x1 ≤ x4 → (Q (xL x2) h)) ∧ (¬ x1 ≤ x4 → (((12 : Int) ≤ x4 → (Q (xL x2) h)) ∧ (¬ (12 : Int) ≤ x4 → 0 ≤ x4 ∧ (xwp G m_Tape_firstLetters (d + 3) 5 [xR 1, xI x1, xL (wsg x2 x4 (sgn (xpl h 4 x4))), xZ, xI (x4 + 1)] [] h Q X)))))) : xwp G m_Tape_firstLetters (d + 3) 5 [xR 1, xI x1, xL x2, xZ, xI x4] [] h Q X := by
  have hnx9 : (93 : Int) ≤ xnx h := F.2.2
  refine xr_okL (fun hl9 => ?_)
  have r_x1 : -2147483648 ≤ x1 ∧ x1 ≤ 2147483647 := hl9 (xI x1) (.tail _ (.head _)) (Nat.le_of_ble_eq_true rfl)
  have r_x2 : -9223372036854775808 ≤ x2 ∧ x2 ≤ 9223372036854775807 := hl9 (xL x2) (.tail _ (.tail _ (.head _))) (Nat.le_of_ble_eq_true rfl)
  have r_x4 : -2147483648 ≤ x4 ∧ x4 ≤ 2147483647 := hl9 (xI x4) (.tail _ (.tail _ (.tail _ (.tail _ (.head _))))) (Nat.le_of_ble_eq_true rfl)
  refine xr_iload (pc := 5) (i := 4) (hI := d_Tape_firstLetters_5) (hl := rfl) ?_
  refine xr_iload_n (pc := 7) (i := 1) (hI := d_Tape_firstLetters_7) (hi := rfl) (hl := rfl) ?_
  refine xr_icmp_ge (pc := 8) (tgt := 44) (hI := d_Tape_firstLetters_8) (ht := by decide) (fun q9 => ?_) (fun q9 => ?_)
  · replace hyp := hyp.1 q9
    have q1_ := q9
    clear q9
    refine xr_lload_n (pc := 44) (i := 2) (hI := d_Tape_firstLetters_44) (hi := rfl) (hl := rfl) ?_
    refine xr_lreturn (S := []) (pc := 45) (hI := d_Tape_firstLetters_45) (hr := rfl) ?_
    exact hyp
  · replace hyp := hyp.2 q9
    have q1_ := q9
    clear q9
    refine xr_iload (pc := 11) (i := 4) (hI := d_Tape_firstLetters_11) (hl := rfl) ?_
    refine xr_aload_n (pc := 13) (i := 0) (hI := d_Tape_firstLetters_13) (hi := rfl) (hl := rfl) ?_
    refine xg_getf (pc := 14) (ci := 8) (k := 2) (N := 7) (v9 := 2) (v := 4) (T := xF8) (hI := d_Tape_firstLetters_14) (hw := w_56) rfl xi8 (Or.inl rfl) (Nat.le_of_ble_eq_true rfl) (Nat.le_of_ble_eq_true rfl) rfl (ft_1 F) (fp_1_2 F) (fun f2_ => ?_)
    clear f2_
    refine xg_alen (pc := 17) (t := 100) (v := 12) (hI := d_Tape_firstLetters_17) (ft_4 F) (Nat.le_of_ble_eq_true rfl) (Nat.le_of_ble_eq_true rfl) rfl (fl_4 F) (fun f3_ f4_ => ?_)
    clear f3_ f4_
    refine xr_icmp_ge (pc := 18) (tgt := 44) (hI := d_Tape_firstLetters_18) (ht := by decide) (fun q9 => ?_) (fun q9 => ?_)
    · replace hyp := hyp.1 q9
      have q5_ := q9
      clear q9
      refine xr_lload_n (pc := 44) (i := 2) (hI := d_Tape_firstLetters_44) (hi := rfl) (hl := rfl) ?_
      refine xr_lreturn (S := []) (pc := 45) (hI := d_Tape_firstLetters_45) (hr := rfl) ?_
      exact hyp
    · replace hyp := hyp.2 q9
      have q5_ := q9
      clear q9
      refine xr_lload_n (pc := 21) (i := 2) (hI := d_Tape_firstLetters_21) (hi := rfl) (hl := rfl) ?_
      refine xr_iload (pc := 22) (i := 4) (hI := d_Tape_firstLetters_22) (hl := rfl) ?_
      refine xr_aload_n (pc := 24) (i := 0) (hI := d_Tape_firstLetters_24) (hi := rfl) (hl := rfl) ?_
      refine xg_getf (pc := 25) (ci := 8) (k := 2) (N := 7) (v9 := 2) (v := 4) (T := xF8) (hI := d_Tape_firstLetters_25) (hw := w_56) rfl xi8 (Or.inl rfl) (Nat.le_of_ble_eq_true rfl) (Nat.le_of_ble_eq_true rfl) rfl (ft_1 F) (fp_1_2 F) (fun f6_ => ?_)
      clear f6_
      refine xr_iload (pc := 28) (i := 4) (hI := d_Tape_firstLetters_28) (hl := rfl) ?_
      obtain ⟨c7_, hyp⟩ := hyp
      refine xg_iaload (pc := 30) (v := (xpl h 4 x4)) (hI := d_Tape_firstLetters_30) (ft_4 F) c7_ (xlt_of (fl_4 F) (by clear hyp; omega)) rfl (fun f8_ => ?_)
      replace f8_ : -2147483648 ≤ (xpl h 4 x4) ∧ (xpl h 4 x4) ≤ 2147483647 := f8_
      refine xq_callS (pc := 31) (index := 39) (K := m_Words_signOf) (As := [xI (xpl h 4 x4)]) (S := [xI x4, xL x2]) (L0 := [xI (xpl h 4 x4)]) (hI := d_Tape_firstLetters_31) (hK := k_Words_signOf) (hlk := w_795) (hnoM := rfl) (hS8 := Nat.le_of_ble_eq_true rfl) (hstat := w_796) (hlen := Nat.le_of_ble_eq_true rfl) (hst := rfl) (hL0 := rfl)  (p_Words_signOf F  ?_)
      show xwp G m_Tape_firstLetters (d + 3) 34 [xR 1, xI x1, xL x2, xZ, xI x4] [xI (sgn (xpl h 4 x4)), xI x4, xL x2] _ _ _
      have f9_ : 0 ≤ (sgn (xpl h 4 x4)) ∧ (sgn (xpl h 4 x4)) ≤ 36 := sgn_rng _
      refine xq_callS (pc := 34) (index := 107) (K := m_Words_withSign) (As := [xL x2, xI x4, xI (sgn (xpl h 4 x4))]) (S := []) (L0 := [xL x2, xZ, xI x4, xI (sgn (xpl h 4 x4))]) (hI := d_Tape_firstLetters_34) (hK := k_Words_withSign) (hlk := w_861) (hnoM := rfl) (hS8 := Nat.le_of_ble_eq_true rfl) (hstat := w_862) (hlen := Nat.le_of_ble_eq_true rfl) (hst := rfl) (hL0 := rfl)  (p_Words_withSign F (by clear hyp; omega) (by clear hyp; omega) ?_)
      show xwp G m_Tape_firstLetters (d + 3) 37 [xR 1, xI x1, xL x2, xZ, xI x4] [xL (wsg x2 x4 (sgn (xpl h 4 x4)))] _ _ _
      refine xr_lstore_n (pc := 37) (i := 2) (L9 := [xR 1, xI x1, xL (wsg x2 x4 (sgn (xpl h 4 x4))), xZ, xI x4]) (hI := d_Tape_firstLetters_37) (hi := rfl) (hn := Nat.le_of_ble_eq_true rfl) (hL9 := rfl) ?_
      refine xr_iinc (pc := 38) (i := 4) (L9 := [xR 1, xI x1, xL (wsg x2 x4 (sgn (xpl h 4 x4))), xZ, xI (x4 + 1)]) (hI := d_Tape_firstLetters_38) (hl := rfl) (hn := Nat.le_of_ble_eq_true rfl) (hr := ⟨by clear hyp; omega, by clear hyp; omega⟩) (hL9 := rfl) ?_
      refine xr_goto (pc := 41) (tgt := 5) (hI := d_Tape_firstLetters_41) (ht := by decide) ?_
      exact hyp
abbrev m_Tape_runEndsWith : XM := (⟨"BeaconIndex$Tape", "runEndsWith", "(Ljava/lang/String;)Z"⟩, prog_9_method_12_code, 4, (some .boolean), [])
theorem d_Tape_runEndsWith_0 : decode prog_9_method_12_code 0 = .ok (.aload_n 0, 1) := by decide +kernel
theorem d_Tape_runEndsWith_1 : decode prog_9_method_12_code 1 = .ok (.getfield 32, 3) := by decide +kernel
theorem d_Tape_runEndsWith_4 : decode prog_9_method_12_code 4 = .ok (.aload_n 1, 1) := by decide +kernel
theorem d_Tape_runEndsWith_5 : decode prog_9_method_12_code 5 = .ok (.invokevirtual 73, 3) := by decide +kernel
theorem k_String_length : xCal m_String_length 0 := ⟨List.mem_append_right _ (List.mem_of_getElem? (i := 814) (by decide +kernel)), w_26, Nat.le_of_ble_eq_true rfl, ⟨by decide +kernel, by decide +kernel⟩, by decide +kernel, by decide +kernel, rfl⟩
theorem w_811 : Cond.methodLink "BeaconIndex$Tape" 73 ⟨"java/lang/String", "length", "()I"⟩ ∈ lw_tbl := List.mem_append_right _ (List.mem_of_getElem? (i := 811) (by decide +kernel))
theorem w_812 : Cond.instanceMethod ⟨"java/lang/String", "length", "()I"⟩ ∈ lw_tbl := List.mem_append_right _ (List.mem_of_getElem? (i := 812) (by decide +kernel))
theorem w_813 : Cond.selects "java/lang/String" ⟨"java/lang/String", "length", "()I"⟩ ⟨"java/lang/String", "length", "()I"⟩ ∈ lw_tbl := List.mem_append_right _ (List.mem_of_getElem? (i := 813) (by decide +kernel))
theorem d_Tape_runEndsWith_8 : decode prog_9_method_12_code 8 = .ok (.isub, 1) := by decide +kernel
theorem d_Tape_runEndsWith_9 : decode prog_9_method_12_code 9 = .ok (.istore_n 2, 1) := by decide +kernel
theorem d_Tape_runEndsWith_10 : decode prog_9_method_12_code 10 = .ok (.iload_n 2, 1) := by decide +kernel
theorem d_Tape_runEndsWith_11 : decode prog_9_method_12_code 11 = .ok (.ifCond .ge 5, 3) := by decide +kernel
theorem d_Tape_runEndsWith_16 : decode prog_9_method_12_code 16 = .ok (.iconst 0, 1) := by decide +kernel
theorem d_Tape_runEndsWith_17 : decode prog_9_method_12_code 17 = .ok (.istore_n 3, 1) := by decide +kernel
theorem d_Tape_runEndsWith_14 : decode prog_9_method_12_code 14 = .ok (.iconst 0, 1) := by decide +kernel
theorem d_Tape_runEndsWith_15 : decode prog_9_method_12_code 15 = .ok (.ireturn, 1) := by decide +kernel
theorem v_Tape_runEndsWith_0 {G : XG} {d : Nat} {h : XH} {Q : XV → XH → Prop} {X : Nat → XH → Prop} {x1 : Int} (F : xFix h) (hyp : xtg h x1 = 14 ∧ strOK h x1 ∧ xiR ((xpl h 1 6) - (stl h x1)) ∧ (((0 : Int) ≤ ((xpl h 1 6) - (stl h x1)) → (xwp G m_Tape_runEndsWith (d + 6) 18 [xR 1, xR x1, xI ((xpl h 1 6) - (stl h x1)), xI 0] [] h Q X)) ∧ (¬ (0 : Int) ≤ ((xpl h 1 6) - (stl h x1)) → (Q (xI 0) h)))) : xwp G m_Tape_runEndsWith (d + 6) 0 [xR 1, xR x1, xZ, xZ] [] h Q X := by
  have hnx9 : (93 : Int) ≤ xnx h := F.2.2
  refine xr_aload_n (pc := 0) (i := 0) (hI := d_Tape_runEndsWith_0) (hi := rfl) (hl := rfl) ?_
  refine xg_getf (pc := 1) (ci := 8) (k := 6) (N := 7) (v9 := 0) (v := (xpl h 1 6)) (T := xF8) (hI := d_Tape_runEndsWith_1) (hw := w_63) rfl xi8 (Or.inl rfl) (Nat.le_of_ble_eq_true rfl) (Nat.le_of_ble_eq_true rfl) rfl (ft_1 F) rfl (fun f1_ => ?_)
  replace f1_ : -2147483648 ≤ (xpl h 1 6) ∧ (xpl h 1 6) ≤ 2147483647 := f1_
  refine xr_aload_n (pc := 4) (i := 1) (hI := d_Tape_runEndsWith_4) (hi := rfl) (hl := rfl) ?_
  obtain ⟨c9, hyp⟩ := hyp
  have t2_ := c9
  clear c9
  obtain ⟨c3_, hyp⟩ := hyp
  refine xq_callV (pc := 5) (index := 73) (K := m_String_length) (As := []) (S := [xI (xpl h 1 6)]) (L0 := [xR x1]) (hI := d_Tape_runEndsWith_5) (hK := k_String_length) (hlk := w_811) (hnoM := rfl) (hS8 := Nat.le_of_ble_eq_true rfl) (ci := 14) (N := 2) (C := "java/lang/String") (T := xF14) (hc := rfl) (hci := Nat.le_of_ble_eq_true rfl) (htb := t2_) (hinst := w_812) (hsel := w_813) (hlen := Nat.le_of_ble_eq_true rfl) (hst := rfl) (hL0 := rfl)  (p_String_len F c3_ ?_)
  show xwp G m_Tape_runEndsWith (d + 6) 8 [xR 1, xR x1, xZ, xZ] [xI (stl h x1), xI (xpl h 1 6)] _ _ _
  have f4_ : 0 ≤ (stl h x1) ∧ (stl h x1) ≤ 1000 := ⟨c3_.2.1, c3_.2.2.1⟩
  obtain ⟨c9, hyp⟩ := hyp
  refine xr_isub (pc := 8) (hI := d_Tape_runEndsWith_8) (hr := c9) ?_
  refine xr_istore_n (pc := 9) (i := 2) (L9 := [xR 1, xR x1, xI ((xpl h 1 6) - (stl h x1)), xZ]) (hI := d_Tape_runEndsWith_9) (hi := rfl) (hn := Nat.le_of_ble_eq_true rfl) (hL9 := rfl) ?_
  refine xr_iload_n (pc := 10) (i := 2) (hI := d_Tape_runEndsWith_10) (hi := rfl) (hl := rfl) ?_
  refine xr_if_ge (pc := 11) (tgt := 16) (hI := d_Tape_runEndsWith_11) (ht := by decide) (fun q9 => ?_) (fun q9 => ?_)
  · replace hyp := hyp.1 q9
    have q5_ := q9
    clear q9
    refine xr_iconst (pc := 16) (hI := d_Tape_runEndsWith_16) (hr := by decide) ?_
    refine xr_istore_n (pc := 17) (i := 3) (L9 := [xR 1, xR x1, xI ((xpl h 1 6) - (stl h x1)), xI 0]) (hI := d_Tape_runEndsWith_17) (hi := rfl) (hn := Nat.le_of_ble_eq_true rfl) (hL9 := rfl) ?_
    exact hyp
  · replace hyp := hyp.2 q9
    have q5_ := q9
    clear q9
    refine xr_iconst (pc := 14) (hI := d_Tape_runEndsWith_14) (hr := by decide) ?_
    refine xr_ireturnT (S := []) (pc := 15) (hI := d_Tape_runEndsWith_15) (hr := rfl) (xnar_z (by decide)) ?_
    exact hyp
theorem d_Tape_runEndsWith_18 : decode prog_9_method_12_code 18 = .ok (.iload_n 3, 1) := by decide +kernel
theorem d_Tape_runEndsWith_19 : decode prog_9_method_12_code 19 = .ok (.aload_n 1, 1) := by decide +kernel
theorem d_Tape_runEndsWith_20 : decode prog_9_method_12_code 20 = .ok (.invokevirtual 73, 3) := by decide +kernel
theorem d_Tape_runEndsWith_23 : decode prog_9_method_12_code 23 = .ok (.if_icmp .ge 38, 3) := by decide +kernel
theorem d_Tape_runEndsWith_61 : decode prog_9_method_12_code 61 = .ok (.iconst 1, 1) := by decide +kernel
theorem d_Tape_runEndsWith_62 : decode prog_9_method_12_code 62 = .ok (.ireturn, 1) := by decide +kernel
theorem d_Tape_runEndsWith_26 : decode prog_9_method_12_code 26 = .ok (.iload_n 2, 1) := by decide +kernel
theorem d_Tape_runEndsWith_27 : decode prog_9_method_12_code 27 = .ok (.iload_n 3, 1) := by decide +kernel
theorem d_Tape_runEndsWith_28 : decode prog_9_method_12_code 28 = .ok (.iadd, 1) := by decide +kernel
theorem d_Tape_runEndsWith_29 : decode prog_9_method_12_code 29 = .ok (.aload_n 0, 1) := by decide +kernel
theorem d_Tape_runEndsWith_30 : decode prog_9_method_12_code 30 = .ok (.getfield 19, 3) := by decide +kernel
theorem d_Tape_runEndsWith_33 : decode prog_9_method_12_code 33 = .ok (.arraylength, 1) := by decide +kernel
theorem d_Tape_runEndsWith_34 : decode prog_9_method_12_code 34 = .ok (.if_icmp .ge 27, 3) := by decide +kernel
theorem d_Tape_runEndsWith_37 : decode prog_9_method_12_code 37 = .ok (.aload_n 0, 1) := by decide +kernel
theorem d_Tape_runEndsWith_38 : decode prog_9_method_12_code 38 = .ok (.getfield 19, 3) := by decide +kernel
theorem d_Tape_runEndsWith_41 : decode prog_9_method_12_code 41 = .ok (.iload_n 2, 1) := by decide +kernel
theorem d_Tape_runEndsWith_42 : decode prog_9_method_12_code 42 = .ok (.iload_n 3, 1) := by decide +kernel
theorem d_Tape_runEndsWith_43 : decode prog_9_method_12_code 43 = .ok (.iadd, 1) := by decide +kernel
theorem d_Tape_runEndsWith_44 : decode prog_9_method_12_code 44 = .ok (.iaload, 1) := by decide +kernel
theorem d_Tape_runEndsWith_45 : decode prog_9_method_12_code 45 = .ok (.aload_n 1, 1) := by decide +kernel
theorem d_Tape_runEndsWith_46 : decode prog_9_method_12_code 46 = .ok (.iload_n 3, 1) := by decide +kernel
theorem d_Tape_runEndsWith_47 : decode prog_9_method_12_code 47 = .ok (.invokevirtual 123, 3) := by decide +kernel
theorem k_String_charAt : xCal m_String_charAt 1 := ⟨List.mem_append_right _ (List.mem_of_getElem? (i := 824) (by decide +kernel)), w_26, Nat.le_of_ble_eq_true rfl, ⟨by decide +kernel, by decide +kernel⟩, by decide +kernel, by decide +kernel, rfl⟩
theorem w_821 : Cond.methodLink "BeaconIndex$Tape" 123 ⟨"java/lang/String", "charAt", "(I)C"⟩ ∈ lw_tbl := List.mem_append_right _ (List.mem_of_getElem? (i := 821) (by decide +kernel))
theorem w_822 : Cond.instanceMethod ⟨"java/lang/String", "charAt", "(I)C"⟩ ∈ lw_tbl := List.mem_append_right _ (List.mem_of_getElem? (i := 822) (by decide +kernel))
theorem w_823 : Cond.selects "java/lang/String" ⟨"java/lang/String", "charAt", "(I)C"⟩ ⟨"java/lang/String", "charAt", "(I)C"⟩ ∈ lw_tbl := List.mem_append_right _ (List.mem_of_getElem? (i := 823) (by decide +kernel))
theorem d_Tape_runEndsWith_50 : decode prog_9_method_12_code 50 = .ok (.if_icmp .eq 5, 3) := by decide +kernel
theorem d_Tape_runEndsWith_55 : decode prog_9_method_12_code 55 = .ok (.iinc 3 1, 3) := by decide +kernel
theorem d_Tape_runEndsWith_58 : decode prog_9_method_12_code 58 = .ok (.goto (-40), 3) := by decide +kernel
theorem d_Tape_runEndsWith_53 : decode prog_9_method_12_code 53 = .ok (.iconst 0, 1) := by decide +kernel
theorem d_Tape_runEndsWith_54 : decode prog_9_method_12_code 54 = .ok (.ireturn, 1) := by decide +kernel
theorem v_Tape_runEndsWith_18 {G : XG} {d : Nat} {h : XH} {Q : XV → XH → Prop} {X : Nat → XH → Prop} {x1 x2 x3 : Int} (F : xFix h) (hyp : xtg h x1 = 14 ∧ strOK h x1 ∧ (((stl h x1) ≤ x3 → (Q (xI 1) h)) ∧ (¬ (stl h x1) ≤ x3 → xiR (x2 + x3) ∧ (((12 : Int) ≤ (x2 + x3) → (Q (xI 1) h)) ∧ (¬ (12 : Int) ≤ (x2 + x3) → 0 ≤ (x2 + x3) ∧ 0 ≤ x3 ∧ (((xpl h 4 (x2 + x3)) = (stc h x1 x3) → (xwp G m_Tape_runEndsWith (d + 6) 18 [xR 1, xR x1, xI x2, xI (x3 + 1)] [] h Q X)) ∧ (¬ (xpl h 4 (x2 + x3)) = (stc h x1 x3) → (Q (xI 0) h)))))))) : xwp G m_Tape_runEndsWith (d + 6) 18 [xR 1, xR x1, xI x2, xI x3] [] h Q X := by
  have hnx9 : (93 : Int) ≤ xnx h := F.2.2
  refine xr_okL (fun hl9 => ?_)
  have r_x2 : -2147483648 ≤ x2 ∧ x2 ≤ 2147483647 := hl9 (xI x2) (.tail _ (.tail _ (.head _))) (Nat.le_of_ble_eq_true rfl)
  have r_x3 : -2147483648 ≤ x3 ∧ x3 ≤ 2147483647 := hl9 (xI x3) (.tail _ (.tail _ (.tail _ (.head _)))) (Nat.le_of_ble_eq_true rfl)
  refine xr_iload_n (pc := 18) (i := 3) (hI := d_Tape_runEndsWith_18) (hi := rfl) (hl := rfl) ?_
  refine xr_aload_n (pc := 19) (i := 1) (hI := d_Tape_runEndsWith_19) (hi := rfl) (hl := rfl) ?_
  obtain ⟨c9, hyp⟩ := hyp
  have t1_ := c9
  clear c9
  obtain ⟨c2_, hyp⟩ := hyp
  refine xq_callV (pc := 20) (index := 73) (K := m_String_length) (As := []) (S := [xI x3]) (L0 := [xR x1]) (hI := d_Tape_runEndsWith_20) (hK := k_String_length) (hlk := w_811) (hnoM := rfl) (hS8 := Nat.le_of_ble_eq_true rfl) (ci := 14) (N := 2) (C := "java/lang/String") (T := xF14) (hc := rfl) (hci := Nat.le_of_ble_eq_true rfl) (htb := t1_) (hinst := w_812) (hsel := w_813) (hlen := Nat.le_of_ble_eq_true rfl) (hst := rfl) (hL0 := rfl)  (p_String_len F c2_ ?_)
  show xwp G m_Tape_runEndsWith (d + 6) 23 [xR 1, xR x1, xI x2, xI x3] [xI (stl h x1), xI x3] _ _ _
  have f3_ : 0 ≤ (stl h x1) ∧ (stl h x1) ≤ 1000 := ⟨c2_.2.1, c2_.2.2.1⟩
  refine xr_icmp_ge (pc := 23) (tgt := 61) (hI := d_Tape_runEndsWith_23) (ht := by decide) (fun q9 => ?_) (fun q9 => ?_)
  · replace hyp := hyp.1 q9
    have q4_ := q9
    clear q9
    refine xr_iconst (pc := 61) (hI := d_Tape_runEndsWith_61) (hr := by decide) ?_
    refine xr_ireturnT (S := []) (pc := 62) (hI := d_Tape_runEndsWith_62) (hr := rfl) (xnar_z (by decide)) ?_
    exact hyp
  · replace hyp := hyp.2 q9
    have q4_ := q9
    clear q9
    refine xr_iload_n (pc := 26) (i := 2) (hI := d_Tape_runEndsWith_26) (hi := rfl) (hl := rfl) ?_
    refine xr_iload_n (pc := 27) (i := 3) (hI := d_Tape_runEndsWith_27) (hi := rfl) (hl := rfl) ?_
    obtain ⟨c9, hyp⟩ := hyp
    refine xr_iadd (pc := 28) (hI := d_Tape_runEndsWith_28) (hr := c9) ?_
    refine xr_aload_n (pc := 29) (i := 0) (hI := d_Tape_runEndsWith_29) (hi := rfl) (hl := rfl) ?_
    refine xg_getf (pc := 30) (ci := 8) (k := 2) (N := 7) (v9 := 2) (v := 4) (T := xF8) (hI := d_Tape_runEndsWith_30) (hw := w_56) rfl xi8 (Or.inl rfl) (Nat.le_of_ble_eq_true rfl) (Nat.le_of_ble_eq_true rfl) rfl (ft_1 F) (fp_1_2 F) (fun f5_ => ?_)
    clear f5_
    refine xg_alen (pc := 33) (t := 100) (v := 12) (hI := d_Tape_runEndsWith_33) (ft_4 F) (Nat.le_of_ble_eq_true rfl) (Nat.le_of_ble_eq_true rfl) rfl (fl_4 F) (fun f6_ f7_ => ?_)
    clear f6_ f7_
    refine xr_icmp_ge (pc := 34) (tgt := 61) (hI := d_Tape_runEndsWith_34) (ht := by decide) (fun q9 => ?_) (fun q9 => ?_)
    · replace hyp := hyp.1 q9
      have q8_ := q9
      clear q9
      refine xr_iconst (pc := 61) (hI := d_Tape_runEndsWith_61) (hr := by decide) ?_
      refine xr_ireturnT (S := []) (pc := 62) (hI := d_Tape_runEndsWith_62) (hr := rfl) (xnar_z (by decide)) ?_
      exact hyp
    · replace hyp := hyp.2 q9
      have q8_ := q9
      clear q9
      refine xr_aload_n (pc := 37) (i := 0) (hI := d_Tape_runEndsWith_37) (hi := rfl) (hl := rfl) ?_
      refine xg_getf (pc := 38) (ci := 8) (k := 2) (N := 7) (v9 := 2) (v := 4) (T := xF8) (hI := d_Tape_runEndsWith_38) (hw := w_56) rfl xi8 (Or.inl rfl) (Nat.le_of_ble_eq_true rfl) (Nat.le_of_ble_eq_true rfl) rfl (ft_1 F) (fp_1_2 F) (fun f9_ => ?_)
      clear f9_
      refine xr_iload_n (pc := 41) (i := 2) (hI := d_Tape_runEndsWith_41) (hi := rfl) (hl := rfl) ?_
      refine xr_iload_n (pc := 42) (i := 3) (hI := d_Tape_runEndsWith_42) (hi := rfl) (hl := rfl) ?_
      refine xr_iadd (pc := 43) (hI := d_Tape_runEndsWith_43) (hr := ⟨by clear hyp; omega, by clear hyp; omega⟩) ?_
      obtain ⟨c10_, hyp⟩ := hyp
      refine xg_iaload (pc := 44) (v := (xpl h 4 (x2 + x3))) (hI := d_Tape_runEndsWith_44) (ft_4 F) c10_ (xlt_of (fl_4 F) (by clear hyp; omega)) rfl (fun f11_ => ?_)
      replace f11_ : -2147483648 ≤ (xpl h 4 (x2 + x3)) ∧ (xpl h 4 (x2 + x3)) ≤ 2147483647 := f11_
      refine xr_aload_n (pc := 45) (i := 1) (hI := d_Tape_runEndsWith_45) (hi := rfl) (hl := rfl) ?_
      refine xr_iload_n (pc := 46) (i := 3) (hI := d_Tape_runEndsWith_46) (hi := rfl) (hl := rfl) ?_
      obtain ⟨c12_, hyp⟩ := hyp
      refine xq_callV (pc := 47) (index := 123) (K := m_String_charAt) (As := [xI x3]) (S := [xI (xpl h 4 (x2 + x3))]) (L0 := [xR x1, xI x3]) (hI := d_Tape_runEndsWith_47) (hK := k_String_charAt) (hlk := w_821) (hnoM := rfl) (hS8 := Nat.le_of_ble_eq_true rfl) (ci := 14) (N := 2) (C := "java/lang/String") (T := xF14) (hc := rfl) (hci := Nat.le_of_ble_eq_true rfl) (htb := t1_) (hinst := w_822) (hsel := w_823) (hlen := Nat.le_of_ble_eq_true rfl) (hst := rfl) (hL0 := rfl)  (p_String_charAt F c2_ c12_ (by clear hyp; omega) ?_)
      show xwp G m_Tape_runEndsWith (d + 6) 50 [xR 1, xR x1, xI x2, xI x3] [xI (stc h x1 x3), xI (xpl h 4 (x2 + x3))] _ _ _
      refine xr_icmp_eq (pc := 50) (tgt := 55) (hI := d_Tape_runEndsWith_50) (ht := by decide) (fun q9 => ?_) (fun q9 => ?_)
      · replace hyp := hyp.1 q9
        have q13_ := q9
        clear q9
        refine xr_iinc (pc := 55) (i := 3) (L9 := [xR 1, xR x1, xI x2, xI (x3 + 1)]) (hI := d_Tape_runEndsWith_55) (hl := rfl) (hn := Nat.le_of_ble_eq_true rfl) (hr := ⟨by clear hyp; omega, by clear hyp; omega⟩) (hL9 := rfl) ?_
        refine xr_goto (pc := 58) (tgt := 18) (hI := d_Tape_runEndsWith_58) (ht := by decide) ?_
        exact hyp
      · replace hyp := hyp.2 q9
        have q13_ := q9
        clear q9
        refine xr_iconst (pc := 53) (hI := d_Tape_runEndsWith_53) (hr := by decide) ?_
        refine xr_ireturnT (S := []) (pc := 54) (hI := d_Tape_runEndsWith_54) (hr := rfl) (xnar_z (by decide)) ?_
        exact hyp

end
