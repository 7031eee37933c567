/-! ===== lexvc ===== -/
section
abbrev m_StringLatin1_canEncode : XM := (⟨"java/lang/StringLatin1", "canEncode", "(I)Z"⟩, prog_35_method_4_code, 1, (some .boolean), [])
theorem d_StringLatin1_canEncode_0 : decode prog_35_method_4_code 0 = .ok (.iload_n 0, 1) := by decide +kernel
theorem d_StringLatin1_canEncode_1 : decode prog_35_method_4_code 1 = .ok (.ifCond .lt 14, 3) := by decide +kernel
theorem d_StringLatin1_canEncode_15 : decode prog_35_method_4_code 15 = .ok (.iconst 0, 1) := by decide +kernel
theorem d_StringLatin1_canEncode_16 : decode prog_35_method_4_code 16 = .ok (.ireturn, 1) := by decide +kernel
theorem d_StringLatin1_canEncode_4 : decode prog_35_method_4_code 4 = .ok (.iload_n 0, 1) := by decide +kernel
theorem d_StringLatin1_canEncode_5 : decode prog_35_method_4_code 5 = .ok (.sipush 255, 3) := by decide +kernel
theorem d_StringLatin1_canEncode_8 : decode prog_35_method_4_code 8 = .ok (.if_icmp .gt 7, 3) := by decide +kernel
theorem d_StringLatin1_canEncode_11 : decode prog_35_method_4_code 11 = .ok (.iconst 1, 1) := by decide +kernel
theorem d_StringLatin1_canEncode_12 : decode prog_35_method_4_code 12 = .ok (.goto 4, 3) := by decide +kernel
theorem v_StringLatin1_canEncode_0 {G : XG} {d : Nat} {h : XH} {Q : XV → XH → Prop} {X : Nat → XH → Prop} {x0 : Int} (F : xFix h) (hyp : ((x0 < 0 → (Q (xI 0) h)) ∧ (¬ x0 < 0 → (((255 : Int) < x0 → (Q (xI 0) h)) ∧ (¬ (255 : Int) < x0 → (Q (xI 1) h)))))) : xwp G m_StringLatin1_canEncode (d + 1) 0 [xI x0] [] h Q X := by
  have hnx9 : (93 : Int) ≤ xnx h := F.2.2
  refine xr_okL (fun hl9 => ?_)
  have r_x0 : -2147483648 ≤ x0 ∧ x0 ≤ 2147483647 := hl9 (xI x0) (.head _) (Nat.le_of_ble_eq_true rfl)
  refine xr_iload_n (pc := 0) (i := 0) (hI := d_StringLatin1_canEncode_0) (hi := rfl) (hl := rfl) ?_
  refine xr_if_lt (pc := 1) (tgt := 15) (hI := d_StringLatin1_canEncode_1) (ht := by decide) (fun q9 => ?_) (fun q9 => ?_)
  · replace hyp := hyp.1 q9
    have q1_ := q9
    clear q9
    refine xr_iconst (pc := 15) (hI := d_StringLatin1_canEncode_15) (hr := by decide) ?_
    refine xr_ireturnT (S := []) (pc := 16) (hI := d_StringLatin1_canEncode_16) (hr := rfl) (xnar_z (by decide)) ?_
    exact hyp
  · replace hyp := hyp.2 q9
    have q1_ := q9
    clear q9
    refine xr_iload_n (pc := 4) (i := 0) (hI := d_StringLatin1_canEncode_4) (hi := rfl) (hl := rfl) ?_
    refine xr_sipush (pc := 5) (hI := d_StringLatin1_canEncode_5) (hr := by decide) (hv := by decide) ?_
    refine xr_icmp_gt (pc := 8) (tgt := 15) (hI := d_StringLatin1_canEncode_8) (ht := by decide) (fun q9 => ?_) (fun q9 => ?_)
    · replace hyp := hyp.1 q9
      have q2_ := q9
      clear q9
      refine xr_iconst (pc := 15) (hI := d_StringLatin1_canEncode_15) (hr := by decide) ?_
      refine xr_ireturnT (S := []) (pc := 16) (hI := d_StringLatin1_canEncode_16) (hr := rfl) (xnar_z (by decide)) ?_
      exact hyp
    · replace hyp := hyp.2 q9
      have q2_ := q9
      clear q9
      refine xr_iconst (pc := 11) (hI := d_StringLatin1_canEncode_11) (hr := by decide) ?_
      refine xr_goto (pc := 12) (tgt := 16) (hI := d_StringLatin1_canEncode_12) (ht := by decide) ?_
      refine xr_ireturnT (S := []) (pc := 16) (hI := d_StringLatin1_canEncode_16) (hr := rfl) (xnar_z (by decide)) ?_
      exact hyp
abbrev m_StringLatin1_indexOfChar : XM := (⟨"java/lang/StringLatin1", "indexOfChar", "([BIII)I"⟩, prog_35_method_23_code, 6, (some .int), [])
theorem d_StringLatin1_indexOfChar_0 : decode prog_35_method_23_code 0 = .ok (.iload_n 1, 1) := by decide +kernel
theorem d_StringLatin1_indexOfChar_1 : decode prog_35_method_23_code 1 = .ok (.i2b, 1) := by decide +kernel
theorem d_StringLatin1_indexOfChar_2 : decode prog_35_method_23_code 2 = .ok (.istore 4, 2) := by decide +kernel
theorem d_StringLatin1_indexOfChar_4 : decode prog_35_method_23_code 4 = .ok (.iload_n 2, 1) := by decide +kernel
theorem d_StringLatin1_indexOfChar_5 : decode prog_35_method_23_code 5 = .ok (.istore 5, 2) := by decide +kernel
theorem v_StringLatin1_indexOfChar_0 {G : XG} {d : Nat} {h : XH} {Q : XV → XH → Prop} {X : Nat → XH → Prop} {x0 x1 x2 x3 : Int} (F : xFix h) (hyp : (xwp G m_StringLatin1_indexOfChar (d + 1) 7 [xR x0, xZ, xZ, xI x3, xI (xi2b x1), xI x2] [] h Q X)) : xwp G m_StringLatin1_indexOfChar (d + 1) 0 [xR x0, xI x1, xI x2, xI x3, xZ, xZ] [] h Q X := by
  have hnx9 : (93 : Int) ≤ xnx h := F.2.2
  refine xr_okL (fun hl9 => ?_)
  have r_x1 : -2147483648 ≤ x1 ∧ x1 ≤ 2147483647 := hl9 (xI x1) (.tail _ (.head _)) (Nat.le_of_ble_eq_true rfl)
  have r_x2 : -2147483648 ≤ x2 ∧ x2 ≤ 2147483647 := hl9 (xI x2) (.tail _ (.tail _ (.head _))) (Nat.le_of_ble_eq_true rfl)
  have r_x3 : -2147483648 ≤ x3 ∧ x3 ≤ 2147483647 := hl9 (xI x3) (.tail _ (.tail _ (.tail _ (.head _)))) (Nat.le_of_ble_eq_true rfl)
  refine xr_iload_n (pc := 0) (i := 1) (hI := d_StringLatin1_indexOfChar_0) (hi := rfl) (hl := rfl) ?_
  refine xr_i2b (pc := 1) (hI := d_StringLatin1_indexOfChar_1) ?_
  refine xr_istore (pc := 2) (i := 4) (L9 := [xR x0, xI x1, xI x2, xI x3, xI (xi2b x1), xZ]) (hI := d_StringLatin1_indexOfChar_2) (hn := Nat.le_of_ble_eq_true rfl) (hL9 := rfl) ?_
  refine xr_iload_n (pc := 4) (i := 2) (hI := d_StringLatin1_indexOfChar_4) (hi := rfl) (hl := rfl) ?_
  refine xr_istore (pc := 5) (i := 5) (L9 := [xR x0, xI x1, xI x2, xI x3, xI (xi2b x1), xI x2]) (hI := d_StringLatin1_indexOfChar_5) (hn := Nat.le_of_ble_eq_true rfl) (hL9 := rfl) ?_
  exact xr_drop (L9 := [xR x0, xZ, xZ, xI x3, xI (xi2b x1), xI x2]) (xdrs (xdrz (xdrz (xdrs (xdrs (xdrs xdr0)))))) hyp
theorem d_StringLatin1_indexOfChar_7 : decode prog_35_method_23_code 7 = .ok (.iload 5, 2) := by decide +kernel
theorem d_StringLatin1_indexOfChar_9 : decode prog_35_method_23_code 9 = .ok (.iload_n 3, 1) := by decide +kernel
theorem d_StringLatin1_indexOfChar_10 : decode prog_35_method_23_code 10 = .ok (.if_icmp .ge 21, 3) := by decide +kernel
theorem d_StringLatin1_indexOfChar_31 : decode prog_35_method_23_code 31 = .ok (.iconst (-1), 1) := by decide +kernel
theorem d_StringLatin1_indexOfChar_32 : decode prog_35_method_23_code 32 = .ok (.ireturn, 1) := by decide +kernel
theorem d_StringLatin1_indexOfChar_13 : decode prog_35_method_23_code 13 = .ok (.aload_n 0, 1) := by decide +kernel
theorem d_StringLatin1_indexOfChar_14 : decode prog_35_method_23_code 14 = .ok (.iload 5, 2) := by decide +kernel
theorem d_StringLatin1_indexOfChar_16 : decode prog_35_method_23_code 16 = .ok (.baload, 1) := by decide +kernel
theorem d_StringLatin1_indexOfChar_17 : decode prog_35_method_23_code 17 = .ok (.iload 4, 2) := by decide +kernel
theorem d_StringLatin1_indexOfChar_19 : decode prog_35_method_23_code 19 = .ok (.if_icmp .ne 6, 3) := by decide +kernel
theorem d_StringLatin1_indexOfChar_25 : decode prog_35_method_23_code 25 = .ok (.iinc 5 1, 3) := by decide +kernel
theorem d_StringLatin1_indexOfChar_28 : decode prog_35_method_23_code 28 = .ok (.goto (-21), 3) := by decide +kernel
theorem d_StringLatin1_indexOfChar_22 : decode prog_35_method_23_code 22 = .ok (.iload 5, 2) := by decide +kernel
theorem d_StringLatin1_indexOfChar_24 : decode prog_35_method_23_code 24 = .ok (.ireturn, 1) := by decide +kernel
theorem v_StringLatin1_indexOfChar_7 {G : XG} {d : Nat} {h : XH} {Q : XV → XH → Prop} {X : Nat → XH → Prop} {x0 x3 x4 x5 : Int} (F : xFix h) (hyp : ((x3 ≤ x5 → (Q (xI (-1)) h)) ∧ (¬ x3 ≤ x5 → xtg h x0 = 103 ∧ 0 ≤ x5 ∧ x5 < (xln h x0) ∧ (((xpl h x0 x5) = x4 → (Q (xI x5) h)) ∧ (¬ (xpl h x0 x5) = x4 → (xwp G m_StringLatin1_indexOfChar (d + 1) 7 [xR x0, xZ, xZ, xI x3, xI x4, xI (x5 + 1)] [] h Q X)))))) : xwp G m_StringLatin1_indexOfChar (d + 1) 7 [xR x0, xZ, xZ, xI x3, xI x4, xI x5] [] h Q X := by
  have hnx9 : (93 : Int) ≤ xnx h := F.2.2
  refine xr_okL (fun hl9 => ?_)
  have r_x3 : -2147483648 ≤ x3 ∧ x3 ≤ 2147483647 := hl9 (xI x3) (.tail _ (.tail _ (.tail _ (.head _)))) (Nat.le_of_ble_eq_true rfl)
  have r_x4 : -2147483648 ≤ x4 ∧ x4 ≤ 2147483647 := hl9 (xI x4) (.tail _ (.tail _ (.tail _ (.tail _ (.head _))))) (Nat.le_of_ble_eq_true rfl)
  have r_x5 : -2147483648 ≤ x5 ∧ x5 ≤ 2147483647 := hl9 (xI x5) (.tail _ (.tail _ (.tail _ (.tail _ (.tail _ (.head _)))))) (Nat.le_of_ble_eq_true rfl)
  refine xr_iload (pc := 7) (i := 5) (hI := d_StringLatin1_indexOfChar_7) (hl := rfl) ?_
  refine xr_iload_n (pc := 9) (i := 3) (hI := d_StringLatin1_indexOfChar_9) (hi := rfl) (hl := rfl) ?_
  refine xr_icmp_ge (pc := 10) (tgt := 31) (hI := d_StringLatin1_indexOfChar_10) (ht := by decide) (fun q9 => ?_) (fun q9 => ?_)
  · replace hyp := hyp.1 q9
    have q1_ := q9
    clear q9
    refine xr_iconst (pc := 31) (hI := d_StringLatin1_indexOfChar_31) (hr := by decide) ?_
    refine xr_ireturn (S := []) (pc := 32) (hI := d_StringLatin1_indexOfChar_32) (hr := rfl) ?_
    exact hyp
  · replace hyp := hyp.2 q9
    have q1_ := q9
    clear q9
    refine xr_aload_n (pc := 13) (i := 0) (hI := d_StringLatin1_indexOfChar_13) (hi := rfl) (hl := rfl) ?_
    refine xr_iload (pc := 14) (i := 5) (hI := d_StringLatin1_indexOfChar_14) (hl := rfl) ?_
    obtain ⟨c9, hyp⟩ := hyp
    have t2_ := c9
    clear c9
    obtain ⟨c3_, hyp⟩ := hyp
    obtain ⟨c4_, hyp⟩ := hyp
    refine xg_baloadB (pc := 16) (v := (xpl h x0 x5)) (hI := d_StringLatin1_indexOfChar_16) t2_ c3_ (xlt_of rfl c4_) rfl (fun f5_ => ?_)
    replace f5_ : -128 ≤ (xpl h x0 x5) ∧ (xpl h x0 x5) ≤ 127 := f5_
    refine xr_iload (pc := 17) (i := 4) (hI := d_StringLatin1_indexOfChar_17) (hl := rfl) ?_
    refine xr_icmp_ne (pc := 19) (tgt := 25) (hI := d_StringLatin1_indexOfChar_19) (ht := by decide) (fun q9 => ?_) (fun q9 => ?_)
    · replace hyp := hyp.2 q9
      have q6_ := q9
      clear q9
      refine xr_iinc (pc := 25) (i := 5) (L9 := [xR x0, xZ, xZ, xI x3, xI x4, xI (x5 + 1)]) (hI := d_StringLatin1_indexOfChar_25) (hl := rfl) (hn := Nat.le_of_ble_eq_true rfl) (hr := ⟨by clear hyp; omega, by clear hyp; omega⟩) (hL9 := rfl) ?_
      refine xr_goto (pc := 28) (tgt := 7) (hI := d_StringLatin1_indexOfChar_28) (ht := by decide) ?_
      exact hyp
    · replace hyp := hyp.1 q9
      have q6_ := q9
      clear q9
      refine xr_iload (pc := 22) (i := 5) (hI := d_StringLatin1_indexOfChar_22) (hl := rfl) ?_
      refine xr_ireturn (S := []) (pc := 24) (hI := d_StringLatin1_indexOfChar_24) (hr := rfl) ?_
      exact hyp
abbrev m_StringLatin1_indexOf : XM := (⟨"java/lang/StringLatin1", "indexOf", "([BIII)I"⟩, prog_35_method_22_code, 4, (some .int), [])
theorem d_StringLatin1_indexOf_0 : decode prog_35_method_22_code 0 = .ok (.iload_n 1, 1) := by decide +kernel
theorem d_StringLatin1_indexOf_1 : decode prog_35_method_22_code 1 = .ok (.invokestatic 88, 3) := by decide +kernel
theorem k_StringLatin1_canEncode : xCal m_StringLatin1_canEncode 1 := ⟨List.mem_append_right _ (List.mem_of_getElem? (i := 2282) (by decide +kernel)), w_27, Nat.le_of_ble_eq_true rfl, ⟨by decide +kernel, by decide +kernel⟩, by decide +kernel, by decide +kernel, rfl⟩
theorem w_2280 : Cond.methodLink "java/lang/StringLatin1" 88 ⟨"java/lang/StringLatin1", "canEncode", "(I)Z"⟩ ∈ lw_tbl := List.mem_append_right _ (List.mem_of_getElem? (i := 2280) (by decide +kernel))
theorem w_2281 : Cond.static ⟨"java/lang/StringLatin1", "canEncode", "(I)Z"⟩ ∈ lw_tbl := List.mem_append_right _ (List.mem_of_getElem? (i := 2281) (by decide +kernel))
theorem v_StringLatin1_indexOf_0 {G : XG} {d : Nat} {h : XH} {Q : XV → XH → Prop} {X : Nat → XH → Prop} {x0 x1 x2 x3 : Int} (F : xFix h) (hyp : (xwp G m_StringLatin1_canEncode (d + 1) 0 [xI x1] [] h (fun v9 h9 => xwp G m_StringLatin1_indexOf (d + 2) 4 [xR x0, xI x1, xI x2, xI x3] (xpush v9 []) h9 Q X) X)) : xwp G m_StringLatin1_indexOf (d + 2) 0 [xR x0, xI x1, xI x2, xI x3] [] h Q X := by
  have hnx9 : (93 : Int) ≤ xnx h := F.2.2
  refine xr_okL (fun hl9 => ?_)
  have r_x1 : -2147483648 ≤ x1 ∧ x1 ≤ 2147483647 := hl9 (xI x1) (.tail _ (.head _)) (Nat.le_of_ble_eq_true rfl)
  have r_x2 : -2147483648 ≤ x2 ∧ x2 ≤ 2147483647 := hl9 (xI x2) (.tail _ (.tail _ (.head _))) (Nat.le_of_ble_eq_true rfl)
  have r_x3 : -2147483648 ≤ x3 ∧ x3 ≤ 2147483647 := hl9 (xI x3) (.tail _ (.tail _ (.tail _ (.head _)))) (Nat.le_of_ble_eq_true rfl)
  refine xr_iload_n (pc := 0) (i := 1) (hI := d_StringLatin1_indexOf_0) (hi := rfl) (hl := rfl) ?_
  exact xq_callS (pc := 1) (index := 88) (K := m_StringLatin1_canEncode) (As := [xI x1]) (S := []) (L0 := [xI x1]) (hI := d_StringLatin1_indexOf_1) (hK := k_StringLatin1_canEncode) (hlk := w_2280) (hnoM := rfl) (hS8 := Nat.le_of_ble_eq_true rfl) (hstat := w_2281) (hlen := Nat.le_of_ble_eq_true rfl) (hst := rfl) (hL0 := rfl)  hyp
theorem d_StringLatin1_indexOf_4 : decode prog_35_method_22_code 4 = .ok (.ifCond .ne 5, 3) := by decide +kernel
theorem d_StringLatin1_indexOf_9 : decode prog_35_method_22_code 9 = .ok (.iload_n 2, 1) := by decide +kernel
theorem d_StringLatin1_indexOf_10 : decode prog_35_method_22_code 10 = .ok (.iconst 0, 1) := by decide +kernel
theorem d_StringLatin1_indexOf_11 : decode prog_35_method_22_code 11 = .ok (.invokestatic 92, 3) := by decide +kernel
theorem w_2283 : Cond.methodLink "java/lang/StringLatin1" 92 ⟨"java/lang/Math", "max", "(II)I"⟩ ∈ lw_tbl := List.mem_append_right _ (List.mem_of_getElem? (i := 2283) (by decide +kernel))
theorem d_StringLatin1_indexOf_14 : decode prog_35_method_22_code 14 = .ok (.istore_n 2, 1) := by decide +kernel
theorem d_StringLatin1_indexOf_15 : decode prog_35_method_22_code 15 = .ok (.iload_n 3, 1) := by decide +kernel
theorem d_StringLatin1_indexOf_16 : decode prog_35_method_22_code 16 = .ok (.aload_n 0, 1) := by decide +kernel
theorem d_StringLatin1_indexOf_17 : decode prog_35_method_22_code 17 = .ok (.arraylength, 1) := by decide +kernel
theorem d_StringLatin1_indexOf_18 : decode prog_35_method_22_code 18 = .ok (.invokestatic 38, 3) := by decide +kernel
theorem w_2284 : Cond.methodLink "java/lang/StringLatin1" 38 ⟨"java/lang/Math", "min", "(II)I"⟩ ∈ lw_tbl := List.mem_append_right _ (List.mem_of_getElem? (i := 2284) (by decide +kernel))
theorem d_StringLatin1_indexOf_21 : decode prog_35_method_22_code 21 = .ok (.istore_n 3, 1) := by decide +kernel
theorem d_StringLatin1_indexOf_22 : decode prog_35_method_22_code 22 = .ok (.iload_n 2, 1) := by decide +kernel
theorem d_StringLatin1_indexOf_23 : decode prog_35_method_22_code 23 = .ok (.iload_n 3, 1) := by decide +kernel
theorem d_StringLatin1_indexOf_24 : decode prog_35_method_22_code 24 = .ok (.if_icmp .lt 5, 3) := by decide +kernel
theorem d_StringLatin1_indexOf_29 : decode prog_35_method_22_code 29 = .ok (.aload_n 0, 1) := by decide +kernel
theorem d_StringLatin1_indexOf_30 : decode prog_35_method_22_code 30 = .ok (.iload_n 1, 1) := by decide +kernel
theorem d_StringLatin1_indexOf_31 : decode prog_35_method_22_code 31 = .ok (.iload_n 2, 1) := by decide +kernel
theorem d_StringLatin1_indexOf_32 : decode prog_35_method_22_code 32 = .ok (.iload_n 3, 1) := by decide +kernel
theorem d_StringLatin1_indexOf_33 : decode prog_35_method_22_code 33 = .ok (.invokestatic 95, 3) := by decide +kernel
theorem k_StringLatin1_indexOfChar : xCal m_StringLatin1_indexOfChar 4 := ⟨List.mem_append_right _ (List.mem_of_getElem? (i := 2287) (by decide +kernel)), w_27, Nat.le_of_ble_eq_true rfl, ⟨by decide +kernel, by decide +kernel⟩, by decide +kernel, by decide +kernel, rfl⟩
theorem w_2285 : Cond.methodLink "java/lang/StringLatin1" 95 ⟨"java/lang/StringLatin1", "indexOfChar", "([BIII)I"⟩ ∈ lw_tbl := List.mem_append_right _ (List.mem_of_getElem? (i := 2285) (by decide +kernel))
theorem w_2286 : Cond.static ⟨"java/lang/StringLatin1", "indexOfChar", "([BIII)I"⟩ ∈ lw_tbl := List.mem_append_right _ (List.mem_of_getElem? (i := 2286) (by decide +kernel))
theorem d_StringLatin1_indexOf_27 : decode prog_35_method_22_code 27 = .ok (.iconst (-1), 1) := by decide +kernel
theorem d_StringLatin1_indexOf_28 : decode prog_35_method_22_code 28 = .ok (.ireturn, 1) := by decide +kernel
theorem d_StringLatin1_indexOf_7 : decode prog_35_method_22_code 7 = .ok (.iconst (-1), 1) := by decide +kernel
theorem d_StringLatin1_indexOf_8 : decode prog_35_method_22_code 8 = .ok (.ireturn, 1) := by decide +kernel
theorem v_StringLatin1_indexOf_4 {G : XG} {d : Nat} {h : XH} {Q : XV → XH → Prop} {X : Nat → XH → Prop} {x0 x1 x2 x3 s0 : Int} (F : xFix h) (hyp : ((s0 = 0 → (Q (xI (-1)) h)) ∧ (¬ s0 = 0 → xtg h x0 = 103 ∧ (((max x2 0) < (min x3 (xln h x0)) → (xwp G m_StringLatin1_indexOfChar (d + 1) 0 [xR x0, xI x1, xI (max x2 0), xI (min x3 (xln h x0)), xZ, xZ] [] h (fun v9 h9 => xwp G m_StringLatin1_indexOf (d + 2) 36 [xZ, xZ, xZ, xZ] (xpush v9 []) h9 Q X) X)) ∧ (¬ (max x2 0) < (min x3 (xln h x0)) → (Q (xI (-1)) h)))))) : xwp G m_StringLatin1_indexOf (d + 2) 4 [xR x0, xI x1, xI x2, xI x3] [xI s0] h Q X := by
  have hnx9 : (93 : Int) ≤ xnx h := F.2.2
  refine xr_okL (fun hl9 => ?_)
  have r_x1 : -2147483648 ≤ x1 ∧ x1 ≤ 2147483647 := hl9 (xI x1) (.tail _ (.head _)) (Nat.le_of_ble_eq_true rfl)
  have r_x2 : -2147483648 ≤ x2 ∧ x2 ≤ 2147483647 := hl9 (xI x2) (.tail _ (.tail _ (.head _))) (Nat.le_of_ble_eq_true rfl)
  have r_x3 : -2147483648 ≤ x3 ∧ x3 ≤ 2147483647 := hl9 (xI x3) (.tail _ (.tail _ (.tail _ (.head _)))) (Nat.le_of_ble_eq_true rfl)
  refine xr_okS (fun hs9 => ?_)
  have r_s0 : -2147483648 ≤ s0 ∧ s0 ≤ 2147483647 := hs9 (xI s0) (.head _)
  refine xr_if_ne (pc := 4) (tgt := 9) (hI := d_StringLatin1_indexOf_4) (ht := by decide) (fun q9 => ?_) (fun q9 => ?_)
  · replace hyp := hyp.2 q9
    have q1_ := q9
    clear q9
    refine xr_iload_n (pc := 9) (i := 2) (hI := d_StringLatin1_indexOf_9) (hi := rfl) (hl := rfl) ?_
    refine xr_iconst (pc := 10) (hI := d_StringLatin1_indexOf_10) (hr := by decide) ?_
    refine xr_mmax (pc := 11) (index := 92) (hI := d_StringLatin1_indexOf_11) w_2283 w_502 w_25 w_mmax (Nat.le_add_left_of_le (by decide)) (Nat.le_of_ble_eq_true rfl) ?_
    have f2_ : x2 ≤ (max x2 0) := (by clear hyp; omega)
    have f3_ : 0 ≤ (max x2 0) := (by clear hyp; omega)
    have f4_ : (max x2 0) ≤ 2147483647 := (by clear hyp; omega)
    refine xr_istore_n (pc := 14) (i := 2) (L9 := [xR x0, xI x1, xI (max x2 0), xI x3]) (hI := d_StringLatin1_indexOf_14) (hi := rfl) (hn := Nat.le_of_ble_eq_true rfl) (hL9 := rfl) ?_
    refine xr_iload_n (pc := 15) (i := 3) (hI := d_StringLatin1_indexOf_15) (hi := rfl) (hl := rfl) ?_
    refine xr_aload_n (pc := 16) (i := 0) (hI := d_StringLatin1_indexOf_16) (hi := rfl) (hl := rfl) ?_
    obtain ⟨c9, hyp⟩ := hyp
    have t5_ := c9
    clear c9
    refine xg_alen (pc := 17) (t := 103) (v := (xln h x0)) (hI := d_StringLatin1_indexOf_17) t5_ (Nat.le_of_ble_eq_true rfl) (Nat.le_of_ble_eq_true rfl) rfl rfl (fun f6_ f7_ => ?_)
    refine xr_mmin (pc := 18) (index := 38) (hI := d_StringLatin1_indexOf_18) w_2284 w_542 w_25 w_mmin (Nat.le_add_left_of_le (by decide)) (Nat.le_of_ble_eq_true rfl) ?_
    have f8_ : (min x3 (xln h x0)) ≤ x3 := (by clear hyp; omega)
    have f9_ : (min x3 (xln h x0)) ≤ (xln h x0) := (by clear hyp; omega)
    have f10_ : (-2147483648) ≤ (min x3 (xln h x0)) := (by clear hyp; omega)
    refine xr_istore_n (pc := 21) (i := 3) (L9 := [xR x0, xI x1, xI (max x2 0), xI (min x3 (xln h x0))]) (hI := d_StringLatin1_indexOf_21) (hi := rfl) (hn := Nat.le_of_ble_eq_true rfl) (hL9 := rfl) ?_
    refine xr_iload_n (pc := 22) (i := 2) (hI := d_StringLatin1_indexOf_22) (hi := rfl) (hl := rfl) ?_
    refine xr_iload_n (pc := 23) (i := 3) (hI := d_StringLatin1_indexOf_23) (hi := rfl) (hl := rfl) ?_
    refine xr_icmp_lt (pc := 24) (tgt := 29) (hI := d_StringLatin1_indexOf_24) (ht := by decide) (fun q9 => ?_) (fun q9 => ?_)
    · replace hyp := hyp.1 q9
      have q11_ := q9
      clear q9
      refine xr_aload_n (pc := 29) (i := 0) (hI := d_StringLatin1_indexOf_29) (hi := rfl) (hl := rfl) ?_
      refine xr_iload_n (pc := 30) (i := 1) (hI := d_StringLatin1_indexOf_30) (hi := rfl) (hl := rfl) ?_
      refine xr_iload_n (pc := 31) (i := 2) (hI := d_StringLatin1_indexOf_31) (hi := rfl) (hl := rfl) ?_
      refine xr_iload_n (pc := 32) (i := 3) (hI := d_StringLatin1_indexOf_32) (hi := rfl) (hl := rfl) ?_
      exact xq_callS (pc := 33) (index := 95) (K := m_StringLatin1_indexOfChar) (As := [xR x0, xI x1, xI (max x2 0), xI (min x3 (xln h x0))]) (S := []) (L0 := [xR x0, xI x1, xI (max x2 0), xI (min x3 (xln h x0)), xZ, xZ]) (hI := d_StringLatin1_indexOf_33) (hK := k_StringLatin1_indexOfChar) (hlk := w_2285) (hnoM := rfl) (hS8 := Nat.le_of_ble_eq_true rfl) (hstat := w_2286) (hlen := Nat.le_of_ble_eq_true rfl) (hst := rfl) (hL0 := rfl)  (xwp_mono hyp (fun v9 h9 q9 => xr_drop (L9 := [xZ, xZ, xZ, xZ]) (xdrz (xdrz (xdrz (xdrz xdr0)))) q9) (fun _ _ z9 => z9))
    · replace hyp := hyp.2 q9
      have q11_ := q9
      clear q9
      refine xr_iconst (pc := 27) (hI := d_StringLatin1_indexOf_27) (hr := by decide) ?_
      refine xr_ireturn (S := []) (pc := 28) (hI := d_StringLatin1_indexOf_28) (hr := rfl) ?_
      exact hyp
  · replace hyp := hyp.1 q9
    have q1_ := q9
    clear q9
    refine xr_iconst (pc := 7) (hI := d_StringLatin1_indexOf_7) (hr := by decide) ?_
    refine xr_ireturn (S := []) (pc := 8) (hI := d_StringLatin1_indexOf_8) (hr := rfl) ?_
    exact hyp
theorem d_StringLatin1_indexOf_36 : decode prog_35_method_22_code 36 = .ok (.ireturn, 1) := by decide +kernel
theorem v_StringLatin1_indexOf_36 {G : XG} {d : Nat} {h : XH} {Q : XV → XH → Prop} {X : Nat → XH → Prop} {s0 : Int} (F : xFix h) (hyp : (Q (xI s0) h)) : xwp G m_StringLatin1_indexOf (d + 2) 36 [xZ, xZ, xZ, xZ] [xI s0] h Q X := by
  have hnx9 : (93 : Int) ≤ xnx h := F.2.2
  refine xr_okS (fun hs9 => ?_)
  have r_s0 : -2147483648 ≤ s0 ∧ s0 ≤ 2147483647 := hs9 (xI s0) (.head _)
  refine xr_ireturn (S := []) (pc := 36) (hI := d_StringLatin1_indexOf_36) (hr := rfl) ?_
  exact hyp
abbrev m_String_indexOf_II : XM := (⟨"java/lang/String", "indexOf", "(II)I"⟩, prog_33_method_80_code, 3, (some .int), [])
theorem d_String_indexOf_II_0 : decode prog_33_method_80_code 0 = .ok (.aload_n 0, 1) := by decide +kernel
theorem d_String_indexOf_II_1 : decode prog_33_method_80_code 1 = .ok (.invokevirtual 492, 3) := by decide +kernel
theorem d_String_indexOf_II_4 : decode prog_33_method_80_code 4 = .ok (.ifCond .eq 19, 3) := by decide +kernel
theorem d_String_indexOf_II_7 : decode prog_33_method_80_code 7 = .ok (.aload_n 0, 1) := by decide +kernel
theorem d_String_indexOf_II_8 : decode prog_33_method_80_code 8 = .ok (.getfield 9, 3) := by decide +kernel
theorem d_String_indexOf_II_11 : decode prog_33_method_80_code 11 = .ok (.iload_n 1, 1) := by decide +kernel
theorem d_String_indexOf_II_12 : decode prog_33_method_80_code 12 = .ok (.iload_n 2, 1) := by decide +kernel
theorem d_String_indexOf_II_13 : decode prog_33_method_80_code 13 = .ok (.aload_n 0, 1) := by decide +kernel
theorem d_String_indexOf_II_14 : decode prog_33_method_80_code 14 = .ok (.invokevirtual 505, 3) := by decide +kernel
theorem w_2276 : Cond.methodLink "java/lang/String" 505 ⟨"java/lang/String", "length", "()I"⟩ ∈ lw_tbl := List.mem_append_right _ (List.mem_of_getElem? (i := 2276) (by decide +kernel))
theorem d_String_indexOf_II_17 : decode prog_33_method_80_code 17 = .ok (.invokestatic 637, 3) := by decide +kernel
theorem k_StringLatin1_indexOf : xCal m_StringLatin1_indexOf 4 := ⟨List.mem_append_right _ (List.mem_of_getElem? (i := 2279) (by decide +kernel)), w_27, Nat.le_of_ble_eq_true rfl, ⟨by decide +kernel, by decide +kernel⟩, by decide +kernel, by decide +kernel, rfl⟩
theorem w_2277 : Cond.methodLink "java/lang/String" 637 ⟨"java/lang/StringLatin1", "indexOf", "([BIII)I"⟩ ∈ lw_tbl := List.mem_append_right _ (List.mem_of_getElem? (i := 2277) (by decide +kernel))
theorem w_2278 : Cond.static ⟨"java/lang/StringLatin1", "indexOf", "([BIII)I"⟩ ∈ lw_tbl := List.mem_append_right _ (List.mem_of_getElem? (i := 2278) (by decide +kernel))
theorem v_String_indexOf_II_0 {G : XG} {d : Nat} {h : XH} {Q : XV → XH → Prop} {X : Nat → XH → Prop} {x0 x1 x2 : Int} (F : xFix h) (hyp : xtg h x0 = 14 ∧ strok h x0 ∧ strOK h x0 ∧ (xwp G m_StringLatin1_indexOf (d + 5) 0 [xR (xpl h x0 0), xI x1, xI x2, xI (stl h x0)] [] h (fun v9 h9 => xwp G m_String_indexOf_II (d + 6) 20 [xZ, xZ, xZ] (xpush v9 []) h9 Q X) X)) : xwp G m_String_indexOf_II (d + 6) 0 [xR x0, xI x1, xI x2] [] h Q X := by
  have hnx9 : (93 : Int) ≤ xnx h := F.2.2
  refine xr_okL (fun hl9 => ?_)
  have r_x1 : -2147483648 ≤ x1 ∧ x1 ≤ 2147483647 := hl9 (xI x1) (.tail _ (.head _)) (Nat.le_of_ble_eq_true rfl)
  have r_x2 : -2147483648 ≤ x2 ∧ x2 ≤ 2147483647 := hl9 (xI x2) (.tail _ (.tail _ (.head _))) (Nat.le_of_ble_eq_true rfl)
  refine xr_aload_n (pc := 0) (i := 0) (hI := d_String_indexOf_II_0) (hi := rfl) (hl := rfl) ?_
  obtain ⟨c9, hyp⟩ := hyp
  have t1_ := c9
  clear c9
  obtain ⟨c2_, hyp⟩ := hyp
  refine xq_callV (pc := 1) (index := 492) (K := m_String_isLatin1) (As := []) (S := []) (L0 := [xR x0]) (hI := d_String_indexOf_II_1) (hK := k_String_isLatin1) (hlk := w_825) (hnoM := rfl) (hS8 := Nat.le_of_ble_eq_true rfl) (ci := 14) (N := 2) (C := "java/lang/String") (T := xF14) (hc := rfl) (hci := Nat.le_of_ble_eq_true rfl) (htb := t1_) (hinst := w_826) (hsel := w_827) (hlen := Nat.le_of_ble_eq_true rfl) (hst := rfl) (hL0 := rfl)  (p_String_isLatin1 F c2_ ?_)
  show xwp G m_String_indexOf_II (d + 6) 4 [xR x0, xI x1, xI x2] [xI 1] _ _ _
  refine xr_if_eq (pc := 4) (tgt := 23) (hI := d_String_indexOf_II_4) (ht := by decide) (fun q9 => ?_) (fun q9 => ?_)
  · exact absurd q9 (by decide)
  · clear q9
    refine xr_aload_n (pc := 7) (i := 0) (hI := d_String_indexOf_II_7) (hi := rfl) (hl := rfl) ?_
    refine xg_getf (pc := 8) (ci := 14) (k := 0) (N := 2) (v9 := 2) (v := (xpl h x0 0)) (T := xF14) (hI := d_String_indexOf_II_8) (hw := w_2105) rfl xi14 (Or.inl rfl) (Nat.le_of_ble_eq_true rfl) (Nat.le_of_ble_eq_true rfl) rfl t1_ rfl (fun f3_ => ?_)
    clear f3_
    refine xr_iload_n (pc := 11) (i := 1) (hI := d_String_indexOf_II_11) (hi := rfl) (hl := rfl) ?_
    refine xr_iload_n (pc := 12) (i := 2) (hI := d_String_indexOf_II_12) (hi := rfl) (hl := rfl) ?_
    refine xr_aload_n (pc := 13) (i := 0) (hI := d_String_indexOf_II_13) (hi := rfl) (hl := rfl) ?_
    obtain ⟨c4_, hyp⟩ := hyp
    refine xq_callV (pc := 14) (index := 505) (K := m_String_length) (As := []) (S := [xI x2, xI x1, xR (xpl h x0 0)]) (L0 := [xR x0]) (hI := d_String_indexOf_II_14) (hK := k_String_length) (hlk := w_2276) (hnoM := rfl) (hS8 := Nat.le_of_ble_eq_true rfl) (ci := 14) (N := 2) (C := "java/lang/String") (T := xF14) (hc := rfl) (hci := Nat.le_of_ble_eq_true rfl) (htb := t1_) (hinst := w_812) (hsel := w_813) (hlen := Nat.le_of_ble_eq_true rfl) (hst := rfl) (hL0 := rfl)  (p_String_len F c4_ ?_)
    show xwp G m_String_indexOf_II (d + 6) 17 [xR x0, xI x1, xI x2] [xI (stl h x0), xI x2, xI x1, xR (xpl h x0 0)] _ _ _
    have f5_ : 0 ≤ (stl h x0) ∧ (stl h x0) ≤ 1000 := ⟨c4_.2.1, c4_.2.2.1⟩
    exact xq_callS (pc := 17) (index := 637) (K := m_StringLatin1_indexOf) (As := [xR (xpl h x0 0), xI x1, xI x2, xI (stl h x0)]) (S := []) (L0 := [xR (xpl h x0 0), xI x1, xI x2, xI (stl h x0)]) (hI := d_String_indexOf_II_17) (hK := k_StringLatin1_indexOf) (hlk := w_2277) (hnoM := rfl) (hS8 := Nat.le_of_ble_eq_true rfl) (hstat := w_2278) (hlen := Nat.le_of_ble_eq_true rfl) (hst := rfl) (hL0 := rfl)  (xwp_mono hyp (fun v9 h9 q9 => xr_drop (L9 := [xZ, xZ, xZ]) (xdrz (xdrz (xdrz xdr0))) q9) (fun _ _ z9 => z9))
theorem d_String_indexOf_II_20 : decode prog_33_method_80_code 20 = .ok (.goto 16, 3) := by decide +kernel
theorem v_String_indexOf_II_20 {G : XG} {d : Nat} {h : XH} {Q : XV → XH → Prop} {X : Nat → XH → Prop} {s0 : Int} (F : xFix h) (hyp : (xwp G m_String_indexOf_II (d + 6) 36 [xZ, xZ, xZ] [xI s0] h Q X)) : xwp G m_String_indexOf_II (d + 6) 20 [xZ, xZ, xZ] [xI s0] h Q X := by
  have hnx9 : (93 : Int) ≤ xnx h := F.2.2
  refine xr_okS (fun hs9 => ?_)
  have r_s0 : -2147483648 ≤ s0 ∧ s0 ≤ 2147483647 := hs9 (xI s0) (.head _)
  refine xr_goto (pc := 20) (tgt := 36) (hI := d_String_indexOf_II_20) (ht := by decide) ?_
  exact hyp
theorem d_String_indexOf_II_36 : decode prog_33_method_80_code 36 = .ok (.ireturn, 1) := by decide +kernel
theorem v_String_indexOf_II_36 {G : XG} {d : Nat} {h : XH} {Q : XV → XH → Prop} {X : Nat → XH → Prop} {s0 : Int} (F : xFix h) (hyp : (Q (xI s0) h)) : xwp G m_String_indexOf_II (d + 6) 36 [xZ, xZ, xZ] [xI s0] h Q X := by
  have hnx9 : (93 : Int) ≤ xnx h := F.2.2
  refine xr_okS (fun hs9 => ?_)
  have r_s0 : -2147483648 ≤ s0 ∧ s0 ≤ 2147483647 := hs9 (xI s0) (.head _)
  refine xr_ireturn (S := []) (pc := 36) (hI := d_String_indexOf_II_36) (hr := rfl) ?_
  exact hyp
abbrev m_String_indexOf_I : XM := (⟨"java/lang/String", "indexOf", "(I)I"⟩, prog_33_method_79_code, 2, (some .int), [])
theorem d_String_indexOf_I_0 : decode prog_33_method_79_code 0 = .ok (.aload_n 0, 1) := by decide +kernel
theorem d_String_indexOf_I_1 : decode prog_33_method_79_code 1 = .ok (.iload_n 1, 1) := by decide +kernel
theorem d_String_indexOf_I_2 : decode prog_33_method_79_code 2 = .ok (.iconst 0, 1) := by decide +kernel
theorem d_String_indexOf_I_3 : decode prog_33_method_79_code 3 = .ok (.invokevirtual 633, 3) := by decide +kernel
theorem k_String_indexOf_II : xCal m_String_indexOf_II 2 := ⟨List.mem_append_right _ (List.mem_of_getElem? (i := 2275) (by decide +kernel)), w_26, Nat.le_of_ble_eq_true rfl, ⟨by decide +kernel, by decide +kernel⟩, by decide +kernel, by decide +kernel, rfl⟩
theorem w_2272 : Cond.methodLink "java/lang/String" 633 ⟨"java/lang/String", "indexOf", "(II)I"⟩ ∈ lw_tbl := List.mem_append_right _ (List.mem_of_getElem? (i := 2272) (by decide +kernel))
theorem w_2273 : Cond.instanceMethod ⟨"java/lang/String", "indexOf", "(II)I"⟩ ∈ lw_tbl := List.mem_append_right _ (List.mem_of_getElem? (i := 2273) (by decide +kernel))
theorem w_2274 : Cond.selects "java/lang/String" ⟨"java/lang/String", "indexOf", "(II)I"⟩ ⟨"java/lang/String", "indexOf", "(II)I"⟩ ∈ lw_tbl := List.mem_append_right _ (List.mem_of_getElem? (i := 2274) (by decide +kernel))
theorem v_String_indexOf_I_0 {G : XG} {d : Nat} {h : XH} {Q : XV → XH → Prop} {X : Nat → XH → Prop} {x0 x1 : Int} (F : xFix h) (hyp : xtg h x0 = 14 ∧ (xwp G m_String_indexOf_II (d + 6) 0 [xR x0, xI x1, xI 0] [] h (fun v9 h9 => xwp G m_String_indexOf_I (d + 7) 6 [xZ, xZ] (xpush v9 []) h9 Q X) X)) : xwp G m_String_indexOf_I (d + 7) 0 [xR x0, xI x1] [] h Q X := by
  have hnx9 : (93 : Int) ≤ xnx h := F.2.2
  refine xr_okL (fun hl9 => ?_)
  have r_x1 : -2147483648 ≤ x1 ∧ x1 ≤ 2147483647 := hl9 (xI x1) (.tail _ (.head _)) (Nat.le_of_ble_eq_true rfl)
  refine xr_aload_n (pc := 0) (i := 0) (hI := d_String_indexOf_I_0) (hi := rfl) (hl := rfl) ?_
  refine xr_iload_n (pc := 1) (i := 1) (hI := d_String_indexOf_I_1) (hi := rfl) (hl := rfl) ?_
  refine xr_iconst (pc := 2) (hI := d_String_indexOf_I_2) (hr := by decide) ?_
  obtain ⟨c9, hyp⟩ := hyp
  have t1_ := c9
  clear c9
  exact xq_callV (pc := 3) (index := 633) (K := m_String_indexOf_II) (As := [xI x1, xI 0]) (S := []) (L0 := [xR x0, xI x1, xI 0]) (hI := d_String_indexOf_I_3) (hK := k_String_indexOf_II) (hlk := w_2272) (hnoM := rfl) (hS8 := Nat.le_of_ble_eq_true rfl) (ci := 14) (N := 2) (C := "java/lang/String") (T := xF14) (hc := rfl) (hci := Nat.le_of_ble_eq_true rfl) (htb := t1_) (hinst := w_2273) (hsel := w_2274) (hlen := Nat.le_of_ble_eq_true rfl) (hst := rfl) (hL0 := rfl)  (xwp_mono hyp (fun v9 h9 q9 => xr_drop (L9 := [xZ, xZ]) (xdrz (xdrz xdr0)) q9) (fun _ _ z9 => z9))
theorem d_String_indexOf_I_6 : decode prog_33_method_79_code 6 = .ok (.ireturn, 1) := by decide +kernel
theorem v_String_indexOf_I_6 {G : XG} {d : Nat} {h : XH} {Q : XV → XH → Prop} {X : Nat → XH → Prop} {s0 : Int} (F : xFix h) (hyp : (Q (xI s0) h)) : xwp G m_String_indexOf_I (d + 7) 6 [xZ, xZ] [xI s0] h Q X := by
  have hnx9 : (93 : Int) ≤ xnx h := F.2.2
  refine xr_okS (fun hs9 => ?_)
  have r_s0 : -2147483648 ≤ s0 ∧ s0 ≤ 2147483647 := hs9 (xI s0) (.head _)
  refine xr_ireturn (S := []) (pc := 6) (hI := d_String_indexOf_I_6) (hr := rfl) ?_
  exact hyp
abbrev m_M_kindAt : XM := (⟨"BeaconIndexModel", "kindAt", "(II)I"⟩, prog_14_method_44_code, 3, (some .int), [])
theorem d_M_kindAt_0 : decode prog_14_method_44_code 0 = .ok (.iload_n 1, 1) := by decide +kernel
theorem d_M_kindAt_1 : decode prog_14_method_44_code 1 = .ok (.aload_n 0, 1) := by decide +kernel
theorem d_M_kindAt_2 : decode prog_14_method_44_code 2 = .ok (.getfield 105, 3) := by decide +kernel
theorem d_M_kindAt_5 : decode prog_14_method_44_code 5 = .ok (.if_icmp .ne 7, 3) := by decide +kernel
theorem d_M_kindAt_12 : decode prog_14_method_44_code 12 = .ok (.aload_n 0, 1) := by decide +kernel
theorem d_M_kindAt_13 : decode prog_14_method_44_code 13 = .ok (.iload_n 1, 1) := by decide +kernel
theorem d_M_kindAt_14 : decode prog_14_method_44_code 14 = .ok (.invokevirtual 112, 3) := by decide +kernel
theorem d_M_kindAt_8 : decode prog_14_method_44_code 8 = .ok (.sipush 400, 3) := by decide +kernel
theorem d_M_kindAt_11 : decode prog_14_method_44_code 11 = .ok (.ireturn, 1) := by decide +kernel
theorem v_M_kindAt_0 {G : XG} {d : Nat} {h : XH} {Q : XV → XH → Prop} {X : Nat → XH → Prop} {x1 x2 : Int} (F : xFix h) (hyp : ((x1 = (xpl h 53 2) → (Q (xI 400) h)) ∧ (¬ x1 = (xpl h 53 2) → (xwp G m_M_isOfRun (d + 7) 0 [xR 53, xI x1] [] h (fun v9 h9 => xwp G m_M_kindAt (d + 8) 17 [xR 53, xI x1, xI x2] (xpush v9 []) h9 Q X) X)))) : xwp G m_M_kindAt (d + 8) 0 [xR 53, xI x1, xI x2] [] h Q X := by
  have hnx9 : (93 : Int) ≤ xnx h := F.2.2
  refine xr_okL (fun hl9 => ?_)
  have r_x1 : -2147483648 ≤ x1 ∧ x1 ≤ 2147483647 := hl9 (xI x1) (.tail _ (.head _)) (Nat.le_of_ble_eq_true rfl)
  have r_x2 : -2147483648 ≤ x2 ∧ x2 ≤ 2147483647 := hl9 (xI x2) (.tail _ (.tail _ (.head _))) (Nat.le_of_ble_eq_true rfl)
  refine xr_iload_n (pc := 0) (i := 1) (hI := d_M_kindAt_0) (hi := rfl) (hl := rfl) ?_
  refine xr_aload_n (pc := 1) (i := 0) (hI := d_M_kindAt_1) (hi := rfl) (hl := rfl) ?_
  refine xg_getf (pc := 2) (ci := 11) (k := 2) (N := 38) (v9 := 0) (v := (xpl h 53 2)) (T := xF11) (hI := d_M_kindAt_2) (hw := w_1589) rfl xi11 (Or.inl rfl) (Nat.le_of_ble_eq_true rfl) (Nat.le_of_ble_eq_true rfl) rfl (ft_53 F) rfl (fun f1_ => ?_)
  replace f1_ : -2147483648 ≤ (xpl h 53 2) ∧ (xpl h 53 2) ≤ 2147483647 := f1_
  refine xr_icmp_ne (pc := 5) (tgt := 12) (hI := d_M_kindAt_5) (ht := by decide) (fun q9 => ?_) (fun q9 => ?_)
  · replace hyp := hyp.2 q9
    have q2_ := q9
    clear q9
    refine xr_aload_n (pc := 12) (i := 0) (hI := d_M_kindAt_12) (hi := rfl) (hl := rfl) ?_
    refine xr_iload_n (pc := 13) (i := 1) (hI := d_M_kindAt_13) (hi := rfl) (hl := rfl) ?_
    exact xq_callV (pc := 14) (index := 112) (K := m_M_isOfRun) (As := [xI x1]) (S := []) (L0 := [xR 53, xI x1]) (hI := d_M_kindAt_14) (hK := k_M_isOfRun) (hlk := w_1757) (hnoM := rfl) (hS8 := Nat.le_of_ble_eq_true rfl) (ci := 11) (N := 38) (C := "BeaconIndexModel") (T := xF11) (hc := rfl) (hci := Nat.le_of_ble_eq_true rfl) (htb := (ft_53 F)) (hinst := w_1759) (hsel := sel_M_isOfRun) (hlen := Nat.le_of_ble_eq_true rfl) (hst := rfl) (hL0 := rfl)  hyp
  · replace hyp := hyp.1 q9
    have q2_ := q9
    clear q9
    refine xr_sipush (pc := 8) (hI := d_M_kindAt_8) (hr := by decide) (hv := by decide) ?_
    refine xr_ireturn (S := []) (pc := 11) (hI := d_M_kindAt_11) (hr := rfl) ?_
    exact hyp
theorem d_M_kindAt_17 : decode prog_14_method_44_code 17 = .ok (.ifCond .eq 19, 3) := by decide +kernel
theorem d_M_kindAt_36 : decode prog_14_method_44_code 36 = .ok (.ldc 247, 2) := by decide +kernel
theorem d_M_kindAt_38 : decode prog_14_method_44_code 38 = .ok (.aload_n 0, 1) := by decide +kernel
theorem d_M_kindAt_39 : decode prog_14_method_44_code 39 = .ok (.getfield 9, 3) := by decide +kernel
theorem d_M_kindAt_42 : decode prog_14_method_44_code 42 = .ok (.iload_n 1, 1) := by decide +kernel
theorem d_M_kindAt_43 : decode prog_14_method_44_code 43 = .ok (.iaload, 1) := by decide +kernel
theorem d_M_kindAt_44 : decode prog_14_method_44_code 44 = .ok (.i2c, 1) := by decide +kernel
theorem d_M_kindAt_45 : decode prog_14_method_44_code 45 = .ok (.invokevirtual 249, 3) := by decide +kernel
theorem k_String_indexOf_I : xCal m_String_indexOf_I 1 := ⟨List.mem_append_right _ (List.mem_of_getElem? (i := 2271) (by decide +kernel)), w_26, Nat.le_of_ble_eq_true rfl, ⟨by decide +kernel, by decide +kernel⟩, by decide +kernel, by decide +kernel, rfl⟩
theorem w_2268 : Cond.methodLink "BeaconIndexModel" 249 ⟨"java/lang/String", "indexOf", "(I)I"⟩ ∈ lw_tbl := List.mem_append_right _ (List.mem_of_getElem? (i := 2268) (by decide +kernel))
theorem w_2269 : Cond.instanceMethod ⟨"java/lang/String", "indexOf", "(I)I"⟩ ∈ lw_tbl := List.mem_append_right _ (List.mem_of_getElem? (i := 2269) (by decide +kernel))
theorem w_2270 : Cond.selects "java/lang/String" ⟨"java/lang/String", "indexOf", "(I)I"⟩ ⟨"java/lang/String", "indexOf", "(I)I"⟩ ∈ lw_tbl := List.mem_append_right _ (List.mem_of_getElem? (i := 2270) (by decide +kernel))
theorem d_M_kindAt_20 : decode prog_14_method_44_code 20 = .ok (.iload_n 2, 1) := by decide +kernel
theorem d_M_kindAt_21 : decode prog_14_method_44_code 21 = .ok (.bipush 20, 2) := by decide +kernel
theorem d_M_kindAt_23 : decode prog_14_method_44_code 23 = .ok (.if_icmp .le 9, 3) := by decide +kernel
theorem d_M_kindAt_32 : decode prog_14_method_44_code 32 = .ok (.sipush 300, 3) := by decide +kernel
theorem d_M_kindAt_35 : decode prog_14_method_44_code 35 = .ok (.ireturn, 1) := by decide +kernel
theorem d_M_kindAt_26 : decode prog_14_method_44_code 26 = .ok (.sipush 401, 3) := by decide +kernel
theorem d_M_kindAt_29 : decode prog_14_method_44_code 29 = .ok (.goto 6, 3) := by decide +kernel
theorem v_M_kindAt_17 {G : XG} {d : Nat} {h : XH} {Q : XV → XH → Prop} {X : Nat → XH → Prop} {x1 x2 s0 : Int} (F : xFix h) (hyp : ((s0 = 0 → 0 ≤ x1 ∧ x1 < 400 ∧ (xwp G m_String_indexOf_I (d + 7) 0 [xR (-60), xI (xi2c (xpl h 54 x1))] [] h (fun v9 h9 => xwp G m_M_kindAt (d + 8) 48 [xR 53, xI x1, xZ] (xpush v9 []) h9 Q X) X)) ∧ (¬ s0 = 0 → ((x2 ≤ 20 → (Q (xI 300) h)) ∧ (¬ x2 ≤ 20 → (Q (xI 401) h)))))) : xwp G m_M_kindAt (d + 8) 17 [xR 53, xI x1, xI x2] [xI s0] h Q X := by
  have hnx9 : (93 : Int) ≤ xnx h := F.2.2
  refine xr_okL (fun hl9 => ?_)
  have r_x1 : -2147483648 ≤ x1 ∧ x1 ≤ 2147483647 := hl9 (xI x1) (.tail _ (.head _)) (Nat.le_of_ble_eq_true rfl)
  have r_x2 : -2147483648 ≤ x2 ∧ x2 ≤ 2147483647 := hl9 (xI x2) (.tail _ (.tail _ (.head _))) (Nat.le_of_ble_eq_true rfl)
  refine xr_okS (fun hs9 => ?_)
  have r_s0 : -2147483648 ≤ s0 ∧ s0 ≤ 2147483647 := hs9 (xI s0) (.head _)
  refine xr_if_eq (pc := 17) (tgt := 36) (hI := d_M_kindAt_17) (ht := by decide) (fun q9 => ?_) (fun q9 => ?_)
  · replace hyp := hyp.1 q9
    have q1_ := q9
    clear q9
    refine xr_ldcS (pc := 36) (z := (-60)) (tx := "+-\"*~^:()") (k0 := 58) (hI := d_M_kindAt_36) (hm := by decide +kernel) (hz0 := by decide) ?_
    refine xr_aload_n (pc := 38) (i := 0) (hI := d_M_kindAt_38) (hi := rfl) (hl := rfl) ?_
    refine xg_getf (pc := 39) (ci := 11) (k := 1) (N := 38) (v9 := 2) (v := 54) (T := xF11) (hI := d_M_kindAt_39) (hw := w_1588) rfl xi11 (Or.inl rfl) (Nat.le_of_ble_eq_true rfl) (Nat.le_of_ble_eq_true rfl) rfl (ft_53 F) (fp_53_1 F) (fun f2_ => ?_)
    clear f2_
    refine xr_iload_n (pc := 42) (i := 1) (hI := d_M_kindAt_42) (hi := rfl) (hl := rfl) ?_
    obtain ⟨c3_, hyp⟩ := hyp
    obtain ⟨c4_, hyp⟩ := hyp
    refine xg_iaload (pc := 43) (v := (xpl h 54 x1)) (hI := d_M_kindAt_43) (ft_54 F) c3_ (xlt_of (fl_54 F) c4_) rfl (fun f5_ => ?_)
    replace f5_ : -2147483648 ≤ (xpl h 54 x1) ∧ (xpl h 54 x1) ≤ 2147483647 := f5_
    refine xr_i2c (pc := 44) (hI := d_M_kindAt_44) ?_
    exact xq_callV (pc := 45) (index := 249) (K := m_String_indexOf_I) (As := [xI (xi2c (xpl h 54 x1))]) (S := []) (L0 := [xR (-60), xI (xi2c (xpl h 54 x1))]) (hI := d_M_kindAt_45) (hK := k_String_indexOf_I) (hlk := w_2268) (hnoM := rfl) (hS8 := Nat.le_of_ble_eq_true rfl) (ci := 14) (N := 2) (C := "java/lang/String") (T := xF14) (hc := rfl) (hci := Nat.le_of_ble_eq_true rfl) (htb := (ft_m60 F)) (hinst := w_2269) (hsel := w_2270) (hlen := Nat.le_of_ble_eq_true rfl) (hst := rfl) (hL0 := rfl)  (xwp_mono hyp (fun v9 h9 q9 => xr_drop (L9 := [xR 53, xI x1, xZ]) (xdrs (xdrs (xdrz xdr0))) q9) (fun _ _ z9 => z9))
  · replace hyp := hyp.2 q9
    have q1_ := q9
    clear q9
    refine xr_iload_n (pc := 20) (i := 2) (hI := d_M_kindAt_20) (hi := rfl) (hl := rfl) ?_
    refine xr_bipush (pc := 21) (hI := d_M_kindAt_21) (hr := by decide) (hv := by decide) ?_
    refine xr_icmp_le (pc := 23) (tgt := 32) (hI := d_M_kindAt_23) (ht := by decide) (fun q9 => ?_) (fun q9 => ?_)
    · replace hyp := hyp.1 q9
      have q6_ := q9
      clear q9
      refine xr_sipush (pc := 32) (hI := d_M_kindAt_32) (hr := by decide) (hv := by decide) ?_
      refine xr_ireturn (S := []) (pc := 35) (hI := d_M_kindAt_35) (hr := rfl) ?_
      exact hyp
    · replace hyp := hyp.2 q9
      have q6_ := q9
      clear q9
      refine xr_sipush (pc := 26) (hI := d_M_kindAt_26) (hr := by decide) (hv := by decide) ?_
      refine xr_goto (pc := 29) (tgt := 35) (hI := d_M_kindAt_29) (ht := by decide) ?_
      refine xr_ireturn (S := []) (pc := 35) (hI := d_M_kindAt_35) (hr := rfl) ?_
      exact hyp
theorem d_M_kindAt_48 : decode prog_14_method_44_code 48 = .ok (.ifCond .ge 9, 3) := by decide +kernel
theorem d_M_kindAt_57 : decode prog_14_method_44_code 57 = .ok (.aload_n 0, 1) := by decide +kernel
theorem d_M_kindAt_58 : decode prog_14_method_44_code 58 = .ok (.getfield 9, 3) := by decide +kernel
theorem d_M_kindAt_61 : decode prog_14_method_44_code 61 = .ok (.iload_n 1, 1) := by decide +kernel
theorem d_M_kindAt_62 : decode prog_14_method_44_code 62 = .ok (.iaload, 1) := by decide +kernel
theorem d_M_kindAt_63 : decode prog_14_method_44_code 63 = .ok (.ireturn, 1) := by decide +kernel
theorem d_M_kindAt_51 : decode prog_14_method_44_code 51 = .ok (.sipush 401, 3) := by decide +kernel
theorem d_M_kindAt_54 : decode prog_14_method_44_code 54 = .ok (.goto 9, 3) := by decide +kernel
theorem v_M_kindAt_48 {G : XG} {d : Nat} {h : XH} {Q : XV → XH → Prop} {X : Nat → XH → Prop} {x1 s0 : Int} (F : xFix h) (hyp : (((0 : Int) ≤ s0 → 0 ≤ x1 ∧ x1 < 400 ∧ (Q (xI (xpl h 54 x1)) h)) ∧ (¬ (0 : Int) ≤ s0 → (Q (xI 401) h)))) : xwp G m_M_kindAt (d + 8) 48 [xR 53, xI x1, xZ] [xI s0] h Q X := by
  have hnx9 : (93 : Int) ≤ xnx h := F.2.2
  refine xr_okL (fun hl9 => ?_)
  have r_x1 : -2147483648 ≤ x1 ∧ x1 ≤ 2147483647 := hl9 (xI x1) (.tail _ (.head _)) (Nat.le_of_ble_eq_true rfl)
  refine xr_okS (fun hs9 => ?_)
  have r_s0 : -2147483648 ≤ s0 ∧ s0 ≤ 2147483647 := hs9 (xI s0) (.head _)
  refine xr_if_ge (pc := 48) (tgt := 57) (hI := d_M_kindAt_48) (ht := by decide) (fun q9 => ?_) (fun q9 => ?_)
  · replace hyp := hyp.1 q9
    have q1_ := q9
    clear q9
    refine xr_aload_n (pc := 57) (i := 0) (hI := d_M_kindAt_57) (hi := rfl) (hl := rfl) ?_
    refine xg_getf (pc := 58) (ci := 11) (k := 1) (N := 38) (v9 := 2) (v := 54) (T := xF11) (hI := d_M_kindAt_58) (hw := w_1588) rfl xi11 (Or.inl rfl) (Nat.le_of_ble_eq_true rfl) (Nat.le_of_ble_eq_true rfl) rfl (ft_53 F) (fp_53_1 F) (fun f2_ => ?_)
    clear f2_
    refine xr_iload_n (pc := 61) (i := 1) (hI := d_M_kindAt_61) (hi := rfl) (hl := rfl) ?_
    obtain ⟨c3_, hyp⟩ := hyp
    obtain ⟨c4_, hyp⟩ := hyp
    refine xg_iaload (pc := 62) (v := (xpl h 54 x1)) (hI := d_M_kindAt_62) (ft_54 F) c3_ (xlt_of (fl_54 F) c4_) rfl (fun f5_ => ?_)
    replace f5_ : -2147483648 ≤ (xpl h 54 x1) ∧ (xpl h 54 x1) ≤ 2147483647 := f5_
    refine xr_ireturn (S := []) (pc := 63) (hI := d_M_kindAt_63) (hr := rfl) ?_
    exact hyp
  · replace hyp := hyp.2 q9
    have q1_ := q9
    clear q9
    refine xr_sipush (pc := 51) (hI := d_M_kindAt_51) (hr := by decide) (hv := by decide) ?_
    refine xr_goto (pc := 54) (tgt := 63) (hI := d_M_kindAt_54) (ht := by decide) ?_
    refine xr_ireturn (S := []) (pc := 63) (hI := d_M_kindAt_63) (hr := rfl) ?_
    exact hyp
abbrev m_M_cut : XM := (⟨"BeaconIndexModel", "cut", "()V"⟩, prog_14_method_45_code, 3, none, [])
theorem d_M_cut_0 : decode prog_14_method_45_code 0 = .ok (.iconst 0, 1) := by decide +kernel
theorem d_M_cut_1 : decode prog_14_method_45_code 1 = .ok (.istore_n 1, 1) := by decide +kernel
theorem d_M_cut_2 : decode prog_14_method_45_code 2 = .ok (.iconst 0, 1) := by decide +kernel
theorem d_M_cut_3 : decode prog_14_method_45_code 3 = .ok (.istore_n 2, 1) := by decide +kernel
theorem v_M_cut_0 {G : XG} {d : Nat} {h : XH} {Q : XV → XH → Prop} {X : Nat → XH → Prop} (F : xFix h) (hyp : (xwp G m_M_cut (d + 9) 4 [xR 53, xI 0, xI 0] [] h Q X)) : xwp G m_M_cut (d + 9) 0 [xR 53, xZ, xZ] [] h Q X := by
  have hnx9 : (93 : Int) ≤ xnx h := F.2.2
  refine xr_iconst (pc := 0) (hI := d_M_cut_0) (hr := by decide) ?_
  refine xr_istore_n (pc := 1) (i := 1) (L9 := [xR 53, xI 0, xZ]) (hI := d_M_cut_1) (hi := rfl) (hn := Nat.le_of_ble_eq_true rfl) (hL9 := rfl) ?_
  refine xr_iconst (pc := 2) (hI := d_M_cut_2) (hr := by decide) ?_
  refine xr_istore_n (pc := 3) (i := 2) (L9 := [xR 53, xI 0, xI 0]) (hI := d_M_cut_3) (hi := rfl) (hn := Nat.le_of_ble_eq_true rfl) (hL9 := rfl) ?_
  exact hyp
theorem d_M_cut_4 : decode prog_14_method_45_code 4 = .ok (.iload_n 2, 1) := by decide +kernel
theorem d_M_cut_5 : decode prog_14_method_45_code 5 = .ok (.bipush 40, 2) := by decide +kernel
theorem d_M_cut_7 : decode prog_14_method_45_code 7 = .ok (.if_icmp .gt 130, 3) := by decide +kernel
theorem d_M_cut_137 : decode prog_14_method_45_code 137 = .ok (.return_, 1) := by decide +kernel
theorem v_M_cut_4 {G : XG} {d : Nat} {h : XH} {Q : XV → XH → Prop} {X : Nat → XH → Prop} {x1 x2 : Int} (F : xFix h) (hyp : (((40 : Int) < x2 → (Q xN h)) ∧ (¬ (40 : Int) < x2 → (xwp G m_M_cut (d + 9) 10 [xR 53, xI x1, xI x2] [] h Q X)))) : xwp G m_M_cut (d + 9) 4 [xR 53, xI x1, xI x2] [] h Q X := by
  have hnx9 : (93 : Int) ≤ xnx h := F.2.2
  refine xr_okL (fun hl9 => ?_)
  have r_x1 : -2147483648 ≤ x1 ∧ x1 ≤ 2147483647 := hl9 (xI x1) (.tail _ (.head _)) (Nat.le_of_ble_eq_true rfl)
  have r_x2 : -2147483648 ≤ x2 ∧ x2 ≤ 2147483647 := hl9 (xI x2) (.tail _ (.tail _ (.head _))) (Nat.le_of_ble_eq_true rfl)
  refine xr_iload_n (pc := 4) (i := 2) (hI := d_M_cut_4) (hi := rfl) (hl := rfl) ?_
  refine xr_bipush (pc := 5) (hI := d_M_cut_5) (hr := by decide) (hv := by decide) ?_
  refine xr_icmp_gt (pc := 7) (tgt := 137) (hI := d_M_cut_7) (ht := by decide) (fun q9 => ?_) (fun q9 => ?_)
  · replace hyp := hyp.1 q9
    have q1_ := q9
    clear q9
    refine xr_return (S := []) (pc := 137) (hI := d_M_cut_137) (hr := rfl) ?_
    exact hyp
  · replace hyp := hyp.2 q9
    have q1_ := q9
    clear q9
    exact hyp
theorem d_M_cut_10 : decode prog_14_method_45_code 10 = .ok (.iload_n 1, 1) := by decide +kernel
theorem d_M_cut_11 : decode prog_14_method_45_code 11 = .ok (.aload_n 0, 1) := by decide +kernel
theorem d_M_cut_12 : decode prog_14_method_45_code 12 = .ok (.getfield 105, 3) := by decide +kernel
theorem d_M_cut_15 : decode prog_14_method_45_code 15 = .ok (.if_icmp .ge 20, 3) := by decide +kernel
theorem d_M_cut_18 : decode prog_14_method_45_code 18 = .ok (.aload_n 0, 1) := by decide +kernel
theorem d_M_cut_19 : decode prog_14_method_45_code 19 = .ok (.getfield 9, 3) := by decide +kernel
theorem d_M_cut_22 : decode prog_14_method_45_code 22 = .ok (.iload_n 1, 1) := by decide +kernel
theorem d_M_cut_23 : decode prog_14_method_45_code 23 = .ok (.iaload, 1) := by decide +kernel
theorem d_M_cut_24 : decode prog_14_method_45_code 24 = .ok (.bipush 32, 2) := by decide +kernel
theorem d_M_cut_26 : decode prog_14_method_45_code 26 = .ok (.if_icmp .ne 9, 3) := by decide +kernel
theorem d_M_cut_29 : decode prog_14_method_45_code 29 = .ok (.iinc 1 1, 3) := by decide +kernel
theorem d_M_cut_32 : decode prog_14_method_45_code 32 = .ok (.goto (-22), 3) := by decide +kernel
theorem v_M_cut_10 {G : XG} {d : Nat} {h : XH} {Q : XV → XH → Prop} {X : Nat → XH → Prop} {x1 x2 : Int} (F : xFix h) (hyp : (((xpl h 53 2) ≤ x1 → (xwp G m_M_cut (d + 9) 35 [xR 53, xI x1, xI x2] [] h Q X)) ∧ (¬ (xpl h 53 2) ≤ x1 → 0 ≤ x1 ∧ x1 < 400 ∧ (((xpl h 54 x1) = 32 → (xwp G m_M_cut (d + 9) 10 [xR 53, xI (x1 + 1), xI x2] [] h Q X)) ∧ (¬ (xpl h 54 x1) = 32 → (xwp G m_M_cut (d + 9) 35 [xR 53, xI x1, xI x2] [] h Q X)))))) : xwp G m_M_cut (d + 9) 10 [xR 53, xI x1, xI x2] [] h Q X := by
  have hnx9 : (93 : Int) ≤ xnx h := F.2.2
  refine xr_okL (fun hl9 => ?_)
  have r_x1 : -2147483648 ≤ x1 ∧ x1 ≤ 2147483647 := hl9 (xI x1) (.tail _ (.head _)) (Nat.le_of_ble_eq_true rfl)
  have r_x2 : -2147483648 ≤ x2 ∧ x2 ≤ 2147483647 := hl9 (xI x2) (.tail _ (.tail _ (.head _))) (Nat.le_of_ble_eq_true rfl)
  refine xr_iload_n (pc := 10) (i := 1) (hI := d_M_cut_10) (hi := rfl) (hl := rfl) ?_
  refine xr_aload_n (pc := 11) (i := 0) (hI := d_M_cut_11) (hi := rfl) (hl := rfl) ?_
  refine xg_getf (pc := 12) (ci := 11) (k := 2) (N := 38) (v9 := 0) (v := (xpl h 53 2)) (T := xF11) (hI := d_M_cut_12) (hw := w_1589) rfl xi11 (Or.inl rfl) (Nat.le_of_ble_eq_true rfl) (Nat.le_of_ble_eq_true rfl) rfl (ft_53 F) rfl (fun f1_ => ?_)
  replace f1_ : -2147483648 ≤ (xpl h 53 2) ∧ (xpl h 53 2) ≤ 2147483647 := f1_
  refine xr_icmp_ge (pc := 15) (tgt := 35) (hI := d_M_cut_15) (ht := by decide) (fun q9 => ?_) (fun q9 => ?_)
  · replace hyp := hyp.1 q9
    have q2_ := q9
    clear q9
    exact hyp
  · replace hyp := hyp.2 q9
    have q2_ := q9
    clear q9
    refine xr_aload_n (pc := 18) (i := 0) (hI := d_M_cut_18) (hi := rfl) (hl := rfl) ?_
    refine xg_getf (pc := 19) (ci := 11) (k := 1) (N := 38) (v9 := 2) (v := 54) (T := xF11) (hI := d_M_cut_19) (hw := w_1588) rfl xi11 (Or.inl rfl) (Nat.le_of_ble_eq_true rfl) (Nat.le_of_ble_eq_true rfl) rfl (ft_53 F) (fp_53_1 F) (fun f3_ => ?_)
    clear f3_
    refine xr_iload_n (pc := 22) (i := 1) (hI := d_M_cut_22) (hi := rfl) (hl := rfl) ?_
    obtain ⟨c4_, hyp⟩ := hyp
    obtain ⟨c5_, hyp⟩ := hyp
    refine xg_iaload (pc := 23) (v := (xpl h 54 x1)) (hI := d_M_cut_23) (ft_54 F) c4_ (xlt_of (fl_54 F) c5_) rfl (fun f6_ => ?_)
    replace f6_ : -2147483648 ≤ (xpl h 54 x1) ∧ (xpl h 54 x1) ≤ 2147483647 := f6_
    refine xr_bipush (pc := 24) (hI := d_M_cut_24) (hr := by decide) (hv := by decide) ?_
    refine xr_icmp_ne (pc := 26) (tgt := 35) (hI := d_M_cut_26) (ht := by decide) (fun q9 => ?_) (fun q9 => ?_)
    · replace hyp := hyp.2 q9
      have q7_ := q9
      clear q9
      exact hyp
    · replace hyp := hyp.1 q9
      have q7_ := q9
      clear q9
      refine xr_iinc (pc := 29) (i := 1) (L9 := [xR 53, xI (x1 + 1), xI x2]) (hI := d_M_cut_29) (hl := rfl) (hn := Nat.le_of_ble_eq_true rfl) (hr := ⟨by clear hyp; omega, by clear hyp; omega⟩) (hL9 := rfl) ?_
      refine xr_goto (pc := 32) (tgt := 10) (hI := d_M_cut_32) (ht := by decide) ?_
      exact hyp
theorem d_M_cut_35 : decode prog_14_method_45_code 35 = .ok (.aload_n 0, 1) := by decide +kernel
theorem d_M_cut_36 : decode prog_14_method_45_code 36 = .ok (.getfield 61, 3) := by decide +kernel
theorem w_1609 : Cond.fieldLink "BeaconIndexModel" 61 "BeaconIndexModel" "from" "[I" ∈ lw_tbl := List.mem_append_right _ (List.mem_of_getElem? (i := 1609) (by decide +kernel))
theorem d_M_cut_39 : decode prog_14_method_45_code 39 = .ok (.iload_n 2, 1) := by decide +kernel
theorem d_M_cut_40 : decode prog_14_method_45_code 40 = .ok (.iload_n 1, 1) := by decide +kernel
theorem d_M_cut_41 : decode prog_14_method_45_code 41 = .ok (.iastore, 1) := by decide +kernel
theorem xfa_79 : xfreeA 79 = true := by decide +kernel
theorem d_M_cut_42 : decode prog_14_method_45_code 42 = .ok (.aload_n 0, 1) := by decide +kernel
theorem d_M_cut_43 : decode prog_14_method_45_code 43 = .ok (.getfield 64, 3) := by decide +kernel
theorem w_1610 : Cond.fieldLink "BeaconIndexModel" 64 "BeaconIndexModel" "many" "[I" ∈ lw_tbl := List.mem_append_right _ (List.mem_of_getElem? (i := 1610) (by decide +kernel))
theorem d_M_cut_46 : decode prog_14_method_45_code 46 = .ok (.iload_n 2, 1) := by decide +kernel
theorem d_M_cut_47 : decode prog_14_method_45_code 47 = .ok (.aload_n 0, 1) := by decide +kernel
theorem d_M_cut_48 : decode prog_14_method_45_code 48 = .ok (.iload_n 1, 1) := by decide +kernel
theorem d_M_cut_49 : decode prog_14_method_45_code 49 = .ok (.invokevirtual 112, 3) := by decide +kernel
theorem v_M_cut_35 {G : XG} {d : Nat} {h : XH} {Q : XV → XH → Prop} {X : Nat → XH → Prop} {x1 x2 : Int} (F : xFix h) (hyp : 0 ≤ x2 ∧ x2 < 41 ∧ (xFix (xst h 79 x2 x1) → xwp G m_M_isOfRun (d + 8) 0 [xR 53, xI x1] [] (xst h 79 x2 x1) (fun v9 h9 => xwp G m_M_cut (d + 9) 52 [xR 53, xI x1, xI x2] (xpush v9 [xI x2, xR 80]) h9 Q X) X)) : xwp G m_M_cut (d + 9) 35 [xR 53, xI x1, xI x2] [] h Q X := by
  have hnx9 : (93 : Int) ≤ xnx h := F.2.2
  refine xr_okL (fun hl9 => ?_)
  have r_x1 : -2147483648 ≤ x1 ∧ x1 ≤ 2147483647 := hl9 (xI x1) (.tail _ (.head _)) (Nat.le_of_ble_eq_true rfl)
  have r_x2 : -2147483648 ≤ x2 ∧ x2 ≤ 2147483647 := hl9 (xI x2) (.tail _ (.tail _ (.head _))) (Nat.le_of_ble_eq_true rfl)
  refine xr_aload_n (pc := 35) (i := 0) (hI := d_M_cut_35) (hi := rfl) (hl := rfl) ?_
  refine xg_getf (pc := 36) (ci := 11) (k := 22) (N := 38) (v9 := 2) (v := 79) (T := xF11) (hI := d_M_cut_36) (hw := w_1609) rfl xi11 (Or.inl rfl) (Nat.le_of_ble_eq_true rfl) (Nat.le_of_ble_eq_true rfl) rfl (ft_53 F) (fp_53_22 F) (fun f1_ => ?_)
  clear f1_
  refine xr_iload_n (pc := 39) (i := 2) (hI := d_M_cut_39) (hi := rfl) (hl := rfl) ?_
  refine xr_iload_n (pc := 40) (i := 1) (hI := d_M_cut_40) (hi := rfl) (hl := rfl) ?_
  obtain ⟨c2_, hyp⟩ := hyp
  obtain ⟨c3_, hyp⟩ := hyp
  refine xr_iastore (pc := 41) (hI := d_M_cut_41) (ft_79 F) (by decide) c2_ (xlt_of (fl_79 F) c3_) ?_
  have F4_ : xFix (xst h 79 x2 x1) := F.stA xfa_79
  refine xr_aload_n (pc := 42) (i := 0) (hI := d_M_cut_42) (hi := rfl) (hl := rfl) ?_
  refine xg_getf (pc := 43) (ci := 11) (k := 23) (N := 38) (v9 := 2) (v := 80) (T := xF11) (hI := d_M_cut_43) (hw := w_1610) rfl xi11 (Or.inl rfl) (Nat.le_of_ble_eq_true rfl) (Nat.le_of_ble_eq_true rfl) rfl (ft_53 F4_) (fp_53_23 F4_) (fun f5_ => ?_)
  clear f5_
  refine xr_iload_n (pc := 46) (i := 2) (hI := d_M_cut_46) (hi := rfl) (hl := rfl) ?_
  refine xr_aload_n (pc := 47) (i := 0) (hI := d_M_cut_47) (hi := rfl) (hl := rfl) ?_
  refine xr_iload_n (pc := 48) (i := 1) (hI := d_M_cut_48) (hi := rfl) (hl := rfl) ?_
  exact xq_callV (pc := 49) (index := 112) (K := m_M_isOfRun) (As := [xI x1]) (S := [xI x2, xR 80]) (L0 := [xR 53, xI x1]) (hI := d_M_cut_49) (hK := k_M_isOfRun) (hlk := w_1757) (hnoM := rfl) (hS8 := Nat.le_of_ble_eq_true rfl) (ci := 11) (N := 38) (C := "BeaconIndexModel") (T := xF11) (hc := rfl) (hci := Nat.le_of_ble_eq_true rfl) (htb := (ft_53 F4_)) (hinst := w_1759) (hsel := sel_M_isOfRun) (hlen := Nat.le_of_ble_eq_true rfl) (hst := rfl) (hL0 := rfl)  (hyp F4_)
theorem d_M_cut_52 : decode prog_14_method_45_code 52 = .ok (.ifCond .eq 11, 3) := by decide +kernel
theorem d_M_cut_63 : decode prog_14_method_45_code 63 = .ok (.iconst 1, 1) := by decide +kernel
theorem d_M_cut_55 : decode prog_14_method_45_code 55 = .ok (.aload_n 0, 1) := by decide +kernel
theorem d_M_cut_56 : decode prog_14_method_45_code 56 = .ok (.iload_n 1, 1) := by decide +kernel
theorem d_M_cut_57 : decode prog_14_method_45_code 57 = .ok (.invokevirtual 252, 3) := by decide +kernel
theorem v_M_cut_52 {G : XG} {d : Nat} {h : XH} {Q : XV → XH → Prop} {X : Nat → XH → Prop} {x1 x2 s0 s1 s2 : Int} (F : xFix h) (hyp : ((s0 = 0 → (xwp G m_M_cut (d + 9) 64 [xR 53, xI x1, xI x2] [xI 1, xI s1, xR s2] h Q X)) ∧ (¬ s0 = 0 → (xwp G m_M_runLength (d + 8) 0 [xR 53, xI x1, xZ] [] h (fun v9 h9 => xwp G m_M_cut (d + 9) 60 [xR 53, xI x1, xI x2] (xpush v9 [xI s1, xR s2]) h9 Q X) X)))) : xwp G m_M_cut (d + 9) 52 [xR 53, xI x1, xI x2] [xI s0, xI s1, xR s2] h Q X := by
  have hnx9 : (93 : Int) ≤ xnx h := F.2.2
  refine xr_okL (fun hl9 => ?_)
  have r_x1 : -2147483648 ≤ x1 ∧ x1 ≤ 2147483647 := hl9 (xI x1) (.tail _ (.head _)) (Nat.le_of_ble_eq_true rfl)
  have r_x2 : -2147483648 ≤ x2 ∧ x2 ≤ 2147483647 := hl9 (xI x2) (.tail _ (.tail _ (.head _))) (Nat.le_of_ble_eq_true rfl)
  refine xr_okS (fun hs9 => ?_)
  have r_s0 : -2147483648 ≤ s0 ∧ s0 ≤ 2147483647 := hs9 (xI s0) (.head _)
  have r_s1 : -2147483648 ≤ s1 ∧ s1 ≤ 2147483647 := hs9 (xI s1) (.tail _ (.head _))
  refine xr_if_eq (pc := 52) (tgt := 63) (hI := d_M_cut_52) (ht := by decide) (fun q9 => ?_) (fun q9 => ?_)
  · replace hyp := hyp.1 q9
    have q1_ := q9
    clear q9
    refine xr_iconst (pc := 63) (hI := d_M_cut_63) (hr := by decide) ?_
    exact hyp
  · replace hyp := hyp.2 q9
    have q1_ := q9
    clear q9
    refine xr_aload_n (pc := 55) (i := 0) (hI := d_M_cut_55) (hi := rfl) (hl := rfl) ?_
    refine xr_iload_n (pc := 56) (i := 1) (hI := d_M_cut_56) (hi := rfl) (hl := rfl) ?_
    exact xq_callV (pc := 57) (index := 252) (K := m_M_runLength) (As := [xI x1]) (S := [xI s1, xR s2]) (L0 := [xR 53, xI x1, xZ]) (hI := d_M_cut_57) (hK := k_M_runLength) (hlk := w_1753) (hnoM := rfl) (hS8 := Nat.le_of_ble_eq_true rfl) (ci := 11) (N := 38) (C := "BeaconIndexModel") (T := xF11) (hc := rfl) (hci := Nat.le_of_ble_eq_true rfl) (htb := (ft_53 F)) (hinst := w_1755) (hsel := sel_M_runLength) (hlen := Nat.le_of_ble_eq_true rfl) (hst := rfl) (hL0 := rfl)  hyp
theorem d_M_cut_60 : decode prog_14_method_45_code 60 = .ok (.goto 4, 3) := by decide +kernel
theorem v_M_cut_60 {G : XG} {d : Nat} {h : XH} {Q : XV → XH → Prop} {X : Nat → XH → Prop} {x1 x2 s0 s1 s2 : Int} (F : xFix h) (hyp : (xwp G m_M_cut (d + 9) 64 [xR 53, xI x1, xI x2] [xI s0, xI s1, xR s2] h Q X)) : xwp G m_M_cut (d + 9) 60 [xR 53, xI x1, xI x2] [xI s0, xI s1, xR s2] h Q X := by
  have hnx9 : (93 : Int) ≤ xnx h := F.2.2
  refine xr_okL (fun hl9 => ?_)
  have r_x1 : -2147483648 ≤ x1 ∧ x1 ≤ 2147483647 := hl9 (xI x1) (.tail _ (.head _)) (Nat.le_of_ble_eq_true rfl)
  have r_x2 : -2147483648 ≤ x2 ∧ x2 ≤ 2147483647 := hl9 (xI x2) (.tail _ (.tail _ (.head _))) (Nat.le_of_ble_eq_true rfl)
  refine xr_okS (fun hs9 => ?_)
  have r_s0 : -2147483648 ≤ s0 ∧ s0 ≤ 2147483647 := hs9 (xI s0) (.head _)
  have r_s1 : -2147483648 ≤ s1 ∧ s1 ≤ 2147483647 := hs9 (xI s1) (.tail _ (.head _))
  refine xr_goto (pc := 60) (tgt := 64) (hI := d_M_cut_60) (ht := by decide) ?_
  exact hyp
theorem d_M_cut_64 : decode prog_14_method_45_code 64 = .ok (.iastore, 1) := by decide +kernel
theorem xfa_80 : xfreeA 80 = true := by decide +kernel
theorem d_M_cut_65 : decode prog_14_method_45_code 65 = .ok (.aload_n 0, 1) := by decide +kernel
theorem d_M_cut_66 : decode prog_14_method_45_code 66 = .ok (.getfield 58, 3) := by decide +kernel
theorem w_1608 : Cond.fieldLink "BeaconIndexModel" 58 "BeaconIndexModel" "kind" "[I" ∈ lw_tbl := List.mem_append_right _ (List.mem_of_getElem? (i := 1608) (by decide +kernel))
theorem d_M_cut_69 : decode prog_14_method_45_code 69 = .ok (.iload_n 2, 1) := by decide +kernel
theorem d_M_cut_70 : decode prog_14_method_45_code 70 = .ok (.aload_n 0, 1) := by decide +kernel
theorem d_M_cut_71 : decode prog_14_method_45_code 71 = .ok (.iload_n 1, 1) := by decide +kernel
theorem d_M_cut_72 : decode prog_14_method_45_code 72 = .ok (.aload_n 0, 1) := by decide +kernel
theorem d_M_cut_73 : decode prog_14_method_45_code 73 = .ok (.getfield 64, 3) := by decide +kernel
theorem d_M_cut_76 : decode prog_14_method_45_code 76 = .ok (.iload_n 2, 1) := by decide +kernel
theorem d_M_cut_77 : decode prog_14_method_45_code 77 = .ok (.iaload, 1) := by decide +kernel
theorem d_M_cut_78 : decode prog_14_method_45_code 78 = .ok (.invokevirtual 255, 3) := by decide +kernel
theorem k_M_kindAt : xCal m_M_kindAt 2 := ⟨List.mem_append_right _ (List.mem_of_getElem? (i := 2266) (by decide +kernel)), w_15, Nat.le_of_ble_eq_true rfl, ⟨by decide +kernel, by decide +kernel⟩, by decide +kernel, by decide +kernel, rfl⟩
theorem w_2263 : Cond.methodLink "BeaconIndexModel" 255 ⟨"BeaconIndexModel", "kindAt", "(II)I"⟩ ∈ lw_tbl := List.mem_append_right _ (List.mem_of_getElem? (i := 2263) (by decide +kernel))
theorem w_2265 : Cond.instanceMethod ⟨"BeaconIndexModel", "kindAt", "(II)I"⟩ ∈ lw_tbl := List.mem_append_right _ (List.mem_of_getElem? (i := 2265) (by decide +kernel))
theorem sel_M_kindAt : Cond.selects "BeaconIndexModel" ⟨"BeaconIndexModel", "kindAt", "(II)I"⟩ ⟨"BeaconIndexModel", "kindAt", "(II)I"⟩ ∈ lw_tbl := List.mem_append_left _ (by decide +kernel)
theorem v_M_cut_64 {G : XG} {d : Nat} {h : XH} {Q : XV → XH → Prop} {X : Nat → XH → Prop} {x1 x2 s0 s1 : Int} (F : xFix h) (hyp : 0 ≤ s1 ∧ s1 < 41 ∧ 0 ≤ x2 ∧ x2 < 41 ∧ (xFix (xst h 80 s1 s0) → xwp G m_M_kindAt (d + 8) 0 [xR 53, xI x1, xI (xpl (xst h 80 s1 s0) 80 x2)] [] (xst h 80 s1 s0) (fun v9 h9 => xwp G m_M_cut (d + 9) 81 [xR 53, xI x1, xI x2] (xpush v9 [xI x2, xR 78]) h9 Q X) X)) : xwp G m_M_cut (d + 9) 64 [xR 53, xI x1, xI x2] [xI s0, xI s1, xR 80] h Q X := by
  have hnx9 : (93 : Int) ≤ xnx h := F.2.2
  refine xr_okL (fun hl9 => ?_)
  have r_x1 : -2147483648 ≤ x1 ∧ x1 ≤ 2147483647 := hl9 (xI x1) (.tail _ (.head _)) (Nat.le_of_ble_eq_true rfl)
  have r_x2 : -2147483648 ≤ x2 ∧ x2 ≤ 2147483647 := hl9 (xI x2) (.tail _ (.tail _ (.head _))) (Nat.le_of_ble_eq_true rfl)
  refine xr_okS (fun hs9 => ?_)
  have r_s0 : -2147483648 ≤ s0 ∧ s0 ≤ 2147483647 := hs9 (xI s0) (.head _)
  have r_s1 : -2147483648 ≤ s1 ∧ s1 ≤ 2147483647 := hs9 (xI s1) (.tail _ (.head _))
  obtain ⟨c1_, hyp⟩ := hyp
  obtain ⟨c2_, hyp⟩ := hyp
  refine xr_iastore (pc := 64) (hI := d_M_cut_64) (ft_80 F) (by decide) c1_ (xlt_of (fl_80 F) c2_) ?_
  have F3_ : xFix (xst h 80 s1 s0) := F.stA xfa_80
  refine xr_aload_n (pc := 65) (i := 0) (hI := d_M_cut_65) (hi := rfl) (hl := rfl) ?_
  refine xg_getf (pc := 66) (ci := 11) (k := 21) (N := 38) (v9 := 2) (v := 78) (T := xF11) (hI := d_M_cut_66) (hw := w_1608) rfl xi11 (Or.inl rfl) (Nat.le_of_ble_eq_true rfl) (Nat.le_of_ble_eq_true rfl) rfl (ft_53 F3_) (fp_53_21 F3_) (fun f4_ => ?_)
  clear f4_
  refine xr_iload_n (pc := 69) (i := 2) (hI := d_M_cut_69) (hi := rfl) (hl := rfl) ?_
  refine xr_aload_n (pc := 70) (i := 0) (hI := d_M_cut_70) (hi := rfl) (hl := rfl) ?_
  refine xr_iload_n (pc := 71) (i := 1) (hI := d_M_cut_71) (hi := rfl) (hl := rfl) ?_
  refine xr_aload_n (pc := 72) (i := 0) (hI := d_M_cut_72) (hi := rfl) (hl := rfl) ?_
  refine xg_getf (pc := 73) (ci := 11) (k := 23) (N := 38) (v9 := 2) (v := 80) (T := xF11) (hI := d_M_cut_73) (hw := w_1610) rfl xi11 (Or.inl rfl) (Nat.le_of_ble_eq_true rfl) (Nat.le_of_ble_eq_true rfl) rfl (ft_53 F3_) (fp_53_23 F3_) (fun f5_ => ?_)
  clear f5_
  refine xr_iload_n (pc := 76) (i := 2) (hI := d_M_cut_76) (hi := rfl) (hl := rfl) ?_
  obtain ⟨c6_, hyp⟩ := hyp
  obtain ⟨c7_, hyp⟩ := hyp
  refine xg_iaload (pc := 77) (v := (xpl (xst h 80 s1 s0) 80 x2)) (hI := d_M_cut_77) (ft_80 F3_) c6_ (xlt_of (fl_80 F3_) c7_) rfl (fun f8_ => ?_)
  replace f8_ : -2147483648 ≤ (xpl (xst h 80 s1 s0) 80 x2) ∧ (xpl (xst h 80 s1 s0) 80 x2) ≤ 2147483647 := f8_
  exact xq_callV (pc := 78) (index := 255) (K := m_M_kindAt) (As := [xI x1, xI (xpl (xst h 80 s1 s0) 80 x2)]) (S := [xI x2, xR 78]) (L0 := [xR 53, xI x1, xI (xpl (xst h 80 s1 s0) 80 x2)]) (hI := d_M_cut_78) (hK := k_M_kindAt) (hlk := w_2263) (hnoM := rfl) (hS8 := Nat.le_of_ble_eq_true rfl) (ci := 11) (N := 38) (C := "BeaconIndexModel") (T := xF11) (hc := rfl) (hci := Nat.le_of_ble_eq_true rfl) (htb := (ft_53 F3_)) (hinst := w_2265) (hsel := sel_M_kindAt) (hlen := Nat.le_of_ble_eq_true rfl) (hst := rfl) (hL0 := rfl)  (hyp F3_)
theorem d_M_cut_81 : decode prog_14_method_45_code 81 = .ok (.iastore, 1) := by decide +kernel
theorem xfa_78 : xfreeA 78 = true := by decide +kernel
theorem d_M_cut_82 : decode prog_14_method_45_code 82 = .ok (.iload_n 2, 1) := by decide +kernel
theorem d_M_cut_83 : decode prog_14_method_45_code 83 = .ok (.bipush 40, 2) := by decide +kernel
theorem d_M_cut_85 : decode prog_14_method_45_code 85 = .ok (.if_icmp .ne 24, 3) := by decide +kernel
theorem d_M_cut_88 : decode prog_14_method_45_code 88 = .ok (.aload_n 0, 1) := by decide +kernel
theorem d_M_cut_89 : decode prog_14_method_45_code 89 = .ok (.getfield 58, 3) := by decide +kernel
theorem d_M_cut_92 : decode prog_14_method_45_code 92 = .ok (.iload_n 2, 1) := by decide +kernel
theorem d_M_cut_93 : decode prog_14_method_45_code 93 = .ok (.iaload, 1) := by decide +kernel
theorem d_M_cut_94 : decode prog_14_method_45_code 94 = .ok (.sipush 400, 3) := by decide +kernel
theorem d_M_cut_97 : decode prog_14_method_45_code 97 = .ok (.if_icmp .eq 12, 3) := by decide +kernel
theorem d_M_cut_100 : decode prog_14_method_45_code 100 = .ok (.aload_n 0, 1) := by decide +kernel
theorem d_M_cut_101 : decode prog_14_method_45_code 101 = .ok (.getfield 58, 3) := by decide +kernel
theorem d_M_cut_104 : decode prog_14_method_45_code 104 = .ok (.iload_n 2, 1) := by decide +kernel
theorem d_M_cut_105 : decode prog_14_method_45_code 105 = .ok (.sipush 401, 3) := by decide +kernel
theorem d_M_cut_108 : decode prog_14_method_45_code 108 = .ok (.iastore, 1) := by decide +kernel
theorem v_M_cut_81 {G : XG} {d : Nat} {h : XH} {Q : XV → XH → Prop} {X : Nat → XH → Prop} {x1 x2 s0 s1 : Int} (F : xFix h) (hyp : 0 ≤ s1 ∧ s1 < 41 ∧ ((x2 = 40 → (((xpl (xst h 78 s1 s0) 78 x2) = 400 → (xFix (xst h 78 s1 s0) → xwp G m_M_cut (d + 9) 109 [xR 53, xI x1, xI x2] [] (xst h 78 s1 s0) Q X)) ∧ (¬ (xpl (xst h 78 s1 s0) 78 x2) = 400 → (xFix (xst (xst h 78 s1 s0) 78 x2 401) → xwp G m_M_cut (d + 9) 109 [xR 53, xI x1, xI x2] [] (xst (xst h 78 s1 s0) 78 x2 401) Q X)))) ∧ (¬ x2 = 40 → (xFix (xst h 78 s1 s0) → xwp G m_M_cut (d + 9) 109 [xR 53, xI x1, xI x2] [] (xst h 78 s1 s0) Q X)))) : xwp G m_M_cut (d + 9) 81 [xR 53, xI x1, xI x2] [xI s0, xI s1, xR 78] h Q X := by
  have hnx9 : (93 : Int) ≤ xnx h := F.2.2
  refine xr_okL (fun hl9 => ?_)
  have r_x1 : -2147483648 ≤ x1 ∧ x1 ≤ 2147483647 := hl9 (xI x1) (.tail _ (.head _)) (Nat.le_of_ble_eq_true rfl)
  have r_x2 : -2147483648 ≤ x2 ∧ x2 ≤ 2147483647 := hl9 (xI x2) (.tail _ (.tail _ (.head _))) (Nat.le_of_ble_eq_true rfl)
  refine xr_okS (fun hs9 => ?_)
  have r_s0 : -2147483648 ≤ s0 ∧ s0 ≤ 2147483647 := hs9 (xI s0) (.head _)
  have r_s1 : -2147483648 ≤ s1 ∧ s1 ≤ 2147483647 := hs9 (xI s1) (.tail _ (.head _))
  obtain ⟨c1_, hyp⟩ := hyp
  obtain ⟨c2_, hyp⟩ := hyp
  refine xr_iastore (pc := 81) (hI := d_M_cut_81) (ft_78 F) (by decide) c1_ (xlt_of (fl_78 F) c2_) ?_
  have F3_ : xFix (xst h 78 s1 s0) := F.stA xfa_78
  refine xr_iload_n (pc := 82) (i := 2) (hI := d_M_cut_82) (hi := rfl) (hl := rfl) ?_
  refine xr_bipush (pc := 83) (hI := d_M_cut_83) (hr := by decide) (hv := by decide) ?_
  refine xr_icmp_ne (pc := 85) (tgt := 109) (hI := d_M_cut_85) (ht := by decide) (fun q9 => ?_) (fun q9 => ?_)
  · replace hyp := hyp.2 q9
    have q4_ := q9
    clear q9
    exact (hyp F3_)
  · replace hyp := hyp.1 q9
    have q4_ := q9
    clear q9
    refine xr_aload_n (pc := 88) (i := 0) (hI := d_M_cut_88) (hi := rfl) (hl := rfl) ?_
    refine xg_getf (pc := 89) (ci := 11) (k := 21) (N := 38) (v9 := 2) (v := 78) (T := xF11) (hI := d_M_cut_89) (hw := w_1608) rfl xi11 (Or.inl rfl) (Nat.le_of_ble_eq_true rfl) (Nat.le_of_ble_eq_true rfl) rfl (ft_53 F3_) (fp_53_21 F3_) (fun f5_ => ?_)
    clear f5_
    refine xr_iload_n (pc := 92) (i := 2) (hI := d_M_cut_92) (hi := rfl) (hl := rfl) ?_
    refine xg_iaload (pc := 93) (v := (xpl (xst h 78 s1 s0) 78 x2)) (hI := d_M_cut_93) (ft_78 F3_) (by clear hyp; omega) (xlt_of (fl_78 F3_) (by clear hyp; omega)) rfl (fun f6_ => ?_)
    replace f6_ : -2147483648 ≤ (xpl (xst h 78 s1 s0) 78 x2) ∧ (xpl (xst h 78 s1 s0) 78 x2) ≤ 2147483647 := f6_
    refine xr_sipush (pc := 94) (hI := d_M_cut_94) (hr := by decide) (hv := by decide) ?_
    refine xr_icmp_eq (pc := 97) (tgt := 109) (hI := d_M_cut_97) (ht := by decide) (fun q9 => ?_) (fun q9 => ?_)
    · replace hyp := hyp.1 q9
      have q7_ := q9
      clear q9
      exact (hyp F3_)
    · replace hyp := hyp.2 q9
      have q7_ := q9
      clear q9
      refine xr_aload_n (pc := 100) (i := 0) (hI := d_M_cut_100) (hi := rfl) (hl := rfl) ?_
      refine xg_getf (pc := 101) (ci := 11) (k := 21) (N := 38) (v9 := 2) (v := 78) (T := xF11) (hI := d_M_cut_101) (hw := w_1608) rfl xi11 (Or.inl rfl) (Nat.le_of_ble_eq_true rfl) (Nat.le_of_ble_eq_true rfl) rfl (ft_53 F3_) (fp_53_21 F3_) (fun f8_ => ?_)
      clear f8_
      refine xr_iload_n (pc := 104) (i := 2) (hI := d_M_cut_104) (hi := rfl) (hl := rfl) ?_
      refine xr_sipush (pc := 105) (hI := d_M_cut_105) (hr := by decide) (hv := by decide) ?_
      refine xr_iastore (pc := 108) (hI := d_M_cut_108) (ft_78 F3_) (by decide) (by clear hyp; omega) (xlt_of (fl_78 F3_) (by clear hyp; omega)) ?_
      have F9_ : xFix (xst (xst h 78 s1 s0) 78 x2 401) := F3_.stA xfa_78
      exact (hyp F9_)
theorem d_M_cut_109 : decode prog_14_method_45_code 109 = .ok (.aload_n 0, 1) := by decide +kernel
theorem d_M_cut_110 : decode prog_14_method_45_code 110 = .ok (.getfield 58, 3) := by decide +kernel
theorem d_M_cut_113 : decode prog_14_method_45_code 113 = .ok (.iload_n 2, 1) := by decide +kernel
theorem d_M_cut_114 : decode prog_14_method_45_code 114 = .ok (.iaload, 1) := by decide +kernel
theorem d_M_cut_115 : decode prog_14_method_45_code 115 = .ok (.sipush 400, 3) := by decide +kernel
theorem d_M_cut_118 : decode prog_14_method_45_code 118 = .ok (.if_icmp .lt 4, 3) := by decide +kernel
theorem d_M_cut_122 : decode prog_14_method_45_code 122 = .ok (.iload_n 1, 1) := by decide +kernel
theorem d_M_cut_123 : decode prog_14_method_45_code 123 = .ok (.aload_n 0, 1) := by decide +kernel
theorem d_M_cut_124 : decode prog_14_method_45_code 124 = .ok (.getfield 64, 3) := by decide +kernel
theorem d_M_cut_127 : decode prog_14_method_45_code 127 = .ok (.iload_n 2, 1) := by decide +kernel
theorem d_M_cut_128 : decode prog_14_method_45_code 128 = .ok (.iaload, 1) := by decide +kernel
theorem d_M_cut_129 : decode prog_14_method_45_code 129 = .ok (.iadd, 1) := by decide +kernel
theorem d_M_cut_130 : decode prog_14_method_45_code 130 = .ok (.istore_n 1, 1) := by decide +kernel
theorem d_M_cut_131 : decode prog_14_method_45_code 131 = .ok (.iinc 2 1, 3) := by decide +kernel
theorem d_M_cut_134 : decode prog_14_method_45_code 134 = .ok (.goto (-130), 3) := by decide +kernel
theorem d_M_cut_121 : decode prog_14_method_45_code 121 = .ok (.return_, 1) := by decide +kernel
theorem v_M_cut_109 {G : XG} {d : Nat} {h : XH} {Q : XV → XH → Prop} {X : Nat → XH → Prop} {x1 x2 : Int} (F : xFix h) (hyp : 0 ≤ x2 ∧ x2 < 41 ∧ (((xpl h 78 x2) < 400 → xiR (x1 + (xpl h 80 x2)) ∧ (xwp G m_M_cut (d + 9) 4 [xR 53, xI (x1 + (xpl h 80 x2)), xI (x2 + 1)] [] h Q X)) ∧ (¬ (xpl h 78 x2) < 400 → (Q xN h)))) : xwp G m_M_cut (d + 9) 109 [xR 53, xI x1, xI x2] [] h Q X := by
  have hnx9 : (93 : Int) ≤ xnx h := F.2.2
  refine xr_okL (fun hl9 => ?_)
  have r_x1 : -2147483648 ≤ x1 ∧ x1 ≤ 2147483647 := hl9 (xI x1) (.tail _ (.head _)) (Nat.le_of_ble_eq_true rfl)
  have r_x2 : -2147483648 ≤ x2 ∧ x2 ≤ 2147483647 := hl9 (xI x2) (.tail _ (.tail _ (.head _))) (Nat.le_of_ble_eq_true rfl)
  refine xr_aload_n (pc := 109) (i := 0) (hI := d_M_cut_109) (hi := rfl) (hl := rfl) ?_
  refine xg_getf (pc := 110) (ci := 11) (k := 21) (N := 38) (v9 := 2) (v := 78) (T := xF11) (hI := d_M_cut_110) (hw := w_1608) rfl xi11 (Or.inl rfl) (Nat.le_of_ble_eq_true rfl) (Nat.le_of_ble_eq_true rfl) rfl (ft_53 F) (fp_53_21 F) (fun f1_ => ?_)
  clear f1_
  refine xr_iload_n (pc := 113) (i := 2) (hI := d_M_cut_113) (hi := rfl) (hl := rfl) ?_
  obtain ⟨c2_, hyp⟩ := hyp
  obtain ⟨c3_, hyp⟩ := hyp
  refine xg_iaload (pc := 114) (v := (xpl h 78 x2)) (hI := d_M_cut_114) (ft_78 F) c2_ (xlt_of (fl_78 F) c3_) rfl (fun f4_ => ?_)
  replace f4_ : -2147483648 ≤ (xpl h 78 x2) ∧ (xpl h 78 x2) ≤ 2147483647 := f4_
  refine xr_sipush (pc := 115) (hI := d_M_cut_115) (hr := by decide) (hv := by decide) ?_
  refine xr_icmp_lt (pc := 118) (tgt := 122) (hI := d_M_cut_118) (ht := by decide) (fun q9 => ?_) (fun q9 => ?_)
  · replace hyp := hyp.1 q9
    have q5_ := q9
    clear q9
    refine xr_iload_n (pc := 122) (i := 1) (hI := d_M_cut_122) (hi := rfl) (hl := rfl) ?_
    refine xr_aload_n (pc := 123) (i := 0) (hI := d_M_cut_123) (hi := rfl) (hl := rfl) ?_
    refine xg_getf (pc := 124) (ci := 11) (k := 23) (N := 38) (v9 := 2) (v := 80) (T := xF11) (hI := d_M_cut_124) (hw := w_1610) rfl xi11 (Or.inl rfl) (Nat.le_of_ble_eq_true rfl) (Nat.le_of_ble_eq_true rfl) rfl (ft_53 F) (fp_53_23 F) (fun f6_ => ?_)
    clear f6_
    refine xr_iload_n (pc := 127) (i := 2) (hI := d_M_cut_127) (hi := rfl) (hl := rfl) ?_
    refine xg_iaload (pc := 128) (v := (xpl h 80 x2)) (hI := d_M_cut_128) (ft_80 F) (by clear hyp; omega) (xlt_of (fl_80 F) (by clear hyp; omega)) rfl (fun f7_ => ?_)
    replace f7_ : -2147483648 ≤ (xpl h 80 x2) ∧ (xpl h 80 x2) ≤ 2147483647 := f7_
    obtain ⟨c9, hyp⟩ := hyp
    refine xr_iadd (pc := 129) (hI := d_M_cut_129) (hr := c9) ?_
    refine xr_istore_n (pc := 130) (i := 1) (L9 := [xR 53, xI (x1 + (xpl h 80 x2)), xI x2]) (hI := d_M_cut_130) (hi := rfl) (hn := Nat.le_of_ble_eq_true rfl) (hL9 := rfl) ?_
    refine xr_iinc (pc := 131) (i := 2) (L9 := [xR 53, xI (x1 + (xpl h 80 x2)), xI (x2 + 1)]) (hI := d_M_cut_131) (hl := rfl) (hn := Nat.le_of_ble_eq_true rfl) (hr := ⟨by clear hyp; omega, by clear hyp; omega⟩) (hL9 := rfl) ?_
    refine xr_goto (pc := 134) (tgt := 4) (hI := d_M_cut_134) (ht := by decide) ?_
    exact hyp
  · replace hyp := hyp.2 q9
    have q5_ := q9
    clear q9
    refine xr_return (S := []) (pc := 121) (hI := d_M_cut_121) (hr := rfl) ?_
    exact hyp
abbrev m_M_is : XM := (⟨"BeaconIndexModel", "is", "(I)Z"⟩, prog_14_method_46_code, 2, (some .boolean), [])
theorem d_M_is_0 : decode prog_14_method_46_code 0 = .ok (.aload_n 0, 1) := by decide +kernel
theorem d_M_is_1 : decode prog_14_method_46_code 1 = .ok (.getfield 58, 3) := by decide +kernel
theorem d_M_is_4 : decode prog_14_method_46_code 4 = .ok (.aload_n 0, 1) := by decide +kernel
theorem d_M_is_5 : decode prog_14_method_46_code 5 = .ok (.getfield 258, 3) := by decide +kernel
theorem w_1611 : Cond.fieldLink "BeaconIndexModel" 258 "BeaconIndexModel" "token" "I" ∈ lw_tbl := List.mem_append_right _ (List.mem_of_getElem? (i := 1611) (by decide +kernel))
theorem d_M_is_8 : decode prog_14_method_46_code 8 = .ok (.iaload, 1) := by decide +kernel
theorem d_M_is_9 : decode prog_14_method_46_code 9 = .ok (.iload_n 1, 1) := by decide +kernel
theorem d_M_is_10 : decode prog_14_method_46_code 10 = .ok (.if_icmp .ne 7, 3) := by decide +kernel
theorem d_M_is_17 : decode prog_14_method_46_code 17 = .ok (.iconst 0, 1) := by decide +kernel
theorem d_M_is_18 : decode prog_14_method_46_code 18 = .ok (.ireturn, 1) := by decide +kernel
theorem d_M_is_13 : decode prog_14_method_46_code 13 = .ok (.iconst 1, 1) := by decide +kernel
theorem d_M_is_14 : decode prog_14_method_46_code 14 = .ok (.goto 4, 3) := by decide +kernel
theorem v_M_is_0 {G : XG} {d : Nat} {h : XH} {Q : XV → XH → Prop} {X : Nat → XH → Prop} {x1 : Int} (F : xFix h) (hyp : 0 ≤ (xpl h 53 24) ∧ (xpl h 53 24) < 41 ∧ (((xpl h 78 (xpl h 53 24)) = x1 → (Q (xI 1) h)) ∧ (¬ (xpl h 78 (xpl h 53 24)) = x1 → (Q (xI 0) h)))) : xwp G m_M_is (d + 1) 0 [xR 53, xI x1] [] h Q X := by
  have hnx9 : (93 : Int) ≤ xnx h := F.2.2
  refine xr_okL (fun hl9 => ?_)
  have r_x1 : -2147483648 ≤ x1 ∧ x1 ≤ 2147483647 := hl9 (xI x1) (.tail _ (.head _)) (Nat.le_of_ble_eq_true rfl)
  refine xr_aload_n (pc := 0) (i := 0) (hI := d_M_is_0) (hi := rfl) (hl := rfl) ?_
  refine xg_getf (pc := 1) (ci := 11) (k := 21) (N := 38) (v9 := 2) (v := 78) (T := xF11) (hI := d_M_is_1) (hw := w_1608) rfl xi11 (Or.inl rfl) (Nat.le_of_ble_eq_true rfl) (Nat.le_of_ble_eq_true rfl) rfl (ft_53 F) (fp_53_21 F) (fun f1_ => ?_)
  clear f1_
  refine xr_aload_n (pc := 4) (i := 0) (hI := d_M_is_4) (hi := rfl) (hl := rfl) ?_
  refine xg_getf (pc := 5) (ci := 11) (k := 24) (N := 38) (v9 := 0) (v := (xpl h 53 24)) (T := xF11) (hI := d_M_is_5) (hw := w_1611) rfl xi11 (Or.inl rfl) (Nat.le_of_ble_eq_true rfl) (Nat.le_of_ble_eq_true rfl) rfl (ft_53 F) rfl (fun f2_ => ?_)
  replace f2_ : -2147483648 ≤ (xpl h 53 24) ∧ (xpl h 53 24) ≤ 2147483647 := f2_
  obtain ⟨c3_, hyp⟩ := hyp
  obtain ⟨c4_, hyp⟩ := hyp
  refine xg_iaload (pc := 8) (v := (xpl h 78 (xpl h 53 24))) (hI := d_M_is_8) (ft_78 F) c3_ (xlt_of (fl_78 F) c4_) rfl (fun f5_ => ?_)
  replace f5_ : -2147483648 ≤ (xpl h 78 (xpl h 53 24)) ∧ (xpl h 78 (xpl h 53 24)) ≤ 2147483647 := f5_
  refine xr_iload_n (pc := 9) (i := 1) (hI := d_M_is_9) (hi := rfl) (hl := rfl) ?_
  refine xr_icmp_ne (pc := 10) (tgt := 17) (hI := d_M_is_10) (ht := by decide) (fun q9 => ?_) (fun q9 => ?_)
  · replace hyp := hyp.2 q9
    have q6_ := q9
    clear q9
    refine xr_iconst (pc := 17) (hI := d_M_is_17) (hr := by decide) ?_
    refine xr_ireturnT (S := []) (pc := 18) (hI := d_M_is_18) (hr := rfl) (xnar_z (by decide)) ?_
    exact hyp
  · replace hyp := hyp.1 q9
    have q6_ := q9
    clear q9
    refine xr_iconst (pc := 13) (hI := d_M_is_13) (hr := by decide) ?_
    refine xr_goto (pc := 14) (tgt := 18) (hI := d_M_is_14) (ht := by decide) ?_
    refine xr_ireturnT (S := []) (pc := 18) (hI := d_M_is_18) (hr := rfl) (xnar_z (by decide)) ?_
    exact hyp
abbrev m_M_eat : XM := (⟨"BeaconIndexModel", "eat", "(I)Z"⟩, prog_14_method_47_code, 2, (some .boolean), [])
theorem d_M_eat_0 : decode prog_14_method_47_code 0 = .ok (.aload_n 0, 1) := by decide +kernel
theorem d_M_eat_1 : decode prog_14_method_47_code 1 = .ok (.iload_n 1, 1) := by decide +kernel
theorem d_M_eat_2 : decode prog_14_method_47_code 2 = .ok (.invokevirtual 261, 3) := by decide +kernel
theorem k_M_is : xCal m_M_is 1 := ⟨List.mem_append_right _ (List.mem_of_getElem? (i := 2325) (by decide +kernel)), w_15, Nat.le_of_ble_eq_true rfl, ⟨by decide +kernel, by decide +kernel⟩, by decide +kernel, by decide +kernel, rfl⟩
theorem w_2322 : Cond.methodLink "BeaconIndexModel" 261 ⟨"BeaconIndexModel", "is", "(I)Z"⟩ ∈ lw_tbl := List.mem_append_right _ (List.mem_of_getElem? (i := 2322) (by decide +kernel))
theorem w_2324 : Cond.instanceMethod ⟨"BeaconIndexModel", "is", "(I)Z"⟩ ∈ lw_tbl := List.mem_append_right _ (List.mem_of_getElem? (i := 2324) (by decide +kernel))
theorem sel_M_is : Cond.selects "BeaconIndexModel" ⟨"BeaconIndexModel", "is", "(I)Z"⟩ ⟨"BeaconIndexModel", "is", "(I)Z"⟩ ∈ lw_tbl := List.mem_append_left _ (by decide +kernel)
theorem v_M_eat_0 {G : XG} {d : Nat} {h : XH} {Q : XV → XH → Prop} {X : Nat → XH → Prop} {x1 : Int} (F : xFix h) (hyp : (xwp G m_M_is (d + 1) 0 [xR 53, xI x1] [] h (fun v9 h9 => xwp G m_M_eat (d + 2) 5 [xR 53, xZ] (xpush v9 []) h9 Q X) X)) : xwp G m_M_eat (d + 2) 0 [xR 53, xI x1] [] h Q X := by
  have hnx9 : (93 : Int) ≤ xnx h := F.2.2
  refine xr_okL (fun hl9 => ?_)
  have r_x1 : -2147483648 ≤ x1 ∧ x1 ≤ 2147483647 := hl9 (xI x1) (.tail _ (.head _)) (Nat.le_of_ble_eq_true rfl)
  refine xr_aload_n (pc := 0) (i := 0) (hI := d_M_eat_0) (hi := rfl) (hl := rfl) ?_
  refine xr_iload_n (pc := 1) (i := 1) (hI := d_M_eat_1) (hi := rfl) (hl := rfl) ?_
  exact xq_callV (pc := 2) (index := 261) (K := m_M_is) (As := [xI x1]) (S := []) (L0 := [xR 53, xI x1]) (hI := d_M_eat_2) (hK := k_M_is) (hlk := w_2322) (hnoM := rfl) (hS8 := Nat.le_of_ble_eq_true rfl) (ci := 11) (N := 38) (C := "BeaconIndexModel") (T := xF11) (hc := rfl) (hci := Nat.le_of_ble_eq_true rfl) (htb := (ft_53 F)) (hinst := w_2324) (hsel := sel_M_is) (hlen := Nat.le_of_ble_eq_true rfl) (hst := rfl) (hL0 := rfl)  (xwp_mono hyp (fun v9 h9 q9 => xr_drop (L9 := [xR 53, xZ]) (xdrs (xdrz xdr0)) q9) (fun _ _ z9 => z9))
theorem d_M_eat_5 : decode prog_14_method_47_code 5 = .ok (.ifCond .ne 5, 3) := by decide +kernel
theorem d_M_eat_10 : decode prog_14_method_47_code 10 = .ok (.aload_n 0, 1) := by decide +kernel
theorem d_M_eat_11 : decode prog_14_method_47_code 11 = .ok (.dup, 1) := by decide +kernel
theorem d_M_eat_12 : decode prog_14_method_47_code 12 = .ok (.getfield 258, 3) := by decide +kernel
theorem d_M_eat_15 : decode prog_14_method_47_code 15 = .ok (.iconst 1, 1) := by decide +kernel
theorem d_M_eat_16 : decode prog_14_method_47_code 16 = .ok (.iadd, 1) := by decide +kernel
theorem d_M_eat_17 : decode prog_14_method_47_code 17 = .ok (.putfield 258, 3) := by decide +kernel
theorem xfk_53_24 : xfree 53 24 = true := by decide +kernel
theorem d_M_eat_20 : decode prog_14_method_47_code 20 = .ok (.iconst 1, 1) := by decide +kernel
theorem d_M_eat_21 : decode prog_14_method_47_code 21 = .ok (.ireturn, 1) := by decide +kernel
theorem d_M_eat_8 : decode prog_14_method_47_code 8 = .ok (.iconst 0, 1) := by decide +kernel
theorem d_M_eat_9 : decode prog_14_method_47_code 9 = .ok (.ireturn, 1) := by decide +kernel
theorem v_M_eat_5 {G : XG} {d : Nat} {h : XH} {Q : XV → XH → Prop} {X : Nat → XH → Prop} {s0 : Int} (F : xFix h) (hyp : ((s0 = 0 → (Q (xI 0) h)) ∧ (¬ s0 = 0 → xiR ((xpl h 53 24) + 1) ∧ (xFix (xst h 53 24 ((xpl h 53 24) + 1)) → Q (xI 1) (xst h 53 24 ((xpl h 53 24) + 1)))))) : xwp G m_M_eat (d + 2) 5 [xR 53, xZ] [xI s0] h Q X := by
  have hnx9 : (93 : Int) ≤ xnx h := F.2.2
  refine xr_okS (fun hs9 => ?_)
  have r_s0 : -2147483648 ≤ s0 ∧ s0 ≤ 2147483647 := hs9 (xI s0) (.head _)
  refine xr_if_ne (pc := 5) (tgt := 10) (hI := d_M_eat_5) (ht := by decide) (fun q9 => ?_) (fun q9 => ?_)
  · replace hyp := hyp.2 q9
    have q1_ := q9
    clear q9
    refine xr_aload_n (pc := 10) (i := 0) (hI := d_M_eat_10) (hi := rfl) (hl := rfl) ?_
    refine xr_dup (pc := 11) (hI := d_M_eat_11) (hv := rfl) ?_
    refine xg_getf (pc := 12) (ci := 11) (k := 24) (N := 38) (v9 := 0) (v := (xpl h 53 24)) (T := xF11) (hI := d_M_eat_12) (hw := w_1611) rfl xi11 (Or.inl rfl) (Nat.le_of_ble_eq_true rfl) (Nat.le_of_ble_eq_true rfl) rfl (ft_53 F) rfl (fun f2_ => ?_)
    replace f2_ : -2147483648 ≤ (xpl h 53 24) ∧ (xpl h 53 24) ≤ 2147483647 := f2_
    refine xr_iconst (pc := 15) (hI := d_M_eat_15) (hr := by decide) ?_
    obtain ⟨c9, hyp⟩ := hyp
    refine xr_iadd (pc := 16) (hI := d_M_eat_16) (hr := c9) ?_
    refine xr_putf (pc := 17) (ci := 11) (k := 24) (N := 38) (v9 := 0) (T := xF11) (tF := xT11) (hI := d_M_eat_17) (hw := w_1611) rfl xi11 xt11 xn11 (Or.inl rfl) (Nat.le_of_ble_eq_true rfl) (Nat.le_of_ble_eq_true rfl) rfl xfit_i rfl (ft_53 F) (by decide) (fun z => z) ?_
    have F3_ : xFix (xst h 53 24 ((xpl h 53 24) + 1)) := F.stL xfk_53_24
    refine xr_iconst (pc := 20) (hI := d_M_eat_20) (hr := by decide) ?_
    refine xr_ireturnT (S := []) (pc := 21) (hI := d_M_eat_21) (hr := rfl) (xnar_z (by decide)) ?_
    exact hyp F3_
  · replace hyp := hyp.1 q9
    have q1_ := q9
    clear q9
    refine xr_iconst (pc := 8) (hI := d_M_eat_8) (hr := by decide) ?_
    refine xr_ireturnT (S := []) (pc := 9) (hI := d_M_eat_9) (hr := rfl) (xnar_z (by decide)) ?_
    exact hyp
abbrev m_M_number : XM := (⟨"BeaconIndexModel", "number", "()I"⟩, prog_14_method_48_code, 3, (some .int), [])
theorem d_M_number_0 : decode prog_14_method_48_code 0 = .ok (.aload_n 0, 1) := by decide +kernel
theorem d_M_number_1 : decode prog_14_method_48_code 1 = .ok (.sipush 300, 3) := by decide +kernel
theorem d_M_number_4 : decode prog_14_method_48_code 4 = .ok (.invokevirtual 261, 3) := by decide +kernel
theorem v_M_number_0 {G : XG} {d : Nat} {h : XH} {Q : XV → XH → Prop} {X : Nat → XH → Prop} (F : xFix h) (hyp : (xwp G m_M_is (d + 1) 0 [xR 53, xI 300] [] h (fun v9 h9 => xwp G m_M_number (d + 2) 7 [xR 53, xZ, xZ] (xpush v9 []) h9 Q X) X)) : xwp G m_M_number (d + 2) 0 [xR 53, xZ, xZ] [] h Q X := by
  have hnx9 : (93 : Int) ≤ xnx h := F.2.2
  refine xr_aload_n (pc := 0) (i := 0) (hI := d_M_number_0) (hi := rfl) (hl := rfl) ?_
  refine xr_sipush (pc := 1) (hI := d_M_number_1) (hr := by decide) (hv := by decide) ?_
  exact xq_callV (pc := 4) (index := 261) (K := m_M_is) (As := [xI 300]) (S := []) (L0 := [xR 53, xI 300]) (hI := d_M_number_4) (hK := k_M_is) (hlk := w_2322) (hnoM := rfl) (hS8 := Nat.le_of_ble_eq_true rfl) (ci := 11) (N := 38) (C := "BeaconIndexModel") (T := xF11) (hc := rfl) (hci := Nat.le_of_ble_eq_true rfl) (htb := (ft_53 F)) (hinst := w_2324) (hsel := sel_M_is) (hlen := Nat.le_of_ble_eq_true rfl) (hst := rfl) (hL0 := rfl)  hyp
theorem d_M_number_7 : decode prog_14_method_48_code 7 = .ok (.ifCond .eq 16, 3) := by decide +kernel
theorem d_M_number_23 : decode prog_14_method_48_code 23 = .ok (.iconst (-1), 1) := by decide +kernel
theorem d_M_number_24 : decode prog_14_method_48_code 24 = .ok (.ireturn, 1) := by decide +kernel
theorem d_M_number_10 : decode prog_14_method_48_code 10 = .ok (.aload_n 0, 1) := by decide +kernel
theorem d_M_number_11 : decode prog_14_method_48_code 11 = .ok (.getfield 64, 3) := by decide +kernel
theorem d_M_number_14 : decode prog_14_method_48_code 14 = .ok (.aload_n 0, 1) := by decide +kernel
theorem d_M_number_15 : decode prog_14_method_48_code 15 = .ok (.getfield 258, 3) := by decide +kernel
theorem d_M_number_18 : decode prog_14_method_48_code 18 = .ok (.iaload, 1) := by decide +kernel
theorem d_M_number_19 : decode prog_14_method_48_code 19 = .ok (.iconst 2, 1) := by decide +kernel
theorem d_M_number_20 : decode prog_14_method_48_code 20 = .ok (.if_icmp .le 5, 3) := by decide +kernel
theorem d_M_number_25 : decode prog_14_method_48_code 25 = .ok (.iconst 0, 1) := by decide +kernel
theorem d_M_number_26 : decode prog_14_method_48_code 26 = .ok (.istore_n 1, 1) := by decide +kernel
theorem d_M_number_27 : decode prog_14_method_48_code 27 = .ok (.aload_n 0, 1) := by decide +kernel
theorem d_M_number_28 : decode prog_14_method_48_code 28 = .ok (.getfield 61, 3) := by decide +kernel
theorem d_M_number_31 : decode prog_14_method_48_code 31 = .ok (.aload_n 0, 1) := by decide +kernel
theorem d_M_number_32 : decode prog_14_method_48_code 32 = .ok (.getfield 258, 3) := by decide +kernel
theorem d_M_number_35 : decode prog_14_method_48_code 35 = .ok (.iaload, 1) := by decide +kernel
theorem d_M_number_36 : decode prog_14_method_48_code 36 = .ok (.istore_n 2, 1) := by decide +kernel
theorem v_M_number_7 {G : XG} {d : Nat} {h : XH} {Q : XV → XH → Prop} {X : Nat → XH → Prop} {s0 : Int} (F : xFix h) (hyp : ((s0 = 0 → (Q (xI (-1)) h)) ∧ (¬ s0 = 0 → 0 ≤ (xpl h 53 24) ∧ (xpl h 53 24) < 41 ∧ (((xpl h 80 (xpl h 53 24)) ≤ 2 → (xwp G m_M_number (d + 2) 37 [xR 53, xI 0, xI (xpl h 79 (xpl h 53 24))] [] h Q X)) ∧ (¬ (xpl h 80 (xpl h 53 24)) ≤ 2 → (Q (xI (-1)) h)))))) : xwp G m_M_number (d + 2) 7 [xR 53, xZ, xZ] [xI s0] h Q X := by
  have hnx9 : (93 : Int) ≤ xnx h := F.2.2
  refine xr_okS (fun hs9 => ?_)
  have r_s0 : -2147483648 ≤ s0 ∧ s0 ≤ 2147483647 := hs9 (xI s0) (.head _)
  refine xr_if_eq (pc := 7) (tgt := 23) (hI := d_M_number_7) (ht := by decide) (fun q9 => ?_) (fun q9 => ?_)
  · replace hyp := hyp.1 q9
    have q1_ := q9
    clear q9
    refine xr_iconst (pc := 23) (hI := d_M_number_23) (hr := by decide) ?_
    refine xr_ireturn (S := []) (pc := 24) (hI := d_M_number_24) (hr := rfl) ?_
    exact hyp
  · replace hyp := hyp.2 q9
    have q1_ := q9
    clear q9
    refine xr_aload_n (pc := 10) (i := 0) (hI := d_M_number_10) (hi := rfl) (hl := rfl) ?_
    refine xg_getf (pc := 11) (ci := 11) (k := 23) (N := 38) (v9 := 2) (v := 80) (T := xF11) (hI := d_M_number_11) (hw := w_1610) rfl xi11 (Or.inl rfl) (Nat.le_of_ble_eq_true rfl) (Nat.le_of_ble_eq_true rfl) rfl (ft_53 F) (fp_53_23 F) (fun f2_ => ?_)
    clear f2_
    refine xr_aload_n (pc := 14) (i := 0) (hI := d_M_number_14) (hi := rfl) (hl := rfl) ?_
    refine xg_getf (pc := 15) (ci := 11) (k := 24) (N := 38) (v9 := 0) (v := (xpl h 53 24)) (T := xF11) (hI := d_M_number_15) (hw := w_1611) rfl xi11 (Or.inl rfl) (Nat.le_of_ble_eq_true rfl) (Nat.le_of_ble_eq_true rfl) rfl (ft_53 F) rfl (fun f3_ => ?_)
    replace f3_ : -2147483648 ≤ (xpl h 53 24) ∧ (xpl h 53 24) ≤ 2147483647 := f3_
    obtain ⟨c4_, hyp⟩ := hyp
    obtain ⟨c5_, hyp⟩ := hyp
    refine xg_iaload (pc := 18) (v := (xpl h 80 (xpl h 53 24))) (hI := d_M_number_18) (ft_80 F) c4_ (xlt_of (fl_80 F) c5_) rfl (fun f6_ => ?_)
    replace f6_ : -2147483648 ≤ (xpl h 80 (xpl h 53 24)) ∧ (xpl h 80 (xpl h 53 24)) ≤ 2147483647 := f6_
    refine xr_iconst (pc := 19) (hI := d_M_number_19) (hr := by decide) ?_
    refine xr_icmp_le (pc := 20) (tgt := 25) (hI := d_M_number_20) (ht := by decide) (fun q9 => ?_) (fun q9 => ?_)
    · replace hyp := hyp.1 q9
      have q7_ := q9
      clear q9
      refine xr_iconst (pc := 25) (hI := d_M_number_25) (hr := by decide) ?_
      refine xr_istore_n (pc := 26) (i := 1) (L9 := [xR 53, xI 0, xZ]) (hI := d_M_number_26) (hi := rfl) (hn := Nat.le_of_ble_eq_true rfl) (hL9 := rfl) ?_
      refine xr_aload_n (pc := 27) (i := 0) (hI := d_M_number_27) (hi := rfl) (hl := rfl) ?_
      refine xg_getf (pc := 28) (ci := 11) (k := 22) (N := 38) (v9 := 2) (v := 79) (T := xF11) (hI := d_M_number_28) (hw := w_1609) rfl xi11 (Or.inl rfl) (Nat.le_of_ble_eq_true rfl) (Nat.le_of_ble_eq_true rfl) rfl (ft_53 F) (fp_53_22 F) (fun f8_ => ?_)
      clear f8_
      refine xr_aload_n (pc := 31) (i := 0) (hI := d_M_number_31) (hi := rfl) (hl := rfl) ?_
      refine xg_getf (pc := 32) (ci := 11) (k := 24) (N := 38) (v9 := 0) (v := (xpl h 53 24)) (T := xF11) (hI := d_M_number_32) (hw := w_1611) rfl xi11 (Or.inl rfl) (Nat.le_of_ble_eq_true rfl) (Nat.le_of_ble_eq_true rfl) rfl (ft_53 F) rfl (fun f9_ => ?_)
      replace f9_ : -2147483648 ≤ (xpl h 53 24) ∧ (xpl h 53 24) ≤ 2147483647 := f9_
      refine xg_iaload (pc := 35) (v := (xpl h 79 (xpl h 53 24))) (hI := d_M_number_35) (ft_79 F) (by clear hyp; omega) (xlt_of (fl_79 F) (by clear hyp; omega)) rfl (fun f10_ => ?_)
      replace f10_ : -2147483648 ≤ (xpl h 79 (xpl h 53 24)) ∧ (xpl h 79 (xpl h 53 24)) ≤ 2147483647 := f10_
      refine xr_istore_n (pc := 36) (i := 2) (L9 := [xR 53, xI 0, xI (xpl h 79 (xpl h 53 24))]) (hI := d_M_number_36) (hi := rfl) (hn := Nat.le_of_ble_eq_true rfl) (hL9 := rfl) ?_
      exact hyp
    · replace hyp := hyp.2 q9
      have q7_ := q9
      clear q9
      refine xr_iconst (pc := 23) (hI := d_M_number_23) (hr := by decide) ?_
      refine xr_ireturn (S := []) (pc := 24) (hI := d_M_number_24) (hr := rfl) ?_
      exact hyp
theorem d_M_number_37 : decode prog_14_method_48_code 37 = .ok (.iload_n 2, 1) := by decide +kernel
theorem d_M_number_38 : decode prog_14_method_48_code 38 = .ok (.aload_n 0, 1) := by decide +kernel
theorem d_M_number_39 : decode prog_14_method_48_code 39 = .ok (.getfield 61, 3) := by decide +kernel
theorem d_M_number_42 : decode prog_14_method_48_code 42 = .ok (.aload_n 0, 1) := by decide +kernel
theorem d_M_number_43 : decode prog_14_method_48_code 43 = .ok (.getfield 258, 3) := by decide +kernel
theorem d_M_number_46 : decode prog_14_method_48_code 46 = .ok (.iaload, 1) := by decide +kernel
theorem d_M_number_47 : decode prog_14_method_48_code 47 = .ok (.aload_n 0, 1) := by decide +kernel
theorem d_M_number_48 : decode prog_14_method_48_code 48 = .ok (.getfield 64, 3) := by decide +kernel
theorem d_M_number_51 : decode prog_14_method_48_code 51 = .ok (.aload_n 0, 1) := by decide +kernel
theorem d_M_number_52 : decode prog_14_method_48_code 52 = .ok (.getfield 258, 3) := by decide +kernel
theorem d_M_number_55 : decode prog_14_method_48_code 55 = .ok (.iaload, 1) := by decide +kernel
theorem d_M_number_56 : decode prog_14_method_48_code 56 = .ok (.iadd, 1) := by decide +kernel
theorem d_M_number_57 : decode prog_14_method_48_code 57 = .ok (.if_icmp .ge 37, 3) := by decide +kernel
theorem d_M_number_94 : decode prog_14_method_48_code 94 = .ok (.iload_n 1, 1) := by decide +kernel
theorem d_M_number_95 : decode prog_14_method_48_code 95 = .ok (.ireturn, 1) := by decide +kernel
theorem d_M_number_60 : decode prog_14_method_48_code 60 = .ok (.aload_n 0, 1) := by decide +kernel
theorem d_M_number_61 : decode prog_14_method_48_code 61 = .ok (.getfield 9, 3) := by decide +kernel
theorem d_M_number_64 : decode prog_14_method_48_code 64 = .ok (.iload_n 2, 1) := by decide +kernel
theorem d_M_number_65 : decode prog_14_method_48_code 65 = .ok (.iaload, 1) := by decide +kernel
theorem d_M_number_66 : decode prog_14_method_48_code 66 = .ok (.bipush 57, 2) := by decide +kernel
theorem d_M_number_68 : decode prog_14_method_48_code 68 = .ok (.if_icmp .le 5, 3) := by decide +kernel
theorem d_M_number_73 : decode prog_14_method_48_code 73 = .ok (.bipush 10, 2) := by decide +kernel
theorem d_M_number_75 : decode prog_14_method_48_code 75 = .ok (.iload_n 1, 1) := by decide +kernel
theorem d_M_number_76 : decode prog_14_method_48_code 76 = .ok (.imul, 1) := by decide +kernel
theorem d_M_number_77 : decode prog_14_method_48_code 77 = .ok (.aload_n 0, 1) := by decide +kernel
theorem d_M_number_78 : decode prog_14_method_48_code 78 = .ok (.getfield 9, 3) := by decide +kernel
theorem d_M_number_81 : decode prog_14_method_48_code 81 = .ok (.iload_n 2, 1) := by decide +kernel
theorem d_M_number_82 : decode prog_14_method_48_code 82 = .ok (.iaload, 1) := by decide +kernel
theorem d_M_number_83 : decode prog_14_method_48_code 83 = .ok (.iadd, 1) := by decide +kernel
theorem d_M_number_84 : decode prog_14_method_48_code 84 = .ok (.bipush 48, 2) := by decide +kernel
theorem d_M_number_86 : decode prog_14_method_48_code 86 = .ok (.isub, 1) := by decide +kernel
theorem d_M_number_87 : decode prog_14_method_48_code 87 = .ok (.istore_n 1, 1) := by decide +kernel
theorem d_M_number_88 : decode prog_14_method_48_code 88 = .ok (.iinc 2 1, 3) := by decide +kernel
theorem d_M_number_91 : decode prog_14_method_48_code 91 = .ok (.goto (-54), 3) := by decide +kernel
theorem d_M_number_71 : decode prog_14_method_48_code 71 = .ok (.iconst (-1), 1) := by decide +kernel
theorem d_M_number_72 : decode prog_14_method_48_code 72 = .ok (.ireturn, 1) := by decide +kernel
theorem v_M_number_37 {G : XG} {d : Nat} {h : XH} {Q : XV → XH → Prop} {X : Nat → XH → Prop} {x1 x2 : Int} (F : xFix h) (hyp : 0 ≤ (xpl h 53 24) ∧ (xpl h 53 24) < 41 ∧ xiR ((xpl h 79 (xpl h 53 24)) + (xpl h 80 (xpl h 53 24))) ∧ ((((xpl h 79 (xpl h 53 24)) + (xpl h 80 (xpl h 53 24))) ≤ x2 → (Q (xI x1) h)) ∧ (¬ ((xpl h 79 (xpl h 53 24)) + (xpl h 80 (xpl h 53 24))) ≤ x2 → 0 ≤ x2 ∧ x2 < 400 ∧ (((xpl h 54 x2) ≤ 57 → xiR (10 * x1) ∧ xiR ((10 * x1) + (xpl h 54 x2)) ∧ xiR (((10 * x1) + (xpl h 54 x2)) - 48) ∧ (xwp G m_M_number (d + 2) 37 [xR 53, xI (((10 * x1) + (xpl h 54 x2)) - 48), xI (x2 + 1)] [] h Q X)) ∧ (¬ (xpl h 54 x2) ≤ 57 → (Q (xI (-1)) h)))))) : xwp G m_M_number (d + 2) 37 [xR 53, xI x1, xI x2] [] h Q X := by
  have hnx9 : (93 : Int) ≤ xnx h := F.2.2
  refine xr_okL (fun hl9 => ?_)
  have r_x1 : -2147483648 ≤ x1 ∧ x1 ≤ 2147483647 := hl9 (xI x1) (.tail _ (.head _)) (Nat.le_of_ble_eq_true rfl)
  have r_x2 : -2147483648 ≤ x2 ∧ x2 ≤ 2147483647 := hl9 (xI x2) (.tail _ (.tail _ (.head _))) (Nat.le_of_ble_eq_true rfl)
  refine xr_iload_n (pc := 37) (i := 2) (hI := d_M_number_37) (hi := rfl) (hl := rfl) ?_
  refine xr_aload_n (pc := 38) (i := 0) (hI := d_M_number_38) (hi := rfl) (hl := rfl) ?_
  refine xg_getf (pc := 39) (ci := 11) (k := 22) (N := 38) (v9 := 2) (v := 79) (T := xF11) (hI := d_M_number_39) (hw := w_1609) rfl xi11 (Or.inl rfl) (Nat.le_of_ble_eq_true rfl) (Nat.le_of_ble_eq_true rfl) rfl (ft_53 F) (fp_53_22 F) (fun f1_ => ?_)
  clear f1_
  refine xr_aload_n (pc := 42) (i := 0) (hI := d_M_number_42) (hi := rfl) (hl := rfl) ?_
  refine xg_getf (pc := 43) (ci := 11) (k := 24) (N := 38) (v9 := 0) (v := (xpl h 53 24)) (T := xF11) (hI := d_M_number_43) (hw := w_1611) rfl xi11 (Or.inl rfl) (Nat.le_of_ble_eq_true rfl) (Nat.le_of_ble_eq_true rfl) rfl (ft_53 F) rfl (fun f2_ => ?_)
  replace f2_ : -2147483648 ≤ (xpl h 53 24) ∧ (xpl h 53 24) ≤ 2147483647 := f2_
  obtain ⟨c3_, hyp⟩ := hyp
  obtain ⟨c4_, hyp⟩ := hyp
  refine xg_iaload (pc := 46) (v := (xpl h 79 (xpl h 53 24))) (hI := d_M_number_46) (ft_79 F) c3_ (xlt_of (fl_79 F) c4_) rfl (fun f5_ => ?_)
  replace f5_ : -2147483648 ≤ (xpl h 79 (xpl h 53 24)) ∧ (xpl h 79 (xpl h 53 24)) ≤ 2147483647 := f5_
  refine xr_aload_n (pc := 47) (i := 0) (hI := d_M_number_47) (hi := rfl) (hl := rfl) ?_
  refine xg_getf (pc := 48) (ci := 11) (k := 23) (N := 38) (v9 := 2) (v := 80) (T := xF11) (hI := d_M_number_48) (hw := w_1610) rfl xi11 (Or.inl rfl) (Nat.le_of_ble_eq_true rfl) (Nat.le_of_ble_eq_true rfl) rfl (ft_53 F) (fp_53_23 F) (fun f6_ => ?_)
  clear f6_
  refine xr_aload_n (pc := 51) (i := 0) (hI := d_M_number_51) (hi := rfl) (hl := rfl) ?_
  refine xg_getf (pc := 52) (ci := 11) (k := 24) (N := 38) (v9 := 0) (v := (xpl h 53 24)) (T := xF11) (hI := d_M_number_52) (hw := w_1611) rfl xi11 (Or.inl rfl) (Nat.le_of_ble_eq_true rfl) (Nat.le_of_ble_eq_true rfl) rfl (ft_53 F) rfl (fun f7_ => ?_)
  replace f7_ : -2147483648 ≤ (xpl h 53 24) ∧ (xpl h 53 24) ≤ 2147483647 := f7_
  refine xg_iaload (pc := 55) (v := (xpl h 80 (xpl h 53 24))) (hI := d_M_number_55) (ft_80 F) (by clear hyp; omega) (xlt_of (fl_80 F) (by clear hyp; omega)) rfl (fun f8_ => ?_)
  replace f8_ : -2147483648 ≤ (xpl h 80 (xpl h 53 24)) ∧ (xpl h 80 (xpl h 53 24)) ≤ 2147483647 := f8_
  obtain ⟨c9, hyp⟩ := hyp
  refine xr_iadd (pc := 56) (hI := d_M_number_56) (hr := c9) ?_
  refine xr_icmp_ge (pc := 57) (tgt := 94) (hI := d_M_number_57) (ht := by decide) (fun q9 => ?_) (fun q9 => ?_)
  · replace hyp := hyp.1 q9
    have q9_ := q9
    clear q9
    refine xr_iload_n (pc := 94) (i := 1) (hI := d_M_number_94) (hi := rfl) (hl := rfl) ?_
    refine xr_ireturn (S := []) (pc := 95) (hI := d_M_number_95) (hr := rfl) ?_
    exact hyp
  · replace hyp := hyp.2 q9
    have q9_ := q9
    clear q9
    refine xr_aload_n (pc := 60) (i := 0) (hI := d_M_number_60) (hi := rfl) (hl := rfl) ?_
    refine xg_getf (pc := 61) (ci := 11) (k := 1) (N := 38) (v9 := 2) (v := 54) (T := xF11) (hI := d_M_number_61) (hw := w_1588) rfl xi11 (Or.inl rfl) (Nat.le_of_ble_eq_true rfl) (Nat.le_of_ble_eq_true rfl) rfl (ft_53 F) (fp_53_1 F) (fun f10_ => ?_)
    clear f10_
    refine xr_iload_n (pc := 64) (i := 2) (hI := d_M_number_64) (hi := rfl) (hl := rfl) ?_
    obtain ⟨c11_, hyp⟩ := hyp
    obtain ⟨c12_, hyp⟩ := hyp
    refine xg_iaload (pc := 65) (v := (xpl h 54 x2)) (hI := d_M_number_65) (ft_54 F) c11_ (xlt_of (fl_54 F) c12_) rfl (fun f13_ => ?_)
    replace f13_ : -2147483648 ≤ (xpl h 54 x2) ∧ (xpl h 54 x2) ≤ 2147483647 := f13_
    refine xr_bipush (pc := 66) (hI := d_M_number_66) (hr := by decide) (hv := by decide) ?_
    refine xr_icmp_le (pc := 68) (tgt := 73) (hI := d_M_number_68) (ht := by decide) (fun q9 => ?_) (fun q9 => ?_)
    · replace hyp := hyp.1 q9
      have q14_ := q9
      clear q9
      refine xr_bipush (pc := 73) (hI := d_M_number_73) (hr := by decide) (hv := by decide) ?_
      refine xr_iload_n (pc := 75) (i := 1) (hI := d_M_number_75) (hi := rfl) (hl := rfl) ?_
      obtain ⟨c9, hyp⟩ := hyp
      refine xr_imul (pc := 76) (hI := d_M_number_76) (hr := c9) ?_
      refine xr_aload_n (pc := 77) (i := 0) (hI := d_M_number_77) (hi := rfl) (hl := rfl) ?_
      refine xg_getf (pc := 78) (ci := 11) (k := 1) (N := 38) (v9 := 2) (v := 54) (T := xF11) (hI := d_M_number_78) (hw := w_1588) rfl xi11 (Or.inl rfl) (Nat.le_of_ble_eq_true rfl) (Nat.le_of_ble_eq_true rfl) rfl (ft_53 F) (fp_53_1 F) (fun f15_ => ?_)
      clear f15_
      refine xr_iload_n (pc := 81) (i := 2) (hI := d_M_number_81) (hi := rfl) (hl := rfl) ?_
      refine xg_iaload (pc := 82) (v := (xpl h 54 x2)) (hI := d_M_number_82) (ft_54 F) (by clear hyp; omega) (xlt_of (fl_54 F) (by clear hyp; omega)) rfl (fun f16_ => ?_)
      replace f16_ : -2147483648 ≤ (xpl h 54 x2) ∧ (xpl h 54 x2) ≤ 2147483647 := f16_
      obtain ⟨c9, hyp⟩ := hyp
      refine xr_iadd (pc := 83) (hI := d_M_number_83) (hr := c9) ?_
      refine xr_bipush (pc := 84) (hI := d_M_number_84) (hr := by decide) (hv := by decide) ?_
      obtain ⟨c9, hyp⟩ := hyp
      refine xr_isub (pc := 86) (hI := d_M_number_86) (hr := c9) ?_
      refine xr_istore_n (pc := 87) (i := 1) (L9 := [xR 53, xI (((10 * x1) + (xpl h 54 x2)) - 48), xI x2]) (hI := d_M_number_87) (hi := rfl) (hn := Nat.le_of_ble_eq_true rfl) (hL9 := rfl) ?_
      refine xr_iinc (pc := 88) (i := 2) (L9 := [xR 53, xI (((10 * x1) + (xpl h 54 x2)) - 48), xI (x2 + 1)]) (hI := d_M_number_88) (hl := rfl) (hn := Nat.le_of_ble_eq_true rfl) (hr := ⟨by clear hyp; omega, by clear hyp; omega⟩) (hL9 := rfl) ?_
      refine xr_goto (pc := 91) (tgt := 37) (hI := d_M_number_91) (ht := by decide) ?_
      exact hyp
    · replace hyp := hyp.2 q9
      have q14_ := q9
      clear q9
      refine xr_iconst (pc := 71) (hI := d_M_number_71) (hr := by decide) ?_
      refine xr_ireturn (S := []) (pc := 72) (hI := d_M_number_72) (hr := rfl) ?_
      exact hyp

end
