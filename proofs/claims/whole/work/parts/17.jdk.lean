/-! ===== the JDK: Math, indexes, texts, lists read ===== -/
section
abbrev m_Preconditions_checkIndex : XM := (⟨"jdk/internal/util/Preconditions", "checkIndex", "(IILjava/util/function/BiFunction;)I"⟩, prog_52_method_11_code, 3, (some .int), [])
theorem d_Preconditions_checkIndex_0 : decode prog_52_method_11_code 0 = .ok (.iload_n 0, 1) := by decide +kernel
theorem d_Preconditions_checkIndex_1 : decode prog_52_method_11_code 1 = .ok (.ifCond .lt 8, 3) := by decide +kernel
theorem d_Preconditions_checkIndex_4 : decode prog_52_method_11_code 4 = .ok (.iload_n 0, 1) := by decide +kernel
theorem d_Preconditions_checkIndex_5 : decode prog_52_method_11_code 5 = .ok (.iload_n 1, 1) := by decide +kernel
theorem d_Preconditions_checkIndex_6 : decode prog_52_method_11_code 6 = .ok (.if_icmp .lt 10, 3) := by decide +kernel
theorem d_Preconditions_checkIndex_16 : decode prog_52_method_11_code 16 = .ok (.iload_n 0, 1) := by decide +kernel
theorem d_Preconditions_checkIndex_17 : decode prog_52_method_11_code 17 = .ok (.ireturn, 1) := by decide +kernel
theorem v_Preconditions_checkIndex_0 {G : XG} {d : Nat} {h : XH} {Q : XV → XH → Prop} {X : Nat → XH → Prop} {x0 x1 x2 : Int} (F : xFix h) (p0 : 0 ≤ x0) (p1 : x0 < x1) (hyp : (Q (xI x0) h)) : xwp G m_Preconditions_checkIndex (d + 1) 0 [xI x0, xI x1, xR x2] [] h Q X := by
  have hnx9 : (93 : Int) ≤ xnx h := F.2.2
  refine xr_okL (fun hl9 => ?_)
  have r_x0 : -2147483648 ≤ x0 ∧ x0 ≤ 2147483647 := hl9 (xI x0) (.head _) (Nat.le_of_ble_eq_true rfl)
  have r_x1 : -2147483648 ≤ x1 ∧ x1 ≤ 2147483647 := hl9 (xI x1) (.tail _ (.head _)) (Nat.le_of_ble_eq_true rfl)
  refine xr_iload_n (pc := 0) (i := 0) (hI := d_Preconditions_checkIndex_0) (hi := rfl) (hl := rfl) ?_
  refine xr_if_lt (pc := 1) (tgt := 9) (hI := d_Preconditions_checkIndex_1) (ht := by decide) (fun q9 => ?_) (fun q9 => ?_)
  · exact absurd q9 (by clear hyp; omega)
  · clear q9
    refine xr_iload_n (pc := 4) (i := 0) (hI := d_Preconditions_checkIndex_4) (hi := rfl) (hl := rfl) ?_
    refine xr_iload_n (pc := 5) (i := 1) (hI := d_Preconditions_checkIndex_5) (hi := rfl) (hl := rfl) ?_
    refine xr_icmp_lt (pc := 6) (tgt := 16) (hI := d_Preconditions_checkIndex_6) (ht := by decide) (fun q9 => ?_) (fun q9 => ?_)
    · clear q9
      refine xr_iload_n (pc := 16) (i := 0) (hI := d_Preconditions_checkIndex_16) (hi := rfl) (hl := rfl) ?_
      refine xr_ireturn (S := []) (pc := 17) (hI := d_Preconditions_checkIndex_17) (hr := rfl) ?_
      exact hyp
    · exact absurd q9 (by clear hyp; omega)
theorem p_PC {G : XG} {d : Nat} {h : XH} {Q : XV → XH → Prop} {X : Nat → XH → Prop} {i n f : Int} (F : xFix h) (p0 : 0 ≤ i) (p1 : i < n) (hq : Q (xI i) h) : xwp G m_Preconditions_checkIndex (d + 1) 0 [xI i, xI n, xR f] [] h Q X := by
  refine v_Preconditions_checkIndex_0 F p0 p1 ?_
  exact hq
abbrev m_Objects_checkIndex : XM := (⟨"java/util/Objects", "checkIndex", "(II)I"⟩, prog_48_method_17_code, 2, (some .int), [])
theorem d_Objects_checkIndex_0 : decode prog_48_method_17_code 0 = .ok (.iload_n 0, 1) := by decide +kernel
theorem d_Objects_checkIndex_1 : decode prog_48_method_17_code 1 = .ok (.iload_n 1, 1) := by decide +kernel
theorem d_Objects_checkIndex_2 : decode prog_48_method_17_code 2 = .ok (.aconst_null, 1) := by decide +kernel
theorem d_Objects_checkIndex_3 : decode prog_48_method_17_code 3 = .ok (.invokestatic 105, 3) := by decide +kernel
theorem w_23 : Cond.initialized "jdk/internal/util/Preconditions" ∈ lw_tbl := List.mem_append_right _ (List.mem_of_getElem? (i := 23) (by decide +kernel))
theorem k_Preconditions_checkIndex : xCal m_Preconditions_checkIndex 3 := ⟨List.mem_append_right _ (List.mem_of_getElem? (i := 477) (by decide +kernel)), w_23, Nat.le_of_ble_eq_true rfl, ⟨by decide +kernel, by decide +kernel⟩, by decide +kernel, by decide +kernel, rfl⟩
theorem w_475 : Cond.methodLink "java/util/Objects" 105 ⟨"jdk/internal/util/Preconditions", "checkIndex", "(IILjava/util/function/BiFunction;)I"⟩ ∈ lw_tbl := List.mem_append_right _ (List.mem_of_getElem? (i := 475) (by decide +kernel))
theorem w_476 : Cond.static ⟨"jdk/internal/util/Preconditions", "checkIndex", "(IILjava/util/function/BiFunction;)I"⟩ ∈ lw_tbl := List.mem_append_right _ (List.mem_of_getElem? (i := 476) (by decide +kernel))
theorem d_Objects_checkIndex_6 : decode prog_48_method_17_code 6 = .ok (.ireturn, 1) := by decide +kernel
theorem v_Objects_checkIndex_0 {G : XG} {d : Nat} {h : XH} {Q : XV → XH → Prop} {X : Nat → XH → Prop} {x0 x1 : Int} (F : xFix h) (p0 : 0 ≤ x0) (p1 : x0 < x1) (hyp : (Q (xI x0) h)) : xwp G m_Objects_checkIndex (d + 2) 0 [xI x0, xI x1] [] h Q X := by
  have hnx9 : (93 : Int) ≤ xnx h := F.2.2
  refine xr_okL (fun hl9 => ?_)
  have r_x0 : -2147483648 ≤ x0 ∧ x0 ≤ 2147483647 := hl9 (xI x0) (.head _) (Nat.le_of_ble_eq_true rfl)
  have r_x1 : -2147483648 ≤ x1 ∧ x1 ≤ 2147483647 := hl9 (xI x1) (.tail _ (.head _)) (Nat.le_of_ble_eq_true rfl)
  refine xr_iload_n (pc := 0) (i := 0) (hI := d_Objects_checkIndex_0) (hi := rfl) (hl := rfl) ?_
  refine xr_iload_n (pc := 1) (i := 1) (hI := d_Objects_checkIndex_1) (hi := rfl) (hl := rfl) ?_
  refine xr_aconst_null (pc := 2) (hI := d_Objects_checkIndex_2) ?_
  refine xq_callS (pc := 3) (index := 105) (K := m_Preconditions_checkIndex) (As := [xI x0, xI x1, xR (-1)]) (S := []) (L0 := [xI x0, xI x1, xR (-1)]) (hI := d_Objects_checkIndex_3) (hK := k_Preconditions_checkIndex) (hlk := w_475) (hnoM := rfl) (hS8 := Nat.le_of_ble_eq_true rfl) (hstat := w_476) (hlen := Nat.le_of_ble_eq_true rfl) (hst := rfl) (hL0 := rfl)  (p_PC F (by clear hyp; omega) (by clear hyp; omega) ?_)
  show xwp G m_Objects_checkIndex (d + 2) 6 [xI x0, xI x1] [xI x0] _ _ _
  refine xr_ireturn (S := []) (pc := 6) (hI := d_Objects_checkIndex_6) (hr := rfl) ?_
  exact hyp
theorem p_Objects_checkIndex {G : XG} {d : Nat} {h : XH} {Q : XV → XH → Prop} {X : Nat → XH → Prop} {i n : Int} (F : xFix h) (p0 : 0 ≤ i) (p1 : i < n) (hq : Q (xI i) h) : xwp G m_Objects_checkIndex (d + 2) 0 [xI i, xI n] [] h Q X := by
  refine v_Objects_checkIndex_0 F p0 p1 ?_
  exact hq
abbrev m_String_checkIndex : XM := (⟨"java/lang/String", "checkIndex", "(II)V"⟩, prog_33_method_155_code, 2, none, [])
theorem d_String_checkIndex_0 : decode prog_33_method_155_code 0 = .ok (.iload_n 0, 1) := by decide +kernel
theorem d_String_checkIndex_1 : decode prog_33_method_155_code 1 = .ok (.iload_n 1, 1) := by decide +kernel
theorem d_String_checkIndex_2 : decode prog_33_method_155_code 2 = .ok (.getstatic 1053, 3) := by decide +kernel
theorem w_835 : Cond.fieldLink "java/lang/String" 1053 "jdk/internal/util/Preconditions" "SIOOBE_FORMATTER" "Ljava/util/function/BiFunction;" ∈ lw_tbl := List.mem_append_right _ (List.mem_of_getElem? (i := 835) (by decide +kernel))
theorem d_String_checkIndex_5 : decode prog_33_method_155_code 5 = .ok (.invokestatic 1059, 3) := by decide +kernel
theorem w_837 : Cond.methodLink "java/lang/String" 1059 ⟨"jdk/internal/util/Preconditions", "checkIndex", "(IILjava/util/function/BiFunction;)I"⟩ ∈ lw_tbl := List.mem_append_right _ (List.mem_of_getElem? (i := 837) (by decide +kernel))
theorem d_String_checkIndex_8 : decode prog_33_method_155_code 8 = .ok (.pop, 1) := by decide +kernel
theorem d_String_checkIndex_9 : decode prog_33_method_155_code 9 = .ok (.return_, 1) := by decide +kernel
theorem v_String_checkIndex_0 {G : XG} {d : Nat} {h : XH} {Q : XV → XH → Prop} {X : Nat → XH → Prop} {x0 x1 : Int} (F : xFix h) (p0 : 0 ≤ x0) (p1 : x0 < x1) (hyp : (∀ fm2_ : Int, (Q xN h))) : xwp G m_String_checkIndex (d + 2) 0 [xI x0, xI x1] [] h Q X := by
  have hnx9 : (93 : Int) ≤ xnx h := F.2.2
  refine xr_okL (fun hl9 => ?_)
  have r_x0 : -2147483648 ≤ x0 ∧ x0 ≤ 2147483647 := hl9 (xI x0) (.head _) (Nat.le_of_ble_eq_true rfl)
  have r_x1 : -2147483648 ≤ x1 ∧ x1 ≤ 2147483647 := hl9 (xI x1) (.tail _ (.head _)) (Nat.le_of_ble_eq_true rfl)
  refine xr_iload_n (pc := 0) (i := 0) (hI := d_String_checkIndex_0) (hi := rfl) (hl := rfl) ?_
  refine xr_iload_n (pc := 1) (i := 1) (hI := d_String_checkIndex_1) (hi := rfl) (hl := rfl) ?_
  refine xr_getformat (pc := 2) (hI := d_String_checkIndex_2) w_835 (fun fm2_ => ?_)
  replace hyp := hyp fm2_
  refine xq_callS (pc := 5) (index := 1059) (K := m_Preconditions_checkIndex) (As := [xI x0, xI x1, xR fm2_]) (S := []) (L0 := [xI x0, xI x1, xR fm2_]) (hI := d_String_checkIndex_5) (hK := k_Preconditions_checkIndex) (hlk := w_837) (hnoM := rfl) (hS8 := Nat.le_of_ble_eq_true rfl) (hstat := w_476) (hlen := Nat.le_of_ble_eq_true rfl) (hst := rfl) (hL0 := rfl)  (p_PC F (by clear hyp; omega) (by clear hyp; omega) ?_)
  show xwp G m_String_checkIndex (d + 2) 8 [xI x0, xI x1] [xI x0] _ _ _
  refine xr_pop (pc := 8) (hI := d_String_checkIndex_8) (hv := rfl) ?_
  refine xr_return (S := []) (pc := 9) (hI := d_String_checkIndex_9) (hr := rfl) ?_
  exact hyp
theorem p_String_checkIndex {G : XG} {d : Nat} {h : XH} {Q : XV → XH → Prop} {X : Nat → XH → Prop} {i n : Int} (F : xFix h) (p0 : 0 ≤ i) (p1 : i < n) (hq : Q (xN) h) : xwp G m_String_checkIndex (d + 2) 0 [xI i, xI n] [] h Q X := by
  refine v_String_checkIndex_0 F p0 p1 ?_
  intro fm2_
  exact hq
def strok (h : XH) (s : Int) : Prop := xtg h s = 14 ∧ xtg h (xpl h s 0) = 103 ∧ xpl h s 1 = 0 ∧ ∀ i, 0 ≤ i → i < xln h (xpl h s 0) → 0 ≤ xpl h (xpl h s 0) i
theorem xnar_b0 : narrow .byte (.int (Int32.ofInt 0)) = .int (Int32.ofInt 0) := rfl
theorem xshr_0 {v : Int} (h : xiR v) : xshr v 0 = v := by
  unfold xshr
  have e : Int32.ofInt v >>> (Int32.ofInt 0 &&& 31) = Int32.ofInt v := by
    rw [show (Int32.ofInt 0 &&& 31 : Int32) = 0 from rfl]
    simp
  rw [e]
  exact xi_to h
abbrev m_String_coder : XM := (⟨"java/lang/String", "coder", "()B"⟩, prog_33_method_152_code, 1, (some .byte), [])
theorem d_String_coder_0 : decode prog_33_method_152_code 0 = .ok (.getstatic 38, 3) := by decide +kernel
theorem w_819 : Cond.fieldLink "java/lang/String" 38 "java/lang/String" "COMPACT_STRINGS" "Z" ∈ lw_tbl := List.mem_append_right _ (List.mem_of_getElem? (i := 819) (by decide +kernel))
theorem d_String_coder_3 : decode prog_33_method_152_code 3 = .ok (.ifCond .eq 10, 3) := by decide +kernel
theorem d_String_coder_6 : decode prog_33_method_152_code 6 = .ok (.aload_n 0, 1) := by decide +kernel
theorem d_String_coder_7 : decode prog_33_method_152_code 7 = .ok (.getfield 15, 3) := by decide +kernel
theorem w_2106 : Cond.fieldLink "java/lang/String" 15 "java/lang/String" "coder" "B" ∈ lw_tbl := List.mem_append_right _ (List.mem_of_getElem? (i := 2106) (by decide +kernel))
theorem d_String_coder_10 : decode prog_33_method_152_code 10 = .ok (.goto 4, 3) := by decide +kernel
theorem d_String_coder_14 : decode prog_33_method_152_code 14 = .ok (.ireturn, 1) := by decide +kernel
theorem v_String_coder_0 {G : XG} {d : Nat} {h : XH} {Q : XV → XH → Prop} {X : Nat → XH → Prop} {x0 : Int} (F : xFix h) (p0 : strok h x0) (hyp : narrow .byte (.int (Int32.ofInt 0)) = .int (Int32.ofInt 0) ∧ (Q (xI 0) h)) : xwp G m_String_coder (d + 1) 0 [xR x0] [] h Q X := by
  have hnx9 : (93 : Int) ≤ xnx h := F.2.2
  refine xr_getstatic (pc := 0) (v := xI 1) (hI := d_String_coder_0) w_819 (by decide +kernel) (show (-2147483648 : Int) ≤ 1 ∧ (1 : Int) ≤ 2147483647 by decide) ?_
  refine xr_if_eq (pc := 3) (tgt := 13) (hI := d_String_coder_3) (ht := by decide) (fun q9 => ?_) (fun q9 => ?_)
  · exact absurd q9 (by decide)
  · clear q9
    refine xr_aload_n (pc := 6) (i := 0) (hI := d_String_coder_6) (hi := rfl) (hl := rfl) ?_
    refine xg_getf (pc := 7) (ci := 14) (k := 1) (N := 2) (v9 := 0) (v := 0) (T := xF14) (hI := d_String_coder_7) (hw := w_2106) rfl xi14 (Or.inl rfl) (Nat.le_of_ble_eq_true rfl) (Nat.le_of_ble_eq_true rfl) rfl p0.1 p0.2.2.1 (fun f1_ => ?_)
    clear f1_
    refine xr_goto (pc := 10) (tgt := 14) (hI := d_String_coder_10) (ht := by decide) ?_
    obtain ⟨c9, hyp⟩ := hyp
    refine xr_ireturnT (S := []) (pc := 14) (hI := d_String_coder_14) (hr := rfl) c9 ?_
    exact hyp
abbrev m_String_isLatin1 : XM := (⟨"java/lang/String", "isLatin1", "()Z"⟩, prog_33_method_154_code, 1, (some .boolean), [])
theorem d_String_isLatin1_0 : decode prog_33_method_154_code 0 = .ok (.getstatic 38, 3) := by decide +kernel
theorem d_String_isLatin1_3 : decode prog_33_method_154_code 3 = .ok (.ifCond .eq 14, 3) := by decide +kernel
theorem d_String_isLatin1_6 : decode prog_33_method_154_code 6 = .ok (.aload_n 0, 1) := by decide +kernel
theorem d_String_isLatin1_7 : decode prog_33_method_154_code 7 = .ok (.getfield 15, 3) := by decide +kernel
theorem d_String_isLatin1_10 : decode prog_33_method_154_code 10 = .ok (.ifCond .ne 7, 3) := by decide +kernel
theorem d_String_isLatin1_13 : decode prog_33_method_154_code 13 = .ok (.iconst 1, 1) := by decide +kernel
theorem d_String_isLatin1_14 : decode prog_33_method_154_code 14 = .ok (.goto 4, 3) := by decide +kernel
theorem d_String_isLatin1_18 : decode prog_33_method_154_code 18 = .ok (.ireturn, 1) := by decide +kernel
theorem v_String_isLatin1_0 {G : XG} {d : Nat} {h : XH} {Q : XV → XH → Prop} {X : Nat → XH → Prop} {x0 : Int} (F : xFix h) (p0 : strok h x0) (hyp : (Q (xI 1) h)) : xwp G m_String_isLatin1 (d + 1) 0 [xR x0] [] h Q X := by
  have hnx9 : (93 : Int) ≤ xnx h := F.2.2
  refine xr_getstatic (pc := 0) (v := xI 1) (hI := d_String_isLatin1_0) w_819 (by decide +kernel) (show (-2147483648 : Int) ≤ 1 ∧ (1 : Int) ≤ 2147483647 by decide) ?_
  refine xr_if_eq (pc := 3) (tgt := 17) (hI := d_String_isLatin1_3) (ht := by decide) (fun q9 => ?_) (fun q9 => ?_)
  · exact absurd q9 (by decide)
  · clear q9
    refine xr_aload_n (pc := 6) (i := 0) (hI := d_String_isLatin1_6) (hi := rfl) (hl := rfl) ?_
    refine xg_getf (pc := 7) (ci := 14) (k := 1) (N := 2) (v9 := 0) (v := 0) (T := xF14) (hI := d_String_isLatin1_7) (hw := w_2106) rfl xi14 (Or.inl rfl) (Nat.le_of_ble_eq_true rfl) (Nat.le_of_ble_eq_true rfl) rfl p0.1 p0.2.2.1 (fun f1_ => ?_)
    clear f1_
    refine xr_if_ne (pc := 10) (tgt := 17) (hI := d_String_isLatin1_10) (ht := by decide) (fun q9 => ?_) (fun q9 => ?_)
    · exact absurd q9 (by decide)
    · clear q9
      refine xr_iconst (pc := 13) (hI := d_String_isLatin1_13) (hr := by decide) ?_
      refine xr_goto (pc := 14) (tgt := 18) (hI := d_String_isLatin1_14) (ht := by decide) ?_
      refine xr_ireturnT (S := []) (pc := 18) (hI := d_String_isLatin1_18) (hr := rfl) (xnar_z (by decide)) ?_
      exact hyp
theorem p_String_coder {G : XG} {d : Nat} {h : XH} {Q : XV → XH → Prop} {X : Nat → XH → Prop} {s : Int} (F : xFix h) (p0 : strok h s) (hq : Q (xI 0) h) : xwp G m_String_coder (d + 1) 0 [xR s] [] h Q X := by
  refine v_String_coder_0 F p0 ?_
  refine ⟨?_, ?_⟩
  · exact xnar_b0
  · exact hq
theorem p_String_isLatin1 {G : XG} {d : Nat} {h : XH} {Q : XV → XH → Prop} {X : Nat → XH → Prop} {s : Int} (F : xFix h) (p0 : strok h s) (hq : Q (xI 1) h) : xwp G m_String_isLatin1 (d + 1) 0 [xR s] [] h Q X := by
  refine v_String_isLatin1_0 F p0 ?_
  exact hq
abbrev m_String_length : XM := (⟨"java/lang/String", "length", "()I"⟩, prog_33_method_54_code, 1, (some .int), [])
theorem d_String_length_0 : decode prog_33_method_54_code 0 = .ok (.aload_n 0, 1) := by decide +kernel
theorem d_String_length_1 : decode prog_33_method_54_code 1 = .ok (.getfield 9, 3) := by decide +kernel
theorem w_2105 : Cond.fieldLink "java/lang/String" 9 "java/lang/String" "value" "[B" ∈ lw_tbl := List.mem_append_right _ (List.mem_of_getElem? (i := 2105) (by decide +kernel))
theorem d_String_length_4 : decode prog_33_method_54_code 4 = .ok (.arraylength, 1) := by decide +kernel
theorem d_String_length_5 : decode prog_33_method_54_code 5 = .ok (.aload_n 0, 1) := by decide +kernel
theorem d_String_length_6 : decode prog_33_method_54_code 6 = .ok (.invokevirtual 335, 3) := by decide +kernel
theorem w_26 : Cond.initialized "java/lang/String" ∈ lw_tbl := List.mem_append_right _ (List.mem_of_getElem? (i := 26) (by decide +kernel))
theorem k_String_coder : xCal m_String_coder 0 := ⟨List.mem_append_right _ (List.mem_of_getElem? (i := 818) (by decide +kernel)), w_26, Nat.le_of_ble_eq_true rfl, ⟨by decide +kernel, by decide +kernel⟩, by decide +kernel, by decide +kernel, rfl⟩
theorem w_815 : Cond.methodLink "java/lang/String" 335 ⟨"java/lang/String", "coder", "()B"⟩ ∈ lw_tbl := List.mem_append_right _ (List.mem_of_getElem? (i := 815) (by decide +kernel))
theorem w_816 : Cond.instanceMethod ⟨"java/lang/String", "coder", "()B"⟩ ∈ lw_tbl := List.mem_append_right _ (List.mem_of_getElem? (i := 816) (by decide +kernel))
theorem w_817 : Cond.selects "java/lang/String" ⟨"java/lang/String", "coder", "()B"⟩ ⟨"java/lang/String", "coder", "()B"⟩ ∈ lw_tbl := List.mem_append_right _ (List.mem_of_getElem? (i := 817) (by decide +kernel))
theorem d_String_length_9 : decode prog_33_method_54_code 9 = .ok (.ishr, 1) := by decide +kernel
theorem d_String_length_10 : decode prog_33_method_54_code 10 = .ok (.ireturn, 1) := by decide +kernel
theorem v_String_length_0 {G : XG} {d : Nat} {h : XH} {Q : XV → XH → Prop} {X : Nat → XH → Prop} {x0 : Int} (F : xFix h) (p0 : strok h x0) (hyp : strok h x0 ∧ (Q (xI (xshr (xln h (xpl h x0 0)) 0)) h)) : xwp G m_String_length (d + 2) 0 [xR x0] [] h Q X := by
  have hnx9 : (93 : Int) ≤ xnx h := F.2.2
  refine xr_aload_n (pc := 0) (i := 0) (hI := d_String_length_0) (hi := rfl) (hl := rfl) ?_
  refine xg_getf (pc := 1) (ci := 14) (k := 0) (N := 2) (v9 := 2) (v := (xpl h x0 0)) (T := xF14) (hI := d_String_length_1) (hw := w_2105) rfl xi14 (Or.inl rfl) (Nat.le_of_ble_eq_true rfl) (Nat.le_of_ble_eq_true rfl) rfl p0.1 rfl (fun f1_ => ?_)
  clear f1_
  refine xg_alen (pc := 4) (t := 103) (v := (xln h (xpl h x0 0))) (hI := d_String_length_4) p0.2.1 (Nat.le_of_ble_eq_true rfl) (Nat.le_of_ble_eq_true rfl) rfl rfl (fun f2_ f3_ => ?_)
  refine xr_aload_n (pc := 5) (i := 0) (hI := d_String_length_5) (hi := rfl) (hl := rfl) ?_
  obtain ⟨c4_, hyp⟩ := hyp
  refine xq_callV (pc := 6) (index := 335) (K := m_String_coder) (As := []) (S := [xI (xln h (xpl h x0 0))]) (L0 := [xR x0]) (hI := d_String_length_6) (hK := k_String_coder) (hlk := w_815) (hnoM := rfl) (hS8 := Nat.le_of_ble_eq_true rfl) (ci := 14) (N := 2) (C := "java/lang/String") (T := xF14) (hc := rfl) (hci := Nat.le_of_ble_eq_true rfl) (htb := p0.1) (hinst := w_816) (hsel := w_817) (hlen := Nat.le_of_ble_eq_true rfl) (hst := rfl) (hL0 := rfl)  (p_String_coder F c4_ ?_)
  show xwp G m_String_length (d + 2) 9 [xR x0] [xI 0, xI (xln h (xpl h x0 0))] _ _ _
  refine xr_ishr (pc := 9) (hI := d_String_length_9) ?_
  have f5_ : -2147483648 ≤ (xshr (xln h (xpl h x0 0)) 0) ∧ (xshr (xln h (xpl h x0 0)) 0) ≤ 2147483647 := xi_toR _
  refine xr_ireturn (S := []) (pc := 10) (hI := d_String_length_10) (hr := rfl) ?_
  exact hyp
theorem p_String_length {G : XG} {d : Nat} {h : XH} {Q : XV → XH → Prop} {X : Nat → XH → Prop} {s : Int} (F : xFix h) (p0 : strok h s) (h1 : xln h (xpl h s 0) ≤ 2147483647) (h2 : 0 ≤ xln h (xpl h s 0)) (hq : Q (xI (xln h (xpl h s 0))) h) : xwp G m_String_length (d + 2) 0 [xR s] [] h Q X := by
  refine v_String_length_0 F p0 ?_
  refine ⟨?_, ?_⟩
  · first | omega | assumption | exact ⟨by omega, by omega⟩ | (simp only [*]; done) | grind
  · rw [xshr_0 ⟨by omega, h1⟩]; exact hq
abbrev m_StringLatin1_charAt : XM := (⟨"java/lang/StringLatin1", "charAt", "([BI)C"⟩, prog_35_method_2_code, 2, (some .char), [])
theorem d_StringLatin1_charAt_0 : decode prog_35_method_2_code 0 = .ok (.iload_n 1, 1) := by decide +kernel
theorem d_StringLatin1_charAt_1 : decode prog_35_method_2_code 1 = .ok (.aload_n 0, 1) := by decide +kernel
theorem d_StringLatin1_charAt_2 : decode prog_35_method_2_code 2 = .ok (.arraylength, 1) := by decide +kernel
theorem d_StringLatin1_charAt_3 : decode prog_35_method_2_code 3 = .ok (.invokestatic 9, 3) := by decide +kernel
theorem k_String_checkIndex : xCal m_String_checkIndex 2 := ⟨List.mem_append_right _ (List.mem_of_getElem? (i := 834) (by decide +kernel)), w_26, Nat.le_of_ble_eq_true rfl, ⟨by decide +kernel, by decide +kernel⟩, by decide +kernel, by decide +kernel, rfl⟩
theorem w_832 : Cond.methodLink "java/lang/StringLatin1" 9 ⟨"java/lang/String", "checkIndex", "(II)V"⟩ ∈ lw_tbl := List.mem_append_right _ (List.mem_of_getElem? (i := 832) (by decide +kernel))
theorem w_833 : Cond.static ⟨"java/lang/String", "checkIndex", "(II)V"⟩ ∈ lw_tbl := List.mem_append_right _ (List.mem_of_getElem? (i := 833) (by decide +kernel))
theorem d_StringLatin1_charAt_6 : decode prog_35_method_2_code 6 = .ok (.aload_n 0, 1) := by decide +kernel
theorem d_StringLatin1_charAt_7 : decode prog_35_method_2_code 7 = .ok (.iload_n 1, 1) := by decide +kernel
theorem d_StringLatin1_charAt_8 : decode prog_35_method_2_code 8 = .ok (.baload, 1) := by decide +kernel
theorem d_StringLatin1_charAt_9 : decode prog_35_method_2_code 9 = .ok (.sipush 255, 3) := by decide +kernel
theorem d_StringLatin1_charAt_12 : decode prog_35_method_2_code 12 = .ok (.iand, 1) := by decide +kernel
theorem d_StringLatin1_charAt_13 : decode prog_35_method_2_code 13 = .ok (.i2c, 1) := by decide +kernel
theorem d_StringLatin1_charAt_14 : decode prog_35_method_2_code 14 = .ok (.ireturn, 1) := by decide +kernel
theorem v_StringLatin1_charAt_0 {G : XG} {d : Nat} {h : XH} {Q : XV → XH → Prop} {X : Nat → XH → Prop} {x0 x1 : Int} (F : xFix h) (p0 : xtg h x0 = 103) (p1 : 0 ≤ x1) (p2 : x1 < xln h x0) (hyp : narrow .char (.int (Int32.ofInt (xi2c (xand (xpl h x0 x1) 255)))) = .int (Int32.ofInt (xi2c (xand (xpl h x0 x1) 255))) ∧ (Q (xI (xi2c (xand (xpl h x0 x1) 255))) h)) : xwp G m_StringLatin1_charAt (d + 3) 0 [xR x0, xI x1] [] h Q X := by
  have hnx9 : (93 : Int) ≤ xnx h := F.2.2
  refine xr_okL (fun hl9 => ?_)
  have r_x1 : -2147483648 ≤ x1 ∧ x1 ≤ 2147483647 := hl9 (xI x1) (.tail _ (.head _)) (Nat.le_of_ble_eq_true rfl)
  refine xr_iload_n (pc := 0) (i := 1) (hI := d_StringLatin1_charAt_0) (hi := rfl) (hl := rfl) ?_
  refine xr_aload_n (pc := 1) (i := 0) (hI := d_StringLatin1_charAt_1) (hi := rfl) (hl := rfl) ?_
  refine xg_alen (pc := 2) (t := 103) (v := (xln h x0)) (hI := d_StringLatin1_charAt_2) p0 (Nat.le_of_ble_eq_true rfl) (Nat.le_of_ble_eq_true rfl) rfl rfl (fun f1_ f2_ => ?_)
  refine xq_callS (pc := 3) (index := 9) (K := m_String_checkIndex) (As := [xI x1, xI (xln h x0)]) (S := []) (L0 := [xI x1, xI (xln h x0)]) (hI := d_StringLatin1_charAt_3) (hK := k_String_checkIndex) (hlk := w_832) (hnoM := rfl) (hS8 := Nat.le_of_ble_eq_true rfl) (hstat := w_833) (hlen := Nat.le_of_ble_eq_true rfl) (hst := rfl) (hL0 := rfl)  (p_String_checkIndex F (by clear hyp; omega) (by clear hyp; omega) ?_)
  show xwp G m_StringLatin1_charAt (d + 3) 6 [xR x0, xI x1] [] _ _ _
  refine xr_aload_n (pc := 6) (i := 0) (hI := d_StringLatin1_charAt_6) (hi := rfl) (hl := rfl) ?_
  refine xr_iload_n (pc := 7) (i := 1) (hI := d_StringLatin1_charAt_7) (hi := rfl) (hl := rfl) ?_
  refine xg_baloadB (pc := 8) (v := (xpl h x0 x1)) (hI := d_StringLatin1_charAt_8) p0 (by clear hyp; omega) (xlt_of rfl (by clear hyp; omega)) rfl (fun f3_ => ?_)
  replace f3_ : -128 ≤ (xpl h x0 x1) ∧ (xpl h x0 x1) ≤ 127 := f3_
  refine xr_sipush (pc := 9) (hI := d_StringLatin1_charAt_9) (hr := by decide) (hv := by decide) ?_
  refine xr_iand (pc := 12) (hI := d_StringLatin1_charAt_12) ?_
  have f4_ : -2147483648 ≤ (xand (xpl h x0 x1) 255) ∧ (xand (xpl h x0 x1) 255) ≤ 2147483647 := xi_toR _
  have f5_ : 0 ≤ (xand (xpl h x0 x1) 255) ∧ (xand (xpl h x0 x1) 255) ≤ 255 := xand_rng255 _
  refine xr_i2c (pc := 13) (hI := d_StringLatin1_charAt_13) ?_
  obtain ⟨c9, hyp⟩ := hyp
  refine xr_ireturnT (S := []) (pc := 14) (hI := d_StringLatin1_charAt_14) (hr := rfl) c9 ?_
  exact hyp
theorem xchar {v : Int} (h0 : 0 ≤ v) (h1 : v ≤ 255) : xi2c (xand v 255) = v := by rw [xand_id255 h0 h1, xi2c_id h0 (by omega)]
theorem p_StringLatin1_charAt {G : XG} {d : Nat} {h : XH} {Q : XV → XH → Prop} {X : Nat → XH → Prop} {b i : Int} (F : xFix h) (p0 : xtg h b = 103) (p1 : 0 ≤ i) (p2 : i < xln h b) (p3 : 0 ≤ xpl h b i) (p4 : xpl h b i ≤ 255) (hq : Q (xI (xpl h b i)) h) : xwp G m_StringLatin1_charAt (d + 3) 0 [xR b, xI i] [] h Q X := by
  refine v_StringLatin1_charAt_0 F p0 p1 p2 ?_
  refine ⟨?_, ?_⟩
  · rw [xchar p3 p4]; exact xnar_c p3 (by omega)
  · rw [xchar p3 p4]; exact hq
abbrev m_String_charAt : XM := (⟨"java/lang/String", "charAt", "(I)C"⟩, prog_33_method_56_code, 2, (some .char), [])
theorem d_String_charAt_0 : decode prog_33_method_56_code 0 = .ok (.aload_n 0, 1) := by decide +kernel
theorem d_String_charAt_1 : decode prog_33_method_56_code 1 = .ok (.invokevirtual 492, 3) := by decide +kernel
theorem k_String_isLatin1 : xCal m_String_isLatin1 0 := ⟨List.mem_append_right _ (List.mem_of_getElem? (i := 828) (by decide +kernel)), w_26, Nat.le_of_ble_eq_true rfl, ⟨by decide +kernel, by decide +kernel⟩, by decide +kernel, by decide +kernel, rfl⟩
theorem w_825 : Cond.methodLink "java/lang/String" 492 ⟨"java/lang/String", "isLatin1", "()Z"⟩ ∈ lw_tbl := List.mem_append_right _ (List.mem_of_getElem? (i := 825) (by decide +kernel))
theorem w_826 : Cond.instanceMethod ⟨"java/lang/String", "isLatin1", "()Z"⟩ ∈ lw_tbl := List.mem_append_right _ (List.mem_of_getElem? (i := 826) (by decide +kernel))
theorem w_827 : Cond.selects "java/lang/String" ⟨"java/lang/String", "isLatin1", "()Z"⟩ ⟨"java/lang/String", "isLatin1", "()Z"⟩ ∈ lw_tbl := List.mem_append_right _ (List.mem_of_getElem? (i := 827) (by decide +kernel))
theorem d_String_charAt_4 : decode prog_33_method_56_code 4 = .ok (.ifCond .eq 12, 3) := by decide +kernel
theorem d_String_charAt_7 : decode prog_33_method_56_code 7 = .ok (.aload_n 0, 1) := by decide +kernel
theorem d_String_charAt_8 : decode prog_33_method_56_code 8 = .ok (.getfield 9, 3) := by decide +kernel
theorem d_String_charAt_11 : decode prog_33_method_56_code 11 = .ok (.iload_n 1, 1) := by decide +kernel
theorem d_String_charAt_12 : decode prog_33_method_56_code 12 = .ok (.invokestatic 495, 3) := by decide +kernel
theorem w_27 : Cond.initialized "java/lang/StringLatin1" ∈ lw_tbl := List.mem_append_right _ (List.mem_of_getElem? (i := 27) (by decide +kernel))
theorem k_StringLatin1_charAt : xCal m_StringLatin1_charAt 2 := ⟨List.mem_append_right _ (List.mem_of_getElem? (i := 831) (by decide +kernel)), w_27, Nat.le_of_ble_eq_true rfl, ⟨by decide +kernel, by decide +kernel⟩, by decide +kernel, by decide +kernel, rfl⟩
theorem w_829 : Cond.methodLink "java/lang/String" 495 ⟨"java/lang/StringLatin1", "charAt", "([BI)C"⟩ ∈ lw_tbl := List.mem_append_right _ (List.mem_of_getElem? (i := 829) (by decide +kernel))
theorem w_830 : Cond.static ⟨"java/lang/StringLatin1", "charAt", "([BI)C"⟩ ∈ lw_tbl := List.mem_append_right _ (List.mem_of_getElem? (i := 830) (by decide +kernel))
theorem d_String_charAt_15 : decode prog_33_method_56_code 15 = .ok (.ireturn, 1) := by decide +kernel
theorem v_String_charAt_0 {G : XG} {d : Nat} {h : XH} {Q : XV → XH → Prop} {X : Nat → XH → Prop} {x0 x1 : Int} (F : xFix h) (p0 : strok h x0) (p1 : 0 ≤ x1) (p2 : x1 < xln h (xpl h x0 0)) (p3 : 0 ≤ xpl h (xpl h x0 0) x1) (p4 : xpl h (xpl h x0 0) x1 ≤ 255) (hyp : narrow .char (.int (Int32.ofInt (xpl h (xpl h x0 0) x1))) = .int (Int32.ofInt (xpl h (xpl h x0 0) x1)) ∧ (Q (xI (xpl h (xpl h x0 0) x1)) h)) : xwp G m_String_charAt (d + 5) 0 [xR x0, xI x1] [] h Q X := by
  have hnx9 : (93 : Int) ≤ xnx h := F.2.2
  refine xr_okL (fun hl9 => ?_)
  have r_x1 : -2147483648 ≤ x1 ∧ x1 ≤ 2147483647 := hl9 (xI x1) (.tail _ (.head _)) (Nat.le_of_ble_eq_true rfl)
  refine xr_aload_n (pc := 0) (i := 0) (hI := d_String_charAt_0) (hi := rfl) (hl := rfl) ?_
  refine xq_callV (pc := 1) (index := 492) (K := m_String_isLatin1) (As := []) (S := []) (L0 := [xR x0]) (hI := d_String_charAt_1) (hK := k_String_isLatin1) (hlk := w_825) (hnoM := rfl) (hS8 := Nat.le_of_ble_eq_true rfl) (ci := 14) (N := 2) (C := "java/lang/String") (T := xF14) (hc := rfl) (hci := Nat.le_of_ble_eq_true rfl) (htb := p0.1) (hinst := w_826) (hsel := w_827) (hlen := Nat.le_of_ble_eq_true rfl) (hst := rfl) (hL0 := rfl)  (p_String_isLatin1 F p0 ?_)
  show xwp G m_String_charAt (d + 5) 4 [xR x0, xI x1] [xI 1] _ _ _
  refine xr_if_eq (pc := 4) (tgt := 16) (hI := d_String_charAt_4) (ht := by decide) (fun q9 => ?_) (fun q9 => ?_)
  · exact absurd q9 (by decide)
  · clear q9
    refine xr_aload_n (pc := 7) (i := 0) (hI := d_String_charAt_7) (hi := rfl) (hl := rfl) ?_
    refine xg_getf (pc := 8) (ci := 14) (k := 0) (N := 2) (v9 := 2) (v := (xpl h x0 0)) (T := xF14) (hI := d_String_charAt_8) (hw := w_2105) rfl xi14 (Or.inl rfl) (Nat.le_of_ble_eq_true rfl) (Nat.le_of_ble_eq_true rfl) rfl p0.1 rfl (fun f1_ => ?_)
    clear f1_
    refine xr_iload_n (pc := 11) (i := 1) (hI := d_String_charAt_11) (hi := rfl) (hl := rfl) ?_
    refine xq_callS (pc := 12) (index := 495) (K := m_StringLatin1_charAt) (As := [xR (xpl h x0 0), xI x1]) (S := []) (L0 := [xR (xpl h x0 0), xI x1]) (hI := d_String_charAt_12) (hK := k_StringLatin1_charAt) (hlk := w_829) (hnoM := rfl) (hS8 := Nat.le_of_ble_eq_true rfl) (hstat := w_830) (hlen := Nat.le_of_ble_eq_true rfl) (hst := rfl) (hL0 := rfl)  (p_StringLatin1_charAt F p0.2.1 (by clear hyp; omega) (by clear hyp; omega) (by clear hyp; omega) (by clear hyp; omega) ?_)
    show xwp G m_String_charAt (d + 5) 15 [xR x0, xI x1] [xI (xpl h (xpl h x0 0) x1)] _ _ _
    obtain ⟨c9, hyp⟩ := hyp
    refine xr_ireturnT (S := []) (pc := 15) (hI := d_String_charAt_15) (hr := rfl) c9 ?_
    exact hyp
def stl (h : XH) (s : Int) : Int := xln h (xpl h s 0)
def stc (h : XH) (s i : Int) : Int := xpl h (xpl h s 0) i
/-- a text whose characters are small -/
def strOK (h : XH) (s : Int) : Prop := strok h s ∧ 0 ≤ stl h s ∧ stl h s ≤ 1000 ∧ ∀ i, 0 ≤ i → i < stl h s → 0 ≤ stc h s i ∧ stc h s i ≤ 255
theorem p_String_charAt {G : XG} {d : Nat} {h : XH} {Q : XV → XH → Prop} {X : Nat → XH → Prop} {s i : Int} (F : xFix h) (p0 : strOK h s) (p1 : 0 ≤ i) (p2 : i < stl h s) (hq : Q (xI (stc h s i)) h) : xwp G m_String_charAt (d + 5) 0 [xR s, xI i] [] h Q X := by
  obtain ⟨z0, -, -, z3⟩ := p0
  obtain ⟨z4, z5⟩ := z3 i p1 p2
  refine v_String_charAt_0 F z0 p1 p2 z4 z5 ?_
  refine ⟨?_, ?_⟩
  · first | exact z0 | exact xnar_c z4 (by unfold stc at z5; omega)
  · exact hq
theorem p_String_len {G : XG} {d : Nat} {h : XH} {Q : XV → XH → Prop} {X : Nat → XH → Prop} {s : Int} (F : xFix h) (p0 : strOK h s) (hq : Q (xI (stl h s)) h) : xwp G m_String_length (d + 2) 0 [xR s] [] h Q X := p_String_length F p0.1 (by have := p0.2.2.1; unfold stl at this; omega) p0.2.1 hq
def als (h : XH) (a : Int) : Int := xpl h a 1
def alg (h : XH) (a i : Int) : Int := xpl h (xpl h a 0) i
/-- a list that can be read -/
def alok (h : XH) (a : Int) : Prop := xtg h a = 13 ∧ xtg h (xpl h a 0) = 110 ∧ 0 ≤ als h a ∧ als h a ≤ xln h (xpl h a 0) ∧ als h a ≤ 1000000
abbrev m_ArrayList_size : XM := (⟨"java/util/ArrayList", "size", "()I"⟩, prog_43_method_8_code, 1, (some .int), [])
theorem d_ArrayList_size_0 : decode prog_43_method_8_code 0 = .ok (.aload_n 0, 1) := by decide +kernel
theorem d_ArrayList_size_1 : decode prog_43_method_8_code 1 = .ok (.getfield 48, 3) := by decide +kernel
theorem w_102 : Cond.fieldLink "java/util/ArrayList" 48 "java/util/ArrayList" "size" "I" ∈ lw_tbl := List.mem_append_right _ (List.mem_of_getElem? (i := 102) (by decide +kernel))
theorem d_ArrayList_size_4 : decode prog_43_method_8_code 4 = .ok (.ireturn, 1) := by decide +kernel
theorem v_ArrayList_size_0 {G : XG} {d : Nat} {h : XH} {Q : XV → XH → Prop} {X : Nat → XH → Prop} {x0 : Int} (F : xFix h) (p0 : alok h x0) (hyp : (Q (xI (xpl h x0 1)) h)) : xwp G m_ArrayList_size (d + 1) 0 [xR x0] [] h Q X := by
  have hnx9 : (93 : Int) ≤ xnx h := F.2.2
  refine xr_aload_n (pc := 0) (i := 0) (hI := d_ArrayList_size_0) (hi := rfl) (hl := rfl) ?_
  refine xg_getf (pc := 1) (ci := 13) (k := 1) (N := 3) (v9 := 0) (v := (xpl h x0 1)) (T := xF13) (hI := d_ArrayList_size_1) (hw := w_102) rfl xi13 (Or.inl rfl) (Nat.le_of_ble_eq_true rfl) (Nat.le_of_ble_eq_true rfl) rfl p0.1 rfl (fun f1_ => ?_)
  replace f1_ : -2147483648 ≤ (xpl h x0 1) ∧ (xpl h x0 1) ≤ 2147483647 := f1_
  refine xr_ireturn (S := []) (pc := 4) (hI := d_ArrayList_size_4) (hr := rfl) ?_
  exact hyp
theorem p_AL_size {G : XG} {d : Nat} {h : XH} {Q : XV → XH → Prop} {X : Nat → XH → Prop} {a : Int} (F : xFix h) (p0 : alok h a) (hq : Q (xI (als h a)) h) : xwp G m_ArrayList_size (d + 1) 0 [xR a] [] h Q X := by
  refine v_ArrayList_size_0 F p0 ?_
  exact hq
abbrev m_ArrayList_isEmpty : XM := (⟨"java/util/ArrayList", "isEmpty", "()Z"⟩, prog_43_method_9_code, 1, (some .boolean), [])
theorem d_ArrayList_isEmpty_0 : decode prog_43_method_9_code 0 = .ok (.aload_n 0, 1) := by decide +kernel
theorem d_ArrayList_isEmpty_1 : decode prog_43_method_9_code 1 = .ok (.getfield 48, 3) := by decide +kernel
theorem d_ArrayList_isEmpty_4 : decode prog_43_method_9_code 4 = .ok (.ifCond .ne 7, 3) := by decide +kernel
theorem d_ArrayList_isEmpty_11 : decode prog_43_method_9_code 11 = .ok (.iconst 0, 1) := by decide +kernel
theorem d_ArrayList_isEmpty_12 : decode prog_43_method_9_code 12 = .ok (.ireturn, 1) := by decide +kernel
theorem d_ArrayList_isEmpty_7 : decode prog_43_method_9_code 7 = .ok (.iconst 1, 1) := by decide +kernel
theorem d_ArrayList_isEmpty_8 : decode prog_43_method_9_code 8 = .ok (.goto 4, 3) := by decide +kernel
theorem v_ArrayList_isEmpty_0 {G : XG} {d : Nat} {h : XH} {Q : XV → XH → Prop} {X : Nat → XH → Prop} {x0 : Int} (F : xFix h) (p0 : alok h x0) (hyp : (((xpl h x0 1) = 0 → (Q (xI 1) h)) ∧ (¬ (xpl h x0 1) = 0 → (Q (xI 0) h)))) : xwp G m_ArrayList_isEmpty (d + 1) 0 [xR x0] [] h Q X := by
  have hnx9 : (93 : Int) ≤ xnx h := F.2.2
  refine xr_aload_n (pc := 0) (i := 0) (hI := d_ArrayList_isEmpty_0) (hi := rfl) (hl := rfl) ?_
  refine xg_getf (pc := 1) (ci := 13) (k := 1) (N := 3) (v9 := 0) (v := (xpl h x0 1)) (T := xF13) (hI := d_ArrayList_isEmpty_1) (hw := w_102) rfl xi13 (Or.inl rfl) (Nat.le_of_ble_eq_true rfl) (Nat.le_of_ble_eq_true rfl) rfl p0.1 rfl (fun f1_ => ?_)
  replace f1_ : -2147483648 ≤ (xpl h x0 1) ∧ (xpl h x0 1) ≤ 2147483647 := f1_
  refine xr_if_ne (pc := 4) (tgt := 11) (hI := d_ArrayList_isEmpty_4) (ht := by decide) (fun q9 => ?_) (fun q9 => ?_)
  · replace hyp := hyp.2 q9
    have q2_ := q9
    clear q9
    refine xr_iconst (pc := 11) (hI := d_ArrayList_isEmpty_11) (hr := by decide) ?_
    refine xr_ireturnT (S := []) (pc := 12) (hI := d_ArrayList_isEmpty_12) (hr := rfl) (xnar_z (by decide)) ?_
    exact hyp
  · replace hyp := hyp.1 q9
    have q2_ := q9
    clear q9
    refine xr_iconst (pc := 7) (hI := d_ArrayList_isEmpty_7) (hr := by decide) ?_
    refine xr_goto (pc := 8) (tgt := 12) (hI := d_ArrayList_isEmpty_8) (ht := by decide) ?_
    refine xr_ireturnT (S := []) (pc := 12) (hI := d_ArrayList_isEmpty_12) (hr := rfl) (xnar_z (by decide)) ?_
    exact hyp
theorem p_AL_isEmpty {G : XG} {d : Nat} {h : XH} {Q : XV → XH → Prop} {X : Nat → XH → Prop} {a : Int} (F : xFix h) (p0 : alok h a) (hq : Q (xI (b2i (decide (als h a = 0)))) h) : xwp G m_ArrayList_isEmpty (d + 1) 0 [xR a] [] h Q X := by
  refine v_ArrayList_isEmpty_0 F p0 ?_
  refine ⟨fun q1 => ?_, fun q1 => ?_⟩
  · first | (rw [decide_eq_true (show als h a = 0 from q1)] at hq; exact hq) | (rw [decide_eq_false (show ¬ als h a = 0 from q1)] at hq; exact hq)
  · first | (rw [decide_eq_true (show als h a = 0 from q1)] at hq; exact hq) | (rw [decide_eq_false (show ¬ als h a = 0 from q1)] at hq; exact hq)
abbrev m_ArrayList_elementData : XM := (⟨"java/util/ArrayList", "elementData", "(I)Ljava/lang/Object;"⟩, prog_43_method_18_code, 2, (some (.object "java/lang/Object")), [])
theorem d_ArrayList_elementData_0 : decode prog_43_method_18_code 0 = .ok (.aload_n 0, 1) := by decide +kernel
theorem d_ArrayList_elementData_1 : decode prog_43_method_18_code 1 = .ok (.getfield 9, 3) := by decide +kernel
theorem w_101 : Cond.fieldLink "java/util/ArrayList" 9 "java/util/ArrayList" "elementData" "[Ljava/lang/Object;" ∈ lw_tbl := List.mem_append_right _ (List.mem_of_getElem? (i := 101) (by decide +kernel))
theorem d_ArrayList_elementData_4 : decode prog_43_method_18_code 4 = .ok (.iload_n 1, 1) := by decide +kernel
theorem d_ArrayList_elementData_5 : decode prog_43_method_18_code 5 = .ok (.aaload, 1) := by decide +kernel
theorem d_ArrayList_elementData_6 : decode prog_43_method_18_code 6 = .ok (.areturn, 1) := by decide +kernel
theorem v_ArrayList_elementData_0 {G : XG} {d : Nat} {h : XH} {Q : XV → XH → Prop} {X : Nat → XH → Prop} {x0 x1 : Int} (F : xFix h) (p0 : alok h x0) (p1 : 0 ≤ x1) (p2 : x1 < xln h (xpl h x0 0)) (hyp : (Q (xR (xpl h (xpl h x0 0) x1)) h)) : xwp G m_ArrayList_elementData (d + 1) 0 [xR x0, xI x1] [] h Q X := by
  have hnx9 : (93 : Int) ≤ xnx h := F.2.2
  refine xr_okL (fun hl9 => ?_)
  have r_x1 : -2147483648 ≤ x1 ∧ x1 ≤ 2147483647 := hl9 (xI x1) (.tail _ (.head _)) (Nat.le_of_ble_eq_true rfl)
  refine xr_aload_n (pc := 0) (i := 0) (hI := d_ArrayList_elementData_0) (hi := rfl) (hl := rfl) ?_
  refine xg_getf (pc := 1) (ci := 13) (k := 0) (N := 3) (v9 := 2) (v := (xpl h x0 0)) (T := xF13) (hI := d_ArrayList_elementData_1) (hw := w_101) rfl xi13 (Or.inl rfl) (Nat.le_of_ble_eq_true rfl) (Nat.le_of_ble_eq_true rfl) rfl p0.1 rfl (fun f1_ => ?_)
  clear f1_
  refine xr_iload_n (pc := 4) (i := 1) (hI := d_ArrayList_elementData_4) (hi := rfl) (hl := rfl) ?_
  refine xg_aaload (pc := 5) (t := 110) (v := (xpl h (xpl h x0 0) x1)) (hI := d_ArrayList_elementData_5) p0.2.1 (Nat.le_of_ble_eq_true rfl) rfl (Nat.le_of_ble_eq_true rfl) (by clear hyp; omega) (xlt_of rfl (by clear hyp; omega)) rfl ?_
  refine xr_areturn (S := []) (pc := 6) (hI := d_ArrayList_elementData_6) (hr := rfl) (hrt := Or.inl ⟨_, rfl⟩) ?_
  exact hyp
theorem p_AL_elementData {G : XG} {d : Nat} {h : XH} {Q : XV → XH → Prop} {X : Nat → XH → Prop} {a i : Int} (F : xFix h) (p0 : alok h a) (p1 : 0 ≤ i) (p2 : i < als h a) (hq : Q (xR (alg h a i)) h) : xwp G m_ArrayList_elementData (d + 1) 0 [xR a, xI i] [] h Q X := by
  refine v_ArrayList_elementData_0 F p0 p1 (by have := p0.2.2.2.1; omega) ?_
  exact hq
abbrev m_ArrayList_get : XM := (⟨"java/util/ArrayList", "get", "(I)Ljava/lang/Object;"⟩, prog_43_method_20_code, 2, (some (.object "java/lang/Object")), [])
theorem d_ArrayList_get_0 : decode prog_43_method_20_code 0 = .ok (.iload_n 1, 1) := by decide +kernel
theorem d_ArrayList_get_1 : decode prog_43_method_20_code 1 = .ok (.aload_n 0, 1) := by decide +kernel
theorem d_ArrayList_get_2 : decode prog_43_method_20_code 2 = .ok (.getfield 48, 3) := by decide +kernel
theorem d_ArrayList_get_5 : decode prog_43_method_20_code 5 = .ok (.invokestatic 118, 3) := by decide +kernel
theorem w_22 : Cond.initialized "java/util/Objects" ∈ lw_tbl := List.mem_append_right _ (List.mem_of_getElem? (i := 22) (by decide +kernel))
theorem k_Objects_checkIndex : xCal m_Objects_checkIndex 2 := ⟨List.mem_append_right _ (List.mem_of_getElem? (i := 474) (by decide +kernel)), w_22, Nat.le_of_ble_eq_true rfl, ⟨by decide +kernel, by decide +kernel⟩, by decide +kernel, by decide +kernel, rfl⟩
theorem w_472 : Cond.methodLink "java/util/ArrayList" 118 ⟨"java/util/Objects", "checkIndex", "(II)I"⟩ ∈ lw_tbl := List.mem_append_right _ (List.mem_of_getElem? (i := 472) (by decide +kernel))
theorem w_473 : Cond.static ⟨"java/util/Objects", "checkIndex", "(II)I"⟩ ∈ lw_tbl := List.mem_append_right _ (List.mem_of_getElem? (i := 473) (by decide +kernel))
theorem d_ArrayList_get_8 : decode prog_43_method_20_code 8 = .ok (.pop, 1) := by decide +kernel
theorem d_ArrayList_get_9 : decode prog_43_method_20_code 9 = .ok (.aload_n 0, 1) := by decide +kernel
theorem d_ArrayList_get_10 : decode prog_43_method_20_code 10 = .ok (.iload_n 1, 1) := by decide +kernel
theorem d_ArrayList_get_11 : decode prog_43_method_20_code 11 = .ok (.invokevirtual 123, 3) := by decide +kernel
theorem w_6 : Cond.initialized "java/util/ArrayList" ∈ lw_tbl := List.mem_append_right _ (List.mem_of_getElem? (i := 6) (by decide +kernel))
theorem k_ArrayList_elementData : xCal m_ArrayList_elementData 1 := ⟨List.mem_append_right _ (List.mem_of_getElem? (i := 481) (by decide +kernel)), w_6, Nat.le_of_ble_eq_true rfl, ⟨by decide +kernel, by decide +kernel⟩, by decide +kernel, by decide +kernel, rfl⟩
theorem w_478 : Cond.methodLink "java/util/ArrayList" 123 ⟨"java/util/ArrayList", "elementData", "(I)Ljava/lang/Object;"⟩ ∈ lw_tbl := List.mem_append_right _ (List.mem_of_getElem? (i := 478) (by decide +kernel))
theorem w_479 : Cond.instanceMethod ⟨"java/util/ArrayList", "elementData", "(I)Ljava/lang/Object;"⟩ ∈ lw_tbl := List.mem_append_right _ (List.mem_of_getElem? (i := 479) (by decide +kernel))
theorem w_480 : Cond.selects "java/util/ArrayList" ⟨"java/util/ArrayList", "elementData", "(I)Ljava/lang/Object;"⟩ ⟨"java/util/ArrayList", "elementData", "(I)Ljava/lang/Object;"⟩ ∈ lw_tbl := List.mem_append_right _ (List.mem_of_getElem? (i := 480) (by decide +kernel))
theorem d_ArrayList_get_14 : decode prog_43_method_20_code 14 = .ok (.areturn, 1) := by decide +kernel
theorem v_ArrayList_get_0 {G : XG} {d : Nat} {h : XH} {Q : XV → XH → Prop} {X : Nat → XH → Prop} {x0 x1 : Int} (F : xFix h) (p0 : alok h x0) (p1 : 0 ≤ x1) (p2a : x1 < xpl h x0 1) (p2 : x1 < als h x0) (hyp : (Q (xR (alg h x0 x1)) h)) : xwp G m_ArrayList_get (d + 3) 0 [xR x0, xI x1] [] h Q X := by
  have hnx9 : (93 : Int) ≤ xnx h := F.2.2
  refine xr_okL (fun hl9 => ?_)
  have r_x1 : -2147483648 ≤ x1 ∧ x1 ≤ 2147483647 := hl9 (xI x1) (.tail _ (.head _)) (Nat.le_of_ble_eq_true rfl)
  refine xr_iload_n (pc := 0) (i := 1) (hI := d_ArrayList_get_0) (hi := rfl) (hl := rfl) ?_
  refine xr_aload_n (pc := 1) (i := 0) (hI := d_ArrayList_get_1) (hi := rfl) (hl := rfl) ?_
  refine xg_getf (pc := 2) (ci := 13) (k := 1) (N := 3) (v9 := 0) (v := (xpl h x0 1)) (T := xF13) (hI := d_ArrayList_get_2) (hw := w_102) rfl xi13 (Or.inl rfl) (Nat.le_of_ble_eq_true rfl) (Nat.le_of_ble_eq_true rfl) rfl p0.1 rfl (fun f1_ => ?_)
  replace f1_ : -2147483648 ≤ (xpl h x0 1) ∧ (xpl h x0 1) ≤ 2147483647 := f1_
  refine xq_callS (pc := 5) (index := 118) (K := m_Objects_checkIndex) (As := [xI x1, xI (xpl h x0 1)]) (S := []) (L0 := [xI x1, xI (xpl h x0 1)]) (hI := d_ArrayList_get_5) (hK := k_Objects_checkIndex) (hlk := w_472) (hnoM := rfl) (hS8 := Nat.le_of_ble_eq_true rfl) (hstat := w_473) (hlen := Nat.le_of_ble_eq_true rfl) (hst := rfl) (hL0 := rfl)  (p_Objects_checkIndex F (by clear hyp; omega) (by clear hyp; omega) ?_)
  show xwp G m_ArrayList_get (d + 3) 8 [xR x0, xI x1] [xI x1] _ _ _
  refine xr_pop (pc := 8) (hI := d_ArrayList_get_8) (hv := rfl) ?_
  refine xr_aload_n (pc := 9) (i := 0) (hI := d_ArrayList_get_9) (hi := rfl) (hl := rfl) ?_
  refine xr_iload_n (pc := 10) (i := 1) (hI := d_ArrayList_get_10) (hi := rfl) (hl := rfl) ?_
  refine xq_callV (pc := 11) (index := 123) (K := m_ArrayList_elementData) (As := [xI x1]) (S := []) (L0 := [xR x0, xI x1]) (hI := d_ArrayList_get_11) (hK := k_ArrayList_elementData) (hlk := w_478) (hnoM := rfl) (hS8 := Nat.le_of_ble_eq_true rfl) (ci := 13) (N := 3) (C := "java/util/ArrayList") (T := xF13) (hc := rfl) (hci := Nat.le_of_ble_eq_true rfl) (htb := p0.1) (hinst := w_479) (hsel := w_480) (hlen := Nat.le_of_ble_eq_true rfl) (hst := rfl) (hL0 := rfl)  (p_AL_elementData F p0 (by clear hyp; omega) (by clear hyp; omega) ?_)
  show xwp G m_ArrayList_get (d + 3) 14 [xR x0, xI x1] [xR (alg h x0 x1)] _ _ _
  refine xr_areturn (S := []) (pc := 14) (hI := d_ArrayList_get_14) (hr := rfl) (hrt := Or.inl ⟨_, rfl⟩) ?_
  exact hyp
theorem p_AL_get {G : XG} {d : Nat} {h : XH} {Q : XV → XH → Prop} {X : Nat → XH → Prop} {a i : Int} (F : xFix h) (p0 : alok h a) (p1 : 0 ≤ i) (p2 : i < als h a) (hq : Q (xR (alg h a i)) h) : xwp G m_ArrayList_get (d + 3) 0 [xR a, xI i] [] h Q X := by
  refine v_ArrayList_get_0 F p0 p1 p2 p2 ?_
  exact hq
end
