/-! ===== rdvc ===== -/
section
abbrev m_QuestionReader_appendPart : XM := (⟨"BeaconIndex$QuestionReader", "appendPart", "(I[J)V"⟩, prog_7_method_23_code, 6, none, [])
theorem d_QuestionReader_appendPart_0 : decode prog_7_method_23_code 0 = .ok (.aload_n 0, 1) := by decide +kernel
theorem d_QuestionReader_appendPart_1 : decode prog_7_method_23_code 1 = .ok (.getfield 22, 3) := by decide +kernel
theorem w_308 : Cond.fieldLink "BeaconIndex$QuestionReader" 22 "BeaconIndex$QuestionReader" "open" "Ljava/util/ArrayList;" ∈ lw_tbl := List.mem_append_right _ (List.mem_of_getElem? (i := 308) (by decide +kernel))
theorem d_QuestionReader_appendPart_4 : decode prog_7_method_23_code 4 = .ok (.invokevirtual 226, 3) := by decide +kernel
theorem w_1039 : Cond.methodLink "BeaconIndex$QuestionReader" 226 ⟨"java/util/ArrayList", "isEmpty", "()Z"⟩ ∈ lw_tbl := List.mem_append_right _ (List.mem_of_getElem? (i := 1039) (by decide +kernel))
theorem d_QuestionReader_appendPart_7 : decode prog_7_method_23_code 7 = .ok (.ifCond .eq 10, 3) := by decide +kernel
theorem d_QuestionReader_appendPart_17 : decode prog_7_method_23_code 17 = .ok (.aload_n 0, 1) := by decide +kernel
theorem d_QuestionReader_appendPart_18 : decode prog_7_method_23_code 18 = .ok (.getfield 22, 3) := by decide +kernel
theorem d_QuestionReader_appendPart_21 : decode prog_7_method_23_code 21 = .ok (.aload_n 0, 1) := by decide +kernel
theorem d_QuestionReader_appendPart_22 : decode prog_7_method_23_code 22 = .ok (.getfield 22, 3) := by decide +kernel
theorem d_QuestionReader_appendPart_25 : decode prog_7_method_23_code 25 = .ok (.invokevirtual 152, 3) := by decide +kernel
theorem w_1040 : Cond.methodLink "BeaconIndex$QuestionReader" 152 ⟨"java/util/ArrayList", "size", "()I"⟩ ∈ lw_tbl := List.mem_append_right _ (List.mem_of_getElem? (i := 1040) (by decide +kernel))
theorem d_QuestionReader_appendPart_28 : decode prog_7_method_23_code 28 = .ok (.iconst 1, 1) := by decide +kernel
theorem d_QuestionReader_appendPart_29 : decode prog_7_method_23_code 29 = .ok (.isub, 1) := by decide +kernel
theorem d_QuestionReader_appendPart_30 : decode prog_7_method_23_code 30 = .ok (.invokevirtual 229, 3) := by decide +kernel
theorem w_1041 : Cond.methodLink "BeaconIndex$QuestionReader" 229 ⟨"java/util/ArrayList", "get", "(I)Ljava/lang/Object;"⟩ ∈ lw_tbl := List.mem_append_right _ (List.mem_of_getElem? (i := 1041) (by decide +kernel))
theorem d_QuestionReader_appendPart_33 : decode prog_7_method_23_code 33 = .ok (.checkcast 26, 3) := by decide +kernel
theorem w_210 : Cond.classLink "BeaconIndex$QuestionReader" 26 "BeaconIndex$Part" ∈ lw_tbl := List.mem_append_right _ (List.mem_of_getElem? (i := 210) (by decide +kernel))
theorem d_QuestionReader_appendPart_10 : decode prog_7_method_23_code 10 = .ok (.aload_n 0, 1) := by decide +kernel
theorem d_QuestionReader_appendPart_11 : decode prog_7_method_23_code 11 = .ok (.getfield 31, 3) := by decide +kernel
theorem w_309 : Cond.fieldLink "BeaconIndex$QuestionReader" 31 "BeaconIndex$QuestionReader" "outermost" "LBeaconIndex$Part;" ∈ lw_tbl := List.mem_append_right _ (List.mem_of_getElem? (i := 309) (by decide +kernel))
theorem d_QuestionReader_appendPart_14 : decode prog_7_method_23_code 14 = .ok (.goto 22, 3) := by decide +kernel
theorem v_QuestionReader_appendPart_0 {G : XG} {d : Nat} {h : XH} {Q : XV → XH → Prop} {X : Nat → XH → Prop} {x1 x2 : Int} (F : xFix h) (hyp : alok h 34 ∧ ((((decide (als h 34 = 0)) = true) → (xwp G m_QuestionReader_appendPart (d + 8) 36 [xR 32, xI x1, xR x2, xZ, xZ, xZ] [xR 35] h Q X)) ∧ (¬ ((decide (als h 34 = 0)) = true) → 0 ≤ ((als h 34) - 1) ∧ xtg h (alg h 34 ((als h 34) - 1)) = 4 ∧ (xwp G m_QuestionReader_appendPart (d + 8) 36 [xR 32, xI x1, xR x2, xZ, xZ, xZ] [xR (alg h 34 ((als h 34) - 1))] h Q X)))) : xwp G m_QuestionReader_appendPart (d + 8) 0 [xR 32, xI x1, xR x2, xZ, xZ, xZ] [] h Q X := by
  have hnx9 : (93 : Int) ≤ xnx h := F.2.2
  refine xr_okL (fun hl9 => ?_)
  have r_x1 : -2147483648 ≤ x1 ∧ x1 ≤ 2147483647 := hl9 (xI x1) (.tail _ (.head _)) (Nat.le_of_ble_eq_true rfl)
  refine xr_aload_n (pc := 0) (i := 0) (hI := d_QuestionReader_appendPart_0) (hi := rfl) (hl := rfl) ?_
  refine xg_getf (pc := 1) (ci := 6) (k := 2) (N := 15) (v9 := 2) (v := 34) (T := xF6) (hI := d_QuestionReader_appendPart_1) (hw := w_308) rfl xi6 (Or.inl rfl) (Nat.le_of_ble_eq_true rfl) (Nat.le_of_ble_eq_true rfl) rfl (ft_32 F) (fp_32_2 F) (fun f1_ => ?_)
  clear f1_
  obtain ⟨c2_, hyp⟩ := hyp
  refine xq_callV (pc := 4) (index := 226) (K := m_ArrayList_isEmpty) (As := []) (S := []) (L0 := [xR 34]) (hI := d_QuestionReader_appendPart_4) (hK := k_ArrayList_isEmpty) (hlk := w_1039) (hnoM := rfl) (hS8 := Nat.le_of_ble_eq_true rfl) (ci := 13) (N := 3) (C := "java/util/ArrayList") (T := xF13) (hc := rfl) (hci := Nat.le_of_ble_eq_true rfl) (htb := (ft_34 F)) (hinst := w_461) (hsel := w_462) (hlen := Nat.le_of_ble_eq_true rfl) (hst := rfl) (hL0 := rfl)  (p_AL_isEmpty F c2_ ?_)
  show xwp G m_QuestionReader_appendPart (d + 8) 7 [xR 32, xI x1, xR x2, xZ, xZ, xZ] [xI (b2i (decide (als h 34 = 0)))] _ _ _
  refine xr_if_eq (pc := 7) (tgt := 17) (hI := d_QuestionReader_appendPart_7) (ht := by decide) (fun q9 => ?_) (fun q9 => ?_)
  · replace hyp := hyp.2 (b2i_0.mp q9)
    have q3_ := b2i_0.mp q9
    clear q9
    refine xr_aload_n (pc := 17) (i := 0) (hI := d_QuestionReader_appendPart_17) (hi := rfl) (hl := rfl) ?_
    refine xg_getf (pc := 18) (ci := 6) (k := 2) (N := 15) (v9 := 2) (v := 34) (T := xF6) (hI := d_QuestionReader_appendPart_18) (hw := w_308) rfl xi6 (Or.inl rfl) (Nat.le_of_ble_eq_true rfl) (Nat.le_of_ble_eq_true rfl) rfl (ft_32 F) (fp_32_2 F) (fun f4_ => ?_)
    clear f4_
    refine xr_aload_n (pc := 21) (i := 0) (hI := d_QuestionReader_appendPart_21) (hi := rfl) (hl := rfl) ?_
    refine xg_getf (pc := 22) (ci := 6) (k := 2) (N := 15) (v9 := 2) (v := 34) (T := xF6) (hI := d_QuestionReader_appendPart_22) (hw := w_308) rfl xi6 (Or.inl rfl) (Nat.le_of_ble_eq_true rfl) (Nat.le_of_ble_eq_true rfl) rfl (ft_32 F) (fp_32_2 F) (fun f5_ => ?_)
    clear f5_
    refine xq_callV (pc := 25) (index := 152) (K := m_ArrayList_size) (As := []) (S := [xR 34]) (L0 := [xR 34]) (hI := d_QuestionReader_appendPart_25) (hK := k_ArrayList_size) (hlk := w_1040) (hnoM := rfl) (hS8 := Nat.le_of_ble_eq_true rfl) (ci := 13) (N := 3) (C := "java/util/ArrayList") (T := xF13) (hc := rfl) (hci := Nat.le_of_ble_eq_true rfl) (htb := (ft_34 F)) (hinst := w_465) (hsel := w_466) (hlen := Nat.le_of_ble_eq_true rfl) (hst := rfl) (hL0 := rfl)  (p_AL_size F c2_ ?_)
    show xwp G m_QuestionReader_appendPart (d + 8) 28 [xR 32, xI x1, xR x2, xZ, xZ, xZ] [xI (als h 34), xR 34] _ _ _
    have f6_ : 0 ≤ (als h 34) ∧ (als h 34) ≤ 1000000 := ⟨c2_.2.2.1, c2_.2.2.2.2⟩
    refine xr_iconst (pc := 28) (hI := d_QuestionReader_appendPart_28) (hr := by decide) ?_
    refine xr_isub (pc := 29) (hI := d_QuestionReader_appendPart_29) (hr := ⟨by clear hyp; omega, by clear hyp; omega⟩) ?_
    obtain ⟨c7_, hyp⟩ := hyp
    refine xq_callV (pc := 30) (index := 229) (K := m_ArrayList_get) (As := [xI ((als h 34) - 1)]) (S := []) (L0 := [xR 34, xI ((als h 34) - 1)]) (hI := d_QuestionReader_appendPart_30) (hK := k_ArrayList_get) (hlk := w_1041) (hnoM := rfl) (hS8 := Nat.le_of_ble_eq_true rfl) (ci := 13) (N := 3) (C := "java/util/ArrayList") (T := xF13) (hc := rfl) (hci := Nat.le_of_ble_eq_true rfl) (htb := (ft_34 F)) (hinst := w_469) (hsel := w_470) (hlen := Nat.le_of_ble_eq_true rfl) (hst := rfl) (hL0 := rfl)  (p_AL_get F c2_ c7_ (by clear hyp; omega) ?_)
    show xwp G m_QuestionReader_appendPart (d + 8) 33 [xR 32, xI x1, xR x2, xZ, xZ, xZ] [xR (alg h 34 ((als h 34) - 1))] _ _ _
    obtain ⟨c9, hyp⟩ := hyp
    have t8_ := c9
    clear c9
    refine xr_cast (pc := 33) (ci := 4) (T := xF4) (N := 13) (hI := d_QuestionReader_appendPart_33) w_210 rfl (Nat.le_of_ble_eq_true rfl) t8_ ?_
    exact hyp
  · replace hyp := hyp.1 (b2i_1.mp q9)
    have q3_ := b2i_1.mp q9
    clear q9
    refine xr_aload_n (pc := 10) (i := 0) (hI := d_QuestionReader_appendPart_10) (hi := rfl) (hl := rfl) ?_
    refine xg_getf (pc := 11) (ci := 6) (k := 3) (N := 15) (v9 := 2) (v := 35) (T := xF6) (hI := d_QuestionReader_appendPart_11) (hw := w_309) rfl xi6 (Or.inl rfl) (Nat.le_of_ble_eq_true rfl) (Nat.le_of_ble_eq_true rfl) rfl (ft_32 F) (fp_32_3 F) (fun f9_ => ?_)
    clear f9_
    refine xr_goto (pc := 14) (tgt := 36) (hI := d_QuestionReader_appendPart_14) (ht := by decide) ?_
    exact hyp
theorem d_QuestionReader_appendPart_36 : decode prog_7_method_23_code 36 = .ok (.astore_n 3, 1) := by decide +kernel
theorem d_QuestionReader_appendPart_37 : decode prog_7_method_23_code 37 = .ok (.aload_n 0, 1) := by decide +kernel
theorem d_QuestionReader_appendPart_38 : decode prog_7_method_23_code 38 = .ok (.getfield 70, 3) := by decide +kernel
theorem d_QuestionReader_appendPart_41 : decode prog_7_method_23_code 41 = .ok (.iconst 2, 1) := by decide +kernel
theorem d_QuestionReader_appendPart_42 : decode prog_7_method_23_code 42 = .ok (.if_icmp .ne 10, 3) := by decide +kernel
theorem d_QuestionReader_appendPart_52 : decode prog_7_method_23_code 52 = .ok (.aload_n 0, 1) := by decide +kernel
theorem d_QuestionReader_appendPart_53 : decode prog_7_method_23_code 53 = .ok (.getfield 70, 3) := by decide +kernel
theorem d_QuestionReader_appendPart_45 : decode prog_7_method_23_code 45 = .ok (.aload_n 3, 1) := by decide +kernel
theorem d_QuestionReader_appendPart_46 : decode prog_7_method_23_code 46 = .ok (.getfield 232, 3) := by decide +kernel
theorem w_221 : Cond.fieldLink "BeaconIndex$QuestionReader" 232 "BeaconIndex$Part" "field" "I" ∈ lw_tbl := List.mem_append_right _ (List.mem_of_getElem? (i := 221) (by decide +kernel))
theorem d_QuestionReader_appendPart_49 : decode prog_7_method_23_code 49 = .ok (.goto 7, 3) := by decide +kernel
theorem v_QuestionReader_appendPart_36 {G : XG} {d : Nat} {h : XH} {Q : XV → XH → Prop} {X : Nat → XH → Prop} {x1 x2 s0 : Int} (F : xFix h) (hyp : (((xpl h 32 14) = 2 → xtg h s0 = 4 ∧ (xwp G m_QuestionReader_appendPart (d + 8) 56 [xR 32, xI x1, xR x2, xR s0, xZ, xZ] [xI (xpl h s0 2)] h Q X)) ∧ (¬ (xpl h 32 14) = 2 → (xwp G m_QuestionReader_appendPart (d + 8) 56 [xR 32, xI x1, xR x2, xR s0, xZ, xZ] [xI (xpl h 32 14)] h Q X)))) : xwp G m_QuestionReader_appendPart (d + 8) 36 [xR 32, xI x1, xR x2, xZ, xZ, xZ] [xR s0] h Q X := by
  have hnx9 : (93 : Int) ≤ xnx h := F.2.2
  refine xr_okL (fun hl9 => ?_)
  have r_x1 : -2147483648 ≤ x1 ∧ x1 ≤ 2147483647 := hl9 (xI x1) (.tail _ (.head _)) (Nat.le_of_ble_eq_true rfl)
  refine xr_astore_n (pc := 36) (i := 3) (L9 := [xR 32, xI x1, xR x2, xR s0, xZ, xZ]) (hI := d_QuestionReader_appendPart_36) (hi := rfl) (hn := Nat.le_of_ble_eq_true rfl) (hL9 := rfl) ?_
  refine xr_aload_n (pc := 37) (i := 0) (hI := d_QuestionReader_appendPart_37) (hi := rfl) (hl := rfl) ?_
  refine xg_getf (pc := 38) (ci := 6) (k := 14) (N := 15) (v9 := 0) (v := (xpl h 32 14)) (T := xF6) (hI := d_QuestionReader_appendPart_38) (hw := w_322) rfl xi6 (Or.inl rfl) (Nat.le_of_ble_eq_true rfl) (Nat.le_of_ble_eq_true rfl) rfl (ft_32 F) rfl (fun f1_ => ?_)
  replace f1_ : -2147483648 ≤ (xpl h 32 14) ∧ (xpl h 32 14) ≤ 2147483647 := f1_
  refine xr_iconst (pc := 41) (hI := d_QuestionReader_appendPart_41) (hr := by decide) ?_
  refine xr_icmp_ne (pc := 42) (tgt := 52) (hI := d_QuestionReader_appendPart_42) (ht := by decide) (fun q9 => ?_) (fun q9 => ?_)
  · replace hyp := hyp.2 q9
    have q2_ := q9
    clear q9
    refine xr_aload_n (pc := 52) (i := 0) (hI := d_QuestionReader_appendPart_52) (hi := rfl) (hl := rfl) ?_
    refine xg_getf (pc := 53) (ci := 6) (k := 14) (N := 15) (v9 := 0) (v := (xpl h 32 14)) (T := xF6) (hI := d_QuestionReader_appendPart_53) (hw := w_322) rfl xi6 (Or.inl rfl) (Nat.le_of_ble_eq_true rfl) (Nat.le_of_ble_eq_true rfl) rfl (ft_32 F) rfl (fun f3_ => ?_)
    replace f3_ : -2147483648 ≤ (xpl h 32 14) ∧ (xpl h 32 14) ≤ 2147483647 := f3_
    exact hyp
  · replace hyp := hyp.1 q9
    have q2_ := q9
    clear q9
    refine xr_aload_n (pc := 45) (i := 3) (hI := d_QuestionReader_appendPart_45) (hi := rfl) (hl := rfl) ?_
    obtain ⟨c9, hyp⟩ := hyp
    have t4_ := c9
    clear c9
    refine xg_getf (pc := 46) (ci := 4) (k := 2) (N := 13) (v9 := 0) (v := (xpl h s0 2)) (T := xF4) (hI := d_QuestionReader_appendPart_46) (hw := w_221) rfl xi4 (Or.inl rfl) (Nat.le_of_ble_eq_true rfl) (Nat.le_of_ble_eq_true rfl) rfl t4_ rfl (fun f5_ => ?_)
    replace f5_ : -2147483648 ≤ (xpl h s0 2) ∧ (xpl h s0 2) ≤ 2147483647 := f5_
    refine xr_goto (pc := 49) (tgt := 56) (hI := d_QuestionReader_appendPart_49) (ht := by decide) ?_
    exact hyp
theorem d_QuestionReader_appendPart_56 : decode prog_7_method_23_code 56 = .ok (.istore 4, 2) := by decide +kernel
theorem d_QuestionReader_appendPart_58 : decode prog_7_method_23_code 58 = .ok (.aload_n 3, 1) := by decide +kernel
theorem d_QuestionReader_appendPart_59 : decode prog_7_method_23_code 59 = .ok (.getfield 235, 3) := by decide +kernel
theorem w_224 : Cond.fieldLink "BeaconIndex$QuestionReader" 235 "BeaconIndex$Part" "barred" "Z" ∈ lw_tbl := List.mem_append_right _ (List.mem_of_getElem? (i := 224) (by decide +kernel))
theorem d_QuestionReader_appendPart_62 : decode prog_7_method_23_code 62 = .ok (.ifCond .ne 12, 3) := by decide +kernel
theorem d_QuestionReader_appendPart_74 : decode prog_7_method_23_code 74 = .ok (.iconst 1, 1) := by decide +kernel
theorem d_QuestionReader_appendPart_75 : decode prog_7_method_23_code 75 = .ok (.goto 4, 3) := by decide +kernel
theorem d_QuestionReader_appendPart_65 : decode prog_7_method_23_code 65 = .ok (.aload_n 0, 1) := by decide +kernel
theorem d_QuestionReader_appendPart_66 : decode prog_7_method_23_code 66 = .ok (.getfield 67, 3) := by decide +kernel
theorem d_QuestionReader_appendPart_69 : decode prog_7_method_23_code 69 = .ok (.bipush 45, 2) := by decide +kernel
theorem d_QuestionReader_appendPart_71 : decode prog_7_method_23_code 71 = .ok (.if_icmp .ne 7, 3) := by decide +kernel
theorem d_QuestionReader_appendPart_78 : decode prog_7_method_23_code 78 = .ok (.iconst 0, 1) := by decide +kernel
theorem v_QuestionReader_appendPart_56 {G : XG} {d : Nat} {h : XH} {Q : XV → XH → Prop} {X : Nat → XH → Prop} {x1 x2 x3 s0 : Int} (F : xFix h) (hyp : xtg h x3 = 4 ∧ (((xpl h x3 3) = 0 → (((xpl h 32 13) = 45 → (xwp G m_QuestionReader_appendPart (d + 8) 79 [xR 32, xI x1, xR x2, xR x3, xI s0, xZ] [xI 1] h Q X)) ∧ (¬ (xpl h 32 13) = 45 → (xwp G m_QuestionReader_appendPart (d + 8) 79 [xR 32, xI x1, xR x2, xR x3, xI s0, xZ] [xI 0] h Q X)))) ∧ (¬ (xpl h x3 3) = 0 → (xwp G m_QuestionReader_appendPart (d + 8) 79 [xR 32, xI x1, xR x2, xR x3, xI s0, xZ] [xI 1] h Q X)))) : xwp G m_QuestionReader_appendPart (d + 8) 56 [xR 32, xI x1, xR x2, xR x3, xZ, xZ] [xI s0] h Q X := by
  have hnx9 : (93 : Int) ≤ xnx h := F.2.2
  refine xr_okL (fun hl9 => ?_)
  have r_x1 : -2147483648 ≤ x1 ∧ x1 ≤ 2147483647 := hl9 (xI x1) (.tail _ (.head _)) (Nat.le_of_ble_eq_true rfl)
  refine xr_okS (fun hs9 => ?_)
  have r_s0 : -2147483648 ≤ s0 ∧ s0 ≤ 2147483647 := hs9 (xI s0) (.head _)
  refine xr_istore (pc := 56) (i := 4) (L9 := [xR 32, xI x1, xR x2, xR x3, xI s0, xZ]) (hI := d_QuestionReader_appendPart_56) (hn := Nat.le_of_ble_eq_true rfl) (hL9 := rfl) ?_
  refine xr_aload_n (pc := 58) (i := 3) (hI := d_QuestionReader_appendPart_58) (hi := rfl) (hl := rfl) ?_
  obtain ⟨c9, hyp⟩ := hyp
  have t1_ := c9
  clear c9
  refine xg_getfZ (pc := 59) (ci := 4) (k := 3) (N := 13) (v := (xpl h x3 3)) (T := xF4) (hI := d_QuestionReader_appendPart_59) (hw := w_224) rfl xi4 (Or.inl rfl) (Nat.le_of_ble_eq_true rfl) (Nat.le_of_ble_eq_true rfl) rfl t1_ rfl (fun f2_ => ?_)
  refine xr_if_ne (pc := 62) (tgt := 74) (hI := d_QuestionReader_appendPart_62) (ht := by decide) (fun q9 => ?_) (fun q9 => ?_)
  · replace hyp := hyp.2 q9
    have q3_ := q9
    clear q9
    refine xr_iconst (pc := 74) (hI := d_QuestionReader_appendPart_74) (hr := by decide) ?_
    refine xr_goto (pc := 75) (tgt := 79) (hI := d_QuestionReader_appendPart_75) (ht := by decide) ?_
    exact hyp
  · replace hyp := hyp.1 q9
    have q3_ := q9
    clear q9
    refine xr_aload_n (pc := 65) (i := 0) (hI := d_QuestionReader_appendPart_65) (hi := rfl) (hl := rfl) ?_
    refine xg_getf (pc := 66) (ci := 6) (k := 13) (N := 15) (v9 := 0) (v := (xpl h 32 13)) (T := xF6) (hI := d_QuestionReader_appendPart_66) (hw := w_321) rfl xi6 (Or.inl rfl) (Nat.le_of_ble_eq_true rfl) (Nat.le_of_ble_eq_true rfl) rfl (ft_32 F) rfl (fun f4_ => ?_)
    replace f4_ : -2147483648 ≤ (xpl h 32 13) ∧ (xpl h 32 13) ≤ 2147483647 := f4_
    refine xr_bipush (pc := 69) (hI := d_QuestionReader_appendPart_69) (hr := by decide) (hv := by decide) ?_
    refine xr_icmp_ne (pc := 71) (tgt := 78) (hI := d_QuestionReader_appendPart_71) (ht := by decide) (fun q9 => ?_) (fun q9 => ?_)
    · replace hyp := hyp.2 q9
      have q5_ := q9
      clear q9
      refine xr_iconst (pc := 78) (hI := d_QuestionReader_appendPart_78) (hr := by decide) ?_
      exact hyp
    · replace hyp := hyp.1 q9
      have q5_ := q9
      clear q9
      refine xr_iconst (pc := 74) (hI := d_QuestionReader_appendPart_74) (hr := by decide) ?_
      refine xr_goto (pc := 75) (tgt := 79) (hI := d_QuestionReader_appendPart_75) (ht := by decide) ?_
      exact hyp
theorem d_QuestionReader_appendPart_79 : decode prog_7_method_23_code 79 = .ok (.istore 5, 2) := by decide +kernel
theorem d_QuestionReader_appendPart_81 : decode prog_7_method_23_code 81 = .ok (.aload_n 0, 1) := by decide +kernel
theorem d_QuestionReader_appendPart_82 : decode prog_7_method_23_code 82 = .ok (.new 26, 3) := by decide +kernel
theorem xdf4 : ∀ (G : XG) (k : Nat), k < 13 → defaultValue (xT4 k) = xcv G (xfty 4 k, xdef 4 (k : Int)) := fun G k hk => by
  match k, hk with
  | 0, _ => rfl
  | 1, _ => rfl
  | 2, _ => rfl
  | 3, _ => rfl
  | 4, _ => rfl
  | 5, _ => rfl
  | 6, _ => rfl
  | 7, _ => rfl
  | 8, _ => rfl
  | 9, _ => rfl
  | 10, _ => rfl
  | 11, _ => rfl
  | 12, _ => rfl
  | n + 13, hk => exact absurd hk (by omega)
theorem xd74 : ∀ k, k < 13 → xfty 4 k < 7 := by decide +kernel
theorem d_QuestionReader_appendPart_85 : decode prog_7_method_23_code 85 = .ok (.dup, 1) := by decide +kernel
theorem d_QuestionReader_appendPart_86 : decode prog_7_method_23_code 86 = .ok (.aload_n 0, 1) := by decide +kernel
theorem d_QuestionReader_appendPart_87 : decode prog_7_method_23_code 87 = .ok (.getfield 45, 3) := by decide +kernel
theorem w_314 : Cond.fieldLink "BeaconIndex$QuestionReader" 45 "BeaconIndex$QuestionReader" "partCount" "I" ∈ lw_tbl := List.mem_append_right _ (List.mem_of_getElem? (i := 314) (by decide +kernel))
theorem d_QuestionReader_appendPart_90 : decode prog_7_method_23_code 90 = .ok (.aload_n 0, 1) := by decide +kernel
theorem d_QuestionReader_appendPart_91 : decode prog_7_method_23_code 91 = .ok (.getfield 67, 3) := by decide +kernel
theorem d_QuestionReader_appendPart_94 : decode prog_7_method_23_code 94 = .ok (.iload 4, 2) := by decide +kernel
theorem d_QuestionReader_appendPart_96 : decode prog_7_method_23_code 96 = .ok (.iload 5, 2) := by decide +kernel
theorem d_QuestionReader_appendPart_98 : decode prog_7_method_23_code 98 = .ok (.iload_n 1, 1) := by decide +kernel
theorem d_QuestionReader_appendPart_99 : decode prog_7_method_23_code 99 = .ok (.aload_n 2, 1) := by decide +kernel
theorem d_QuestionReader_appendPart_100 : decode prog_7_method_23_code 100 = .ok (.invokespecial 28, 3) := by decide +kernel
abbrev m_Part_init : XM := (⟨"BeaconIndex$Part", "<init>", "(IIIZI[J)V"⟩, prog_5_method_1_code, 7, none, [])
theorem k_Part_init : xCal m_Part_init 6 := ⟨List.mem_append_right _ (List.mem_of_getElem? (i := 214) (by decide +kernel)), w_10, Nat.le_of_ble_eq_true rfl, ⟨by decide +kernel, by decide +kernel⟩, by decide +kernel, by decide +kernel, rfl⟩
theorem w_213 : Cond.instanceMethod ⟨"BeaconIndex$Part", "<init>", "(IIIZI[J)V"⟩ ∈ lw_tbl := List.mem_append_right _ (List.mem_of_getElem? (i := 213) (by decide +kernel))
theorem w_212 : Cond.methodLink "BeaconIndex$QuestionReader" 28 ⟨"BeaconIndex$Part", "<init>", "(IIIZI[J)V"⟩ ∈ lw_tbl := List.mem_append_right _ (List.mem_of_getElem? (i := 212) (by decide +kernel))
theorem d_Part_init_0 : decode prog_5_method_1_code 0 = .ok (.aload_n 0, 1) := by decide +kernel
theorem d_Part_init_1 : decode prog_5_method_1_code 1 = .ok (.invokespecial 3, 3) := by decide +kernel
theorem w_215 : Cond.methodLink "BeaconIndex$Part" 3 ⟨"java/lang/Object", "<init>", "()V"⟩ ∈ lw_tbl := List.mem_append_right _ (List.mem_of_getElem? (i := 215) (by decide +kernel))
theorem d_Part_init_4 : decode prog_5_method_1_code 4 = .ok (.aload_n 0, 1) := by decide +kernel
theorem d_Part_init_5 : decode prog_5_method_1_code 5 = .ok (.iconst 1, 1) := by decide +kernel
theorem d_Part_init_6 : decode prog_5_method_1_code 6 = .ok (.putfield 9, 3) := by decide +kernel
theorem w_232 : Cond.fieldLink "BeaconIndex$Part" 9 "BeaconIndex$Part" "factor" "I" ∈ lw_tbl := List.mem_append_right _ (List.mem_of_getElem? (i := 232) (by decide +kernel))
theorem d_Part_init_9 : decode prog_5_method_1_code 9 = .ok (.aload_n 0, 1) := by decide +kernel
theorem d_Part_init_10 : decode prog_5_method_1_code 10 = .ok (.iconst 0, 1) := by decide +kernel
theorem d_Part_init_11 : decode prog_5_method_1_code 11 = .ok (.putfield 15, 3) := by decide +kernel
theorem w_235 : Cond.fieldLink "BeaconIndex$Part" 15 "BeaconIndex$Part" "looseness" "I" ∈ lw_tbl := List.mem_append_right _ (List.mem_of_getElem? (i := 235) (by decide +kernel))
theorem d_Part_init_14 : decode prog_5_method_1_code 14 = .ok (.aload_n 0, 1) := by decide +kernel
theorem d_Part_init_15 : decode prog_5_method_1_code 15 = .ok (.lconst 0, 1) := by decide +kernel
theorem d_Part_init_16 : decode prog_5_method_1_code 16 = .ok (.putfield 18, 3) := by decide +kernel
theorem w_238 : Cond.fieldLink "BeaconIndex$Part" 18 "BeaconIndex$Part" "beginning" "J" ∈ lw_tbl := List.mem_append_right _ (List.mem_of_getElem? (i := 238) (by decide +kernel))
theorem d_Part_init_19 : decode prog_5_method_1_code 19 = .ok (.aload_n 0, 1) := by decide +kernel
theorem d_Part_init_20 : decode prog_5_method_1_code 20 = .ok (.iconst 0, 1) := by decide +kernel
theorem d_Part_init_21 : decode prog_5_method_1_code 21 = .ok (.putfield 22, 3) := by decide +kernel
theorem w_241 : Cond.fieldLink "BeaconIndex$Part" 22 "BeaconIndex$Part" "beginningBytes" "I" ∈ lw_tbl := List.mem_append_right _ (List.mem_of_getElem? (i := 241) (by decide +kernel))
theorem d_Part_init_24 : decode prog_5_method_1_code 24 = .ok (.aload_n 0, 1) := by decide +kernel
theorem d_Part_init_25 : decode prog_5_method_1_code 25 = .ok (.iconst 0, 1) := by decide +kernel
theorem d_Part_init_26 : decode prog_5_method_1_code 26 = .ok (.putfield 25, 3) := by decide +kernel
theorem w_244 : Cond.fieldLink "BeaconIndex$Part" 25 "BeaconIndex$Part" "inner" "I" ∈ lw_tbl := List.mem_append_right _ (List.mem_of_getElem? (i := 244) (by decide +kernel))
theorem d_Part_init_29 : decode prog_5_method_1_code 29 = .ok (.aload_n 0, 1) := by decide +kernel
theorem d_Part_init_30 : decode prog_5_method_1_code 30 = .ok (.iconst 0, 1) := by decide +kernel
theorem d_Part_init_31 : decode prog_5_method_1_code 31 = .ok (.putfield 28, 3) := by decide +kernel
theorem w_247 : Cond.fieldLink "BeaconIndex$Part" 28 "BeaconIndex$Part" "titleRarity" "I" ∈ lw_tbl := List.mem_append_right _ (List.mem_of_getElem? (i := 247) (by decide +kernel))
theorem d_Part_init_34 : decode prog_5_method_1_code 34 = .ok (.aload_n 0, 1) := by decide +kernel
theorem d_Part_init_35 : decode prog_5_method_1_code 35 = .ok (.iconst 0, 1) := by decide +kernel
theorem d_Part_init_36 : decode prog_5_method_1_code 36 = .ok (.putfield 31, 3) := by decide +kernel
theorem w_249 : Cond.fieldLink "BeaconIndex$Part" 31 "BeaconIndex$Part" "bodyRarity" "I" ∈ lw_tbl := List.mem_append_right _ (List.mem_of_getElem? (i := 249) (by decide +kernel))
theorem d_Part_init_39 : decode prog_5_method_1_code 39 = .ok (.aload_n 0, 1) := by decide +kernel
theorem d_Part_init_40 : decode prog_5_method_1_code 40 = .ok (.iload_n 1, 1) := by decide +kernel
theorem d_Part_init_41 : decode prog_5_method_1_code 41 = .ok (.putfield 34, 3) := by decide +kernel
theorem w_216 : Cond.fieldLink "BeaconIndex$Part" 34 "BeaconIndex$Part" "number" "I" ∈ lw_tbl := List.mem_append_right _ (List.mem_of_getElem? (i := 216) (by decide +kernel))
theorem d_Part_init_44 : decode prog_5_method_1_code 44 = .ok (.aload_n 0, 1) := by decide +kernel
theorem d_Part_init_45 : decode prog_5_method_1_code 45 = .ok (.iload_n 2, 1) := by decide +kernel
theorem d_Part_init_46 : decode prog_5_method_1_code 46 = .ok (.putfield 37, 3) := by decide +kernel
theorem w_218 : Cond.fieldLink "BeaconIndex$Part" 37 "BeaconIndex$Part" "sign" "I" ∈ lw_tbl := List.mem_append_right _ (List.mem_of_getElem? (i := 218) (by decide +kernel))
theorem d_Part_init_49 : decode prog_5_method_1_code 49 = .ok (.aload_n 0, 1) := by decide +kernel
theorem d_Part_init_50 : decode prog_5_method_1_code 50 = .ok (.iload_n 3, 1) := by decide +kernel
theorem d_Part_init_51 : decode prog_5_method_1_code 51 = .ok (.putfield 40, 3) := by decide +kernel
theorem d_Part_init_54 : decode prog_5_method_1_code 54 = .ok (.aload_n 0, 1) := by decide +kernel
theorem d_Part_init_55 : decode prog_5_method_1_code 55 = .ok (.iload 4, 2) := by decide +kernel
theorem d_Part_init_57 : decode prog_5_method_1_code 57 = .ok (.putfield 43, 3) := by decide +kernel
theorem w_222 : Cond.fieldLink "BeaconIndex$Part" 43 "BeaconIndex$Part" "barred" "Z" ∈ lw_tbl := List.mem_append_right _ (List.mem_of_getElem? (i := 222) (by decide +kernel))
theorem d_Part_init_60 : decode prog_5_method_1_code 60 = .ok (.aload_n 0, 1) := by decide +kernel
theorem d_Part_init_61 : decode prog_5_method_1_code 61 = .ok (.iload 5, 2) := by decide +kernel
theorem d_Part_init_63 : decode prog_5_method_1_code 63 = .ok (.putfield 47, 3) := by decide +kernel
theorem d_Part_init_66 : decode prog_5_method_1_code 66 = .ok (.aload_n 0, 1) := by decide +kernel
theorem d_Part_init_67 : decode prog_5_method_1_code 67 = .ok (.aload 6, 2) := by decide +kernel
theorem d_Part_init_69 : decode prog_5_method_1_code 69 = .ok (.putfield 50, 3) := by decide +kernel
theorem d_Part_init_72 : decode prog_5_method_1_code 72 = .ok (.return_, 1) := by decide +kernel
theorem d_QuestionReader_appendPart_103 : decode prog_7_method_23_code 103 = .ok (.putfield 48, 3) := by decide +kernel
theorem xfk_32_7 : xfree 32 7 = true := by decide +kernel
theorem d_QuestionReader_appendPart_106 : decode prog_7_method_23_code 106 = .ok (.aload_n 0, 1) := by decide +kernel
theorem d_QuestionReader_appendPart_107 : decode prog_7_method_23_code 107 = .ok (.dup, 1) := by decide +kernel
theorem d_QuestionReader_appendPart_108 : decode prog_7_method_23_code 108 = .ok (.getfield 45, 3) := by decide +kernel
theorem d_QuestionReader_appendPart_111 : decode prog_7_method_23_code 111 = .ok (.iconst 1, 1) := by decide +kernel
theorem d_QuestionReader_appendPart_112 : decode prog_7_method_23_code 112 = .ok (.iadd, 1) := by decide +kernel
theorem d_QuestionReader_appendPart_113 : decode prog_7_method_23_code 113 = .ok (.putfield 45, 3) := by decide +kernel
theorem xfk_32_6 : xfree 32 6 = true := by decide +kernel
theorem v_QuestionReader_appendPart_79 {G : XG} {d : Nat} {h : XH} {Q : XV → XH → Prop} {X : Nat → XH → Prop} {x1 x2 x3 x4 s0 : Int} (F : xFix h) (hyp : xnx h + 1 ≤ xKC ∧ xsl h + 13 ≤ xKS ∧ (0 ≤ s0 ∧ s0 ≤ 1) ∧ xiR ((xpl h 32 6) + 1) ∧ (xFix (xst (xst (xst (xst (xst (xst (xst (xst (xst (xst (xst (xst (xst (xst (xst (xmk h 4 13 (xdef 4)) (xnx h) 6 1) (xnx h) 7 0) (xnx h) 8 0) (xnx h) 9 0) (xnx h) 10 0) (xnx h) 11 0) (xnx h) 12 0) (xnx h) 0 (xpl h 32 6)) (xnx h) 1 (xpl h 32 13)) (xnx h) 2 x4) (xnx h) 3 s0) (xnx h) 5 x1) (xnx h) 4 x2) 32 7 (xnx h)) 32 6 ((xpl h 32 6) + 1)) → xwp G m_QuestionReader_appendPart (d + 8) 116 [xR 32, xZ, xZ, xR x3, xZ, xZ] [] (xst (xst (xst (xst (xst (xst (xst (xst (xst (xst (xst (xst (xst (xst (xst (xmk h 4 13 (xdef 4)) (xnx h) 6 1) (xnx h) 7 0) (xnx h) 8 0) (xnx h) 9 0) (xnx h) 10 0) (xnx h) 11 0) (xnx h) 12 0) (xnx h) 0 (xpl h 32 6)) (xnx h) 1 (xpl h 32 13)) (xnx h) 2 x4) (xnx h) 3 s0) (xnx h) 5 x1) (xnx h) 4 x2) 32 7 (xnx h)) 32 6 ((xpl h 32 6) + 1)) Q X)) : xwp G m_QuestionReader_appendPart (d + 8) 79 [xR 32, xI x1, xR x2, xR x3, xI x4, xZ] [xI s0] h Q X := by
  have hnx9 : (93 : Int) ≤ xnx h := F.2.2
  refine xr_okL (fun hl9 => ?_)
  have r_x1 : -2147483648 ≤ x1 ∧ x1 ≤ 2147483647 := hl9 (xI x1) (.tail _ (.head _)) (Nat.le_of_ble_eq_true rfl)
  have r_x4 : -2147483648 ≤ x4 ∧ x4 ≤ 2147483647 := hl9 (xI x4) (.tail _ (.tail _ (.tail _ (.tail _ (.head _))))) (Nat.le_of_ble_eq_true rfl)
  refine xr_okS (fun hs9 => ?_)
  have r_s0 : -2147483648 ≤ s0 ∧ s0 ≤ 2147483647 := hs9 (xI s0) (.head _)
  refine xr_istore (pc := 79) (i := 5) (L9 := [xR 32, xI x1, xR x2, xR x3, xI x4, xI s0]) (hI := d_QuestionReader_appendPart_79) (hn := Nat.le_of_ble_eq_true rfl) (hL9 := rfl) ?_
  refine xr_aload_n (pc := 81) (i := 0) (hI := d_QuestionReader_appendPart_81) (hi := rfl) (hl := rfl) ?_
  obtain ⟨c8, c9, hyp⟩ := hyp
  refine xr_new (pc := 82) (ci := 4) (N := 13) (T := xF4) (tF := xT4) (hI := d_QuestionReader_appendPart_82) w_210 xj4 w_10 rfl xi4 xt4 (Nat.le_of_ble_eq_true rfl) xd74 xdf4 c8 c9 ?_
  have F1_ : xFix (xmk h 4 13 (xdef 4)) := F.mk
  have f2_ : (93 : Int) ≤ xnx h := F.nx
  have f3_ : (93 : Int) ≤ xnx (xmk h 4 13 (xdef 4)) := F1_.nx
  have f4_ : xnx (xmk h 4 13 (xdef 4)) = xnx h + 1 := xnx_mk _ _ _ _
  show xwp G m_QuestionReader_appendPart (d + 8) 85 [xR 32, xI x1, xR x2, xR x3, xI x4, xI s0] [xR (xnx h), xR 32] (xmk h 4 13 (xdef 4)) _ _
  refine xr_dup (pc := 85) (hI := d_QuestionReader_appendPart_85) (hv := rfl) ?_
  refine xr_aload_n (pc := 86) (i := 0) (hI := d_QuestionReader_appendPart_86) (hi := rfl) (hl := rfl) ?_
  refine xg_getf (pc := 87) (ci := 6) (k := 6) (N := 15) (v9 := 0) (v := (xpl h 32 6)) (T := xF6) (hI := d_QuestionReader_appendPart_87) (hw := w_314) rfl xi6 (Or.inl rfl) (Nat.le_of_ble_eq_true rfl) (Nat.le_of_ble_eq_true rfl) rfl (ft_32 F1_) (xpl_old (by clear hyp; first | omega | (simp only [xnx_st, xnx_mk]; omega))) (fun f5_ => ?_)
  replace f5_ : -2147483648 ≤ (xpl h 32 6) ∧ (xpl h 32 6) ≤ 2147483647 := f5_
  refine xr_aload_n (pc := 90) (i := 0) (hI := d_QuestionReader_appendPart_90) (hi := rfl) (hl := rfl) ?_
  refine xg_getf (pc := 91) (ci := 6) (k := 13) (N := 15) (v9 := 0) (v := (xpl h 32 13)) (T := xF6) (hI := d_QuestionReader_appendPart_91) (hw := w_321) rfl xi6 (Or.inl rfl) (Nat.le_of_ble_eq_true rfl) (Nat.le_of_ble_eq_true rfl) rfl (ft_32 F1_) (xpl_old (by clear hyp; first | omega | (simp only [xnx_st, xnx_mk]; omega))) (fun f6_ => ?_)
  replace f6_ : -2147483648 ≤ (xpl h 32 13) ∧ (xpl h 32 13) ≤ 2147483647 := f6_
  refine xr_iload (pc := 94) (i := 4) (hI := d_QuestionReader_appendPart_94) (hl := rfl) ?_
  refine xr_iload (pc := 96) (i := 5) (hI := d_QuestionReader_appendPart_96) (hl := rfl) ?_
  refine xr_iload_n (pc := 98) (i := 1) (hI := d_QuestionReader_appendPart_98) (hi := rfl) (hl := rfl) ?_
  refine xr_aload_n (pc := 99) (i := 2) (hI := d_QuestionReader_appendPart_99) (hi := rfl) (hl := rfl) ?_
  refine xq_callI (pc := 100) (index := 28) (K := m_Part_init) (As := [xI (xpl h 32 6), xI (xpl h 32 13), xI x4, xI s0, xI x1, xR x2]) (S := [xR (xnx h), xR 32]) (L0 := [xR (xnx h), xI (xpl h 32 6), xI (xpl h 32 13), xI x4, xI s0, xI x1, xR x2]) (hI := d_QuestionReader_appendPart_100) (hK := k_Part_init) (hlk := w_212) (hnoM := rfl) (hS8 := Nat.le_of_ble_eq_true rfl) (hb0 := (by clear hyp; omega)) (hinst := w_213) (hname := rfl) (hret := rfl) (hlen := Nat.le_of_ble_eq_true rfl) (hst := rfl) (hL0 := rfl)  ?_
  refine xr_aload_n (pc := 0) (i := 0) (hI := d_Part_init_0) (hi := rfl) (hl := rfl) ?_
  refine xr_objInit (pc := 1) (hI := d_Part_init_1) w_215 w_46 w_objc (by clear hyp; omega) (Nat.le_add_left_of_le (by decide)) (Nat.le_of_ble_eq_true rfl) ?_
  refine xr_aload_n (pc := 4) (i := 0) (hI := d_Part_init_4) (hi := rfl) (hl := rfl) ?_
  refine xr_iconst (pc := 5) (hI := d_Part_init_5) (hr := by decide) ?_
  refine xr_putf (pc := 6) (ci := 4) (k := 6) (N := 13) (v9 := 0) (T := xF4) (tF := xT4) (hI := d_Part_init_6) (hw := w_232) rfl xi4 xt4 xn4 (Or.inl rfl) (Nat.le_of_ble_eq_true rfl) (Nat.le_of_ble_eq_true rfl) rfl xfit_i rfl (show xtg (xmk h 4 13 (xdef 4)) (xnx h) = 4 from xtg_new rfl) (by clear hyp; omega) (fun z => z) ?_
  have F7_ : xFix (xst (xmk h 4 13 (xdef 4)) (xnx h) 6 1) := F1_.stD (by clear hyp; omega)
  refine xr_aload_n (pc := 9) (i := 0) (hI := d_Part_init_9) (hi := rfl) (hl := rfl) ?_
  refine xr_iconst (pc := 10) (hI := d_Part_init_10) (hr := by decide) ?_
  refine xr_putf (pc := 11) (ci := 4) (k := 7) (N := 13) (v9 := 0) (T := xF4) (tF := xT4) (hI := d_Part_init_11) (hw := w_235) rfl xi4 xt4 xn4 (Or.inl rfl) (Nat.le_of_ble_eq_true rfl) (Nat.le_of_ble_eq_true rfl) rfl xfit_i rfl (show xtg (xmk h 4 13 (xdef 4)) (xnx h) = 4 from xtg_new rfl) (by clear hyp; omega) (fun z => z) ?_
  have F8_ : xFix (xst (xst (xmk h 4 13 (xdef 4)) (xnx h) 6 1) (xnx h) 7 0) := F7_.stD (by clear hyp; omega)
  refine xr_aload_n (pc := 14) (i := 0) (hI := d_Part_init_14) (hi := rfl) (hl := rfl) ?_
  refine xr_lconst (pc := 15) (z := 0) (hI := d_Part_init_15) (hr := by decide) (hv := by decide) ?_
  refine xr_putf (pc := 16) (ci := 4) (k := 8) (N := 13) (v9 := 1) (T := xF4) (tF := xT4) (hI := d_Part_init_16) (hw := w_238) rfl xi4 xt4 xn4 (Or.inl rfl) (Nat.le_of_ble_eq_true rfl) (Nat.le_of_ble_eq_true rfl) rfl xfit_l rfl (show xtg (xmk h 4 13 (xdef 4)) (xnx h) = 4 from xtg_new rfl) (by clear hyp; omega) (fun z => z) ?_
  have F9_ : xFix (xst (xst (xst (xmk h 4 13 (xdef 4)) (xnx h) 6 1) (xnx h) 7 0) (xnx h) 8 0) := F8_.stD (by clear hyp; omega)
  refine xr_aload_n (pc := 19) (i := 0) (hI := d_Part_init_19) (hi := rfl) (hl := rfl) ?_
  refine xr_iconst (pc := 20) (hI := d_Part_init_20) (hr := by decide) ?_
  refine xr_putf (pc := 21) (ci := 4) (k := 9) (N := 13) (v9 := 0) (T := xF4) (tF := xT4) (hI := d_Part_init_21) (hw := w_241) rfl xi4 xt4 xn4 (Or.inl rfl) (Nat.le_of_ble_eq_true rfl) (Nat.le_of_ble_eq_true rfl) rfl xfit_i rfl (show xtg (xmk h 4 13 (xdef 4)) (xnx h) = 4 from xtg_new rfl) (by clear hyp; omega) (fun z => z) ?_
  have F10_ : xFix (xst (xst (xst (xst (xmk h 4 13 (xdef 4)) (xnx h) 6 1) (xnx h) 7 0) (xnx h) 8 0) (xnx h) 9 0) := F9_.stD (by clear hyp; omega)
  refine xr_aload_n (pc := 24) (i := 0) (hI := d_Part_init_24) (hi := rfl) (hl := rfl) ?_
  refine xr_iconst (pc := 25) (hI := d_Part_init_25) (hr := by decide) ?_
  refine xr_putf (pc := 26) (ci := 4) (k := 10) (N := 13) (v9 := 0) (T := xF4) (tF := xT4) (hI := d_Part_init_26) (hw := w_244) rfl xi4 xt4 xn4 (Or.inl rfl) (Nat.le_of_ble_eq_true rfl) (Nat.le_of_ble_eq_true rfl) rfl xfit_i rfl (show xtg (xmk h 4 13 (xdef 4)) (xnx h) = 4 from xtg_new rfl) (by clear hyp; omega) (fun z => z) ?_
  have F11_ : xFix (xst (xst (xst (xst (xst (xmk h 4 13 (xdef 4)) (xnx h) 6 1) (xnx h) 7 0) (xnx h) 8 0) (xnx h) 9 0) (xnx h) 10 0) := F10_.stD (by clear hyp; omega)
  refine xr_aload_n (pc := 29) (i := 0) (hI := d_Part_init_29) (hi := rfl) (hl := rfl) ?_
  refine xr_iconst (pc := 30) (hI := d_Part_init_30) (hr := by decide) ?_
  refine xr_putf (pc := 31) (ci := 4) (k := 11) (N := 13) (v9 := 0) (T := xF4) (tF := xT4) (hI := d_Part_init_31) (hw := w_247) rfl xi4 xt4 xn4 (Or.inl rfl) (Nat.le_of_ble_eq_true rfl) (Nat.le_of_ble_eq_true rfl) rfl xfit_i rfl (show xtg (xmk h 4 13 (xdef 4)) (xnx h) = 4 from xtg_new rfl) (by clear hyp; omega) (fun z => z) ?_
  have F12_ : xFix (xst (xst (xst (xst (xst (xst (xmk h 4 13 (xdef 4)) (xnx h) 6 1) (xnx h) 7 0) (xnx h) 8 0) (xnx h) 9 0) (xnx h) 10 0) (xnx h) 11 0) := F11_.stD (by clear hyp; omega)
  refine xr_aload_n (pc := 34) (i := 0) (hI := d_Part_init_34) (hi := rfl) (hl := rfl) ?_
  refine xr_iconst (pc := 35) (hI := d_Part_init_35) (hr := by decide) ?_
  refine xr_putf (pc := 36) (ci := 4) (k := 12) (N := 13) (v9 := 0) (T := xF4) (tF := xT4) (hI := d_Part_init_36) (hw := w_249) rfl xi4 xt4 xn4 (Or.inl rfl) (Nat.le_of_ble_eq_true rfl) (Nat.le_of_ble_eq_true rfl) rfl xfit_i rfl (show xtg (xmk h 4 13 (xdef 4)) (xnx h) = 4 from xtg_new rfl) (by clear hyp; omega) (fun z => z) ?_
  have F13_ : xFix (xst (xst (xst (xst (xst (xst (xst (xmk h 4 13 (xdef 4)) (xnx h) 6 1) (xnx h) 7 0) (xnx h) 8 0) (xnx h) 9 0) (xnx h) 10 0) (xnx h) 11 0) (xnx h) 12 0) := F12_.stD (by clear hyp; omega)
  refine xr_aload_n (pc := 39) (i := 0) (hI := d_Part_init_39) (hi := rfl) (hl := rfl) ?_
  refine xr_iload_n (pc := 40) (i := 1) (hI := d_Part_init_40) (hi := rfl) (hl := rfl) ?_
  refine xr_putfF (pc := 41) (ci := 4) (k := 0) (N := 13) (v9 := 0) (T := xF4) (tF := xT4) (hI := d_Part_init_41) (hw := w_216) rfl xi4 xt4 xn4 (Or.inl rfl) (Nat.le_of_ble_eq_true rfl) (Nat.le_of_ble_eq_true rfl) rfl xfit_i rfl rfl rfl (show xtg (xmk h 4 13 (xdef 4)) (xnx h) = 4 from xtg_new rfl) (by clear hyp; omega) (fun z => z) ?_
  have F14_ : xFix (xst (xst (xst (xst (xst (xst (xst (xst (xmk h 4 13 (xdef 4)) (xnx h) 6 1) (xnx h) 7 0) (xnx h) 8 0) (xnx h) 9 0) (xnx h) 10 0) (xnx h) 11 0) (xnx h) 12 0) (xnx h) 0 (xpl h 32 6)) := F13_.stD (by clear hyp; omega)
  refine xr_aload_n (pc := 44) (i := 0) (hI := d_Part_init_44) (hi := rfl) (hl := rfl) ?_
  refine xr_iload_n (pc := 45) (i := 2) (hI := d_Part_init_45) (hi := rfl) (hl := rfl) ?_
  refine xr_putfF (pc := 46) (ci := 4) (k := 1) (N := 13) (v9 := 0) (T := xF4) (tF := xT4) (hI := d_Part_init_46) (hw := w_218) rfl xi4 xt4 xn4 (Or.inl rfl) (Nat.le_of_ble_eq_true rfl) (Nat.le_of_ble_eq_true rfl) rfl xfit_i rfl rfl rfl (show xtg (xmk h 4 13 (xdef 4)) (xnx h) = 4 from xtg_new rfl) (by clear hyp; omega) (fun z => z) ?_
  have F15_ : xFix (xst (xst (xst (xst (xst (xst (xst (xst (xst (xmk h 4 13 (xdef 4)) (xnx h) 6 1) (xnx h) 7 0) (xnx h) 8 0) (xnx h) 9 0) (xnx h) 10 0) (xnx h) 11 0) (xnx h) 12 0) (xnx h) 0 (xpl h 32 6)) (xnx h) 1 (xpl h 32 13)) := F14_.stD (by clear hyp; omega)
  refine xr_aload_n (pc := 49) (i := 0) (hI := d_Part_init_49) (hi := rfl) (hl := rfl) ?_
  refine xr_iload_n (pc := 50) (i := 3) (hI := d_Part_init_50) (hi := rfl) (hl := rfl) ?_
  refine xr_putfF (pc := 51) (ci := 4) (k := 2) (N := 13) (v9 := 0) (T := xF4) (tF := xT4) (hI := d_Part_init_51) (hw := w_220) rfl xi4 xt4 xn4 (Or.inl rfl) (Nat.le_of_ble_eq_true rfl) (Nat.le_of_ble_eq_true rfl) rfl xfit_i rfl rfl rfl (show xtg (xmk h 4 13 (xdef 4)) (xnx h) = 4 from xtg_new rfl) (by clear hyp; omega) (fun z => z) ?_
  have F16_ : xFix (xst (xst (xst (xst (xst (xst (xst (xst (xst (xst (xmk h 4 13 (xdef 4)) (xnx h) 6 1) (xnx h) 7 0) (xnx h) 8 0) (xnx h) 9 0) (xnx h) 10 0) (xnx h) 11 0) (xnx h) 12 0) (xnx h) 0 (xpl h 32 6)) (xnx h) 1 (xpl h 32 13)) (xnx h) 2 x4) := F15_.stD (by clear hyp; omega)
  refine xr_aload_n (pc := 54) (i := 0) (hI := d_Part_init_54) (hi := rfl) (hl := rfl) ?_
  refine xr_iload (pc := 55) (i := 4) (hI := d_Part_init_55) (hl := rfl) ?_
  obtain ⟨c17_, hyp⟩ := hyp
  refine xr_putfF (pc := 57) (ci := 4) (k := 3) (N := 13) (v9 := 0) (T := xF4) (tF := xT4) (hI := d_Part_init_57) (hw := w_222) rfl xi4 xt4 xn4 (Or.inl rfl) (Nat.le_of_ble_eq_true rfl) (Nat.le_of_ble_eq_true rfl) rfl xfit_z rfl rfl rfl (show xtg (xmk h 4 13 (xdef 4)) (xnx h) = 4 from xtg_new rfl) (by clear hyp; omega) (fun _ => c17_) ?_
  have F18_ : xFix (xst (xst (xst (xst (xst (xst (xst (xst (xst (xst (xst (xmk h 4 13 (xdef 4)) (xnx h) 6 1) (xnx h) 7 0) (xnx h) 8 0) (xnx h) 9 0) (xnx h) 10 0) (xnx h) 11 0) (xnx h) 12 0) (xnx h) 0 (xpl h 32 6)) (xnx h) 1 (xpl h 32 13)) (xnx h) 2 x4) (xnx h) 3 s0) := F16_.stD (by clear hyp; omega)
  refine xr_aload_n (pc := 60) (i := 0) (hI := d_Part_init_60) (hi := rfl) (hl := rfl) ?_
  refine xr_iload (pc := 61) (i := 5) (hI := d_Part_init_61) (hl := rfl) ?_
  refine xr_putf (pc := 63) (ci := 4) (k := 5) (N := 13) (v9 := 0) (T := xF4) (tF := xT4) (hI := d_Part_init_63) (hw := w_228) rfl xi4 xt4 xn4 (Or.inl rfl) (Nat.le_of_ble_eq_true rfl) (Nat.le_of_ble_eq_true rfl) rfl xfit_i rfl (show xtg (xmk h 4 13 (xdef 4)) (xnx h) = 4 from xtg_new rfl) (by clear hyp; omega) (fun z => z) ?_
  have F19_ : xFix (xst (xst (xst (xst (xst (xst (xst (xst (xst (xst (xst (xst (xmk h 4 13 (xdef 4)) (xnx h) 6 1) (xnx h) 7 0) (xnx h) 8 0) (xnx h) 9 0) (xnx h) 10 0) (xnx h) 11 0) (xnx h) 12 0) (xnx h) 0 (xpl h 32 6)) (xnx h) 1 (xpl h 32 13)) (xnx h) 2 x4) (xnx h) 3 s0) (xnx h) 5 x1) := F18_.stD (by clear hyp; omega)
  refine xr_aload_n (pc := 66) (i := 0) (hI := d_Part_init_66) (hi := rfl) (hl := rfl) ?_
  refine xr_aload (pc := 67) (i := 6) (hI := d_Part_init_67) (hl := rfl) ?_
  refine xr_putfF (pc := 69) (ci := 4) (k := 4) (N := 13) (v9 := 2) (T := xF4) (tF := xT4) (hI := d_Part_init_69) (hw := w_225) rfl xi4 xt4 xn4 (Or.inl rfl) (Nat.le_of_ble_eq_true rfl) (Nat.le_of_ble_eq_true rfl) rfl (xfit_a _) rfl rfl rfl (show xtg (xmk h 4 13 (xdef 4)) (xnx h) = 4 from xtg_new rfl) (by clear hyp; omega) (fun z => z) ?_
  have F20_ : xFix (xst (xst (xst (xst (xst (xst (xst (xst (xst (xst (xst (xst (xst (xmk h 4 13 (xdef 4)) (xnx h) 6 1) (xnx h) 7 0) (xnx h) 8 0) (xnx h) 9 0) (xnx h) 10 0) (xnx h) 11 0) (xnx h) 12 0) (xnx h) 0 (xpl h 32 6)) (xnx h) 1 (xpl h 32 13)) (xnx h) 2 x4) (xnx h) 3 s0) (xnx h) 5 x1) (xnx h) 4 x2) := F19_.stD (by clear hyp; omega)
  refine xr_return (S := []) (pc := 72) (hI := d_Part_init_72) (hr := rfl) ?_
  show xwp G m_QuestionReader_appendPart (d + 8) 103 [xR 32, xI x1, xR x2, xR x3, xI x4, xI s0] [xR (xnx h), xR 32] _ _ _
  refine xr_putf (pc := 103) (ci := 6) (k := 7) (N := 15) (v9 := 2) (T := xF6) (tF := xT6) (hI := d_QuestionReader_appendPart_103) (hw := w_315) rfl xi6 xt6 xn6 (Or.inl rfl) (Nat.le_of_ble_eq_true rfl) (Nat.le_of_ble_eq_true rfl) rfl (xfit_o _) rfl (ft_32 F20_) (by decide) (fun z => z) ?_
  have F21_ : xFix (xst (xst (xst (xst (xst (xst (xst (xst (xst (xst (xst (xst (xst (xst (xmk h 4 13 (xdef 4)) (xnx h) 6 1) (xnx h) 7 0) (xnx h) 8 0) (xnx h) 9 0) (xnx h) 10 0) (xnx h) 11 0) (xnx h) 12 0) (xnx h) 0 (xpl h 32 6)) (xnx h) 1 (xpl h 32 13)) (xnx h) 2 x4) (xnx h) 3 s0) (xnx h) 5 x1) (xnx h) 4 x2) 32 7 (xnx h)) := F20_.stL xfk_32_7
  refine xr_aload_n (pc := 106) (i := 0) (hI := d_QuestionReader_appendPart_106) (hi := rfl) (hl := rfl) ?_
  refine xr_dup (pc := 107) (hI := d_QuestionReader_appendPart_107) (hv := rfl) ?_
  refine xg_getf (pc := 108) (ci := 6) (k := 6) (N := 15) (v9 := 0) (v := (xpl h 32 6)) (T := xF6) (hI := d_QuestionReader_appendPart_108) (hw := w_314) rfl xi6 (Or.inl rfl) (Nat.le_of_ble_eq_true rfl) (Nat.le_of_ble_eq_true rfl) rfl (ft_32 F21_) (Eq.trans (xpl_ok (by decide)) (Eq.trans (xpl_oa (by clear hyp; omega)) (Eq.trans (xpl_oa (by clear hyp; omega)) (Eq.trans (xpl_oa (by clear hyp; omega)) (Eq.trans (xpl_oa (by clear hyp; omega)) (Eq.trans (xpl_oa (by clear hyp; omega)) (Eq.trans (xpl_oa (by clear hyp; omega)) (Eq.trans (xpl_oa (by clear hyp; omega)) (Eq.trans (xpl_oa (by clear hyp; omega)) (Eq.trans (xpl_oa (by clear hyp; omega)) (Eq.trans (xpl_oa (by clear hyp; omega)) (Eq.trans (xpl_oa (by clear hyp; omega)) (Eq.trans (xpl_oa (by clear hyp; omega)) (Eq.trans (xpl_oa (by clear hyp; omega)) (xpl_old (by clear hyp; first | omega | (simp only [xnx_st, xnx_mk]; omega))))))))))))))))) (fun f22_ => ?_)
  replace f22_ : -2147483648 ≤ (xpl h 32 6) ∧ (xpl h 32 6) ≤ 2147483647 := f22_
  refine xr_iconst (pc := 111) (hI := d_QuestionReader_appendPart_111) (hr := by decide) ?_
  obtain ⟨c9, hyp⟩ := hyp
  refine xr_iadd (pc := 112) (hI := d_QuestionReader_appendPart_112) (hr := c9) ?_
  refine xr_putf (pc := 113) (ci := 6) (k := 6) (N := 15) (v9 := 0) (T := xF6) (tF := xT6) (hI := d_QuestionReader_appendPart_113) (hw := w_314) rfl xi6 xt6 xn6 (Or.inl rfl) (Nat.le_of_ble_eq_true rfl) (Nat.le_of_ble_eq_true rfl) rfl xfit_i rfl (ft_32 F21_) (by decide) (fun z => z) ?_
  have F23_ : xFix (xst (xst (xst (xst (xst (xst (xst (xst (xst (xst (xst (xst (xst (xst (xst (xmk h 4 13 (xdef 4)) (xnx h) 6 1) (xnx h) 7 0) (xnx h) 8 0) (xnx h) 9 0) (xnx h) 10 0) (xnx h) 11 0) (xnx h) 12 0) (xnx h) 0 (xpl h 32 6)) (xnx h) 1 (xpl h 32 13)) (xnx h) 2 x4) (xnx h) 3 s0) (xnx h) 5 x1) (xnx h) 4 x2) 32 7 (xnx h)) 32 6 ((xpl h 32 6) + 1)) := F21_.stL xfk_32_6
  exact xr_drop (L9 := [xR 32, xZ, xZ, xR x3, xZ, xZ]) (xdrs (xdrz (xdrz (xdrs (xdrz (xdrz xdr0)))))) (hyp F23_)
theorem d_QuestionReader_appendPart_116 : decode prog_7_method_23_code 116 = .ok (.aload_n 3, 1) := by decide +kernel
theorem d_QuestionReader_appendPart_117 : decode prog_7_method_23_code 117 = .ok (.getfield 219, 3) := by decide +kernel
theorem w_246 : Cond.fieldLink "BeaconIndex$QuestionReader" 219 "BeaconIndex$Part" "inner" "I" ∈ lw_tbl := List.mem_append_right _ (List.mem_of_getElem? (i := 246) (by decide +kernel))
theorem d_QuestionReader_appendPart_120 : decode prog_7_method_23_code 120 = .ok (.aload_n 0, 1) := by decide +kernel
theorem d_QuestionReader_appendPart_121 : decode prog_7_method_23_code 121 = .ok (.getfield 42, 3) := by decide +kernel
theorem w_312 : Cond.fieldLink "BeaconIndex$QuestionReader" 42 "BeaconIndex$QuestionReader" "draft" "Ljava/util/ArrayList;" ∈ lw_tbl := List.mem_append_right _ (List.mem_of_getElem? (i := 312) (by decide +kernel))
theorem d_QuestionReader_appendPart_124 : decode prog_7_method_23_code 124 = .ok (.invokevirtual 152, 3) := by decide +kernel
theorem d_QuestionReader_appendPart_127 : decode prog_7_method_23_code 127 = .ok (.if_icmp .ge 28, 3) := by decide +kernel
theorem d_QuestionReader_appendPart_155 : decode prog_7_method_23_code 155 = .ok (.return_, 1) := by decide +kernel
theorem d_QuestionReader_appendPart_130 : decode prog_7_method_23_code 130 = .ok (.aload_n 0, 1) := by decide +kernel
theorem d_QuestionReader_appendPart_131 : decode prog_7_method_23_code 131 = .ok (.getfield 42, 3) := by decide +kernel
theorem d_QuestionReader_appendPart_134 : decode prog_7_method_23_code 134 = .ok (.aload_n 3, 1) := by decide +kernel
theorem d_QuestionReader_appendPart_135 : decode prog_7_method_23_code 135 = .ok (.getfield 219, 3) := by decide +kernel
theorem d_QuestionReader_appendPart_138 : decode prog_7_method_23_code 138 = .ok (.invokevirtual 229, 3) := by decide +kernel
theorem d_QuestionReader_appendPart_141 : decode prog_7_method_23_code 141 = .ok (.checkcast 35, 3) := by decide +kernel
theorem w_278 : Cond.classLink "BeaconIndex$QuestionReader" 35 "BeaconIndex$Question" ∈ lw_tbl := List.mem_append_right _ (List.mem_of_getElem? (i := 278) (by decide +kernel))
theorem d_QuestionReader_appendPart_144 : decode prog_7_method_23_code 144 = .ok (.getfield 239, 3) := by decide +kernel
theorem w_289 : Cond.fieldLink "BeaconIndex$QuestionReader" 239 "BeaconIndex$Question" "parts" "Ljava/util/ArrayList;" ∈ lw_tbl := List.mem_append_right _ (List.mem_of_getElem? (i := 289) (by decide +kernel))
theorem d_QuestionReader_appendPart_147 : decode prog_7_method_23_code 147 = .ok (.aload_n 0, 1) := by decide +kernel
theorem d_QuestionReader_appendPart_148 : decode prog_7_method_23_code 148 = .ok (.getfield 48, 3) := by decide +kernel
theorem d_QuestionReader_appendPart_151 : decode prog_7_method_23_code 151 = .ok (.invokevirtual 73, 3) := by decide +kernel
theorem w_956 : Cond.methodLink "BeaconIndex$QuestionReader" 73 ⟨"java/util/ArrayList", "add", "(Ljava/lang/Object;)Z"⟩ ∈ lw_tbl := List.mem_append_right _ (List.mem_of_getElem? (i := 956) (by decide +kernel))
theorem v_QuestionReader_appendPart_116 {G : XG} {d : Nat} {h : XH} {Q : XV → XH → Prop} {X : Nat → XH → Prop} {x3 : Int} (F : xFix h) (hyp : xtg h x3 = 4 ∧ xtg h (xpl h 32 5) = 13 ∧ alok h (xpl h 32 5) ∧ (((als h (xpl h 32 5)) ≤ (xpl h x3 10) → (Q xN h)) ∧ (¬ (als h (xpl h 32 5)) ≤ (xpl h x3 10) → 0 ≤ (xpl h x3 10) ∧ xtg h (alg h (xpl h 32 5) (xpl h x3 10)) = 5 ∧ xtg h (xpl h (alg h (xpl h 32 5) (xpl h x3 10)) 0) = 13 ∧ (xwp G m_ArrayList_add_Object (d + 7) 0 [xR (xpl h (alg h (xpl h 32 5) (xpl h x3 10)) 0), xR (xpl h 32 7)] [] h (fun v9 h9 => xwp G m_QuestionReader_appendPart (d + 8) 154 [xZ, xZ, xZ, xZ, xZ, xZ] (xpush v9 []) h9 Q X) X)))) : xwp G m_QuestionReader_appendPart (d + 8) 116 [xR 32, xZ, xZ, xR x3, xZ, xZ] [] h Q X := by
  have hnx9 : (93 : Int) ≤ xnx h := F.2.2
  refine xr_aload_n (pc := 116) (i := 3) (hI := d_QuestionReader_appendPart_116) (hi := rfl) (hl := rfl) ?_
  obtain ⟨c9, hyp⟩ := hyp
  have t1_ := c9
  clear c9
  refine xg_getf (pc := 117) (ci := 4) (k := 10) (N := 13) (v9 := 0) (v := (xpl h x3 10)) (T := xF4) (hI := d_QuestionReader_appendPart_117) (hw := w_246) rfl xi4 (Or.inl rfl) (Nat.le_of_ble_eq_true rfl) (Nat.le_of_ble_eq_true rfl) rfl t1_ rfl (fun f2_ => ?_)
  replace f2_ : -2147483648 ≤ (xpl h x3 10) ∧ (xpl h x3 10) ≤ 2147483647 := f2_
  refine xr_aload_n (pc := 120) (i := 0) (hI := d_QuestionReader_appendPart_120) (hi := rfl) (hl := rfl) ?_
  refine xg_getf (pc := 121) (ci := 6) (k := 5) (N := 15) (v9 := 2) (v := (xpl h 32 5)) (T := xF6) (hI := d_QuestionReader_appendPart_121) (hw := w_312) rfl xi6 (Or.inl rfl) (Nat.le_of_ble_eq_true rfl) (Nat.le_of_ble_eq_true rfl) rfl (ft_32 F) rfl (fun f3_ => ?_)
  clear f3_
  obtain ⟨c9, hyp⟩ := hyp
  have t4_ := c9
  clear c9
  obtain ⟨c5_, hyp⟩ := hyp
  refine xq_callV (pc := 124) (index := 152) (K := m_ArrayList_size) (As := []) (S := [xI (xpl h x3 10)]) (L0 := [xR (xpl h 32 5)]) (hI := d_QuestionReader_appendPart_124) (hK := k_ArrayList_size) (hlk := w_1040) (hnoM := rfl) (hS8 := Nat.le_of_ble_eq_true rfl) (ci := 13) (N := 3) (C := "java/util/ArrayList") (T := xF13) (hc := rfl) (hci := Nat.le_of_ble_eq_true rfl) (htb := t4_) (hinst := w_465) (hsel := w_466) (hlen := Nat.le_of_ble_eq_true rfl) (hst := rfl) (hL0 := rfl)  (p_AL_size F c5_ ?_)
  show xwp G m_QuestionReader_appendPart (d + 8) 127 [xR 32, xZ, xZ, xR x3, xZ, xZ] [xI (als h (xpl h 32 5)), xI (xpl h x3 10)] _ _ _
  have f6_ : 0 ≤ (als h (xpl h 32 5)) ∧ (als h (xpl h 32 5)) ≤ 1000000 := ⟨c5_.2.2.1, c5_.2.2.2.2⟩
  refine xr_icmp_ge (pc := 127) (tgt := 155) (hI := d_QuestionReader_appendPart_127) (ht := by decide) (fun q9 => ?_) (fun q9 => ?_)
  · replace hyp := hyp.1 q9
    have q7_ := q9
    clear q9
    refine xr_return (S := []) (pc := 155) (hI := d_QuestionReader_appendPart_155) (hr := rfl) ?_
    exact hyp
  · replace hyp := hyp.2 q9
    have q7_ := q9
    clear q9
    refine xr_aload_n (pc := 130) (i := 0) (hI := d_QuestionReader_appendPart_130) (hi := rfl) (hl := rfl) ?_
    refine xg_getf (pc := 131) (ci := 6) (k := 5) (N := 15) (v9 := 2) (v := (xpl h 32 5)) (T := xF6) (hI := d_QuestionReader_appendPart_131) (hw := w_312) rfl xi6 (Or.inl rfl) (Nat.le_of_ble_eq_true rfl) (Nat.le_of_ble_eq_true rfl) rfl (ft_32 F) rfl (fun f8_ => ?_)
    clear f8_
    refine xr_aload_n (pc := 134) (i := 3) (hI := d_QuestionReader_appendPart_134) (hi := rfl) (hl := rfl) ?_
    refine xg_getf (pc := 135) (ci := 4) (k := 10) (N := 13) (v9 := 0) (v := (xpl h x3 10)) (T := xF4) (hI := d_QuestionReader_appendPart_135) (hw := w_246) rfl xi4 (Or.inl rfl) (Nat.le_of_ble_eq_true rfl) (Nat.le_of_ble_eq_true rfl) rfl t1_ rfl (fun f9_ => ?_)
    replace f9_ : -2147483648 ≤ (xpl h x3 10) ∧ (xpl h x3 10) ≤ 2147483647 := f9_
    obtain ⟨c10_, hyp⟩ := hyp
    refine xq_callV (pc := 138) (index := 229) (K := m_ArrayList_get) (As := [xI (xpl h x3 10)]) (S := []) (L0 := [xR (xpl h 32 5), xI (xpl h x3 10)]) (hI := d_QuestionReader_appendPart_138) (hK := k_ArrayList_get) (hlk := w_1041) (hnoM := rfl) (hS8 := Nat.le_of_ble_eq_true rfl) (ci := 13) (N := 3) (C := "java/util/ArrayList") (T := xF13) (hc := rfl) (hci := Nat.le_of_ble_eq_true rfl) (htb := t4_) (hinst := w_469) (hsel := w_470) (hlen := Nat.le_of_ble_eq_true rfl) (hst := rfl) (hL0 := rfl)  (p_AL_get F c5_ c10_ (by clear hyp; omega) ?_)
    show xwp G m_QuestionReader_appendPart (d + 8) 141 [xR 32, xZ, xZ, xR x3, xZ, xZ] [xR (alg h (xpl h 32 5) (xpl h x3 10))] _ _ _
    obtain ⟨c9, hyp⟩ := hyp
    have t11_ := c9
    clear c9
    refine xr_cast (pc := 141) (ci := 5) (T := xF5) (N := 5) (hI := d_QuestionReader_appendPart_141) w_278 rfl (Nat.le_of_ble_eq_true rfl) t11_ ?_
    refine xg_getf (pc := 144) (ci := 5) (k := 0) (N := 5) (v9 := 2) (v := (xpl h (alg h (xpl h 32 5) (xpl h x3 10)) 0)) (T := xF5) (hI := d_QuestionReader_appendPart_144) (hw := w_289) rfl xi5 (Or.inl rfl) (Nat.le_of_ble_eq_true rfl) (Nat.le_of_ble_eq_true rfl) rfl t11_ rfl (fun f12_ => ?_)
    clear f12_
    refine xr_aload_n (pc := 147) (i := 0) (hI := d_QuestionReader_appendPart_147) (hi := rfl) (hl := rfl) ?_
    refine xg_getf (pc := 148) (ci := 6) (k := 7) (N := 15) (v9 := 2) (v := (xpl h 32 7)) (T := xF6) (hI := d_QuestionReader_appendPart_148) (hw := w_315) rfl xi6 (Or.inl rfl) (Nat.le_of_ble_eq_true rfl) (Nat.le_of_ble_eq_true rfl) rfl (ft_32 F) rfl (fun f13_ => ?_)
    clear f13_
    obtain ⟨c9, hyp⟩ := hyp
    have t14_ := c9
    clear c9
    exact xq_callV (pc := 151) (index := 73) (K := m_ArrayList_add_Object) (As := [xR (xpl h 32 7)]) (S := []) (L0 := [xR (xpl h (alg h (xpl h 32 5) (xpl h x3 10)) 0), xR (xpl h 32 7)]) (hI := d_QuestionReader_appendPart_151) (hK := k_ArrayList_add_Object) (hlk := w_956) (hnoM := rfl) (hS8 := Nat.le_of_ble_eq_true rfl) (ci := 13) (N := 3) (C := "java/util/ArrayList") (T := xF13) (hc := rfl) (hci := Nat.le_of_ble_eq_true rfl) (htb := t14_) (hinst := w_483) (hsel := w_484) (hlen := Nat.le_of_ble_eq_true rfl) (hst := rfl) (hL0 := rfl)  (xwp_mono hyp (fun v9 h9 q9 => xr_drop (L9 := [xZ, xZ, xZ, xZ, xZ, xZ]) (xdrz (xdrs (xdrs (xdrz (xdrs (xdrs xdr0)))))) q9) (fun _ _ z9 => z9))
theorem d_QuestionReader_appendPart_154 : decode prog_7_method_23_code 154 = .ok (.pop, 1) := by decide +kernel
theorem v_QuestionReader_appendPart_154 {G : XG} {d : Nat} {h : XH} {Q : XV → XH → Prop} {X : Nat → XH → Prop} {s0 : Int} (F : xFix h) (hyp : (Q xN h)) : xwp G m_QuestionReader_appendPart (d + 8) 154 [xZ, xZ, xZ, xZ, xZ, xZ] [xI s0] h Q X := by
  have hnx9 : (93 : Int) ≤ xnx h := F.2.2
  refine xr_okS (fun hs9 => ?_)
  have r_s0 : -2147483648 ≤ s0 ∧ s0 ≤ 2147483647 := hs9 (xI s0) (.head _)
  refine xr_pop (pc := 154) (hI := d_QuestionReader_appendPart_154) (hv := rfl) ?_
  refine xr_return (S := []) (pc := 155) (hI := d_QuestionReader_appendPart_155) (hr := rfl) ?_
  exact hyp
abbrev m_QuestionReader_appendPhrase : XM := (⟨"BeaconIndex$QuestionReader", "appendPhrase", "()V"⟩, prog_7_method_19_code, 3, none, [])
theorem d_QuestionReader_appendPhrase_0 : decode prog_7_method_19_code 0 = .ok (.aload_n 0, 1) := by decide +kernel
theorem d_QuestionReader_appendPhrase_1 : decode prog_7_method_19_code 1 = .ok (.iconst 2, 1) := by decide +kernel
theorem d_QuestionReader_appendPhrase_2 : decode prog_7_method_19_code 2 = .ok (.aload_n 0, 1) := by decide +kernel
theorem d_QuestionReader_appendPhrase_3 : decode prog_7_method_19_code 3 = .ok (.getfield 9, 3) := by decide +kernel
theorem d_QuestionReader_appendPhrase_6 : decode prog_7_method_19_code 6 = .ok (.aload_n 0, 1) := by decide +kernel
theorem d_QuestionReader_appendPhrase_7 : decode prog_7_method_19_code 7 = .ok (.getfield 15, 3) := by decide +kernel
theorem d_QuestionReader_appendPhrase_10 : decode prog_7_method_19_code 10 = .ok (.invokestatic 207, 3) := by decide +kernel
theorem w_1058 : Cond.methodLink "BeaconIndex$QuestionReader" 207 ⟨"java/util/Arrays", "copyOf", "([JI)[J"⟩ ∈ lw_tbl := List.mem_append_right _ (List.mem_of_getElem? (i := 1058) (by decide +kernel))
theorem v_QuestionReader_appendPhrase_0 {G : XG} {d : Nat} {h : XH} {Q : XV → XH → Prop} {X : Nat → XH → Prop} (F : xFix h) (hyp : (xwp G m_Arrays_copyOf_aJI (d + 8) 0 [xR 33, xI (xpl h 32 1), xZ] [] h (fun v9 h9 => xwp G m_QuestionReader_appendPhrase (d + 9) 13 [xR 32, xZ, xZ] (xpush v9 [xI 2, xR 32]) h9 Q X) X)) : xwp G m_QuestionReader_appendPhrase (d + 9) 0 [xR 32, xZ, xZ] [] h Q X := by
  have hnx9 : (93 : Int) ≤ xnx h := F.2.2
  refine xr_aload_n (pc := 0) (i := 0) (hI := d_QuestionReader_appendPhrase_0) (hi := rfl) (hl := rfl) ?_
  refine xr_iconst (pc := 1) (hI := d_QuestionReader_appendPhrase_1) (hr := by decide) ?_
  refine xr_aload_n (pc := 2) (i := 0) (hI := d_QuestionReader_appendPhrase_2) (hi := rfl) (hl := rfl) ?_
  refine xg_getf (pc := 3) (ci := 6) (k := 0) (N := 15) (v9 := 2) (v := 33) (T := xF6) (hI := d_QuestionReader_appendPhrase_3) (hw := w_306) rfl xi6 (Or.inl rfl) (Nat.le_of_ble_eq_true rfl) (Nat.le_of_ble_eq_true rfl) rfl (ft_32 F) (fp_32_0 F) (fun f1_ => ?_)
  clear f1_
  refine xr_aload_n (pc := 6) (i := 0) (hI := d_QuestionReader_appendPhrase_6) (hi := rfl) (hl := rfl) ?_
  refine xg_getf (pc := 7) (ci := 6) (k := 1) (N := 15) (v9 := 0) (v := (xpl h 32 1)) (T := xF6) (hI := d_QuestionReader_appendPhrase_7) (hw := w_307) rfl xi6 (Or.inl rfl) (Nat.le_of_ble_eq_true rfl) (Nat.le_of_ble_eq_true rfl) rfl (ft_32 F) rfl (fun f2_ => ?_)
  replace f2_ : -2147483648 ≤ (xpl h 32 1) ∧ (xpl h 32 1) ≤ 2147483647 := f2_
  exact xq_callS (pc := 10) (index := 207) (K := m_Arrays_copyOf_aJI) (As := [xR 33, xI (xpl h 32 1)]) (S := [xI 2, xR 32]) (L0 := [xR 33, xI (xpl h 32 1), xZ]) (hI := d_QuestionReader_appendPhrase_10) (hK := k_Arrays_copyOf_aJI) (hlk := w_1058) (hnoM := rfl) (hS8 := Nat.le_of_ble_eq_true rfl) (hstat := w_906) (hlen := Nat.le_of_ble_eq_true rfl) (hst := rfl) (hL0 := rfl)  hyp
theorem d_QuestionReader_appendPhrase_13 : decode prog_7_method_19_code 13 = .ok (.invokevirtual 177, 3) := by decide +kernel
theorem k_QuestionReader_appendPart : xCal m_QuestionReader_appendPart 2 := ⟨List.mem_append_right _ (List.mem_of_getElem? (i := 1038) (by decide +kernel)), w_9, Nat.le_of_ble_eq_true rfl, ⟨by decide +kernel, by decide +kernel⟩, by decide +kernel, by decide +kernel, rfl⟩
theorem w_1035 : Cond.methodLink "BeaconIndex$QuestionReader" 177 ⟨"BeaconIndex$QuestionReader", "appendPart", "(I[J)V"⟩ ∈ lw_tbl := List.mem_append_right _ (List.mem_of_getElem? (i := 1035) (by decide +kernel))
theorem w_1037 : Cond.instanceMethod ⟨"BeaconIndex$QuestionReader", "appendPart", "(I[J)V"⟩ ∈ lw_tbl := List.mem_append_right _ (List.mem_of_getElem? (i := 1037) (by decide +kernel))
theorem sel_QuestionReader_appendPart : Cond.selects "BeaconIndex$QuestionReader" ⟨"BeaconIndex$QuestionReader", "appendPart", "(I[J)V"⟩ ⟨"BeaconIndex$QuestionReader", "appendPart", "(I[J)V"⟩ ∈ lw_tbl := List.mem_append_left _ (by decide +kernel)
theorem v_QuestionReader_appendPhrase_13 {G : XG} {d : Nat} {h : XH} {Q : XV → XH → Prop} {X : Nat → XH → Prop} {s0 s1 : Int} (F : xFix h) (hyp : (xwp G m_QuestionReader_appendPart (d + 8) 0 [xR 32, xI s1, xR s0, xZ, xZ, xZ] [] h (fun v9 h9 => xwp G m_QuestionReader_appendPhrase (d + 9) 16 [xR 32, xZ, xZ] (xpush v9 []) h9 Q X) X)) : xwp G m_QuestionReader_appendPhrase (d + 9) 13 [xR 32, xZ, xZ] [xR s0, xI s1, xR 32] h Q X := by
  have hnx9 : (93 : Int) ≤ xnx h := F.2.2
  refine xr_okS (fun hs9 => ?_)
  have r_s1 : -2147483648 ≤ s1 ∧ s1 ≤ 2147483647 := hs9 (xI s1) (.tail _ (.head _))
  exact xq_callV (pc := 13) (index := 177) (K := m_QuestionReader_appendPart) (As := [xI s1, xR s0]) (S := []) (L0 := [xR 32, xI s1, xR s0, xZ, xZ, xZ]) (hI := d_QuestionReader_appendPhrase_13) (hK := k_QuestionReader_appendPart) (hlk := w_1035) (hnoM := rfl) (hS8 := Nat.le_of_ble_eq_true rfl) (ci := 6) (N := 15) (C := "BeaconIndex$QuestionReader") (T := xF6) (hc := rfl) (hci := Nat.le_of_ble_eq_true rfl) (htb := (ft_32 F)) (hinst := w_1037) (hsel := sel_QuestionReader_appendPart) (hlen := Nat.le_of_ble_eq_true rfl) (hst := rfl) (hL0 := rfl)  hyp
theorem d_QuestionReader_appendPhrase_16 : decode prog_7_method_19_code 16 = .ok (.iconst 0, 1) := by decide +kernel
theorem d_QuestionReader_appendPhrase_17 : decode prog_7_method_19_code 17 = .ok (.istore_n 1, 1) := by decide +kernel
theorem d_QuestionReader_appendPhrase_18 : decode prog_7_method_19_code 18 = .ok (.iconst 0, 1) := by decide +kernel
theorem d_QuestionReader_appendPhrase_19 : decode prog_7_method_19_code 19 = .ok (.istore_n 2, 1) := by decide +kernel
theorem v_QuestionReader_appendPhrase_16 {G : XG} {d : Nat} {h : XH} {Q : XV → XH → Prop} {X : Nat → XH → Prop} (F : xFix h) (hyp : (xwp G m_QuestionReader_appendPhrase (d + 9) 20 [xR 32, xI 0, xI 0] [] h Q X)) : xwp G m_QuestionReader_appendPhrase (d + 9) 16 [xR 32, xZ, xZ] [] h Q X := by
  have hnx9 : (93 : Int) ≤ xnx h := F.2.2
  refine xr_iconst (pc := 16) (hI := d_QuestionReader_appendPhrase_16) (hr := by decide) ?_
  refine xr_istore_n (pc := 17) (i := 1) (L9 := [xR 32, xI 0, xZ]) (hI := d_QuestionReader_appendPhrase_17) (hi := rfl) (hn := Nat.le_of_ble_eq_true rfl) (hL9 := rfl) ?_
  refine xr_iconst (pc := 18) (hI := d_QuestionReader_appendPhrase_18) (hr := by decide) ?_
  refine xr_istore_n (pc := 19) (i := 2) (L9 := [xR 32, xI 0, xI 0]) (hI := d_QuestionReader_appendPhrase_19) (hi := rfl) (hn := Nat.le_of_ble_eq_true rfl) (hL9 := rfl) ?_
  exact hyp
theorem d_QuestionReader_appendPhrase_20 : decode prog_7_method_19_code 20 = .ok (.iload_n 2, 1) := by decide +kernel
theorem d_QuestionReader_appendPhrase_21 : decode prog_7_method_19_code 21 = .ok (.aload_n 0, 1) := by decide +kernel
theorem d_QuestionReader_appendPhrase_22 : decode prog_7_method_19_code 22 = .ok (.getfield 48, 3) := by decide +kernel
theorem d_QuestionReader_appendPhrase_25 : decode prog_7_method_19_code 25 = .ok (.getfield 213, 3) := by decide +kernel
theorem w_227 : Cond.fieldLink "BeaconIndex$QuestionReader" 213 "BeaconIndex$Part" "words" "[J" ∈ lw_tbl := List.mem_append_right _ (List.mem_of_getElem? (i := 227) (by decide +kernel))
theorem d_QuestionReader_appendPhrase_28 : decode prog_7_method_19_code 28 = .ok (.arraylength, 1) := by decide +kernel
theorem d_QuestionReader_appendPhrase_29 : decode prog_7_method_19_code 29 = .ok (.if_icmp .ge 26, 3) := by decide +kernel
theorem d_QuestionReader_appendPhrase_55 : decode prog_7_method_19_code 55 = .ok (.iload_n 1, 1) := by decide +kernel
theorem d_QuestionReader_appendPhrase_56 : decode prog_7_method_19_code 56 = .ok (.iconst 2, 1) := by decide +kernel
theorem d_QuestionReader_appendPhrase_57 : decode prog_7_method_19_code 57 = .ok (.if_icmp .ge 11, 3) := by decide +kernel
theorem d_QuestionReader_appendPhrase_68 : decode prog_7_method_19_code 68 = .ok (.return_, 1) := by decide +kernel
theorem d_QuestionReader_appendPhrase_60 : decode prog_7_method_19_code 60 = .ok (.aload_n 0, 1) := by decide +kernel
theorem d_QuestionReader_appendPhrase_61 : decode prog_7_method_19_code 61 = .ok (.getfield 48, 3) := by decide +kernel
theorem d_QuestionReader_appendPhrase_64 : decode prog_7_method_19_code 64 = .ok (.iconst 0, 1) := by decide +kernel
theorem d_QuestionReader_appendPhrase_65 : decode prog_7_method_19_code 65 = .ok (.putfield 216, 3) := by decide +kernel
theorem d_QuestionReader_appendPhrase_32 : decode prog_7_method_19_code 32 = .ok (.aload_n 0, 1) := by decide +kernel
theorem d_QuestionReader_appendPhrase_33 : decode prog_7_method_19_code 33 = .ok (.getfield 48, 3) := by decide +kernel
theorem d_QuestionReader_appendPhrase_36 : decode prog_7_method_19_code 36 = .ok (.getfield 213, 3) := by decide +kernel
theorem d_QuestionReader_appendPhrase_39 : decode prog_7_method_19_code 39 = .ok (.iload_n 2, 1) := by decide +kernel
theorem d_QuestionReader_appendPhrase_40 : decode prog_7_method_19_code 40 = .ok (.laload, 1) := by decide +kernel
theorem d_QuestionReader_appendPhrase_41 : decode prog_7_method_19_code 41 = .ok (.lconst 0, 1) := by decide +kernel
theorem d_QuestionReader_appendPhrase_42 : decode prog_7_method_19_code 42 = .ok (.lcmp, 1) := by decide +kernel
theorem d_QuestionReader_appendPhrase_43 : decode prog_7_method_19_code 43 = .ok (.ifCond .eq 6, 3) := by decide +kernel
theorem d_QuestionReader_appendPhrase_49 : decode prog_7_method_19_code 49 = .ok (.iinc 2 1, 3) := by decide +kernel
theorem d_QuestionReader_appendPhrase_52 : decode prog_7_method_19_code 52 = .ok (.goto (-32), 3) := by decide +kernel
theorem d_QuestionReader_appendPhrase_46 : decode prog_7_method_19_code 46 = .ok (.iinc 1 1, 3) := by decide +kernel
theorem v_QuestionReader_appendPhrase_20 {G : XG} {d : Nat} {h : XH} {Q : XV → XH → Prop} {X : Nat → XH → Prop} {x1 x2 : Int} (F : xFix h) (hyp : xtg h (xpl h 32 7) = 4 ∧ xtg h (xpl h (xpl h 32 7) 4) = 101 ∧ (((xln h (xpl h (xpl h 32 7) 4)) ≤ x2 → (((2 : Int) ≤ x1 → (Q xN h)) ∧ (¬ (2 : Int) ≤ x1 → 0 ≤ (xpl h 32 7) ∧ (xFix (xst h (xpl h 32 7) 5 0) → Q xN (xst h (xpl h 32 7) 5 0))))) ∧ (¬ (xln h (xpl h (xpl h 32 7) 4)) ≤ x2 → 0 ≤ x2 ∧ (((xpl h (xpl h (xpl h 32 7) 4) x2) = 0 → (xwp G m_QuestionReader_appendPhrase (d + 9) 20 [xR 32, xI x1, xI (x2 + 1)] [] h Q X)) ∧ (¬ (xpl h (xpl h (xpl h 32 7) 4) x2) = 0 → xiR (x1 + 1) ∧ (xwp G m_QuestionReader_appendPhrase (d + 9) 20 [xR 32, xI (x1 + 1), xI (x2 + 1)] [] h Q X)))))) : xwp G m_QuestionReader_appendPhrase (d + 9) 20 [xR 32, xI x1, xI x2] [] h Q X := by
  have hnx9 : (93 : Int) ≤ xnx h := F.2.2
  refine xr_okL (fun hl9 => ?_)
  have r_x1 : -2147483648 ≤ x1 ∧ x1 ≤ 2147483647 := hl9 (xI x1) (.tail _ (.head _)) (Nat.le_of_ble_eq_true rfl)
  have r_x2 : -2147483648 ≤ x2 ∧ x2 ≤ 2147483647 := hl9 (xI x2) (.tail _ (.tail _ (.head _))) (Nat.le_of_ble_eq_true rfl)
  refine xr_iload_n (pc := 20) (i := 2) (hI := d_QuestionReader_appendPhrase_20) (hi := rfl) (hl := rfl) ?_
  refine xr_aload_n (pc := 21) (i := 0) (hI := d_QuestionReader_appendPhrase_21) (hi := rfl) (hl := rfl) ?_
  refine xg_getf (pc := 22) (ci := 6) (k := 7) (N := 15) (v9 := 2) (v := (xpl h 32 7)) (T := xF6) (hI := d_QuestionReader_appendPhrase_22) (hw := w_315) rfl xi6 (Or.inl rfl) (Nat.le_of_ble_eq_true rfl) (Nat.le_of_ble_eq_true rfl) rfl (ft_32 F) rfl (fun f1_ => ?_)
  clear f1_
  obtain ⟨c9, hyp⟩ := hyp
  have t2_ := c9
  clear c9
  refine xg_getf (pc := 25) (ci := 4) (k := 4) (N := 13) (v9 := 2) (v := (xpl h (xpl h 32 7) 4)) (T := xF4) (hI := d_QuestionReader_appendPhrase_25) (hw := w_227) rfl xi4 (Or.inl rfl) (Nat.le_of_ble_eq_true rfl) (Nat.le_of_ble_eq_true rfl) rfl t2_ rfl (fun f3_ => ?_)
  clear f3_
  obtain ⟨c9, hyp⟩ := hyp
  have t4_ := c9
  clear c9
  refine xg_alen (pc := 28) (t := 101) (v := (xln h (xpl h (xpl h 32 7) 4))) (hI := d_QuestionReader_appendPhrase_28) t4_ (Nat.le_of_ble_eq_true rfl) (Nat.le_of_ble_eq_true rfl) rfl rfl (fun f5_ f6_ => ?_)
  refine xr_icmp_ge (pc := 29) (tgt := 55) (hI := d_QuestionReader_appendPhrase_29) (ht := by decide) (fun q9 => ?_) (fun q9 => ?_)
  · replace hyp := hyp.1 q9
    have q7_ := q9
    clear q9
    refine xr_iload_n (pc := 55) (i := 1) (hI := d_QuestionReader_appendPhrase_55) (hi := rfl) (hl := rfl) ?_
    refine xr_iconst (pc := 56) (hI := d_QuestionReader_appendPhrase_56) (hr := by decide) ?_
    refine xr_icmp_ge (pc := 57) (tgt := 68) (hI := d_QuestionReader_appendPhrase_57) (ht := by decide) (fun q9 => ?_) (fun q9 => ?_)
    · replace hyp := hyp.1 q9
      have q8_ := q9
      clear q9
      refine xr_return (S := []) (pc := 68) (hI := d_QuestionReader_appendPhrase_68) (hr := rfl) ?_
      exact hyp
    · replace hyp := hyp.2 q9
      have q8_ := q9
      clear q9
      refine xr_aload_n (pc := 60) (i := 0) (hI := d_QuestionReader_appendPhrase_60) (hi := rfl) (hl := rfl) ?_
      refine xg_getf (pc := 61) (ci := 6) (k := 7) (N := 15) (v9 := 2) (v := (xpl h 32 7)) (T := xF6) (hI := d_QuestionReader_appendPhrase_61) (hw := w_315) rfl xi6 (Or.inl rfl) (Nat.le_of_ble_eq_true rfl) (Nat.le_of_ble_eq_true rfl) rfl (ft_32 F) rfl (fun f9_ => ?_)
      clear f9_
      refine xr_iconst (pc := 64) (hI := d_QuestionReader_appendPhrase_64) (hr := by decide) ?_
      obtain ⟨c10_, hyp⟩ := hyp
      refine xr_putf (pc := 65) (ci := 4) (k := 5) (N := 13) (v9 := 0) (T := xF4) (tF := xT4) (hI := d_QuestionReader_appendPhrase_65) (hw := w_231) rfl xi4 xt4 xn4 (Or.inl rfl) (Nat.le_of_ble_eq_true rfl) (Nat.le_of_ble_eq_true rfl) rfl xfit_i rfl t2_ c10_ (fun z => z) ?_
      have F11_ : xFix (xst h (xpl h 32 7) 5 0) := F.stT (t := 4) c10_ t2_ xtk_4_5
      refine xr_return (S := []) (pc := 68) (hI := d_QuestionReader_appendPhrase_68) (hr := rfl) ?_
      exact hyp F11_
  · replace hyp := hyp.2 q9
    have q7_ := q9
    clear q9
    refine xr_aload_n (pc := 32) (i := 0) (hI := d_QuestionReader_appendPhrase_32) (hi := rfl) (hl := rfl) ?_
    refine xg_getf (pc := 33) (ci := 6) (k := 7) (N := 15) (v9 := 2) (v := (xpl h 32 7)) (T := xF6) (hI := d_QuestionReader_appendPhrase_33) (hw := w_315) rfl xi6 (Or.inl rfl) (Nat.le_of_ble_eq_true rfl) (Nat.le_of_ble_eq_true rfl) rfl (ft_32 F) rfl (fun f12_ => ?_)
    clear f12_
    refine xg_getf (pc := 36) (ci := 4) (k := 4) (N := 13) (v9 := 2) (v := (xpl h (xpl h 32 7) 4)) (T := xF4) (hI := d_QuestionReader_appendPhrase_36) (hw := w_227) rfl xi4 (Or.inl rfl) (Nat.le_of_ble_eq_true rfl) (Nat.le_of_ble_eq_true rfl) rfl t2_ rfl (fun f13_ => ?_)
    clear f13_
    refine xr_iload_n (pc := 39) (i := 2) (hI := d_QuestionReader_appendPhrase_39) (hi := rfl) (hl := rfl) ?_
    obtain ⟨c14_, hyp⟩ := hyp
    refine xg_laload (pc := 40) (v := (xpl h (xpl h (xpl h 32 7) 4) x2)) (hI := d_QuestionReader_appendPhrase_40) t4_ c14_ (xlt_of rfl (by clear hyp; omega)) rfl (fun f15_ => ?_)
    replace f15_ : -9223372036854775808 ≤ (xpl h (xpl h (xpl h 32 7) 4) x2) ∧ (xpl h (xpl h (xpl h 32 7) 4) x2) ≤ 9223372036854775807 := f15_
    refine xr_lconst (pc := 41) (z := 0) (hI := d_QuestionReader_appendPhrase_41) (hr := by decide) (hv := by decide) ?_
    refine xr_lcmp (pc := 42) (hI := d_QuestionReader_appendPhrase_42) ?_
    refine xg_lif_eq (pc := 43) (tgt := 49) (hI := d_QuestionReader_appendPhrase_43) (ht := by decide) (fun q9 => ?_) (fun q9 => ?_)
    · replace hyp := hyp.1 q9
      have q16_ := q9
      clear q9
      refine xr_iinc (pc := 49) (i := 2) (L9 := [xR 32, xI x1, xI (x2 + 1)]) (hI := d_QuestionReader_appendPhrase_49) (hl := rfl) (hn := Nat.le_of_ble_eq_true rfl) (hr := ⟨by clear hyp; omega, by clear hyp; omega⟩) (hL9 := rfl) ?_
      refine xr_goto (pc := 52) (tgt := 20) (hI := d_QuestionReader_appendPhrase_52) (ht := by decide) ?_
      exact hyp
    · replace hyp := hyp.2 q9
      have q16_ := q9
      clear q9
      obtain ⟨c9, hyp⟩ := hyp
      refine xr_iinc (pc := 46) (i := 1) (L9 := [xR 32, xI (x1 + 1), xI x2]) (hI := d_QuestionReader_appendPhrase_46) (hl := rfl) (hn := Nat.le_of_ble_eq_true rfl) (hr := c9) (hL9 := rfl) ?_
      refine xr_iinc (pc := 49) (i := 2) (L9 := [xR 32, xI (x1 + 1), xI (x2 + 1)]) (hI := d_QuestionReader_appendPhrase_49) (hl := rfl) (hn := Nat.le_of_ble_eq_true rfl) (hr := ⟨by clear hyp; omega, by clear hyp; omega⟩) (hL9 := rfl) ?_
      refine xr_goto (pc := 52) (tgt := 20) (hI := d_QuestionReader_appendPhrase_52) (ht := by decide) ?_
      exact hyp
abbrev m_QuestionReader_takesQuote : XM := (⟨"BeaconIndex$QuestionReader", "takesQuote", "()Z"⟩, prog_7_method_18_code, 1, (some .boolean), [])
theorem d_QuestionReader_takesQuote_0 : decode prog_7_method_18_code 0 = .ok (.aload_n 0, 1) := by decide +kernel
theorem d_QuestionReader_takesQuote_1 : decode prog_7_method_18_code 1 = .ok (.getfield 64, 3) := by decide +kernel
theorem d_QuestionReader_takesQuote_4 : decode prog_7_method_18_code 4 = .ok (.iconst 5, 1) := by decide +kernel
theorem d_QuestionReader_takesQuote_5 : decode prog_7_method_18_code 5 = .ok (.if_icmp .ne 15, 3) := by decide +kernel
theorem d_QuestionReader_takesQuote_20 : decode prog_7_method_18_code 20 = .ok (.aload_n 0, 1) := by decide +kernel
theorem d_QuestionReader_takesQuote_21 : decode prog_7_method_18_code 21 = .ok (.invokevirtual 164, 3) := by decide +kernel
theorem k_QuestionReader_canCoreBegin : xCal m_QuestionReader_canCoreBegin 0 := ⟨List.mem_append_right _ (List.mem_of_getElem? (i := 1012) (by decide +kernel)), w_9, Nat.le_of_ble_eq_true rfl, ⟨by decide +kernel, by decide +kernel⟩, by decide +kernel, by decide +kernel, rfl⟩
theorem w_1009 : Cond.methodLink "BeaconIndex$QuestionReader" 164 ⟨"BeaconIndex$QuestionReader", "canCoreBegin", "()Z"⟩ ∈ lw_tbl := List.mem_append_right _ (List.mem_of_getElem? (i := 1009) (by decide +kernel))
theorem w_1011 : Cond.instanceMethod ⟨"BeaconIndex$QuestionReader", "canCoreBegin", "()Z"⟩ ∈ lw_tbl := List.mem_append_right _ (List.mem_of_getElem? (i := 1011) (by decide +kernel))
theorem sel_QuestionReader_canCoreBegin : Cond.selects "BeaconIndex$QuestionReader" ⟨"BeaconIndex$QuestionReader", "canCoreBegin", "()Z"⟩ ⟨"BeaconIndex$QuestionReader", "canCoreBegin", "()Z"⟩ ∈ lw_tbl := List.mem_append_left _ (by decide +kernel)
theorem d_QuestionReader_takesQuote_24 : decode prog_7_method_18_code 24 = .ok (.ifCond .ne 5, 3) := by decide +kernel
theorem d_QuestionReader_takesQuote_29 : decode prog_7_method_18_code 29 = .ok (.aload_n 0, 1) := by decide +kernel
theorem d_QuestionReader_takesQuote_30 : decode prog_7_method_18_code 30 = .ok (.invokevirtual 167, 3) := by decide +kernel
theorem k_QuestionReader_beginCore : xCal m_QuestionReader_beginCore 0 := ⟨List.mem_append_right _ (List.mem_of_getElem? (i := 1024) (by decide +kernel)), w_9, Nat.le_of_ble_eq_true rfl, ⟨by decide +kernel, by decide +kernel⟩, by decide +kernel, by decide +kernel, rfl⟩
theorem w_1021 : Cond.methodLink "BeaconIndex$QuestionReader" 167 ⟨"BeaconIndex$QuestionReader", "beginCore", "()V"⟩ ∈ lw_tbl := List.mem_append_right _ (List.mem_of_getElem? (i := 1021) (by decide +kernel))
theorem w_1023 : Cond.instanceMethod ⟨"BeaconIndex$QuestionReader", "beginCore", "()V"⟩ ∈ lw_tbl := List.mem_append_right _ (List.mem_of_getElem? (i := 1023) (by decide +kernel))
theorem sel_QuestionReader_beginCore : Cond.selects "BeaconIndex$QuestionReader" ⟨"BeaconIndex$QuestionReader", "beginCore", "()V"⟩ ⟨"BeaconIndex$QuestionReader", "beginCore", "()V"⟩ ∈ lw_tbl := List.mem_append_left _ (by decide +kernel)
theorem d_QuestionReader_takesQuote_27 : decode prog_7_method_18_code 27 = .ok (.iconst 0, 1) := by decide +kernel
theorem d_QuestionReader_takesQuote_28 : decode prog_7_method_18_code 28 = .ok (.ireturn, 1) := by decide +kernel
theorem d_QuestionReader_takesQuote_8 : decode prog_7_method_18_code 8 = .ok (.aload_n 0, 1) := by decide +kernel
theorem d_QuestionReader_takesQuote_9 : decode prog_7_method_18_code 9 = .ok (.invokevirtual 204, 3) := by decide +kernel
theorem k_QuestionReader_appendPhrase : xCal m_QuestionReader_appendPhrase 0 := ⟨List.mem_append_right _ (List.mem_of_getElem? (i := 1057) (by decide +kernel)), w_9, Nat.le_of_ble_eq_true rfl, ⟨by decide +kernel, by decide +kernel⟩, by decide +kernel, by decide +kernel, rfl⟩
theorem w_1054 : Cond.methodLink "BeaconIndex$QuestionReader" 204 ⟨"BeaconIndex$QuestionReader", "appendPhrase", "()V"⟩ ∈ lw_tbl := List.mem_append_right _ (List.mem_of_getElem? (i := 1054) (by decide +kernel))
theorem w_1056 : Cond.instanceMethod ⟨"BeaconIndex$QuestionReader", "appendPhrase", "()V"⟩ ∈ lw_tbl := List.mem_append_right _ (List.mem_of_getElem? (i := 1056) (by decide +kernel))
theorem sel_QuestionReader_appendPhrase : Cond.selects "BeaconIndex$QuestionReader" ⟨"BeaconIndex$QuestionReader", "appendPhrase", "()V"⟩ ⟨"BeaconIndex$QuestionReader", "appendPhrase", "()V"⟩ ∈ lw_tbl := List.mem_append_left _ (by decide +kernel)
theorem v_QuestionReader_takesQuote_0 {G : XG} {d : Nat} {h : XH} {Q : XV → XH → Prop} {X : Nat → XH → Prop} (F : xFix h) (hyp : (((xpl h 32 12) = 5 → (xwp G m_QuestionReader_appendPhrase (d + 9) 0 [xR 32, xZ, xZ] [] h (fun v9 h9 => xwp G m_QuestionReader_takesQuote (d + 10) 12 [xR 32] (xpush v9 []) h9 Q X) X)) ∧ (¬ (xpl h 32 12) = 5 → ((((ccb (xpl h 32 12)) = true) → (xwp G m_QuestionReader_beginCore (d + 9) 0 [xR 32] [] h (fun v9 h9 => xwp G m_QuestionReader_takesQuote (d + 10) 33 [xR 32] (xpush v9 []) h9 Q X) X)) ∧ (¬ ((ccb (xpl h 32 12)) = true) → (Q (xI 0) h)))))) : xwp G m_QuestionReader_takesQuote (d + 10) 0 [xR 32] [] h Q X := by
  have hnx9 : (93 : Int) ≤ xnx h := F.2.2
  refine xr_aload_n (pc := 0) (i := 0) (hI := d_QuestionReader_takesQuote_0) (hi := rfl) (hl := rfl) ?_
  refine xg_getf (pc := 1) (ci := 6) (k := 12) (N := 15) (v9 := 0) (v := (xpl h 32 12)) (T := xF6) (hI := d_QuestionReader_takesQuote_1) (hw := w_320) rfl xi6 (Or.inl rfl) (Nat.le_of_ble_eq_true rfl) (Nat.le_of_ble_eq_true rfl) rfl (ft_32 F) rfl (fun f1_ => ?_)
  replace f1_ : -2147483648 ≤ (xpl h 32 12) ∧ (xpl h 32 12) ≤ 2147483647 := f1_
  refine xr_iconst (pc := 4) (hI := d_QuestionReader_takesQuote_4) (hr := by decide) ?_
  refine xr_icmp_ne (pc := 5) (tgt := 20) (hI := d_QuestionReader_takesQuote_5) (ht := by decide) (fun q9 => ?_) (fun q9 => ?_)
  · replace hyp := hyp.2 q9
    have q2_ := q9
    clear q9
    refine xr_aload_n (pc := 20) (i := 0) (hI := d_QuestionReader_takesQuote_20) (hi := rfl) (hl := rfl) ?_
    refine xq_callV (pc := 21) (index := 164) (K := m_QuestionReader_canCoreBegin) (As := []) (S := []) (L0 := [xR 32]) (hI := d_QuestionReader_takesQuote_21) (hK := k_QuestionReader_canCoreBegin) (hlk := w_1009) (hnoM := rfl) (hS8 := Nat.le_of_ble_eq_true rfl) (ci := 6) (N := 15) (C := "BeaconIndex$QuestionReader") (T := xF6) (hc := rfl) (hci := Nat.le_of_ble_eq_true rfl) (htb := (ft_32 F)) (hinst := w_1011) (hsel := sel_QuestionReader_canCoreBegin) (hlen := Nat.le_of_ble_eq_true rfl) (hst := rfl) (hL0 := rfl)  (p_QR_canCoreBegin F  ?_)
    show xwp G m_QuestionReader_takesQuote (d + 10) 24 [xR 32] [xI (b2i (ccb (xpl h 32 12)))] _ _ _
    refine xr_if_ne (pc := 24) (tgt := 29) (hI := d_QuestionReader_takesQuote_24) (ht := by decide) (fun q9 => ?_) (fun q9 => ?_)
    · replace hyp := hyp.1 (b2i_1.mp q9)
      have q3_ := b2i_1.mp q9
      clear q9
      refine xr_aload_n (pc := 29) (i := 0) (hI := d_QuestionReader_takesQuote_29) (hi := rfl) (hl := rfl) ?_
      exact xq_callV (pc := 30) (index := 167) (K := m_QuestionReader_beginCore) (As := []) (S := []) (L0 := [xR 32]) (hI := d_QuestionReader_takesQuote_30) (hK := k_QuestionReader_beginCore) (hlk := w_1021) (hnoM := rfl) (hS8 := Nat.le_of_ble_eq_true rfl) (ci := 6) (N := 15) (C := "BeaconIndex$QuestionReader") (T := xF6) (hc := rfl) (hci := Nat.le_of_ble_eq_true rfl) (htb := (ft_32 F)) (hinst := w_1023) (hsel := sel_QuestionReader_beginCore) (hlen := Nat.le_of_ble_eq_true rfl) (hst := rfl) (hL0 := rfl)  hyp
    · replace hyp := hyp.2 (b2i_0.mp q9)
      have q3_ := b2i_0.mp q9
      clear q9
      refine xr_iconst (pc := 27) (hI := d_QuestionReader_takesQuote_27) (hr := by decide) ?_
      refine xr_ireturnT (S := []) (pc := 28) (hI := d_QuestionReader_takesQuote_28) (hr := rfl) (xnar_z (by decide)) ?_
      exact hyp
  · replace hyp := hyp.1 q9
    have q2_ := q9
    clear q9
    refine xr_aload_n (pc := 8) (i := 0) (hI := d_QuestionReader_takesQuote_8) (hi := rfl) (hl := rfl) ?_
    exact xq_callV (pc := 9) (index := 204) (K := m_QuestionReader_appendPhrase) (As := []) (S := []) (L0 := [xR 32, xZ, xZ]) (hI := d_QuestionReader_takesQuote_9) (hK := k_QuestionReader_appendPhrase) (hlk := w_1054) (hnoM := rfl) (hS8 := Nat.le_of_ble_eq_true rfl) (ci := 6) (N := 15) (C := "BeaconIndex$QuestionReader") (T := xF6) (hc := rfl) (hci := Nat.le_of_ble_eq_true rfl) (htb := (ft_32 F)) (hinst := w_1056) (hsel := sel_QuestionReader_appendPhrase) (hlen := Nat.le_of_ble_eq_true rfl) (hst := rfl) (hL0 := rfl)  hyp
theorem d_QuestionReader_takesQuote_12 : decode prog_7_method_18_code 12 = .ok (.aload_n 0, 1) := by decide +kernel
theorem d_QuestionReader_takesQuote_13 : decode prog_7_method_18_code 13 = .ok (.bipush 9, 2) := by decide +kernel
theorem d_QuestionReader_takesQuote_15 : decode prog_7_method_18_code 15 = .ok (.putfield 64, 3) := by decide +kernel
theorem d_QuestionReader_takesQuote_18 : decode prog_7_method_18_code 18 = .ok (.iconst 1, 1) := by decide +kernel
theorem d_QuestionReader_takesQuote_19 : decode prog_7_method_18_code 19 = .ok (.ireturn, 1) := by decide +kernel
theorem v_QuestionReader_takesQuote_12 {G : XG} {d : Nat} {h : XH} {Q : XV → XH → Prop} {X : Nat → XH → Prop} (F : xFix h) (hyp : (xFix (xst h 32 12 9) → Q (xI 1) (xst h 32 12 9))) : xwp G m_QuestionReader_takesQuote (d + 10) 12 [xR 32] [] h Q X := by
  have hnx9 : (93 : Int) ≤ xnx h := F.2.2
  refine xr_aload_n (pc := 12) (i := 0) (hI := d_QuestionReader_takesQuote_12) (hi := rfl) (hl := rfl) ?_
  refine xr_bipush (pc := 13) (hI := d_QuestionReader_takesQuote_13) (hr := by decide) (hv := by decide) ?_
  refine xr_putf (pc := 15) (ci := 6) (k := 12) (N := 15) (v9 := 0) (T := xF6) (tF := xT6) (hI := d_QuestionReader_takesQuote_15) (hw := w_320) rfl xi6 xt6 xn6 (Or.inl rfl) (Nat.le_of_ble_eq_true rfl) (Nat.le_of_ble_eq_true rfl) rfl xfit_i rfl (ft_32 F) (by decide) (fun z => z) ?_
  have F1_ : xFix (xst h 32 12 9) := F.stL xfk_32_12
  refine xr_iconst (pc := 18) (hI := d_QuestionReader_takesQuote_18) (hr := by decide) ?_
  refine xr_ireturnT (S := []) (pc := 19) (hI := d_QuestionReader_takesQuote_19) (hr := rfl) (xnar_z (by decide)) ?_
  exact hyp F1_
theorem d_QuestionReader_takesQuote_33 : decode prog_7_method_18_code 33 = .ok (.aload_n 0, 1) := by decide +kernel
theorem d_QuestionReader_takesQuote_34 : decode prog_7_method_18_code 34 = .ok (.iconst 0, 1) := by decide +kernel
theorem d_QuestionReader_takesQuote_35 : decode prog_7_method_18_code 35 = .ok (.putfield 15, 3) := by decide +kernel
theorem d_QuestionReader_takesQuote_38 : decode prog_7_method_18_code 38 = .ok (.aload_n 0, 1) := by decide +kernel
theorem d_QuestionReader_takesQuote_39 : decode prog_7_method_18_code 39 = .ok (.iconst 4, 1) := by decide +kernel
theorem d_QuestionReader_takesQuote_40 : decode prog_7_method_18_code 40 = .ok (.putfield 64, 3) := by decide +kernel
theorem d_QuestionReader_takesQuote_43 : decode prog_7_method_18_code 43 = .ok (.iconst 1, 1) := by decide +kernel
theorem d_QuestionReader_takesQuote_44 : decode prog_7_method_18_code 44 = .ok (.ireturn, 1) := by decide +kernel
theorem v_QuestionReader_takesQuote_33 {G : XG} {d : Nat} {h : XH} {Q : XV → XH → Prop} {X : Nat → XH → Prop} (F : xFix h) (hyp : (xFix (xst (xst h 32 1 0) 32 12 4) → Q (xI 1) (xst (xst h 32 1 0) 32 12 4))) : xwp G m_QuestionReader_takesQuote (d + 10) 33 [xR 32] [] h Q X := by
  have hnx9 : (93 : Int) ≤ xnx h := F.2.2
  refine xr_aload_n (pc := 33) (i := 0) (hI := d_QuestionReader_takesQuote_33) (hi := rfl) (hl := rfl) ?_
  refine xr_iconst (pc := 34) (hI := d_QuestionReader_takesQuote_34) (hr := by decide) ?_
  refine xr_putf (pc := 35) (ci := 6) (k := 1) (N := 15) (v9 := 0) (T := xF6) (tF := xT6) (hI := d_QuestionReader_takesQuote_35) (hw := w_307) rfl xi6 xt6 xn6 (Or.inl rfl) (Nat.le_of_ble_eq_true rfl) (Nat.le_of_ble_eq_true rfl) rfl xfit_i rfl (ft_32 F) (by decide) (fun z => z) ?_
  have F1_ : xFix (xst h 32 1 0) := F.stL xfk_32_1
  refine xr_aload_n (pc := 38) (i := 0) (hI := d_QuestionReader_takesQuote_38) (hi := rfl) (hl := rfl) ?_
  refine xr_iconst (pc := 39) (hI := d_QuestionReader_takesQuote_39) (hr := by decide) ?_
  refine xr_putf (pc := 40) (ci := 6) (k := 12) (N := 15) (v9 := 0) (T := xF6) (tF := xT6) (hI := d_QuestionReader_takesQuote_40) (hw := w_320) rfl xi6 xt6 xn6 (Or.inl rfl) (Nat.le_of_ble_eq_true rfl) (Nat.le_of_ble_eq_true rfl) rfl xfit_i rfl (ft_32 F1_) (by decide) (fun z => z) ?_
  have F2_ : xFix (xst (xst h 32 1 0) 32 12 4) := F1_.stL xfk_32_12
  refine xr_iconst (pc := 43) (hI := d_QuestionReader_takesQuote_43) (hr := by decide) ?_
  refine xr_ireturnT (S := []) (pc := 44) (hI := d_QuestionReader_takesQuote_44) (hr := rfl) (xnar_z (by decide)) ?_
  exact hyp F2_
abbrev m_QuestionReader_takesOpening : XM := (⟨"BeaconIndex$QuestionReader", "takesOpening", "()Z"⟩, prog_7_method_21_code, 1, (some .boolean), [])
theorem d_QuestionReader_takesOpening_0 : decode prog_7_method_21_code 0 = .ok (.aload_n 0, 1) := by decide +kernel
theorem d_QuestionReader_takesOpening_1 : decode prog_7_method_21_code 1 = .ok (.invokevirtual 164, 3) := by decide +kernel
theorem d_QuestionReader_takesOpening_4 : decode prog_7_method_21_code 4 = .ok (.ifCond .eq 14, 3) := by decide +kernel
theorem d_QuestionReader_takesOpening_18 : decode prog_7_method_21_code 18 = .ok (.iconst 0, 1) := by decide +kernel
theorem d_QuestionReader_takesOpening_19 : decode prog_7_method_21_code 19 = .ok (.ireturn, 1) := by decide +kernel
theorem d_QuestionReader_takesOpening_7 : decode prog_7_method_21_code 7 = .ok (.aload_n 0, 1) := by decide +kernel
theorem d_QuestionReader_takesOpening_8 : decode prog_7_method_21_code 8 = .ok (.getfield 22, 3) := by decide +kernel
theorem d_QuestionReader_takesOpening_11 : decode prog_7_method_21_code 11 = .ok (.invokevirtual 152, 3) := by decide +kernel
theorem d_QuestionReader_takesOpening_14 : decode prog_7_method_21_code 14 = .ok (.iconst 4, 1) := by decide +kernel
theorem d_QuestionReader_takesOpening_15 : decode prog_7_method_21_code 15 = .ok (.if_icmp .le 5, 3) := by decide +kernel
theorem d_QuestionReader_takesOpening_20 : decode prog_7_method_21_code 20 = .ok (.aload_n 0, 1) := by decide +kernel
theorem d_QuestionReader_takesOpening_21 : decode prog_7_method_21_code 21 = .ok (.invokevirtual 167, 3) := by decide +kernel
theorem v_QuestionReader_takesOpening_0 {G : XG} {d : Nat} {h : XH} {Q : XV → XH → Prop} {X : Nat → XH → Prop} (F : xFix h) (hyp : ((((ccb (xpl h 32 12)) = true) → alok h 34 ∧ (((als h 34) ≤ 4 → (xwp G m_QuestionReader_beginCore (d + 8) 0 [xR 32] [] h (fun v9 h9 => xwp G m_QuestionReader_takesOpening (d + 9) 24 [xR 32] (xpush v9 []) h9 Q X) X)) ∧ (¬ (als h 34) ≤ 4 → (Q (xI 0) h)))) ∧ (¬ ((ccb (xpl h 32 12)) = true) → (Q (xI 0) h)))) : xwp G m_QuestionReader_takesOpening (d + 9) 0 [xR 32] [] h Q X := by
  have hnx9 : (93 : Int) ≤ xnx h := F.2.2
  refine xr_aload_n (pc := 0) (i := 0) (hI := d_QuestionReader_takesOpening_0) (hi := rfl) (hl := rfl) ?_
  refine xq_callV (pc := 1) (index := 164) (K := m_QuestionReader_canCoreBegin) (As := []) (S := []) (L0 := [xR 32]) (hI := d_QuestionReader_takesOpening_1) (hK := k_QuestionReader_canCoreBegin) (hlk := w_1009) (hnoM := rfl) (hS8 := Nat.le_of_ble_eq_true rfl) (ci := 6) (N := 15) (C := "BeaconIndex$QuestionReader") (T := xF6) (hc := rfl) (hci := Nat.le_of_ble_eq_true rfl) (htb := (ft_32 F)) (hinst := w_1011) (hsel := sel_QuestionReader_canCoreBegin) (hlen := Nat.le_of_ble_eq_true rfl) (hst := rfl) (hL0 := rfl)  (p_QR_canCoreBegin F  ?_)
  show xwp G m_QuestionReader_takesOpening (d + 9) 4 [xR 32] [xI (b2i (ccb (xpl h 32 12)))] _ _ _
  refine xr_if_eq (pc := 4) (tgt := 18) (hI := d_QuestionReader_takesOpening_4) (ht := by decide) (fun q9 => ?_) (fun q9 => ?_)
  · replace hyp := hyp.2 (b2i_0.mp q9)
    have q1_ := b2i_0.mp q9
    clear q9
    refine xr_iconst (pc := 18) (hI := d_QuestionReader_takesOpening_18) (hr := by decide) ?_
    refine xr_ireturnT (S := []) (pc := 19) (hI := d_QuestionReader_takesOpening_19) (hr := rfl) (xnar_z (by decide)) ?_
    exact hyp
  · replace hyp := hyp.1 (b2i_1.mp q9)
    have q1_ := b2i_1.mp q9
    clear q9
    refine xr_aload_n (pc := 7) (i := 0) (hI := d_QuestionReader_takesOpening_7) (hi := rfl) (hl := rfl) ?_
    refine xg_getf (pc := 8) (ci := 6) (k := 2) (N := 15) (v9 := 2) (v := 34) (T := xF6) (hI := d_QuestionReader_takesOpening_8) (hw := w_308) rfl xi6 (Or.inl rfl) (Nat.le_of_ble_eq_true rfl) (Nat.le_of_ble_eq_true rfl) rfl (ft_32 F) (fp_32_2 F) (fun f2_ => ?_)
    clear f2_
    obtain ⟨c3_, hyp⟩ := hyp
    refine xq_callV (pc := 11) (index := 152) (K := m_ArrayList_size) (As := []) (S := []) (L0 := [xR 34]) (hI := d_QuestionReader_takesOpening_11) (hK := k_ArrayList_size) (hlk := w_1040) (hnoM := rfl) (hS8 := Nat.le_of_ble_eq_true rfl) (ci := 13) (N := 3) (C := "java/util/ArrayList") (T := xF13) (hc := rfl) (hci := Nat.le_of_ble_eq_true rfl) (htb := (ft_34 F)) (hinst := w_465) (hsel := w_466) (hlen := Nat.le_of_ble_eq_true rfl) (hst := rfl) (hL0 := rfl)  (p_AL_size F c3_ ?_)
    show xwp G m_QuestionReader_takesOpening (d + 9) 14 [xR 32] [xI (als h 34)] _ _ _
    have f4_ : 0 ≤ (als h 34) ∧ (als h 34) ≤ 1000000 := ⟨c3_.2.2.1, c3_.2.2.2.2⟩
    refine xr_iconst (pc := 14) (hI := d_QuestionReader_takesOpening_14) (hr := by decide) ?_
    refine xr_icmp_le (pc := 15) (tgt := 20) (hI := d_QuestionReader_takesOpening_15) (ht := by decide) (fun q9 => ?_) (fun q9 => ?_)
    · replace hyp := hyp.1 q9
      have q5_ := q9
      clear q9
      refine xr_aload_n (pc := 20) (i := 0) (hI := d_QuestionReader_takesOpening_20) (hi := rfl) (hl := rfl) ?_
      exact xq_callV (pc := 21) (index := 167) (K := m_QuestionReader_beginCore) (As := []) (S := []) (L0 := [xR 32]) (hI := d_QuestionReader_takesOpening_21) (hK := k_QuestionReader_beginCore) (hlk := w_1021) (hnoM := rfl) (hS8 := Nat.le_of_ble_eq_true rfl) (ci := 6) (N := 15) (C := "BeaconIndex$QuestionReader") (T := xF6) (hc := rfl) (hci := Nat.le_of_ble_eq_true rfl) (htb := (ft_32 F)) (hinst := w_1023) (hsel := sel_QuestionReader_beginCore) (hlen := Nat.le_of_ble_eq_true rfl) (hst := rfl) (hL0 := rfl)  hyp
    · replace hyp := hyp.2 q9
      have q5_ := q9
      clear q9
      refine xr_iconst (pc := 18) (hI := d_QuestionReader_takesOpening_18) (hr := by decide) ?_
      refine xr_ireturnT (S := []) (pc := 19) (hI := d_QuestionReader_takesOpening_19) (hr := rfl) (xnar_z (by decide)) ?_
      exact hyp
theorem d_QuestionReader_takesOpening_24 : decode prog_7_method_21_code 24 = .ok (.aload_n 0, 1) := by decide +kernel
theorem d_QuestionReader_takesOpening_25 : decode prog_7_method_21_code 25 = .ok (.iconst 3, 1) := by decide +kernel
theorem d_QuestionReader_takesOpening_26 : decode prog_7_method_21_code 26 = .ok (.iconst 0, 1) := by decide +kernel
theorem d_QuestionReader_takesOpening_27 : decode prog_7_method_21_code 27 = .ok (.newarray .long, 2) := by decide +kernel
theorem d_QuestionReader_takesOpening_29 : decode prog_7_method_21_code 29 = .ok (.invokevirtual 177, 3) := by decide +kernel
theorem v_QuestionReader_takesOpening_24 {G : XG} {d : Nat} {h : XH} {Q : XV → XH → Prop} {X : Nat → XH → Prop} (F : xFix h) (hyp : xnx h + 1 ≤ xKC ∧ xsl h + 0 ≤ xKS ∧ (xFix (xmk h 101 0 (fun _ => 0)) → xwp G m_QuestionReader_appendPart (d + 8) 0 [xR 32, xI 3, xR (xnx h), xZ, xZ, xZ] [] (xmk h 101 0 (fun _ => 0)) (fun v9 h9 => xwp G m_QuestionReader_takesOpening (d + 9) 32 [xR 32] (xpush v9 []) h9 Q X) X)) : xwp G m_QuestionReader_takesOpening (d + 9) 24 [xR 32] [] h Q X := by
  have hnx9 : (93 : Int) ≤ xnx h := F.2.2
  refine xr_aload_n (pc := 24) (i := 0) (hI := d_QuestionReader_takesOpening_24) (hi := rfl) (hl := rfl) ?_
  refine xr_iconst (pc := 25) (hI := d_QuestionReader_takesOpening_25) (hr := by decide) ?_
  refine xr_iconst (pc := 26) (hI := d_QuestionReader_takesOpening_26) (hr := by decide) ?_
  obtain ⟨c8, c9, hyp⟩ := hyp
  refine xr_newarray (pc := 27) (t := 101) (hI := d_QuestionReader_takesOpening_27) rfl w_80 rfl (Nat.le_of_ble_eq_true rfl) (Nat.le_of_ble_eq_true rfl) (by decide) (fun _ => rfl) (xok_z rfl) (by decide) (by decide) c8 c9 ?_
  have F1_ : xFix (xmk h 101 0 (fun _ => 0)) := F.mk
  have f2_ : (93 : Int) ≤ xnx h := F.nx
  have f3_ : (93 : Int) ≤ xnx (xmk h 101 0 (fun _ => 0)) := F1_.nx
  have f4_ : xnx (xmk h 101 0 (fun _ => 0)) = xnx h + 1 := xnx_mk _ _ _ _
  exact xq_callV (pc := 29) (index := 177) (K := m_QuestionReader_appendPart) (As := [xI 3, xR (xnx h)]) (S := []) (L0 := [xR 32, xI 3, xR (xnx h), xZ, xZ, xZ]) (hI := d_QuestionReader_takesOpening_29) (hK := k_QuestionReader_appendPart) (hlk := w_1035) (hnoM := rfl) (hS8 := Nat.le_of_ble_eq_true rfl) (ci := 6) (N := 15) (C := "BeaconIndex$QuestionReader") (T := xF6) (hc := rfl) (hci := Nat.le_of_ble_eq_true rfl) (htb := (ft_32 F1_)) (hinst := w_1037) (hsel := sel_QuestionReader_appendPart) (hlen := Nat.le_of_ble_eq_true rfl) (hst := rfl) (hL0 := rfl)  (hyp F1_)
theorem d_QuestionReader_takesOpening_32 : decode prog_7_method_21_code 32 = .ok (.aload_n 0, 1) := by decide +kernel
theorem d_QuestionReader_takesOpening_33 : decode prog_7_method_21_code 33 = .ok (.getfield 48, 3) := by decide +kernel
theorem d_QuestionReader_takesOpening_36 : decode prog_7_method_21_code 36 = .ok (.aload_n 0, 1) := by decide +kernel
theorem d_QuestionReader_takesOpening_37 : decode prog_7_method_21_code 37 = .ok (.getfield 42, 3) := by decide +kernel
theorem d_QuestionReader_takesOpening_40 : decode prog_7_method_21_code 40 = .ok (.invokevirtual 152, 3) := by decide +kernel
theorem d_QuestionReader_takesOpening_43 : decode prog_7_method_21_code 43 = .ok (.putfield 219, 3) := by decide +kernel
theorem xtk_4_10 : xfTK 4 10 = true := by decide +kernel
theorem v_QuestionReader_takesOpening_32 {G : XG} {d : Nat} {h : XH} {Q : XV → XH → Prop} {X : Nat → XH → Prop} (F : xFix h) (hyp : xtg h (xpl h 32 5) = 13 ∧ alok h (xpl h 32 5) ∧ xtg h (xpl h 32 7) = 4 ∧ 0 ≤ (xpl h 32 7) ∧ (xFix (xst h (xpl h 32 7) 10 (als h (xpl h 32 5))) → xwp G m_QuestionReader_takesOpening (d + 9) 46 [xR 32] [] (xst h (xpl h 32 7) 10 (als h (xpl h 32 5))) Q X)) : xwp G m_QuestionReader_takesOpening (d + 9) 32 [xR 32] [] h Q X := by
  have hnx9 : (93 : Int) ≤ xnx h := F.2.2
  refine xr_aload_n (pc := 32) (i := 0) (hI := d_QuestionReader_takesOpening_32) (hi := rfl) (hl := rfl) ?_
  refine xg_getf (pc := 33) (ci := 6) (k := 7) (N := 15) (v9 := 2) (v := (xpl h 32 7)) (T := xF6) (hI := d_QuestionReader_takesOpening_33) (hw := w_315) rfl xi6 (Or.inl rfl) (Nat.le_of_ble_eq_true rfl) (Nat.le_of_ble_eq_true rfl) rfl (ft_32 F) rfl (fun f1_ => ?_)
  clear f1_
  refine xr_aload_n (pc := 36) (i := 0) (hI := d_QuestionReader_takesOpening_36) (hi := rfl) (hl := rfl) ?_
  refine xg_getf (pc := 37) (ci := 6) (k := 5) (N := 15) (v9 := 2) (v := (xpl h 32 5)) (T := xF6) (hI := d_QuestionReader_takesOpening_37) (hw := w_312) rfl xi6 (Or.inl rfl) (Nat.le_of_ble_eq_true rfl) (Nat.le_of_ble_eq_true rfl) rfl (ft_32 F) rfl (fun f2_ => ?_)
  clear f2_
  obtain ⟨c9, hyp⟩ := hyp
  have t3_ := c9
  clear c9
  obtain ⟨c4_, hyp⟩ := hyp
  refine xq_callV (pc := 40) (index := 152) (K := m_ArrayList_size) (As := []) (S := [xR (xpl h 32 7)]) (L0 := [xR (xpl h 32 5)]) (hI := d_QuestionReader_takesOpening_40) (hK := k_ArrayList_size) (hlk := w_1040) (hnoM := rfl) (hS8 := Nat.le_of_ble_eq_true rfl) (ci := 13) (N := 3) (C := "java/util/ArrayList") (T := xF13) (hc := rfl) (hci := Nat.le_of_ble_eq_true rfl) (htb := t3_) (hinst := w_465) (hsel := w_466) (hlen := Nat.le_of_ble_eq_true rfl) (hst := rfl) (hL0 := rfl)  (p_AL_size F c4_ ?_)
  show xwp G m_QuestionReader_takesOpening (d + 9) 43 [xR 32] [xI (als h (xpl h 32 5)), xR (xpl h 32 7)] _ _ _
  have f5_ : 0 ≤ (als h (xpl h 32 5)) ∧ (als h (xpl h 32 5)) ≤ 1000000 := ⟨c4_.2.2.1, c4_.2.2.2.2⟩
  obtain ⟨c9, hyp⟩ := hyp
  have t6_ := c9
  clear c9
  obtain ⟨c7_, hyp⟩ := hyp
  refine xr_putf (pc := 43) (ci := 4) (k := 10) (N := 13) (v9 := 0) (T := xF4) (tF := xT4) (hI := d_QuestionReader_takesOpening_43) (hw := w_246) rfl xi4 xt4 xn4 (Or.inl rfl) (Nat.le_of_ble_eq_true rfl) (Nat.le_of_ble_eq_true rfl) rfl xfit_i rfl t6_ c7_ (fun z => z) ?_
  have F8_ : xFix (xst h (xpl h 32 7) 10 (als h (xpl h 32 5))) := F.stT (t := 4) c7_ t6_ xtk_4_10
  exact (hyp F8_)
theorem d_QuestionReader_takesOpening_46 : decode prog_7_method_21_code 46 = .ok (.aload_n 0, 1) := by decide +kernel
theorem d_QuestionReader_takesOpening_47 : decode prog_7_method_21_code 47 = .ok (.getfield 42, 3) := by decide +kernel
theorem d_QuestionReader_takesOpening_50 : decode prog_7_method_21_code 50 = .ok (.new 35, 3) := by decide +kernel
theorem xdf5 : ∀ (G : XG) (k : Nat), k < 5 → defaultValue (xT5 k) = xcv G (xfty 5 k, xdef 5 (k : Int)) := fun G k hk => by
  match k, hk with
  | 0, _ => rfl
  | 1, _ => rfl
  | 2, _ => rfl
  | 3, _ => rfl
  | 4, _ => rfl
  | n + 5, hk => exact absurd hk (by omega)
theorem xd75 : ∀ k, k < 5 → xfty 5 k < 7 := by decide +kernel
theorem d_QuestionReader_takesOpening_53 : decode prog_7_method_21_code 53 = .ok (.dup, 1) := by decide +kernel
theorem d_QuestionReader_takesOpening_54 : decode prog_7_method_21_code 54 = .ok (.invokespecial 37, 3) := by decide +kernel
abbrev m_Question_init : XM := (⟨"BeaconIndex$Question", "<init>", "()V"⟩, prog_6_method_1_code, 1, none, [])
theorem k_Question_init : xCal m_Question_init 0 := ⟨List.mem_append_right _ (List.mem_of_getElem? (i := 282) (by decide +kernel)), w_11, Nat.le_of_ble_eq_true rfl, ⟨by decide +kernel, by decide +kernel⟩, by decide +kernel, by decide +kernel, rfl⟩
theorem w_281 : Cond.instanceMethod ⟨"BeaconIndex$Question", "<init>", "()V"⟩ ∈ lw_tbl := List.mem_append_right _ (List.mem_of_getElem? (i := 281) (by decide +kernel))
theorem w_280 : Cond.methodLinkNest "BeaconIndex$QuestionReader" 37 ⟨"BeaconIndex$Question", "<init>", "()V"⟩ "BeaconIndex" ∈ lw_tbl := List.mem_append_right _ (List.mem_of_getElem? (i := 280) (by decide +kernel))
theorem d_Question_init_0 : decode prog_6_method_1_code 0 = .ok (.aload_n 0, 1) := by decide +kernel
theorem d_Question_init_1 : decode prog_6_method_1_code 1 = .ok (.invokespecial 1, 3) := by decide +kernel
theorem w_283 : Cond.methodLink "BeaconIndex$Question" 1 ⟨"java/lang/Object", "<init>", "()V"⟩ ∈ lw_tbl := List.mem_append_right _ (List.mem_of_getElem? (i := 283) (by decide +kernel))
theorem d_Question_init_4 : decode prog_6_method_1_code 4 = .ok (.aload_n 0, 1) := by decide +kernel
theorem d_Question_init_5 : decode prog_6_method_1_code 5 = .ok (.new 7, 3) := by decide +kernel
theorem w_284 : Cond.classLink "BeaconIndex$Question" 7 "java/util/ArrayList" ∈ lw_tbl := List.mem_append_right _ (List.mem_of_getElem? (i := 284) (by decide +kernel))
theorem xdf13 : ∀ (G : XG) (k : Nat), k < 3 → defaultValue (xT13 k) = xcv G (xfty 13 k, xdef 13 (k : Int)) := fun G k hk => by
  match k, hk with
  | 0, _ => rfl
  | 1, _ => rfl
  | 2, _ => rfl
  | n + 3, hk => exact absurd hk (by omega)
theorem xd713 : ∀ k, k < 3 → xfty 13 k < 7 := by decide +kernel
theorem d_Question_init_8 : decode prog_6_method_1_code 8 = .ok (.dup, 1) := by decide +kernel
theorem d_Question_init_9 : decode prog_6_method_1_code 9 = .ok (.invokespecial 9, 3) := by decide +kernel
theorem k_ArrayList_init : xCal m_ArrayList_init 0 := ⟨List.mem_append_right _ (List.mem_of_getElem? (i := 91) (by decide +kernel)), w_6, Nat.le_of_ble_eq_true rfl, ⟨by decide +kernel, by decide +kernel⟩, by decide +kernel, by decide +kernel, rfl⟩
theorem w_90 : Cond.instanceMethod ⟨"java/util/ArrayList", "<init>", "()V"⟩ ∈ lw_tbl := List.mem_append_right _ (List.mem_of_getElem? (i := 90) (by decide +kernel))
theorem w_285 : Cond.methodLink "BeaconIndex$Question" 9 ⟨"java/util/ArrayList", "<init>", "()V"⟩ ∈ lw_tbl := List.mem_append_right _ (List.mem_of_getElem? (i := 285) (by decide +kernel))
theorem d_Question_init_12 : decode prog_6_method_1_code 12 = .ok (.putfield 10, 3) := by decide +kernel
theorem w_286 : Cond.fieldLink "BeaconIndex$Question" 10 "BeaconIndex$Question" "parts" "Ljava/util/ArrayList;" ∈ lw_tbl := List.mem_append_right _ (List.mem_of_getElem? (i := 286) (by decide +kernel))
theorem d_Question_init_15 : decode prog_6_method_1_code 15 = .ok (.aload_n 0, 1) := by decide +kernel
theorem d_Question_init_16 : decode prog_6_method_1_code 16 = .ok (.iconst 0, 1) := by decide +kernel
theorem d_Question_init_17 : decode prog_6_method_1_code 17 = .ok (.putfield 16, 3) := by decide +kernel
theorem d_Question_init_20 : decode prog_6_method_1_code 20 = .ok (.aload_n 0, 1) := by decide +kernel
theorem d_Question_init_21 : decode prog_6_method_1_code 21 = .ok (.iconst 0, 1) := by decide +kernel
theorem d_Question_init_22 : decode prog_6_method_1_code 22 = .ok (.putfield 20, 3) := by decide +kernel
theorem d_Question_init_25 : decode prog_6_method_1_code 25 = .ok (.aload_n 0, 1) := by decide +kernel
theorem d_Question_init_26 : decode prog_6_method_1_code 26 = .ok (.iconst 0, 1) := by decide +kernel
theorem d_Question_init_27 : decode prog_6_method_1_code 27 = .ok (.putfield 23, 3) := by decide +kernel
theorem d_Question_init_30 : decode prog_6_method_1_code 30 = .ok (.aload_n 0, 1) := by decide +kernel
theorem d_Question_init_31 : decode prog_6_method_1_code 31 = .ok (.iconst 0, 1) := by decide +kernel
theorem d_Question_init_32 : decode prog_6_method_1_code 32 = .ok (.putfield 26, 3) := by decide +kernel
theorem d_Question_init_35 : decode prog_6_method_1_code 35 = .ok (.return_, 1) := by decide +kernel
theorem d_QuestionReader_takesOpening_57 : decode prog_7_method_21_code 57 = .ok (.invokevirtual 73, 3) := by decide +kernel
theorem v_QuestionReader_takesOpening_46 {G : XG} {d : Nat} {h : XH} {Q : XV → XH → Prop} {X : Nat → XH → Prop} (F : xFix h) (hyp : xnx h + 1 ≤ xKC ∧ xsl h + 5 ≤ xKS ∧ xnx (xmk h 5 5 (xdef 5)) + 1 ≤ xKC ∧ xsl (xmk h 5 5 (xdef 5)) + 3 ≤ xKS ∧ xtg (xmk (xmk h 5 5 (xdef 5)) 13 3 (xdef 13)) (xpl h 32 5) = 13 ∧ (xFix (xst (xst (xst (xst (xst (xst (xst (xmk (xmk h 5 5 (xdef 5)) 13 3 (xdef 13)) (xnx (xmk h 5 5 (xdef 5))) 2 0) (xnx (xmk h 5 5 (xdef 5))) 0 (-103)) (xnx h) 0 (xnx (xmk h 5 5 (xdef 5)))) (xnx h) 1 0) (xnx h) 2 0) (xnx h) 3 0) (xnx h) 4 0) → xwp G m_ArrayList_add_Object (d + 8) 0 [xR (xpl h 32 5), xR (xnx h)] [] (xst (xst (xst (xst (xst (xst (xst (xmk (xmk h 5 5 (xdef 5)) 13 3 (xdef 13)) (xnx (xmk h 5 5 (xdef 5))) 2 0) (xnx (xmk h 5 5 (xdef 5))) 0 (-103)) (xnx h) 0 (xnx (xmk h 5 5 (xdef 5)))) (xnx h) 1 0) (xnx h) 2 0) (xnx h) 3 0) (xnx h) 4 0) (fun v9 h9 => xwp G m_QuestionReader_takesOpening (d + 9) 60 [xR 32] (xpush v9 []) h9 Q X) X)) : xwp G m_QuestionReader_takesOpening (d + 9) 46 [xR 32] [] h Q X := by
  have hnx9 : (93 : Int) ≤ xnx h := F.2.2
  refine xr_aload_n (pc := 46) (i := 0) (hI := d_QuestionReader_takesOpening_46) (hi := rfl) (hl := rfl) ?_
  refine xg_getf (pc := 47) (ci := 6) (k := 5) (N := 15) (v9 := 2) (v := (xpl h 32 5)) (T := xF6) (hI := d_QuestionReader_takesOpening_47) (hw := w_312) rfl xi6 (Or.inl rfl) (Nat.le_of_ble_eq_true rfl) (Nat.le_of_ble_eq_true rfl) rfl (ft_32 F) rfl (fun f1_ => ?_)
  clear f1_
  obtain ⟨c8, c9, hyp⟩ := hyp
  refine xr_new (pc := 50) (ci := 5) (N := 5) (T := xF5) (tF := xT5) (hI := d_QuestionReader_takesOpening_50) w_278 xj5 w_11 rfl xi5 xt5 (Nat.le_of_ble_eq_true rfl) xd75 xdf5 c8 c9 ?_
  have F2_ : xFix (xmk h 5 5 (xdef 5)) := F.mk
  have f3_ : (93 : Int) ≤ xnx h := F.nx
  have f4_ : (93 : Int) ≤ xnx (xmk h 5 5 (xdef 5)) := F2_.nx
  have f5_ : xnx (xmk h 5 5 (xdef 5)) = xnx h + 1 := xnx_mk _ _ _ _
  show xwp G m_QuestionReader_takesOpening (d + 9) 53 [xR 32] [xR (xnx h), xR (xpl h 32 5)] (xmk h 5 5 (xdef 5)) _ _
  refine xr_dup (pc := 53) (hI := d_QuestionReader_takesOpening_53) (hv := rfl) ?_
  refine xq_callIN (pc := 54) (index := 37) (K := m_Question_init) (As := []) (S := [xR (xnx h), xR (xpl h 32 5)]) (L0 := [xR (xnx h)]) (hI := d_QuestionReader_takesOpening_54) (hK := k_Question_init) (hlk := w_280) (hnoM := rfl) (hS8 := Nat.le_of_ble_eq_true rfl) (hb0 := (by clear hyp; omega)) (hinst := w_281) (hname := rfl) (hret := rfl) (hlen := Nat.le_of_ble_eq_true rfl) (hst := rfl) (hL0 := rfl)  ?_
  refine xr_aload_n (pc := 0) (i := 0) (hI := d_Question_init_0) (hi := rfl) (hl := rfl) ?_
  refine xr_objInit (pc := 1) (hI := d_Question_init_1) w_283 w_46 w_objc (by clear hyp; omega) (Nat.le_add_left_of_le (by decide)) (Nat.le_of_ble_eq_true rfl) ?_
  refine xr_aload_n (pc := 4) (i := 0) (hI := d_Question_init_4) (hi := rfl) (hl := rfl) ?_
  obtain ⟨c8, c9, hyp⟩ := hyp
  refine xr_new (pc := 5) (ci := 13) (N := 3) (T := xF13) (tF := xT13) (hI := d_Question_init_5) w_284 xj13 w_6 rfl xi13 xt13 (Nat.le_of_ble_eq_true rfl) xd713 xdf13 c8 c9 ?_
  have F6_ : xFix (xmk (xmk h 5 5 (xdef 5)) 13 3 (xdef 13)) := F2_.mk
  have f7_ : (93 : Int) ≤ xnx (xmk h 5 5 (xdef 5)) := F2_.nx
  have f8_ : (93 : Int) ≤ xnx (xmk (xmk h 5 5 (xdef 5)) 13 3 (xdef 13)) := F6_.nx
  have f9_ : xnx (xmk (xmk h 5 5 (xdef 5)) 13 3 (xdef 13)) = xnx (xmk h 5 5 (xdef 5)) + 1 := xnx_mk _ _ _ _
  show xwp G m_Question_init (d + 8) 8 [xR (xnx h)] [xR (xnx (xmk h 5 5 (xdef 5))), xR (xnx h)] (xmk (xmk h 5 5 (xdef 5)) 13 3 (xdef 13)) _ _
  refine xr_dup (pc := 8) (hI := d_Question_init_8) (hv := rfl) ?_
  refine xq_callI (pc := 9) (index := 9) (K := m_ArrayList_init) (As := []) (S := [xR (xnx (xmk h 5 5 (xdef 5))), xR (xnx h)]) (L0 := [xR (xnx (xmk h 5 5 (xdef 5)))]) (hI := d_Question_init_9) (hK := k_ArrayList_init) (hlk := w_285) (hnoM := rfl) (hS8 := Nat.le_of_ble_eq_true rfl) (hb0 := (by clear hyp; omega)) (hinst := w_90) (hname := rfl) (hret := rfl) (hlen := Nat.le_of_ble_eq_true rfl) (hst := rfl) (hL0 := rfl)  ?_
  refine xr_aload_n (pc := 0) (i := 0) (hI := d_ArrayList_init_0) (hi := rfl) (hl := rfl) ?_
  refine xq_callI (pc := 1) (index := 1) (K := m_AbstractList_init) (As := []) (S := []) (L0 := [xR (xnx (xmk h 5 5 (xdef 5)))]) (hI := d_ArrayList_init_1) (hK := k_AbstractList_init) (hlk := w_92) (hnoM := rfl) (hS8 := Nat.le_of_ble_eq_true rfl) (hb0 := (by clear hyp; omega)) (hinst := w_93) (hname := rfl) (hret := rfl) (hlen := Nat.le_of_ble_eq_true rfl) (hst := rfl) (hL0 := rfl)  ?_
  refine xr_aload_n (pc := 0) (i := 0) (hI := d_AbstractList_init_0) (hi := rfl) (hl := rfl) ?_
  refine xq_callI (pc := 1) (index := 1) (K := m_AbstractCollection_init) (As := []) (S := []) (L0 := [xR (xnx (xmk h 5 5 (xdef 5)))]) (hI := d_AbstractList_init_1) (hK := k_AbstractCollection_init) (hlk := w_95) (hnoM := rfl) (hS8 := Nat.le_of_ble_eq_true rfl) (hb0 := (by clear hyp; omega)) (hinst := w_96) (hname := rfl) (hret := rfl) (hlen := Nat.le_of_ble_eq_true rfl) (hst := rfl) (hL0 := rfl)  ?_
  refine xr_aload_n (pc := 0) (i := 0) (hI := d_AbstractCollection_init_0) (hi := rfl) (hl := rfl) ?_
  refine xr_objInit (pc := 1) (hI := d_AbstractCollection_init_1) w_98 w_46 w_objc (by clear hyp; omega) (Nat.le_add_left_of_le (by decide)) (Nat.le_of_ble_eq_true rfl) ?_
  refine xr_return (S := []) (pc := 4) (hI := d_AbstractCollection_init_4) (hr := rfl) ?_
  show xwp G m_AbstractList_init (d + 6) 4 [xR (xnx (xmk h 5 5 (xdef 5)))] [] _ _ _
  refine xr_aload_n (pc := 4) (i := 0) (hI := d_AbstractList_init_4) (hi := rfl) (hl := rfl) ?_
  refine xr_iconst (pc := 5) (hI := d_AbstractList_init_5) (hr := by decide) ?_
  refine xr_putf (pc := 6) (ci := 13) (k := 2) (N := 3) (v9 := 0) (T := xF13) (tF := xT13) (hI := d_AbstractList_init_6) (hw := w_103) rfl xi13 xt13 xn13 (Or.inl rfl) (Nat.le_of_ble_eq_true rfl) (Nat.le_of_ble_eq_true rfl) rfl xfit_i rfl (show xtg (xmk (xmk h 5 5 (xdef 5)) 13 3 (xdef 13)) (xnx (xmk h 5 5 (xdef 5))) = 13 from xtg_new rfl) (by clear hyp; omega) (fun z => z) ?_
  have F10_ : xFix (xst (xmk (xmk h 5 5 (xdef 5)) 13 3 (xdef 13)) (xnx (xmk h 5 5 (xdef 5))) 2 0) := F6_.stD (by clear hyp; omega)
  refine xr_return (S := []) (pc := 9) (hI := d_AbstractList_init_9) (hr := rfl) ?_
  show xwp G m_ArrayList_init (d + 7) 4 [xR (xnx (xmk h 5 5 (xdef 5)))] [] _ _ _
  refine xr_aload_n (pc := 4) (i := 0) (hI := d_ArrayList_init_4) (hi := rfl) (hl := rfl) ?_
  refine xr_getstatic (pc := 5) (v := xR (-103)) (hI := d_ArrayList_init_5) w_99 (by decide +kernel) (by exact trivial) ?_
  refine xr_putf (pc := 8) (ci := 13) (k := 0) (N := 3) (v9 := 2) (T := xF13) (tF := xT13) (hI := d_ArrayList_init_8) (hw := w_101) rfl xi13 xt13 xn13 (Or.inl rfl) (Nat.le_of_ble_eq_true rfl) (Nat.le_of_ble_eq_true rfl) rfl (xfit_a _) rfl (show xtg (xmk (xmk h 5 5 (xdef 5)) 13 3 (xdef 13)) (xnx (xmk h 5 5 (xdef 5))) = 13 from xtg_new rfl) (by clear hyp; omega) (fun z => z) ?_
  have F11_ : xFix (xst (xst (xmk (xmk h 5 5 (xdef 5)) 13 3 (xdef 13)) (xnx (xmk h 5 5 (xdef 5))) 2 0) (xnx (xmk h 5 5 (xdef 5))) 0 (-103)) := F10_.stD (by clear hyp; omega)
  refine xr_return (S := []) (pc := 11) (hI := d_ArrayList_init_11) (hr := rfl) ?_
  show xwp G m_Question_init (d + 8) 12 [xR (xnx h)] [xR (xnx (xmk h 5 5 (xdef 5))), xR (xnx h)] _ _ _
  refine xr_putfF (pc := 12) (ci := 5) (k := 0) (N := 5) (v9 := 2) (T := xF5) (tF := xT5) (hI := d_Question_init_12) (hw := w_286) rfl xi5 xt5 xn5 (Or.inl rfl) (Nat.le_of_ble_eq_true rfl) (Nat.le_of_ble_eq_true rfl) rfl (xfit_o _) rfl rfl rfl ((xtg_old (n := 3) (c := (xdef 13)) (by clear hyp; omega)).trans (show xtg (xmk h 5 5 (xdef 5)) (xnx h) = 5 from xtg_new rfl)) (by clear hyp; omega) (fun z => z) ?_
  have F12_ : xFix (xst (xst (xst (xmk (xmk h 5 5 (xdef 5)) 13 3 (xdef 13)) (xnx (xmk h 5 5 (xdef 5))) 2 0) (xnx (xmk h 5 5 (xdef 5))) 0 (-103)) (xnx h) 0 (xnx (xmk h 5 5 (xdef 5)))) := F11_.stD (by clear hyp; omega)
  refine xr_aload_n (pc := 15) (i := 0) (hI := d_Question_init_15) (hi := rfl) (hl := rfl) ?_
  refine xr_iconst (pc := 16) (hI := d_Question_init_16) (hr := by decide) ?_
  refine xr_putf (pc := 17) (ci := 5) (k := 1) (N := 5) (v9 := 0) (T := xF5) (tF := xT5) (hI := d_Question_init_17) (hw := w_291) rfl xi5 xt5 xn5 (Or.inl rfl) (Nat.le_of_ble_eq_true rfl) (Nat.le_of_ble_eq_true rfl) rfl xfit_z rfl ((xtg_old (n := 3) (c := (xdef 13)) (by clear hyp; omega)).trans (show xtg (xmk h 5 5 (xdef 5)) (xnx h) = 5 from xtg_new rfl)) (by clear hyp; omega) (fun _ => (by decide : (0 : Int) ≤ 0 ∧ (0 : Int) ≤ 1)) ?_
  have F13_ : xFix (xst (xst (xst (xst (xmk (xmk h 5 5 (xdef 5)) 13 3 (xdef 13)) (xnx (xmk h 5 5 (xdef 5))) 2 0) (xnx (xmk h 5 5 (xdef 5))) 0 (-103)) (xnx h) 0 (xnx (xmk h 5 5 (xdef 5)))) (xnx h) 1 0) := F12_.stD (by clear hyp; omega)
  refine xr_aload_n (pc := 20) (i := 0) (hI := d_Question_init_20) (hi := rfl) (hl := rfl) ?_
  refine xr_iconst (pc := 21) (hI := d_Question_init_21) (hr := by decide) ?_
  refine xr_putf (pc := 22) (ci := 5) (k := 2) (N := 5) (v9 := 0) (T := xF5) (tF := xT5) (hI := d_Question_init_22) (hw := w_292) rfl xi5 xt5 xn5 (Or.inl rfl) (Nat.le_of_ble_eq_true rfl) (Nat.le_of_ble_eq_true rfl) rfl xfit_z rfl ((xtg_old (n := 3) (c := (xdef 13)) (by clear hyp; omega)).trans (show xtg (xmk h 5 5 (xdef 5)) (xnx h) = 5 from xtg_new rfl)) (by clear hyp; omega) (fun _ => (by decide : (0 : Int) ≤ 0 ∧ (0 : Int) ≤ 1)) ?_
  have F14_ : xFix (xst (xst (xst (xst (xst (xmk (xmk h 5 5 (xdef 5)) 13 3 (xdef 13)) (xnx (xmk h 5 5 (xdef 5))) 2 0) (xnx (xmk h 5 5 (xdef 5))) 0 (-103)) (xnx h) 0 (xnx (xmk h 5 5 (xdef 5)))) (xnx h) 1 0) (xnx h) 2 0) := F13_.stD (by clear hyp; omega)
  refine xr_aload_n (pc := 25) (i := 0) (hI := d_Question_init_25) (hi := rfl) (hl := rfl) ?_
  refine xr_iconst (pc := 26) (hI := d_Question_init_26) (hr := by decide) ?_
  refine xr_putf (pc := 27) (ci := 5) (k := 3) (N := 5) (v9 := 0) (T := xF5) (tF := xT5) (hI := d_Question_init_27) (hw := w_293) rfl xi5 xt5 xn5 (Or.inl rfl) (Nat.le_of_ble_eq_true rfl) (Nat.le_of_ble_eq_true rfl) rfl xfit_z rfl ((xtg_old (n := 3) (c := (xdef 13)) (by clear hyp; omega)).trans (show xtg (xmk h 5 5 (xdef 5)) (xnx h) = 5 from xtg_new rfl)) (by clear hyp; omega) (fun _ => (by decide : (0 : Int) ≤ 0 ∧ (0 : Int) ≤ 1)) ?_
  have F15_ : xFix (xst (xst (xst (xst (xst (xst (xmk (xmk h 5 5 (xdef 5)) 13 3 (xdef 13)) (xnx (xmk h 5 5 (xdef 5))) 2 0) (xnx (xmk h 5 5 (xdef 5))) 0 (-103)) (xnx h) 0 (xnx (xmk h 5 5 (xdef 5)))) (xnx h) 1 0) (xnx h) 2 0) (xnx h) 3 0) := F14_.stD (by clear hyp; omega)
  refine xr_aload_n (pc := 30) (i := 0) (hI := d_Question_init_30) (hi := rfl) (hl := rfl) ?_
  refine xr_iconst (pc := 31) (hI := d_Question_init_31) (hr := by decide) ?_
  refine xr_putf (pc := 32) (ci := 5) (k := 4) (N := 5) (v9 := 0) (T := xF5) (tF := xT5) (hI := d_Question_init_32) (hw := w_294) rfl xi5 xt5 xn5 (Or.inl rfl) (Nat.le_of_ble_eq_true rfl) (Nat.le_of_ble_eq_true rfl) rfl xfit_i rfl ((xtg_old (n := 3) (c := (xdef 13)) (by clear hyp; omega)).trans (show xtg (xmk h 5 5 (xdef 5)) (xnx h) = 5 from xtg_new rfl)) (by clear hyp; omega) (fun z => z) ?_
  have F16_ : xFix (xst (xst (xst (xst (xst (xst (xst (xmk (xmk h 5 5 (xdef 5)) 13 3 (xdef 13)) (xnx (xmk h 5 5 (xdef 5))) 2 0) (xnx (xmk h 5 5 (xdef 5))) 0 (-103)) (xnx h) 0 (xnx (xmk h 5 5 (xdef 5)))) (xnx h) 1 0) (xnx h) 2 0) (xnx h) 3 0) (xnx h) 4 0) := F15_.stD (by clear hyp; omega)
  refine xr_return (S := []) (pc := 35) (hI := d_Question_init_35) (hr := rfl) ?_
  show xwp G m_QuestionReader_takesOpening (d + 9) 57 [xR 32] [xR (xnx h), xR (xpl h 32 5)] _ _ _
  obtain ⟨c9, hyp⟩ := hyp
  have t17_ := c9
  clear c9
  exact xq_callV (pc := 57) (index := 73) (K := m_ArrayList_add_Object) (As := [xR (xnx h)]) (S := []) (L0 := [xR (xpl h 32 5), xR (xnx h)]) (hI := d_QuestionReader_takesOpening_57) (hK := k_ArrayList_add_Object) (hlk := w_956) (hnoM := rfl) (hS8 := Nat.le_of_ble_eq_true rfl) (ci := 13) (N := 3) (C := "java/util/ArrayList") (T := xF13) (hc := rfl) (hci := Nat.le_of_ble_eq_true rfl) (htb := t17_) (hinst := w_483) (hsel := w_484) (hlen := Nat.le_of_ble_eq_true rfl) (hst := rfl) (hL0 := rfl)  (hyp F16_)
theorem d_QuestionReader_takesOpening_60 : decode prog_7_method_21_code 60 = .ok (.pop, 1) := by decide +kernel
theorem d_QuestionReader_takesOpening_61 : decode prog_7_method_21_code 61 = .ok (.aload_n 0, 1) := by decide +kernel
theorem d_QuestionReader_takesOpening_62 : decode prog_7_method_21_code 62 = .ok (.getfield 22, 3) := by decide +kernel
theorem d_QuestionReader_takesOpening_65 : decode prog_7_method_21_code 65 = .ok (.aload_n 0, 1) := by decide +kernel
theorem d_QuestionReader_takesOpening_66 : decode prog_7_method_21_code 66 = .ok (.getfield 48, 3) := by decide +kernel
theorem d_QuestionReader_takesOpening_69 : decode prog_7_method_21_code 69 = .ok (.invokevirtual 73, 3) := by decide +kernel
theorem v_QuestionReader_takesOpening_60 {G : XG} {d : Nat} {h : XH} {Q : XV → XH → Prop} {X : Nat → XH → Prop} {s0 : Int} (F : xFix h) (hyp : (xwp G m_ArrayList_add_Object (d + 8) 0 [xR 34, xR (xpl h 32 7)] [] h (fun v9 h9 => xwp G m_QuestionReader_takesOpening (d + 9) 72 [xR 32] (xpush v9 []) h9 Q X) X)) : xwp G m_QuestionReader_takesOpening (d + 9) 60 [xR 32] [xI s0] h Q X := by
  have hnx9 : (93 : Int) ≤ xnx h := F.2.2
  refine xr_okS (fun hs9 => ?_)
  have r_s0 : -2147483648 ≤ s0 ∧ s0 ≤ 2147483647 := hs9 (xI s0) (.head _)
  refine xr_pop (pc := 60) (hI := d_QuestionReader_takesOpening_60) (hv := rfl) ?_
  refine xr_aload_n (pc := 61) (i := 0) (hI := d_QuestionReader_takesOpening_61) (hi := rfl) (hl := rfl) ?_
  refine xg_getf (pc := 62) (ci := 6) (k := 2) (N := 15) (v9 := 2) (v := 34) (T := xF6) (hI := d_QuestionReader_takesOpening_62) (hw := w_308) rfl xi6 (Or.inl rfl) (Nat.le_of_ble_eq_true rfl) (Nat.le_of_ble_eq_true rfl) rfl (ft_32 F) (fp_32_2 F) (fun f1_ => ?_)
  clear f1_
  refine xr_aload_n (pc := 65) (i := 0) (hI := d_QuestionReader_takesOpening_65) (hi := rfl) (hl := rfl) ?_
  refine xg_getf (pc := 66) (ci := 6) (k := 7) (N := 15) (v9 := 2) (v := (xpl h 32 7)) (T := xF6) (hI := d_QuestionReader_takesOpening_66) (hw := w_315) rfl xi6 (Or.inl rfl) (Nat.le_of_ble_eq_true rfl) (Nat.le_of_ble_eq_true rfl) rfl (ft_32 F) rfl (fun f2_ => ?_)
  clear f2_
  exact xq_callV (pc := 69) (index := 73) (K := m_ArrayList_add_Object) (As := [xR (xpl h 32 7)]) (S := []) (L0 := [xR 34, xR (xpl h 32 7)]) (hI := d_QuestionReader_takesOpening_69) (hK := k_ArrayList_add_Object) (hlk := w_956) (hnoM := rfl) (hS8 := Nat.le_of_ble_eq_true rfl) (ci := 13) (N := 3) (C := "java/util/ArrayList") (T := xF13) (hc := rfl) (hci := Nat.le_of_ble_eq_true rfl) (htb := (ft_34 F)) (hinst := w_483) (hsel := w_484) (hlen := Nat.le_of_ble_eq_true rfl) (hst := rfl) (hL0 := rfl)  hyp
theorem d_QuestionReader_takesOpening_72 : decode prog_7_method_21_code 72 = .ok (.pop, 1) := by decide +kernel
theorem d_QuestionReader_takesOpening_73 : decode prog_7_method_21_code 73 = .ok (.aload_n 0, 1) := by decide +kernel
theorem d_QuestionReader_takesOpening_74 : decode prog_7_method_21_code 74 = .ok (.iconst 0, 1) := by decide +kernel
theorem d_QuestionReader_takesOpening_75 : decode prog_7_method_21_code 75 = .ok (.putfield 64, 3) := by decide +kernel
theorem d_QuestionReader_takesOpening_78 : decode prog_7_method_21_code 78 = .ok (.iconst 1, 1) := by decide +kernel
theorem d_QuestionReader_takesOpening_79 : decode prog_7_method_21_code 79 = .ok (.ireturn, 1) := by decide +kernel
theorem v_QuestionReader_takesOpening_72 {G : XG} {d : Nat} {h : XH} {Q : XV → XH → Prop} {X : Nat → XH → Prop} {s0 : Int} (F : xFix h) (hyp : (xFix (xst h 32 12 0) → Q (xI 1) (xst h 32 12 0))) : xwp G m_QuestionReader_takesOpening (d + 9) 72 [xR 32] [xI s0] h Q X := by
  have hnx9 : (93 : Int) ≤ xnx h := F.2.2
  refine xr_okS (fun hs9 => ?_)
  have r_s0 : -2147483648 ≤ s0 ∧ s0 ≤ 2147483647 := hs9 (xI s0) (.head _)
  refine xr_pop (pc := 72) (hI := d_QuestionReader_takesOpening_72) (hv := rfl) ?_
  refine xr_aload_n (pc := 73) (i := 0) (hI := d_QuestionReader_takesOpening_73) (hi := rfl) (hl := rfl) ?_
  refine xr_iconst (pc := 74) (hI := d_QuestionReader_takesOpening_74) (hr := by decide) ?_
  refine xr_putf (pc := 75) (ci := 6) (k := 12) (N := 15) (v9 := 0) (T := xF6) (tF := xT6) (hI := d_QuestionReader_takesOpening_75) (hw := w_320) rfl xi6 xt6 xn6 (Or.inl rfl) (Nat.le_of_ble_eq_true rfl) (Nat.le_of_ble_eq_true rfl) rfl xfit_i rfl (ft_32 F) (by decide) (fun z => z) ?_
  have F1_ : xFix (xst h 32 12 0) := F.stL xfk_32_12
  refine xr_iconst (pc := 78) (hI := d_QuestionReader_takesOpening_78) (hr := by decide) ?_
  refine xr_ireturnT (S := []) (pc := 79) (hI := d_QuestionReader_takesOpening_79) (hr := rfl) (xnar_z (by decide)) ?_
  exact hyp F1_
abbrev m_QuestionReader_takesClosing : XM := (⟨"BeaconIndex$QuestionReader", "takesClosing", "()Z"⟩, prog_7_method_22_code, 1, (some .boolean), [])
theorem d_QuestionReader_takesClosing_0 : decode prog_7_method_22_code 0 = .ok (.aload_n 0, 1) := by decide +kernel
theorem d_QuestionReader_takesClosing_1 : decode prog_7_method_22_code 1 = .ok (.invokevirtual 143, 3) := by decide +kernel
theorem d_QuestionReader_takesClosing_4 : decode prog_7_method_22_code 4 = .ok (.ifCond .eq 14, 3) := by decide +kernel
theorem d_QuestionReader_takesClosing_18 : decode prog_7_method_22_code 18 = .ok (.iconst 0, 1) := by decide +kernel
theorem d_QuestionReader_takesClosing_19 : decode prog_7_method_22_code 19 = .ok (.ireturn, 1) := by decide +kernel
theorem d_QuestionReader_takesClosing_7 : decode prog_7_method_22_code 7 = .ok (.aload_n 0, 1) := by decide +kernel
theorem d_QuestionReader_takesClosing_8 : decode prog_7_method_22_code 8 = .ok (.getfield 22, 3) := by decide +kernel
theorem d_QuestionReader_takesClosing_11 : decode prog_7_method_22_code 11 = .ok (.invokevirtual 152, 3) := by decide +kernel
theorem d_QuestionReader_takesClosing_14 : decode prog_7_method_22_code 14 = .ok (.iconst 2, 1) := by decide +kernel
theorem d_QuestionReader_takesClosing_15 : decode prog_7_method_22_code 15 = .ok (.if_icmp .ge 5, 3) := by decide +kernel
theorem d_QuestionReader_takesClosing_20 : decode prog_7_method_22_code 20 = .ok (.aload_n 0, 1) := by decide +kernel
theorem d_QuestionReader_takesClosing_21 : decode prog_7_method_22_code 21 = .ok (.aload_n 0, 1) := by decide +kernel
theorem d_QuestionReader_takesClosing_22 : decode prog_7_method_22_code 22 = .ok (.getfield 22, 3) := by decide +kernel
theorem d_QuestionReader_takesClosing_25 : decode prog_7_method_22_code 25 = .ok (.aload_n 0, 1) := by decide +kernel
theorem d_QuestionReader_takesClosing_26 : decode prog_7_method_22_code 26 = .ok (.getfield 22, 3) := by decide +kernel
theorem d_QuestionReader_takesClosing_29 : decode prog_7_method_22_code 29 = .ok (.invokevirtual 152, 3) := by decide +kernel
theorem d_QuestionReader_takesClosing_32 : decode prog_7_method_22_code 32 = .ok (.iconst 1, 1) := by decide +kernel
theorem d_QuestionReader_takesClosing_33 : decode prog_7_method_22_code 33 = .ok (.isub, 1) := by decide +kernel
theorem d_QuestionReader_takesClosing_34 : decode prog_7_method_22_code 34 = .ok (.invokevirtual 222, 3) := by decide +kernel
theorem w_1075 : Cond.methodLink "BeaconIndex$QuestionReader" 222 ⟨"java/util/ArrayList", "remove", "(I)Ljava/lang/Object;"⟩ ∈ lw_tbl := List.mem_append_right _ (List.mem_of_getElem? (i := 1075) (by decide +kernel))
theorem v_QuestionReader_takesClosing_0 {G : XG} {d : Nat} {h : XH} {Q : XV → XH → Prop} {X : Nat → XH → Prop} (F : xFix h) (hyp : ((((decide (8 ≤ (xpl h 32 12))) = true) → alok h 34 ∧ (((2 : Int) ≤ (als h 34) → (xwp G m_ArrayList_remove (d + 3) 0 [xR 34, xI ((als h 34) - 1), xZ, xZ] [] h (fun v9 h9 => xwp G m_QuestionReader_takesClosing (d + 4) 37 [xR 32] (xpush v9 [xR 32]) h9 Q X) X)) ∧ (¬ (2 : Int) ≤ (als h 34) → (Q (xI 0) h)))) ∧ (¬ ((decide (8 ≤ (xpl h 32 12))) = true) → (Q (xI 0) h)))) : xwp G m_QuestionReader_takesClosing (d + 4) 0 [xR 32] [] h Q X := by
  have hnx9 : (93 : Int) ≤ xnx h := F.2.2
  refine xr_aload_n (pc := 0) (i := 0) (hI := d_QuestionReader_takesClosing_0) (hi := rfl) (hl := rfl) ?_
  refine xq_callV (pc := 1) (index := 143) (K := m_QuestionReader_isPartWhole) (As := []) (S := []) (L0 := [xR 32]) (hI := d_QuestionReader_takesClosing_1) (hK := k_QuestionReader_isPartWhole) (hlk := w_1017) (hnoM := rfl) (hS8 := Nat.le_of_ble_eq_true rfl) (ci := 6) (N := 15) (C := "BeaconIndex$QuestionReader") (T := xF6) (hc := rfl) (hci := Nat.le_of_ble_eq_true rfl) (htb := (ft_32 F)) (hinst := w_1019) (hsel := sel_QuestionReader_isPartWhole) (hlen := Nat.le_of_ble_eq_true rfl) (hst := rfl) (hL0 := rfl)  (p_QR_isPartWhole F  ?_)
  show xwp G m_QuestionReader_takesClosing (d + 4) 4 [xR 32] [xI (b2i (decide (8 ≤ (xpl h 32 12))))] _ _ _
  refine xr_if_eq (pc := 4) (tgt := 18) (hI := d_QuestionReader_takesClosing_4) (ht := by decide) (fun q9 => ?_) (fun q9 => ?_)
  · replace hyp := hyp.2 (b2i_0.mp q9)
    have q1_ := b2i_0.mp q9
    clear q9
    refine xr_iconst (pc := 18) (hI := d_QuestionReader_takesClosing_18) (hr := by decide) ?_
    refine xr_ireturnT (S := []) (pc := 19) (hI := d_QuestionReader_takesClosing_19) (hr := rfl) (xnar_z (by decide)) ?_
    exact hyp
  · replace hyp := hyp.1 (b2i_1.mp q9)
    have q1_ := b2i_1.mp q9
    clear q9
    refine xr_aload_n (pc := 7) (i := 0) (hI := d_QuestionReader_takesClosing_7) (hi := rfl) (hl := rfl) ?_
    refine xg_getf (pc := 8) (ci := 6) (k := 2) (N := 15) (v9 := 2) (v := 34) (T := xF6) (hI := d_QuestionReader_takesClosing_8) (hw := w_308) rfl xi6 (Or.inl rfl) (Nat.le_of_ble_eq_true rfl) (Nat.le_of_ble_eq_true rfl) rfl (ft_32 F) (fp_32_2 F) (fun f2_ => ?_)
    clear f2_
    obtain ⟨c3_, hyp⟩ := hyp
    refine xq_callV (pc := 11) (index := 152) (K := m_ArrayList_size) (As := []) (S := []) (L0 := [xR 34]) (hI := d_QuestionReader_takesClosing_11) (hK := k_ArrayList_size) (hlk := w_1040) (hnoM := rfl) (hS8 := Nat.le_of_ble_eq_true rfl) (ci := 13) (N := 3) (C := "java/util/ArrayList") (T := xF13) (hc := rfl) (hci := Nat.le_of_ble_eq_true rfl) (htb := (ft_34 F)) (hinst := w_465) (hsel := w_466) (hlen := Nat.le_of_ble_eq_true rfl) (hst := rfl) (hL0 := rfl)  (p_AL_size F c3_ ?_)
    show xwp G m_QuestionReader_takesClosing (d + 4) 14 [xR 32] [xI (als h 34)] _ _ _
    have f4_ : 0 ≤ (als h 34) ∧ (als h 34) ≤ 1000000 := ⟨c3_.2.2.1, c3_.2.2.2.2⟩
    refine xr_iconst (pc := 14) (hI := d_QuestionReader_takesClosing_14) (hr := by decide) ?_
    refine xr_icmp_ge (pc := 15) (tgt := 20) (hI := d_QuestionReader_takesClosing_15) (ht := by decide) (fun q9 => ?_) (fun q9 => ?_)
    · replace hyp := hyp.1 q9
      have q5_ := q9
      clear q9
      refine xr_aload_n (pc := 20) (i := 0) (hI := d_QuestionReader_takesClosing_20) (hi := rfl) (hl := rfl) ?_
      refine xr_aload_n (pc := 21) (i := 0) (hI := d_QuestionReader_takesClosing_21) (hi := rfl) (hl := rfl) ?_
      refine xg_getf (pc := 22) (ci := 6) (k := 2) (N := 15) (v9 := 2) (v := 34) (T := xF6) (hI := d_QuestionReader_takesClosing_22) (hw := w_308) rfl xi6 (Or.inl rfl) (Nat.le_of_ble_eq_true rfl) (Nat.le_of_ble_eq_true rfl) rfl (ft_32 F) (fp_32_2 F) (fun f6_ => ?_)
      clear f6_
      refine xr_aload_n (pc := 25) (i := 0) (hI := d_QuestionReader_takesClosing_25) (hi := rfl) (hl := rfl) ?_
      refine xg_getf (pc := 26) (ci := 6) (k := 2) (N := 15) (v9 := 2) (v := 34) (T := xF6) (hI := d_QuestionReader_takesClosing_26) (hw := w_308) rfl xi6 (Or.inl rfl) (Nat.le_of_ble_eq_true rfl) (Nat.le_of_ble_eq_true rfl) rfl (ft_32 F) (fp_32_2 F) (fun f7_ => ?_)
      clear f7_
      refine xq_callV (pc := 29) (index := 152) (K := m_ArrayList_size) (As := []) (S := [xR 34, xR 32]) (L0 := [xR 34]) (hI := d_QuestionReader_takesClosing_29) (hK := k_ArrayList_size) (hlk := w_1040) (hnoM := rfl) (hS8 := Nat.le_of_ble_eq_true rfl) (ci := 13) (N := 3) (C := "java/util/ArrayList") (T := xF13) (hc := rfl) (hci := Nat.le_of_ble_eq_true rfl) (htb := (ft_34 F)) (hinst := w_465) (hsel := w_466) (hlen := Nat.le_of_ble_eq_true rfl) (hst := rfl) (hL0 := rfl)  (p_AL_size F c3_ ?_)
      show xwp G m_QuestionReader_takesClosing (d + 4) 32 [xR 32] [xI (als h 34), xR 34, xR 32] _ _ _
      have f8_ : 0 ≤ (als h 34) ∧ (als h 34) ≤ 1000000 := ⟨c3_.2.2.1, c3_.2.2.2.2⟩
      refine xr_iconst (pc := 32) (hI := d_QuestionReader_takesClosing_32) (hr := by decide) ?_
      refine xr_isub (pc := 33) (hI := d_QuestionReader_takesClosing_33) (hr := ⟨by clear hyp; omega, by clear hyp; omega⟩) ?_
      exact xq_callV (pc := 34) (index := 222) (K := m_ArrayList_remove) (As := [xI ((als h 34) - 1)]) (S := [xR 32]) (L0 := [xR 34, xI ((als h 34) - 1), xZ, xZ]) (hI := d_QuestionReader_takesClosing_34) (hK := k_ArrayList_remove) (hlk := w_1075) (hnoM := rfl) (hS8 := Nat.le_of_ble_eq_true rfl) (ci := 13) (N := 3) (C := "java/util/ArrayList") (T := xF13) (hc := rfl) (hci := Nat.le_of_ble_eq_true rfl) (htb := (ft_34 F)) (hinst := w_582) (hsel := w_583) (hlen := Nat.le_of_ble_eq_true rfl) (hst := rfl) (hL0 := rfl)  hyp
    · replace hyp := hyp.2 q9
      have q5_ := q9
      clear q9
      refine xr_iconst (pc := 18) (hI := d_QuestionReader_takesClosing_18) (hr := by decide) ?_
      refine xr_ireturnT (S := []) (pc := 19) (hI := d_QuestionReader_takesClosing_19) (hr := rfl) (xnar_z (by decide)) ?_
      exact hyp
theorem d_QuestionReader_takesClosing_37 : decode prog_7_method_22_code 37 = .ok (.checkcast 26, 3) := by decide +kernel
theorem d_QuestionReader_takesClosing_40 : decode prog_7_method_22_code 40 = .ok (.putfield 48, 3) := by decide +kernel
theorem d_QuestionReader_takesClosing_43 : decode prog_7_method_22_code 43 = .ok (.aload_n 0, 1) := by decide +kernel
theorem d_QuestionReader_takesClosing_44 : decode prog_7_method_22_code 44 = .ok (.bipush 10, 2) := by decide +kernel
theorem d_QuestionReader_takesClosing_46 : decode prog_7_method_22_code 46 = .ok (.putfield 64, 3) := by decide +kernel
theorem d_QuestionReader_takesClosing_49 : decode prog_7_method_22_code 49 = .ok (.iconst 1, 1) := by decide +kernel
theorem d_QuestionReader_takesClosing_50 : decode prog_7_method_22_code 50 = .ok (.ireturn, 1) := by decide +kernel
theorem v_QuestionReader_takesClosing_37 {G : XG} {d : Nat} {h : XH} {Q : XV → XH → Prop} {X : Nat → XH → Prop} {s0 : Int} (F : xFix h) (hyp : xtg h s0 = 4 ∧ (xFix (xst (xst h 32 7 s0) 32 12 10) → Q (xI 1) (xst (xst h 32 7 s0) 32 12 10))) : xwp G m_QuestionReader_takesClosing (d + 4) 37 [xR 32] [xR s0, xR 32] h Q X := by
  have hnx9 : (93 : Int) ≤ xnx h := F.2.2
  obtain ⟨c9, hyp⟩ := hyp
  have t1_ := c9
  clear c9
  refine xr_cast (pc := 37) (ci := 4) (T := xF4) (N := 13) (hI := d_QuestionReader_takesClosing_37) w_210 rfl (Nat.le_of_ble_eq_true rfl) t1_ ?_
  refine xr_putf (pc := 40) (ci := 6) (k := 7) (N := 15) (v9 := 2) (T := xF6) (tF := xT6) (hI := d_QuestionReader_takesClosing_40) (hw := w_315) rfl xi6 xt6 xn6 (Or.inl rfl) (Nat.le_of_ble_eq_true rfl) (Nat.le_of_ble_eq_true rfl) rfl (xfit_o _) rfl (ft_32 F) (by decide) (fun z => z) ?_
  have F2_ : xFix (xst h 32 7 s0) := F.stL xfk_32_7
  refine xr_aload_n (pc := 43) (i := 0) (hI := d_QuestionReader_takesClosing_43) (hi := rfl) (hl := rfl) ?_
  refine xr_bipush (pc := 44) (hI := d_QuestionReader_takesClosing_44) (hr := by decide) (hv := by decide) ?_
  refine xr_putf (pc := 46) (ci := 6) (k := 12) (N := 15) (v9 := 0) (T := xF6) (tF := xT6) (hI := d_QuestionReader_takesClosing_46) (hw := w_320) rfl xi6 xt6 xn6 (Or.inl rfl) (Nat.le_of_ble_eq_true rfl) (Nat.le_of_ble_eq_true rfl) rfl xfit_i rfl (ft_32 F2_) (by decide) (fun z => z) ?_
  have F3_ : xFix (xst (xst h 32 7 s0) 32 12 10) := F2_.stL xfk_32_12
  refine xr_iconst (pc := 49) (hI := d_QuestionReader_takesClosing_49) (hr := by decide) ?_
  refine xr_ireturnT (S := []) (pc := 50) (hI := d_QuestionReader_takesClosing_50) (hr := rfl) (xnar_z (by decide)) ?_
  exact hyp F3_
abbrev m_QuestionReader_takesRun : XM := (⟨"BeaconIndex$QuestionReader", "takesRun", "(LBeaconIndex$Tape;)Z"⟩, prog_7_method_13_code, 3, (some .boolean), [])
theorem d_QuestionReader_takesRun_0 : decode prog_7_method_13_code 0 = .ok (.aload_n 0, 1) := by decide +kernel
theorem d_QuestionReader_takesRun_1 : decode prog_7_method_13_code 1 = .ok (.getfield 64, 3) := by decide +kernel
theorem d_QuestionReader_takesRun_4 : decode prog_7_method_13_code 4 = .ok (.iconst 4, 1) := by decide +kernel
theorem d_QuestionReader_takesRun_5 : decode prog_7_method_13_code 5 = .ok (.if_icmp .eq 11, 3) := by decide +kernel
theorem d_QuestionReader_takesRun_16 : decode prog_7_method_13_code 16 = .ok (.aload_n 0, 1) := by decide +kernel
theorem d_QuestionReader_takesRun_17 : decode prog_7_method_13_code 17 = .ok (.invokevirtual 158, 3) := by decide +kernel
theorem k_QuestionReader_takesPhraseRun : xCal m_QuestionReader_takesPhraseRun 0 := ⟨List.mem_append_right _ (List.mem_of_getElem? (i := 1004) (by decide +kernel)), w_9, Nat.le_of_ble_eq_true rfl, ⟨by decide +kernel, by decide +kernel⟩, by decide +kernel, by decide +kernel, rfl⟩
theorem w_1001 : Cond.methodLink "BeaconIndex$QuestionReader" 158 ⟨"BeaconIndex$QuestionReader", "takesPhraseRun", "()Z"⟩ ∈ lw_tbl := List.mem_append_right _ (List.mem_of_getElem? (i := 1001) (by decide +kernel))
theorem w_1003 : Cond.instanceMethod ⟨"BeaconIndex$QuestionReader", "takesPhraseRun", "()Z"⟩ ∈ lw_tbl := List.mem_append_right _ (List.mem_of_getElem? (i := 1003) (by decide +kernel))
theorem sel_QuestionReader_takesPhraseRun : Cond.selects "BeaconIndex$QuestionReader" ⟨"BeaconIndex$QuestionReader", "takesPhraseRun", "()Z"⟩ ⟨"BeaconIndex$QuestionReader", "takesPhraseRun", "()Z"⟩ ∈ lw_tbl := List.mem_append_left _ (by decide +kernel)
theorem d_QuestionReader_takesRun_8 : decode prog_7_method_13_code 8 = .ok (.aload_n 0, 1) := by decide +kernel
theorem d_QuestionReader_takesRun_9 : decode prog_7_method_13_code 9 = .ok (.getfield 64, 3) := by decide +kernel
theorem d_QuestionReader_takesRun_12 : decode prog_7_method_13_code 12 = .ok (.iconst 5, 1) := by decide +kernel
theorem d_QuestionReader_takesRun_13 : decode prog_7_method_13_code 13 = .ok (.if_icmp .ne 8, 3) := by decide +kernel
theorem d_QuestionReader_takesRun_21 : decode prog_7_method_13_code 21 = .ok (.aload_n 0, 1) := by decide +kernel
theorem d_QuestionReader_takesRun_22 : decode prog_7_method_13_code 22 = .ok (.getfield 64, 3) := by decide +kernel
theorem d_QuestionReader_takesRun_25 : decode prog_7_method_13_code 25 = .ok (.bipush 6, 2) := by decide +kernel
theorem d_QuestionReader_takesRun_27 : decode prog_7_method_13_code 27 = .ok (.if_icmp .eq 12, 3) := by decide +kernel
theorem d_QuestionReader_takesRun_39 : decode prog_7_method_13_code 39 = .ok (.aload_n 0, 1) := by decide +kernel
theorem d_QuestionReader_takesRun_40 : decode prog_7_method_13_code 40 = .ok (.aload_n 1, 1) := by decide +kernel
theorem d_QuestionReader_takesRun_41 : decode prog_7_method_13_code 41 = .ok (.invokevirtual 161, 3) := by decide +kernel
theorem k_QuestionReader_takesNumber : xCal m_QuestionReader_takesNumber 1 := ⟨List.mem_append_right _ (List.mem_of_getElem? (i := 1008) (by decide +kernel)), w_9, Nat.le_of_ble_eq_true rfl, ⟨by decide +kernel, by decide +kernel⟩, by decide +kernel, by decide +kernel, rfl⟩
theorem w_1005 : Cond.methodLink "BeaconIndex$QuestionReader" 161 ⟨"BeaconIndex$QuestionReader", "takesNumber", "(LBeaconIndex$Tape;)Z"⟩ ∈ lw_tbl := List.mem_append_right _ (List.mem_of_getElem? (i := 1005) (by decide +kernel))
theorem w_1007 : Cond.instanceMethod ⟨"BeaconIndex$QuestionReader", "takesNumber", "(LBeaconIndex$Tape;)Z"⟩ ∈ lw_tbl := List.mem_append_right _ (List.mem_of_getElem? (i := 1007) (by decide +kernel))
theorem sel_QuestionReader_takesNumber : Cond.selects "BeaconIndex$QuestionReader" ⟨"BeaconIndex$QuestionReader", "takesNumber", "(LBeaconIndex$Tape;)Z"⟩ ⟨"BeaconIndex$QuestionReader", "takesNumber", "(LBeaconIndex$Tape;)Z"⟩ ∈ lw_tbl := List.mem_append_left _ (by decide +kernel)
theorem d_QuestionReader_takesRun_30 : decode prog_7_method_13_code 30 = .ok (.aload_n 0, 1) := by decide +kernel
theorem d_QuestionReader_takesRun_31 : decode prog_7_method_13_code 31 = .ok (.getfield 64, 3) := by decide +kernel
theorem d_QuestionReader_takesRun_34 : decode prog_7_method_13_code 34 = .ok (.bipush 7, 2) := by decide +kernel
theorem d_QuestionReader_takesRun_36 : decode prog_7_method_13_code 36 = .ok (.if_icmp .ne 9, 3) := by decide +kernel
theorem d_QuestionReader_takesRun_45 : decode prog_7_method_13_code 45 = .ok (.aload_n 0, 1) := by decide +kernel
theorem d_QuestionReader_takesRun_46 : decode prog_7_method_13_code 46 = .ok (.invokevirtual 164, 3) := by decide +kernel
theorem d_QuestionReader_takesRun_49 : decode prog_7_method_13_code 49 = .ok (.ifCond .ne 5, 3) := by decide +kernel
theorem d_QuestionReader_takesRun_54 : decode prog_7_method_13_code 54 = .ok (.aload_n 0, 1) := by decide +kernel
theorem d_QuestionReader_takesRun_55 : decode prog_7_method_13_code 55 = .ok (.invokevirtual 167, 3) := by decide +kernel
theorem d_QuestionReader_takesRun_52 : decode prog_7_method_13_code 52 = .ok (.iconst 0, 1) := by decide +kernel
theorem d_QuestionReader_takesRun_53 : decode prog_7_method_13_code 53 = .ok (.ireturn, 1) := by decide +kernel
theorem v_QuestionReader_takesRun_0 {G : XG} {d : Nat} {h : XH} {Q : XV → XH → Prop} {X : Nat → XH → Prop} (F : xFix h) (hyp : (((xpl h 32 12) = 4 → (xwp G m_QuestionReader_takesPhraseRun (d + 8) 0 [xR 32] [] h (fun v9 h9 => xwp G m_QuestionReader_takesRun (d + 9) 20 [xZ, xZ, xZ] (xpush v9 []) h9 Q X) X)) ∧ (¬ (xpl h 32 12) = 4 → (((xpl h 32 12) = 5 → (xwp G m_QuestionReader_takesPhraseRun (d + 8) 0 [xR 32] [] h (fun v9 h9 => xwp G m_QuestionReader_takesRun (d + 9) 20 [xZ, xZ, xZ] (xpush v9 []) h9 Q X) X)) ∧ (¬ (xpl h 32 12) = 5 → (((xpl h 32 12) = 6 → (xwp G m_QuestionReader_takesNumber (d + 8) 0 [xR 32, xR 1, xZ, xZ, xZ, xZ] [] h (fun v9 h9 => xwp G m_QuestionReader_takesRun (d + 9) 44 [xZ, xZ, xZ] (xpush v9 []) h9 Q X) X)) ∧ (¬ (xpl h 32 12) = 6 → (((xpl h 32 12) = 7 → (xwp G m_QuestionReader_takesNumber (d + 8) 0 [xR 32, xR 1, xZ, xZ, xZ, xZ] [] h (fun v9 h9 => xwp G m_QuestionReader_takesRun (d + 9) 44 [xZ, xZ, xZ] (xpush v9 []) h9 Q X) X)) ∧ (¬ (xpl h 32 12) = 7 → ((((ccb (xpl h 32 12)) = true) → (xwp G m_QuestionReader_beginCore (d + 8) 0 [xR 32] [] h (fun v9 h9 => xwp G m_QuestionReader_takesRun (d + 9) 58 [xR 32, xR 1, xZ] (xpush v9 []) h9 Q X) X)) ∧ (¬ ((ccb (xpl h 32 12)) = true) → (Q (xI 0) h)))))))))))) : xwp G m_QuestionReader_takesRun (d + 9) 0 [xR 32, xR 1, xZ] [] h Q X := by
  have hnx9 : (93 : Int) ≤ xnx h := F.2.2
  refine xr_aload_n (pc := 0) (i := 0) (hI := d_QuestionReader_takesRun_0) (hi := rfl) (hl := rfl) ?_
  refine xg_getf (pc := 1) (ci := 6) (k := 12) (N := 15) (v9 := 0) (v := (xpl h 32 12)) (T := xF6) (hI := d_QuestionReader_takesRun_1) (hw := w_320) rfl xi6 (Or.inl rfl) (Nat.le_of_ble_eq_true rfl) (Nat.le_of_ble_eq_true rfl) rfl (ft_32 F) rfl (fun f1_ => ?_)
  replace f1_ : -2147483648 ≤ (xpl h 32 12) ∧ (xpl h 32 12) ≤ 2147483647 := f1_
  refine xr_iconst (pc := 4) (hI := d_QuestionReader_takesRun_4) (hr := by decide) ?_
  refine xr_icmp_eq (pc := 5) (tgt := 16) (hI := d_QuestionReader_takesRun_5) (ht := by decide) (fun q9 => ?_) (fun q9 => ?_)
  · replace hyp := hyp.1 q9
    have q2_ := q9
    clear q9
    refine xr_aload_n (pc := 16) (i := 0) (hI := d_QuestionReader_takesRun_16) (hi := rfl) (hl := rfl) ?_
    exact xq_callV (pc := 17) (index := 158) (K := m_QuestionReader_takesPhraseRun) (As := []) (S := []) (L0 := [xR 32]) (hI := d_QuestionReader_takesRun_17) (hK := k_QuestionReader_takesPhraseRun) (hlk := w_1001) (hnoM := rfl) (hS8 := Nat.le_of_ble_eq_true rfl) (ci := 6) (N := 15) (C := "BeaconIndex$QuestionReader") (T := xF6) (hc := rfl) (hci := Nat.le_of_ble_eq_true rfl) (htb := (ft_32 F)) (hinst := w_1003) (hsel := sel_QuestionReader_takesPhraseRun) (hlen := Nat.le_of_ble_eq_true rfl) (hst := rfl) (hL0 := rfl)  (xwp_mono hyp (fun v9 h9 q9 => xr_drop (L9 := [xZ, xZ, xZ]) (xdrz (xdrz (xdrs xdr0))) q9) (fun _ _ z9 => z9))
  · replace hyp := hyp.2 q9
    have q2_ := q9
    clear q9
    refine xr_aload_n (pc := 8) (i := 0) (hI := d_QuestionReader_takesRun_8) (hi := rfl) (hl := rfl) ?_
    refine xg_getf (pc := 9) (ci := 6) (k := 12) (N := 15) (v9 := 0) (v := (xpl h 32 12)) (T := xF6) (hI := d_QuestionReader_takesRun_9) (hw := w_320) rfl xi6 (Or.inl rfl) (Nat.le_of_ble_eq_true rfl) (Nat.le_of_ble_eq_true rfl) rfl (ft_32 F) rfl (fun f3_ => ?_)
    replace f3_ : -2147483648 ≤ (xpl h 32 12) ∧ (xpl h 32 12) ≤ 2147483647 := f3_
    refine xr_iconst (pc := 12) (hI := d_QuestionReader_takesRun_12) (hr := by decide) ?_
    refine xr_icmp_ne (pc := 13) (tgt := 21) (hI := d_QuestionReader_takesRun_13) (ht := by decide) (fun q9 => ?_) (fun q9 => ?_)
    · replace hyp := hyp.2 q9
      have q4_ := q9
      clear q9
      refine xr_aload_n (pc := 21) (i := 0) (hI := d_QuestionReader_takesRun_21) (hi := rfl) (hl := rfl) ?_
      refine xg_getf (pc := 22) (ci := 6) (k := 12) (N := 15) (v9 := 0) (v := (xpl h 32 12)) (T := xF6) (hI := d_QuestionReader_takesRun_22) (hw := w_320) rfl xi6 (Or.inl rfl) (Nat.le_of_ble_eq_true rfl) (Nat.le_of_ble_eq_true rfl) rfl (ft_32 F) rfl (fun f5_ => ?_)
      replace f5_ : -2147483648 ≤ (xpl h 32 12) ∧ (xpl h 32 12) ≤ 2147483647 := f5_
      refine xr_bipush (pc := 25) (hI := d_QuestionReader_takesRun_25) (hr := by decide) (hv := by decide) ?_
      refine xr_icmp_eq (pc := 27) (tgt := 39) (hI := d_QuestionReader_takesRun_27) (ht := by decide) (fun q9 => ?_) (fun q9 => ?_)
      · replace hyp := hyp.1 q9
        have q6_ := q9
        clear q9
        refine xr_aload_n (pc := 39) (i := 0) (hI := d_QuestionReader_takesRun_39) (hi := rfl) (hl := rfl) ?_
        refine xr_aload_n (pc := 40) (i := 1) (hI := d_QuestionReader_takesRun_40) (hi := rfl) (hl := rfl) ?_
        exact xq_callV (pc := 41) (index := 161) (K := m_QuestionReader_takesNumber) (As := [xR 1]) (S := []) (L0 := [xR 32, xR 1, xZ, xZ, xZ, xZ]) (hI := d_QuestionReader_takesRun_41) (hK := k_QuestionReader_takesNumber) (hlk := w_1005) (hnoM := rfl) (hS8 := Nat.le_of_ble_eq_true rfl) (ci := 6) (N := 15) (C := "BeaconIndex$QuestionReader") (T := xF6) (hc := rfl) (hci := Nat.le_of_ble_eq_true rfl) (htb := (ft_32 F)) (hinst := w_1007) (hsel := sel_QuestionReader_takesNumber) (hlen := Nat.le_of_ble_eq_true rfl) (hst := rfl) (hL0 := rfl)  (xwp_mono hyp (fun v9 h9 q9 => xr_drop (L9 := [xZ, xZ, xZ]) (xdrz (xdrz (xdrs xdr0))) q9) (fun _ _ z9 => z9))
      · replace hyp := hyp.2 q9
        have q6_ := q9
        clear q9
        refine xr_aload_n (pc := 30) (i := 0) (hI := d_QuestionReader_takesRun_30) (hi := rfl) (hl := rfl) ?_
        refine xg_getf (pc := 31) (ci := 6) (k := 12) (N := 15) (v9 := 0) (v := (xpl h 32 12)) (T := xF6) (hI := d_QuestionReader_takesRun_31) (hw := w_320) rfl xi6 (Or.inl rfl) (Nat.le_of_ble_eq_true rfl) (Nat.le_of_ble_eq_true rfl) rfl (ft_32 F) rfl (fun f7_ => ?_)
        replace f7_ : -2147483648 ≤ (xpl h 32 12) ∧ (xpl h 32 12) ≤ 2147483647 := f7_
        refine xr_bipush (pc := 34) (hI := d_QuestionReader_takesRun_34) (hr := by decide) (hv := by decide) ?_
        refine xr_icmp_ne (pc := 36) (tgt := 45) (hI := d_QuestionReader_takesRun_36) (ht := by decide) (fun q9 => ?_) (fun q9 => ?_)
        · replace hyp := hyp.2 q9
          have q8_ := q9
          clear q9
          refine xr_aload_n (pc := 45) (i := 0) (hI := d_QuestionReader_takesRun_45) (hi := rfl) (hl := rfl) ?_
          refine xq_callV (pc := 46) (index := 164) (K := m_QuestionReader_canCoreBegin) (As := []) (S := []) (L0 := [xR 32]) (hI := d_QuestionReader_takesRun_46) (hK := k_QuestionReader_canCoreBegin) (hlk := w_1009) (hnoM := rfl) (hS8 := Nat.le_of_ble_eq_true rfl) (ci := 6) (N := 15) (C := "BeaconIndex$QuestionReader") (T := xF6) (hc := rfl) (hci := Nat.le_of_ble_eq_true rfl) (htb := (ft_32 F)) (hinst := w_1011) (hsel := sel_QuestionReader_canCoreBegin) (hlen := Nat.le_of_ble_eq_true rfl) (hst := rfl) (hL0 := rfl)  (p_QR_canCoreBegin F  ?_)
          show xwp G m_QuestionReader_takesRun (d + 9) 49 [xR 32, xR 1, xZ] [xI (b2i (ccb (xpl h 32 12)))] _ _ _
          refine xr_if_ne (pc := 49) (tgt := 54) (hI := d_QuestionReader_takesRun_49) (ht := by decide) (fun q9 => ?_) (fun q9 => ?_)
          · replace hyp := hyp.1 (b2i_1.mp q9)
            have q9_ := b2i_1.mp q9
            clear q9
            refine xr_aload_n (pc := 54) (i := 0) (hI := d_QuestionReader_takesRun_54) (hi := rfl) (hl := rfl) ?_
            exact xq_callV (pc := 55) (index := 167) (K := m_QuestionReader_beginCore) (As := []) (S := []) (L0 := [xR 32]) (hI := d_QuestionReader_takesRun_55) (hK := k_QuestionReader_beginCore) (hlk := w_1021) (hnoM := rfl) (hS8 := Nat.le_of_ble_eq_true rfl) (ci := 6) (N := 15) (C := "BeaconIndex$QuestionReader") (T := xF6) (hc := rfl) (hci := Nat.le_of_ble_eq_true rfl) (htb := (ft_32 F)) (hinst := w_1023) (hsel := sel_QuestionReader_beginCore) (hlen := Nat.le_of_ble_eq_true rfl) (hst := rfl) (hL0 := rfl)  hyp
          · replace hyp := hyp.2 (b2i_0.mp q9)
            have q9_ := b2i_0.mp q9
            clear q9
            refine xr_iconst (pc := 52) (hI := d_QuestionReader_takesRun_52) (hr := by decide) ?_
            refine xr_ireturnT (S := []) (pc := 53) (hI := d_QuestionReader_takesRun_53) (hr := rfl) (xnar_z (by decide)) ?_
            exact hyp
        · replace hyp := hyp.1 q9
          have q8_ := q9
          clear q9
          refine xr_aload_n (pc := 39) (i := 0) (hI := d_QuestionReader_takesRun_39) (hi := rfl) (hl := rfl) ?_
          refine xr_aload_n (pc := 40) (i := 1) (hI := d_QuestionReader_takesRun_40) (hi := rfl) (hl := rfl) ?_
          exact xq_callV (pc := 41) (index := 161) (K := m_QuestionReader_takesNumber) (As := [xR 1]) (S := []) (L0 := [xR 32, xR 1, xZ, xZ, xZ, xZ]) (hI := d_QuestionReader_takesRun_41) (hK := k_QuestionReader_takesNumber) (hlk := w_1005) (hnoM := rfl) (hS8 := Nat.le_of_ble_eq_true rfl) (ci := 6) (N := 15) (C := "BeaconIndex$QuestionReader") (T := xF6) (hc := rfl) (hci := Nat.le_of_ble_eq_true rfl) (htb := (ft_32 F)) (hinst := w_1007) (hsel := sel_QuestionReader_takesNumber) (hlen := Nat.le_of_ble_eq_true rfl) (hst := rfl) (hL0 := rfl)  (xwp_mono hyp (fun v9 h9 q9 => xr_drop (L9 := [xZ, xZ, xZ]) (xdrz (xdrz (xdrs xdr0))) q9) (fun _ _ z9 => z9))
    · replace hyp := hyp.1 q9
      have q4_ := q9
      clear q9
      refine xr_aload_n (pc := 16) (i := 0) (hI := d_QuestionReader_takesRun_16) (hi := rfl) (hl := rfl) ?_
      exact xq_callV (pc := 17) (index := 158) (K := m_QuestionReader_takesPhraseRun) (As := []) (S := []) (L0 := [xR 32]) (hI := d_QuestionReader_takesRun_17) (hK := k_QuestionReader_takesPhraseRun) (hlk := w_1001) (hnoM := rfl) (hS8 := Nat.le_of_ble_eq_true rfl) (ci := 6) (N := 15) (C := "BeaconIndex$QuestionReader") (T := xF6) (hc := rfl) (hci := Nat.le_of_ble_eq_true rfl) (htb := (ft_32 F)) (hinst := w_1003) (hsel := sel_QuestionReader_takesPhraseRun) (hlen := Nat.le_of_ble_eq_true rfl) (hst := rfl) (hL0 := rfl)  (xwp_mono hyp (fun v9 h9 q9 => xr_drop (L9 := [xZ, xZ, xZ]) (xdrz (xdrz (xdrs xdr0))) q9) (fun _ _ z9 => z9))
theorem d_QuestionReader_takesRun_20 : decode prog_7_method_13_code 20 = .ok (.ireturn, 1) := by decide +kernel
theorem v_QuestionReader_takesRun_20 {G : XG} {d : Nat} {h : XH} {Q : XV → XH → Prop} {X : Nat → XH → Prop} {s0 : Int} (F : xFix h) (hyp : (0 ≤ s0 ∧ s0 ≤ 1) ∧ (Q (xI s0) h)) : xwp G m_QuestionReader_takesRun (d + 9) 20 [xZ, xZ, xZ] [xI s0] h Q X := by
  have hnx9 : (93 : Int) ≤ xnx h := F.2.2
  refine xr_okS (fun hs9 => ?_)
  have r_s0 : -2147483648 ≤ s0 ∧ s0 ≤ 2147483647 := hs9 (xI s0) (.head _)
  obtain ⟨c9, hyp⟩ := hyp
  refine xr_ireturnT (S := []) (pc := 20) (hI := d_QuestionReader_takesRun_20) (hr := rfl) (xnar_z c9) ?_
  exact hyp
theorem d_QuestionReader_takesRun_44 : decode prog_7_method_13_code 44 = .ok (.ireturn, 1) := by decide +kernel
theorem v_QuestionReader_takesRun_44 {G : XG} {d : Nat} {h : XH} {Q : XV → XH → Prop} {X : Nat → XH → Prop} {s0 : Int} (F : xFix h) (hyp : (0 ≤ s0 ∧ s0 ≤ 1) ∧ (Q (xI s0) h)) : xwp G m_QuestionReader_takesRun (d + 9) 44 [xZ, xZ, xZ] [xI s0] h Q X := by
  have hnx9 : (93 : Int) ≤ xnx h := F.2.2
  refine xr_okS (fun hs9 => ?_)
  have r_s0 : -2147483648 ≤ s0 ∧ s0 ≤ 2147483647 := hs9 (xI s0) (.head _)
  obtain ⟨c9, hyp⟩ := hyp
  refine xr_ireturnT (S := []) (pc := 44) (hI := d_QuestionReader_takesRun_44) (hr := rfl) (xnar_z c9) ?_
  exact hyp
theorem d_QuestionReader_takesRun_58 : decode prog_7_method_13_code 58 = .ok (.aload_n 0, 1) := by decide +kernel
theorem d_QuestionReader_takesRun_59 : decode prog_7_method_13_code 59 = .ok (.getfield 70, 3) := by decide +kernel
theorem d_QuestionReader_takesRun_62 : decode prog_7_method_13_code 62 = .ok (.iconst 2, 1) := by decide +kernel
theorem d_QuestionReader_takesRun_63 : decode prog_7_method_13_code 63 = .ok (.if_icmp .ne 34, 3) := by decide +kernel
theorem d_QuestionReader_takesRun_66 : decode prog_7_method_13_code 66 = .ok (.aload_n 1, 1) := by decide +kernel
theorem d_QuestionReader_takesRun_67 : decode prog_7_method_13_code 67 = .ok (.invokestatic 170, 3) := by decide +kernel
theorem k_QuestionReader_namedField : xCal m_QuestionReader_namedField 1 := ⟨List.mem_append_right _ (List.mem_of_getElem? (i := 1027) (by decide +kernel)), w_9, Nat.le_of_ble_eq_true rfl, ⟨by decide +kernel, by decide +kernel⟩, by decide +kernel, by decide +kernel, rfl⟩
theorem w_1025 : Cond.methodLink "BeaconIndex$QuestionReader" 170 ⟨"BeaconIndex$QuestionReader", "namedField", "(LBeaconIndex$Tape;)I"⟩ ∈ lw_tbl := List.mem_append_right _ (List.mem_of_getElem? (i := 1025) (by decide +kernel))
theorem w_1026 : Cond.static ⟨"BeaconIndex$QuestionReader", "namedField", "(LBeaconIndex$Tape;)I"⟩ ∈ lw_tbl := List.mem_append_right _ (List.mem_of_getElem? (i := 1026) (by decide +kernel))
theorem v_QuestionReader_takesRun_58 {G : XG} {d : Nat} {h : XH} {Q : XV → XH → Prop} {X : Nat → XH → Prop} (F : xFix h) (hyp : (((xpl h 32 14) = 2 → (xwp G m_QuestionReader_namedField (d + 8) 0 [xR 1] [] h (fun v9 h9 => xwp G m_QuestionReader_takesRun (d + 9) 70 [xR 32, xR 1, xZ] (xpush v9 []) h9 Q X) X)) ∧ (¬ (xpl h 32 14) = 2 → (xwp G m_QuestionReader_takesRun (d + 9) 97 [xR 32, xR 1, xZ] [] h Q X)))) : xwp G m_QuestionReader_takesRun (d + 9) 58 [xR 32, xR 1, xZ] [] h Q X := by
  have hnx9 : (93 : Int) ≤ xnx h := F.2.2
  refine xr_aload_n (pc := 58) (i := 0) (hI := d_QuestionReader_takesRun_58) (hi := rfl) (hl := rfl) ?_
  refine xg_getf (pc := 59) (ci := 6) (k := 14) (N := 15) (v9 := 0) (v := (xpl h 32 14)) (T := xF6) (hI := d_QuestionReader_takesRun_59) (hw := w_322) rfl xi6 (Or.inl rfl) (Nat.le_of_ble_eq_true rfl) (Nat.le_of_ble_eq_true rfl) rfl (ft_32 F) rfl (fun f1_ => ?_)
  replace f1_ : -2147483648 ≤ (xpl h 32 14) ∧ (xpl h 32 14) ≤ 2147483647 := f1_
  refine xr_iconst (pc := 62) (hI := d_QuestionReader_takesRun_62) (hr := by decide) ?_
  refine xr_icmp_ne (pc := 63) (tgt := 97) (hI := d_QuestionReader_takesRun_63) (ht := by decide) (fun q9 => ?_) (fun q9 => ?_)
  · replace hyp := hyp.2 q9
    have q2_ := q9
    clear q9
    exact hyp
  · replace hyp := hyp.1 q9
    have q2_ := q9
    clear q9
    refine xr_aload_n (pc := 66) (i := 1) (hI := d_QuestionReader_takesRun_66) (hi := rfl) (hl := rfl) ?_
    exact xq_callS (pc := 67) (index := 170) (K := m_QuestionReader_namedField) (As := [xR 1]) (S := []) (L0 := [xR 1]) (hI := d_QuestionReader_takesRun_67) (hK := k_QuestionReader_namedField) (hlk := w_1025) (hnoM := rfl) (hS8 := Nat.le_of_ble_eq_true rfl) (hstat := w_1026) (hlen := Nat.le_of_ble_eq_true rfl) (hst := rfl) (hL0 := rfl)  hyp
theorem d_QuestionReader_takesRun_70 : decode prog_7_method_13_code 70 = .ok (.iconst 2, 1) := by decide +kernel
theorem d_QuestionReader_takesRun_71 : decode prog_7_method_13_code 71 = .ok (.if_icmp .eq 26, 3) := by decide +kernel
theorem d_QuestionReader_takesRun_74 : decode prog_7_method_13_code 74 = .ok (.aload_n 0, 1) := by decide +kernel
theorem d_QuestionReader_takesRun_75 : decode prog_7_method_13_code 75 = .ok (.aload_n 1, 1) := by decide +kernel
theorem d_QuestionReader_takesRun_76 : decode prog_7_method_13_code 76 = .ok (.invokevirtual 174, 3) := by decide +kernel
theorem k_QuestionReader_isColonNext : xCal m_QuestionReader_isColonNext 1 := ⟨List.mem_append_right _ (List.mem_of_getElem? (i := 1034) (by decide +kernel)), w_9, Nat.le_of_ble_eq_true rfl, ⟨by decide +kernel, by decide +kernel⟩, by decide +kernel, by decide +kernel, rfl⟩
theorem w_1031 : Cond.methodLink "BeaconIndex$QuestionReader" 174 ⟨"BeaconIndex$QuestionReader", "isColonNext", "(LBeaconIndex$Tape;)Z"⟩ ∈ lw_tbl := List.mem_append_right _ (List.mem_of_getElem? (i := 1031) (by decide +kernel))
theorem w_1033 : Cond.instanceMethod ⟨"BeaconIndex$QuestionReader", "isColonNext", "(LBeaconIndex$Tape;)Z"⟩ ∈ lw_tbl := List.mem_append_right _ (List.mem_of_getElem? (i := 1033) (by decide +kernel))
theorem sel_QuestionReader_isColonNext : Cond.selects "BeaconIndex$QuestionReader" ⟨"BeaconIndex$QuestionReader", "isColonNext", "(LBeaconIndex$Tape;)Z"⟩ ⟨"BeaconIndex$QuestionReader", "isColonNext", "(LBeaconIndex$Tape;)Z"⟩ ∈ lw_tbl := List.mem_append_left _ (by decide +kernel)
theorem v_QuestionReader_takesRun_70 {G : XG} {d : Nat} {h : XH} {Q : XV → XH → Prop} {X : Nat → XH → Prop} {s0 : Int} (F : xFix h) (hyp : ((s0 = 2 → (xwp G m_QuestionReader_takesRun (d + 9) 97 [xR 32, xR 1, xZ] [] h Q X)) ∧ (¬ s0 = 2 → (xwp G m_QuestionReader_isColonNext (d + 8) 0 [xR 32, xR 1] [] h (fun v9 h9 => xwp G m_QuestionReader_takesRun (d + 9) 79 [xR 32, xR 1, xZ] (xpush v9 []) h9 Q X) X)))) : xwp G m_QuestionReader_takesRun (d + 9) 70 [xR 32, xR 1, xZ] [xI s0] h Q X := by
  have hnx9 : (93 : Int) ≤ xnx h := F.2.2
  refine xr_okS (fun hs9 => ?_)
  have r_s0 : -2147483648 ≤ s0 ∧ s0 ≤ 2147483647 := hs9 (xI s0) (.head _)
  refine xr_iconst (pc := 70) (hI := d_QuestionReader_takesRun_70) (hr := by decide) ?_
  refine xr_icmp_eq (pc := 71) (tgt := 97) (hI := d_QuestionReader_takesRun_71) (ht := by decide) (fun q9 => ?_) (fun q9 => ?_)
  · replace hyp := hyp.1 q9
    have q1_ := q9
    clear q9
    exact hyp
  · replace hyp := hyp.2 q9
    have q1_ := q9
    clear q9
    refine xr_aload_n (pc := 74) (i := 0) (hI := d_QuestionReader_takesRun_74) (hi := rfl) (hl := rfl) ?_
    refine xr_aload_n (pc := 75) (i := 1) (hI := d_QuestionReader_takesRun_75) (hi := rfl) (hl := rfl) ?_
    exact xq_callV (pc := 76) (index := 174) (K := m_QuestionReader_isColonNext) (As := [xR 1]) (S := []) (L0 := [xR 32, xR 1]) (hI := d_QuestionReader_takesRun_76) (hK := k_QuestionReader_isColonNext) (hlk := w_1031) (hnoM := rfl) (hS8 := Nat.le_of_ble_eq_true rfl) (ci := 6) (N := 15) (C := "BeaconIndex$QuestionReader") (T := xF6) (hc := rfl) (hci := Nat.le_of_ble_eq_true rfl) (htb := (ft_32 F)) (hinst := w_1033) (hsel := sel_QuestionReader_isColonNext) (hlen := Nat.le_of_ble_eq_true rfl) (hst := rfl) (hL0 := rfl)  hyp
theorem d_QuestionReader_takesRun_79 : decode prog_7_method_13_code 79 = .ok (.ifCond .eq 18, 3) := by decide +kernel
theorem d_QuestionReader_takesRun_82 : decode prog_7_method_13_code 82 = .ok (.aload_n 0, 1) := by decide +kernel
theorem d_QuestionReader_takesRun_83 : decode prog_7_method_13_code 83 = .ok (.aload_n 1, 1) := by decide +kernel
theorem d_QuestionReader_takesRun_84 : decode prog_7_method_13_code 84 = .ok (.invokestatic 170, 3) := by decide +kernel
theorem v_QuestionReader_takesRun_79 {G : XG} {d : Nat} {h : XH} {Q : XV → XH → Prop} {X : Nat → XH → Prop} {s0 : Int} (F : xFix h) (hyp : ((s0 = 0 → (xwp G m_QuestionReader_takesRun (d + 9) 97 [xR 32, xR 1, xZ] [] h Q X)) ∧ (¬ s0 = 0 → (xwp G m_QuestionReader_namedField (d + 8) 0 [xR 1] [] h (fun v9 h9 => xwp G m_QuestionReader_takesRun (d + 9) 87 [xR 32, xZ, xZ] (xpush v9 [xR 32]) h9 Q X) X)))) : xwp G m_QuestionReader_takesRun (d + 9) 79 [xR 32, xR 1, xZ] [xI s0] h Q X := by
  have hnx9 : (93 : Int) ≤ xnx h := F.2.2
  refine xr_okS (fun hs9 => ?_)
  have r_s0 : -2147483648 ≤ s0 ∧ s0 ≤ 2147483647 := hs9 (xI s0) (.head _)
  refine xr_if_eq (pc := 79) (tgt := 97) (hI := d_QuestionReader_takesRun_79) (ht := by decide) (fun q9 => ?_) (fun q9 => ?_)
  · replace hyp := hyp.1 q9
    have q1_ := q9
    clear q9
    exact hyp
  · replace hyp := hyp.2 q9
    have q1_ := q9
    clear q9
    refine xr_aload_n (pc := 82) (i := 0) (hI := d_QuestionReader_takesRun_82) (hi := rfl) (hl := rfl) ?_
    refine xr_aload_n (pc := 83) (i := 1) (hI := d_QuestionReader_takesRun_83) (hi := rfl) (hl := rfl) ?_
    exact xq_callS (pc := 84) (index := 170) (K := m_QuestionReader_namedField) (As := [xR 1]) (S := [xR 32]) (L0 := [xR 1]) (hI := d_QuestionReader_takesRun_84) (hK := k_QuestionReader_namedField) (hlk := w_1025) (hnoM := rfl) (hS8 := Nat.le_of_ble_eq_true rfl) (hstat := w_1026) (hlen := Nat.le_of_ble_eq_true rfl) (hst := rfl) (hL0 := rfl)  (xwp_mono hyp (fun v9 h9 q9 => xr_drop (L9 := [xR 32, xZ, xZ]) (xdrs (xdrz (xdrs xdr0))) q9) (fun _ _ z9 => z9))
theorem d_QuestionReader_takesRun_87 : decode prog_7_method_13_code 87 = .ok (.putfield 70, 3) := by decide +kernel
theorem d_QuestionReader_takesRun_90 : decode prog_7_method_13_code 90 = .ok (.aload_n 0, 1) := by decide +kernel
theorem d_QuestionReader_takesRun_91 : decode prog_7_method_13_code 91 = .ok (.iconst 3, 1) := by decide +kernel
theorem d_QuestionReader_takesRun_92 : decode prog_7_method_13_code 92 = .ok (.putfield 64, 3) := by decide +kernel
theorem d_QuestionReader_takesRun_95 : decode prog_7_method_13_code 95 = .ok (.iconst 1, 1) := by decide +kernel
theorem d_QuestionReader_takesRun_96 : decode prog_7_method_13_code 96 = .ok (.ireturn, 1) := by decide +kernel
theorem v_QuestionReader_takesRun_87 {G : XG} {d : Nat} {h : XH} {Q : XV → XH → Prop} {X : Nat → XH → Prop} {s0 : Int} (F : xFix h) (hyp : (xFix (xst (xst h 32 14 s0) 32 12 3) → Q (xI 1) (xst (xst h 32 14 s0) 32 12 3))) : xwp G m_QuestionReader_takesRun (d + 9) 87 [xR 32, xZ, xZ] [xI s0, xR 32] h Q X := by
  have hnx9 : (93 : Int) ≤ xnx h := F.2.2
  refine xr_okS (fun hs9 => ?_)
  have r_s0 : -2147483648 ≤ s0 ∧ s0 ≤ 2147483647 := hs9 (xI s0) (.head _)
  refine xr_putf (pc := 87) (ci := 6) (k := 14) (N := 15) (v9 := 0) (T := xF6) (tF := xT6) (hI := d_QuestionReader_takesRun_87) (hw := w_322) rfl xi6 xt6 xn6 (Or.inl rfl) (Nat.le_of_ble_eq_true rfl) (Nat.le_of_ble_eq_true rfl) rfl xfit_i rfl (ft_32 F) (by decide) (fun z => z) ?_
  have F1_ : xFix (xst h 32 14 s0) := F.stL xfk_32_14
  refine xr_aload_n (pc := 90) (i := 0) (hI := d_QuestionReader_takesRun_90) (hi := rfl) (hl := rfl) ?_
  refine xr_iconst (pc := 91) (hI := d_QuestionReader_takesRun_91) (hr := by decide) ?_
  refine xr_putf (pc := 92) (ci := 6) (k := 12) (N := 15) (v9 := 0) (T := xF6) (tF := xT6) (hI := d_QuestionReader_takesRun_92) (hw := w_320) rfl xi6 xt6 xn6 (Or.inl rfl) (Nat.le_of_ble_eq_true rfl) (Nat.le_of_ble_eq_true rfl) rfl xfit_i rfl (ft_32 F1_) (by decide) (fun z => z) ?_
  have F2_ : xFix (xst (xst h 32 14 s0) 32 12 3) := F1_.stL xfk_32_12
  refine xr_iconst (pc := 95) (hI := d_QuestionReader_takesRun_95) (hr := by decide) ?_
  refine xr_ireturnT (S := []) (pc := 96) (hI := d_QuestionReader_takesRun_96) (hr := rfl) (xnar_z (by decide)) ?_
  exact hyp F2_
theorem d_QuestionReader_takesRun_97 : decode prog_7_method_13_code 97 = .ok (.iconst 1, 1) := by decide +kernel
theorem d_QuestionReader_takesRun_98 : decode prog_7_method_13_code 98 = .ok (.newarray .long, 2) := by decide +kernel
theorem d_QuestionReader_takesRun_100 : decode prog_7_method_13_code 100 = .ok (.dup, 1) := by decide +kernel
theorem d_QuestionReader_takesRun_101 : decode prog_7_method_13_code 101 = .ok (.iconst 0, 1) := by decide +kernel
theorem d_QuestionReader_takesRun_102 : decode prog_7_method_13_code 102 = .ok (.aload_n 0, 1) := by decide +kernel
theorem d_QuestionReader_takesRun_103 : decode prog_7_method_13_code 103 = .ok (.getfield 60, 3) := by decide +kernel
theorem d_QuestionReader_takesRun_106 : decode prog_7_method_13_code 106 = .ok (.lastore, 1) := by decide +kernel
theorem d_QuestionReader_takesRun_107 : decode prog_7_method_13_code 107 = .ok (.astore_n 2, 1) := by decide +kernel
theorem d_QuestionReader_takesRun_108 : decode prog_7_method_13_code 108 = .ok (.aload_n 0, 1) := by decide +kernel
theorem d_QuestionReader_takesRun_109 : decode prog_7_method_13_code 109 = .ok (.iconst 0, 1) := by decide +kernel
theorem d_QuestionReader_takesRun_110 : decode prog_7_method_13_code 110 = .ok (.aload_n 2, 1) := by decide +kernel
theorem d_QuestionReader_takesRun_111 : decode prog_7_method_13_code 111 = .ok (.invokevirtual 177, 3) := by decide +kernel
theorem v_QuestionReader_takesRun_97 {G : XG} {d : Nat} {h : XH} {Q : XV → XH → Prop} {X : Nat → XH → Prop} (F : xFix h) (hyp : xnx h + 1 ≤ xKC ∧ xsl h + 1 ≤ xKS ∧ (xFix (xst (xmk h 101 1 (fun _ => 0)) (xnx h) 0 (xpl h 32 11)) → xwp G m_QuestionReader_appendPart (d + 8) 0 [xR 32, xI 0, xR (xnx h), xZ, xZ, xZ] [] (xst (xmk h 101 1 (fun _ => 0)) (xnx h) 0 (xpl h 32 11)) (fun v9 h9 => xwp G m_QuestionReader_takesRun (d + 9) 114 [xR 32, xR 1, xZ] (xpush v9 []) h9 Q X) X)) : xwp G m_QuestionReader_takesRun (d + 9) 97 [xR 32, xR 1, xZ] [] h Q X := by
  have hnx9 : (93 : Int) ≤ xnx h := F.2.2
  refine xr_iconst (pc := 97) (hI := d_QuestionReader_takesRun_97) (hr := by decide) ?_
  obtain ⟨c8, c9, hyp⟩ := hyp
  refine xr_newarray (pc := 98) (t := 101) (hI := d_QuestionReader_takesRun_98) rfl w_80 rfl (Nat.le_of_ble_eq_true rfl) (Nat.le_of_ble_eq_true rfl) (by decide) (fun _ => rfl) (xok_z rfl) (by decide) (by decide) c8 c9 ?_
  have F1_ : xFix (xmk h 101 1 (fun _ => 0)) := F.mk
  have f2_ : (93 : Int) ≤ xnx h := F.nx
  have f3_ : (93 : Int) ≤ xnx (xmk h 101 1 (fun _ => 0)) := F1_.nx
  have f4_ : xnx (xmk h 101 1 (fun _ => 0)) = xnx h + 1 := xnx_mk _ _ _ _
  refine xr_dup (pc := 100) (hI := d_QuestionReader_takesRun_100) (hv := rfl) ?_
  refine xr_iconst (pc := 101) (hI := d_QuestionReader_takesRun_101) (hr := by decide) ?_
  refine xr_aload_n (pc := 102) (i := 0) (hI := d_QuestionReader_takesRun_102) (hi := rfl) (hl := rfl) ?_
  refine xg_getf (pc := 103) (ci := 6) (k := 11) (N := 15) (v9 := 1) (v := (xpl h 32 11)) (T := xF6) (hI := d_QuestionReader_takesRun_103) (hw := w_319) rfl xi6 (Or.inl rfl) (Nat.le_of_ble_eq_true rfl) (Nat.le_of_ble_eq_true rfl) rfl (ft_32 F1_) (xpl_old (by clear hyp; first | omega | (simp only [xnx_st, xnx_mk]; omega))) (fun f5_ => ?_)
  replace f5_ : -9223372036854775808 ≤ (xpl h 32 11) ∧ (xpl h 32 11) ≤ 9223372036854775807 := f5_
  refine xr_lastore (pc := 106) (hI := d_QuestionReader_takesRun_106) (xtg_new rfl) (by clear hyp; omega) (by decide) (xlt_of (xln_new rfl) (by decide)) ?_
  have F6_ : xFix (xst (xmk h 101 1 (fun _ => 0)) (xnx h) 0 (xpl h 32 11)) := F1_.stD (by clear hyp; omega)
  refine xr_astore_n (pc := 107) (i := 2) (L9 := [xR 32, xR 1, xR (xnx h)]) (hI := d_QuestionReader_takesRun_107) (hi := rfl) (hn := Nat.le_of_ble_eq_true rfl) (hL9 := rfl) ?_
  refine xr_aload_n (pc := 108) (i := 0) (hI := d_QuestionReader_takesRun_108) (hi := rfl) (hl := rfl) ?_
  refine xr_iconst (pc := 109) (hI := d_QuestionReader_takesRun_109) (hr := by decide) ?_
  refine xr_aload_n (pc := 110) (i := 2) (hI := d_QuestionReader_takesRun_110) (hi := rfl) (hl := rfl) ?_
  exact xq_callV (pc := 111) (index := 177) (K := m_QuestionReader_appendPart) (As := [xI 0, xR (xnx h)]) (S := []) (L0 := [xR 32, xI 0, xR (xnx h), xZ, xZ, xZ]) (hI := d_QuestionReader_takesRun_111) (hK := k_QuestionReader_appendPart) (hlk := w_1035) (hnoM := rfl) (hS8 := Nat.le_of_ble_eq_true rfl) (ci := 6) (N := 15) (C := "BeaconIndex$QuestionReader") (T := xF6) (hc := rfl) (hci := Nat.le_of_ble_eq_true rfl) (htb := (ft_32 F6_)) (hinst := w_1037) (hsel := sel_QuestionReader_appendPart) (hlen := Nat.le_of_ble_eq_true rfl) (hst := rfl) (hL0 := rfl)  (xwp_mono (hyp F6_) (fun v9 h9 q9 => xr_drop (L9 := [xR 32, xR 1, xZ]) (xdrs (xdrs (xdrz xdr0))) q9) (fun _ _ z9 => z9))
theorem d_QuestionReader_takesRun_114 : decode prog_7_method_13_code 114 = .ok (.aload_n 0, 1) := by decide +kernel
theorem d_QuestionReader_takesRun_115 : decode prog_7_method_13_code 115 = .ok (.getfield 48, 3) := by decide +kernel
theorem d_QuestionReader_takesRun_118 : decode prog_7_method_13_code 118 = .ok (.aload_n 1, 1) := by decide +kernel
theorem d_QuestionReader_takesRun_119 : decode prog_7_method_13_code 119 = .ok (.invokevirtual 181, 3) := by decide +kernel
theorem k_Tape_runUnshortened : xCal m_Tape_runUnshortened 0 := ⟨List.mem_append_right _ (List.mem_of_getElem? (i := 1045) (by decide +kernel)), w_2, Nat.le_of_ble_eq_true rfl, ⟨by decide +kernel, by decide +kernel⟩, by decide +kernel, by decide +kernel, rfl⟩
theorem w_1042 : Cond.methodLink "BeaconIndex$QuestionReader" 181 ⟨"BeaconIndex$Tape", "runUnshortened", "()J"⟩ ∈ lw_tbl := List.mem_append_right _ (List.mem_of_getElem? (i := 1042) (by decide +kernel))
theorem w_1043 : Cond.instanceMethod ⟨"BeaconIndex$Tape", "runUnshortened", "()J"⟩ ∈ lw_tbl := List.mem_append_right _ (List.mem_of_getElem? (i := 1043) (by decide +kernel))
theorem w_1044 : Cond.selects "BeaconIndex$Tape" ⟨"BeaconIndex$Tape", "runUnshortened", "()J"⟩ ⟨"BeaconIndex$Tape", "runUnshortened", "()J"⟩ ∈ lw_tbl := List.mem_append_right _ (List.mem_of_getElem? (i := 1044) (by decide +kernel))
theorem v_QuestionReader_takesRun_114 {G : XG} {d : Nat} {h : XH} {Q : XV → XH → Prop} {X : Nat → XH → Prop} (F : xFix h) (hyp : (xwp G m_Tape_runUnshortened (d + 8) 0 [xR 1] [] h (fun v9 h9 => xwp G m_QuestionReader_takesRun (d + 9) 122 [xR 32, xR 1, xZ] (xpush v9 [xR (xpl h 32 7)]) h9 Q X) X)) : xwp G m_QuestionReader_takesRun (d + 9) 114 [xR 32, xR 1, xZ] [] h Q X := by
  have hnx9 : (93 : Int) ≤ xnx h := F.2.2
  refine xr_aload_n (pc := 114) (i := 0) (hI := d_QuestionReader_takesRun_114) (hi := rfl) (hl := rfl) ?_
  refine xg_getf (pc := 115) (ci := 6) (k := 7) (N := 15) (v9 := 2) (v := (xpl h 32 7)) (T := xF6) (hI := d_QuestionReader_takesRun_115) (hw := w_315) rfl xi6 (Or.inl rfl) (Nat.le_of_ble_eq_true rfl) (Nat.le_of_ble_eq_true rfl) rfl (ft_32 F) rfl (fun f1_ => ?_)
  clear f1_
  refine xr_aload_n (pc := 118) (i := 1) (hI := d_QuestionReader_takesRun_118) (hi := rfl) (hl := rfl) ?_
  exact xq_callV (pc := 119) (index := 181) (K := m_Tape_runUnshortened) (As := []) (S := [xR (xpl h 32 7)]) (L0 := [xR 1]) (hI := d_QuestionReader_takesRun_119) (hK := k_Tape_runUnshortened) (hlk := w_1042) (hnoM := rfl) (hS8 := Nat.le_of_ble_eq_true rfl) (ci := 8) (N := 7) (C := "BeaconIndex$Tape") (T := xF8) (hc := rfl) (hci := Nat.le_of_ble_eq_true rfl) (htb := (ft_1 F)) (hinst := w_1043) (hsel := w_1044) (hlen := Nat.le_of_ble_eq_true rfl) (hst := rfl) (hL0 := rfl)  hyp
theorem d_QuestionReader_takesRun_122 : decode prog_7_method_13_code 122 = .ok (.putfield 184, 3) := by decide +kernel
theorem w_240 : Cond.fieldLink "BeaconIndex$QuestionReader" 184 "BeaconIndex$Part" "beginning" "J" ∈ lw_tbl := List.mem_append_right _ (List.mem_of_getElem? (i := 240) (by decide +kernel))
theorem xtk_4_8 : xfTK 4 8 = true := by decide +kernel
theorem d_QuestionReader_takesRun_125 : decode prog_7_method_13_code 125 = .ok (.aload_n 0, 1) := by decide +kernel
theorem d_QuestionReader_takesRun_126 : decode prog_7_method_13_code 126 = .ok (.getfield 48, 3) := by decide +kernel
theorem d_QuestionReader_takesRun_129 : decode prog_7_method_13_code 129 = .ok (.aload_n 1, 1) := by decide +kernel
theorem d_QuestionReader_takesRun_130 : decode prog_7_method_13_code 130 = .ok (.invokevirtual 111, 3) := by decide +kernel
theorem v_QuestionReader_takesRun_122 {G : XG} {d : Nat} {h : XH} {Q : XV → XH → Prop} {X : Nat → XH → Prop} {s0 s1 : Int} (F : xFix h) (hyp : xtg h s1 = 4 ∧ 0 ≤ s1 ∧ (xFix (xst h s1 8 s0) → xwp G m_Tape_runBytes (d + 8) 0 [xR 1] [] (xst h s1 8 s0) (fun v9 h9 => xwp G m_QuestionReader_takesRun (d + 9) 133 [xR 32, xZ, xZ] (xpush v9 [xR (xpl h 32 7)]) h9 Q X) X)) : xwp G m_QuestionReader_takesRun (d + 9) 122 [xR 32, xR 1, xZ] [xL s0, xR s1] h Q X := by
  have hnx9 : (93 : Int) ≤ xnx h := F.2.2
  refine xr_okS (fun hs9 => ?_)
  have r_s0 : -9223372036854775808 ≤ s0 ∧ s0 ≤ 9223372036854775807 := hs9 (xL s0) (.head _)
  obtain ⟨c9, hyp⟩ := hyp
  have t1_ := c9
  clear c9
  obtain ⟨c2_, hyp⟩ := hyp
  refine xr_putf (pc := 122) (ci := 4) (k := 8) (N := 13) (v9 := 1) (T := xF4) (tF := xT4) (hI := d_QuestionReader_takesRun_122) (hw := w_240) rfl xi4 xt4 xn4 (Or.inl rfl) (Nat.le_of_ble_eq_true rfl) (Nat.le_of_ble_eq_true rfl) rfl xfit_l rfl t1_ c2_ (fun z => z) ?_
  have F3_ : xFix (xst h s1 8 s0) := F.stT (t := 4) c2_ t1_ xtk_4_8
  refine xr_aload_n (pc := 125) (i := 0) (hI := d_QuestionReader_takesRun_125) (hi := rfl) (hl := rfl) ?_
  refine xg_getf (pc := 126) (ci := 6) (k := 7) (N := 15) (v9 := 2) (v := (xpl h 32 7)) (T := xF6) (hI := d_QuestionReader_takesRun_126) (hw := w_315) rfl xi6 (Or.inl rfl) (Nat.le_of_ble_eq_true rfl) (Nat.le_of_ble_eq_true rfl) rfl (ft_32 F3_) (xpl_oa (xne_tag (ft_32 F3_) t1_ (by decide))) (fun f4_ => ?_)
  clear f4_
  refine xr_aload_n (pc := 129) (i := 1) (hI := d_QuestionReader_takesRun_129) (hi := rfl) (hl := rfl) ?_
  exact xq_callV (pc := 130) (index := 111) (K := m_Tape_runBytes) (As := []) (S := [xR (xpl h 32 7)]) (L0 := [xR 1]) (hI := d_QuestionReader_takesRun_130) (hK := k_Tape_runBytes) (hlk := w_969) (hnoM := rfl) (hS8 := Nat.le_of_ble_eq_true rfl) (ci := 8) (N := 7) (C := "BeaconIndex$Tape") (T := xF8) (hc := rfl) (hci := Nat.le_of_ble_eq_true rfl) (htb := (ft_1 F3_)) (hinst := w_970) (hsel := w_971) (hlen := Nat.le_of_ble_eq_true rfl) (hst := rfl) (hL0 := rfl)  (xwp_mono (hyp F3_) (fun v9 h9 q9 => xr_drop (L9 := [xR 32, xZ, xZ]) (xdrs (xdrz (xdrs xdr0))) q9) (fun _ _ z9 => z9))
theorem d_QuestionReader_takesRun_133 : decode prog_7_method_13_code 133 = .ok (.putfield 187, 3) := by decide +kernel
theorem w_243 : Cond.fieldLink "BeaconIndex$QuestionReader" 187 "BeaconIndex$Part" "beginningBytes" "I" ∈ lw_tbl := List.mem_append_right _ (List.mem_of_getElem? (i := 243) (by decide +kernel))
theorem xtk_4_9 : xfTK 4 9 = true := by decide +kernel
theorem d_QuestionReader_takesRun_136 : decode prog_7_method_13_code 136 = .ok (.aload_n 0, 1) := by decide +kernel
theorem d_QuestionReader_takesRun_137 : decode prog_7_method_13_code 137 = .ok (.bipush 8, 2) := by decide +kernel
theorem d_QuestionReader_takesRun_139 : decode prog_7_method_13_code 139 = .ok (.putfield 64, 3) := by decide +kernel
theorem d_QuestionReader_takesRun_142 : decode prog_7_method_13_code 142 = .ok (.iconst 1, 1) := by decide +kernel
theorem d_QuestionReader_takesRun_143 : decode prog_7_method_13_code 143 = .ok (.ireturn, 1) := by decide +kernel
theorem v_QuestionReader_takesRun_133 {G : XG} {d : Nat} {h : XH} {Q : XV → XH → Prop} {X : Nat → XH → Prop} {s0 s1 : Int} (F : xFix h) (hyp : xtg h s1 = 4 ∧ 0 ≤ s1 ∧ (xFix (xst (xst h s1 9 s0) 32 12 8) → Q (xI 1) (xst (xst h s1 9 s0) 32 12 8))) : xwp G m_QuestionReader_takesRun (d + 9) 133 [xR 32, xZ, xZ] [xI s0, xR s1] h Q X := by
  have hnx9 : (93 : Int) ≤ xnx h := F.2.2
  refine xr_okS (fun hs9 => ?_)
  have r_s0 : -2147483648 ≤ s0 ∧ s0 ≤ 2147483647 := hs9 (xI s0) (.head _)
  obtain ⟨c9, hyp⟩ := hyp
  have t1_ := c9
  clear c9
  obtain ⟨c2_, hyp⟩ := hyp
  refine xr_putf (pc := 133) (ci := 4) (k := 9) (N := 13) (v9 := 0) (T := xF4) (tF := xT4) (hI := d_QuestionReader_takesRun_133) (hw := w_243) rfl xi4 xt4 xn4 (Or.inl rfl) (Nat.le_of_ble_eq_true rfl) (Nat.le_of_ble_eq_true rfl) rfl xfit_i rfl t1_ c2_ (fun z => z) ?_
  have F3_ : xFix (xst h s1 9 s0) := F.stT (t := 4) c2_ t1_ xtk_4_9
  refine xr_aload_n (pc := 136) (i := 0) (hI := d_QuestionReader_takesRun_136) (hi := rfl) (hl := rfl) ?_
  refine xr_bipush (pc := 137) (hI := d_QuestionReader_takesRun_137) (hr := by decide) (hv := by decide) ?_
  refine xr_putf (pc := 139) (ci := 6) (k := 12) (N := 15) (v9 := 0) (T := xF6) (tF := xT6) (hI := d_QuestionReader_takesRun_139) (hw := w_320) rfl xi6 xt6 xn6 (Or.inl rfl) (Nat.le_of_ble_eq_true rfl) (Nat.le_of_ble_eq_true rfl) rfl xfit_i rfl (ft_32 F3_) (by decide) (fun z => z) ?_
  have F4_ : xFix (xst (xst h s1 9 s0) 32 12 8) := F3_.stL xfk_32_12
  refine xr_iconst (pc := 142) (hI := d_QuestionReader_takesRun_142) (hr := by decide) ?_
  refine xr_ireturnT (S := []) (pc := 143) (hI := d_QuestionReader_takesRun_143) (hr := rfl) (xnar_z (by decide)) ?_
  exact hyp F4_
abbrev m_QuestionReader_takes : XM := (⟨"BeaconIndex$QuestionReader", "takes", "(LBeaconIndex$Tape;)Z"⟩, prog_7_method_6_code, 2, (some .boolean), [])
theorem d_QuestionReader_takes_0 : decode prog_7_method_6_code 0 = .ok (.aload_n 0, 1) := by decide +kernel
theorem d_QuestionReader_takes_1 : decode prog_7_method_6_code 1 = .ok (.getfield 57, 3) := by decide +kernel
theorem d_QuestionReader_takes_4 : decode prog_7_method_6_code 4 = .ok (.lookupswitch 223 #[(0, 199), (1, 100), (34, 111), (40, 189), (41, 194), (42, 116), (43, 106), (45, 106), (58, 170), (94, 142), (126, 121)], 100) := by decide +kernel
theorem d_QuestionReader_takes_203 : decode prog_7_method_6_code 203 = .ok (.aload_n 0, 1) := by decide +kernel
theorem d_QuestionReader_takes_204 : decode prog_7_method_6_code 204 = .ok (.invokevirtual 143, 3) := by decide +kernel
theorem d_QuestionReader_takes_207 : decode prog_7_method_6_code 207 = .ok (.ifCond .eq 18, 3) := by decide +kernel
theorem d_QuestionReader_takes_225 : decode prog_7_method_6_code 225 = .ok (.iconst 0, 1) := by decide +kernel
theorem d_QuestionReader_takes_226 : decode prog_7_method_6_code 226 = .ok (.ireturn, 1) := by decide +kernel
theorem d_QuestionReader_takes_210 : decode prog_7_method_6_code 210 = .ok (.aload_n 0, 1) := by decide +kernel
theorem d_QuestionReader_takes_211 : decode prog_7_method_6_code 211 = .ok (.getfield 22, 3) := by decide +kernel
theorem d_QuestionReader_takes_214 : decode prog_7_method_6_code 214 = .ok (.invokevirtual 152, 3) := by decide +kernel
theorem d_QuestionReader_takes_217 : decode prog_7_method_6_code 217 = .ok (.iconst 1, 1) := by decide +kernel
theorem d_QuestionReader_takes_218 : decode prog_7_method_6_code 218 = .ok (.if_icmp .ne 7, 3) := by decide +kernel
theorem d_QuestionReader_takes_221 : decode prog_7_method_6_code 221 = .ok (.iconst 1, 1) := by decide +kernel
theorem d_QuestionReader_takes_222 : decode prog_7_method_6_code 222 = .ok (.goto 4, 3) := by decide +kernel
theorem d_QuestionReader_takes_104 : decode prog_7_method_6_code 104 = .ok (.aload_n 0, 1) := by decide +kernel
theorem d_QuestionReader_takes_105 : decode prog_7_method_6_code 105 = .ok (.aload_n 1, 1) := by decide +kernel
theorem d_QuestionReader_takes_106 : decode prog_7_method_6_code 106 = .ok (.invokevirtual 127, 3) := by decide +kernel
theorem k_QuestionReader_takesRun : xCal m_QuestionReader_takesRun 1 := ⟨List.mem_append_right _ (List.mem_of_getElem? (i := 1000) (by decide +kernel)), w_9, Nat.le_of_ble_eq_true rfl, ⟨by decide +kernel, by decide +kernel⟩, by decide +kernel, by decide +kernel, rfl⟩
theorem w_997 : Cond.methodLink "BeaconIndex$QuestionReader" 127 ⟨"BeaconIndex$QuestionReader", "takesRun", "(LBeaconIndex$Tape;)Z"⟩ ∈ lw_tbl := List.mem_append_right _ (List.mem_of_getElem? (i := 997) (by decide +kernel))
theorem w_999 : Cond.instanceMethod ⟨"BeaconIndex$QuestionReader", "takesRun", "(LBeaconIndex$Tape;)Z"⟩ ∈ lw_tbl := List.mem_append_right _ (List.mem_of_getElem? (i := 999) (by decide +kernel))
theorem sel_QuestionReader_takesRun : Cond.selects "BeaconIndex$QuestionReader" ⟨"BeaconIndex$QuestionReader", "takesRun", "(LBeaconIndex$Tape;)Z"⟩ ⟨"BeaconIndex$QuestionReader", "takesRun", "(LBeaconIndex$Tape;)Z"⟩ ∈ lw_tbl := List.mem_append_left _ (by decide +kernel)
theorem d_QuestionReader_takes_115 : decode prog_7_method_6_code 115 = .ok (.aload_n 0, 1) := by decide +kernel
theorem d_QuestionReader_takes_116 : decode prog_7_method_6_code 116 = .ok (.invokevirtual 133, 3) := by decide +kernel
theorem k_QuestionReader_takesQuote : xCal m_QuestionReader_takesQuote 0 := ⟨List.mem_append_right _ (List.mem_of_getElem? (i := 1053) (by decide +kernel)), w_9, Nat.le_of_ble_eq_true rfl, ⟨by decide +kernel, by decide +kernel⟩, by decide +kernel, by decide +kernel, rfl⟩
theorem w_1050 : Cond.methodLink "BeaconIndex$QuestionReader" 133 ⟨"BeaconIndex$QuestionReader", "takesQuote", "()Z"⟩ ∈ lw_tbl := List.mem_append_right _ (List.mem_of_getElem? (i := 1050) (by decide +kernel))
theorem w_1052 : Cond.instanceMethod ⟨"BeaconIndex$QuestionReader", "takesQuote", "()Z"⟩ ∈ lw_tbl := List.mem_append_right _ (List.mem_of_getElem? (i := 1052) (by decide +kernel))
theorem sel_QuestionReader_takesQuote : Cond.selects "BeaconIndex$QuestionReader" ⟨"BeaconIndex$QuestionReader", "takesQuote", "()Z"⟩ ⟨"BeaconIndex$QuestionReader", "takesQuote", "()Z"⟩ ∈ lw_tbl := List.mem_append_left _ (by decide +kernel)
theorem d_QuestionReader_takes_193 : decode prog_7_method_6_code 193 = .ok (.aload_n 0, 1) := by decide +kernel
theorem d_QuestionReader_takes_194 : decode prog_7_method_6_code 194 = .ok (.invokevirtual 146, 3) := by decide +kernel
theorem k_QuestionReader_takesOpening : xCal m_QuestionReader_takesOpening 0 := ⟨List.mem_append_right _ (List.mem_of_getElem? (i := 1070) (by decide +kernel)), w_9, Nat.le_of_ble_eq_true rfl, ⟨by decide +kernel, by decide +kernel⟩, by decide +kernel, by decide +kernel, rfl⟩
theorem w_1067 : Cond.methodLink "BeaconIndex$QuestionReader" 146 ⟨"BeaconIndex$QuestionReader", "takesOpening", "()Z"⟩ ∈ lw_tbl := List.mem_append_right _ (List.mem_of_getElem? (i := 1067) (by decide +kernel))
theorem w_1069 : Cond.instanceMethod ⟨"BeaconIndex$QuestionReader", "takesOpening", "()Z"⟩ ∈ lw_tbl := List.mem_append_right _ (List.mem_of_getElem? (i := 1069) (by decide +kernel))
theorem sel_QuestionReader_takesOpening : Cond.selects "BeaconIndex$QuestionReader" ⟨"BeaconIndex$QuestionReader", "takesOpening", "()Z"⟩ ⟨"BeaconIndex$QuestionReader", "takesOpening", "()Z"⟩ ∈ lw_tbl := List.mem_append_left _ (by decide +kernel)
theorem d_QuestionReader_takes_198 : decode prog_7_method_6_code 198 = .ok (.aload_n 0, 1) := by decide +kernel
theorem d_QuestionReader_takes_199 : decode prog_7_method_6_code 199 = .ok (.invokevirtual 149, 3) := by decide +kernel
theorem k_QuestionReader_takesClosing : xCal m_QuestionReader_takesClosing 0 := ⟨List.mem_append_right _ (List.mem_of_getElem? (i := 1074) (by decide +kernel)), w_9, Nat.le_of_ble_eq_true rfl, ⟨by decide +kernel, by decide +kernel⟩, by decide +kernel, by decide +kernel, rfl⟩
theorem w_1071 : Cond.methodLink "BeaconIndex$QuestionReader" 149 ⟨"BeaconIndex$QuestionReader", "takesClosing", "()Z"⟩ ∈ lw_tbl := List.mem_append_right _ (List.mem_of_getElem? (i := 1071) (by decide +kernel))
theorem w_1073 : Cond.instanceMethod ⟨"BeaconIndex$QuestionReader", "takesClosing", "()Z"⟩ ∈ lw_tbl := List.mem_append_right _ (List.mem_of_getElem? (i := 1073) (by decide +kernel))
theorem sel_QuestionReader_takesClosing : Cond.selects "BeaconIndex$QuestionReader" ⟨"BeaconIndex$QuestionReader", "takesClosing", "()Z"⟩ ⟨"BeaconIndex$QuestionReader", "takesClosing", "()Z"⟩ ∈ lw_tbl := List.mem_append_left _ (by decide +kernel)
theorem d_QuestionReader_takes_120 : decode prog_7_method_6_code 120 = .ok (.aload_n 0, 1) := by decide +kernel
theorem d_QuestionReader_takes_121 : decode prog_7_method_6_code 121 = .ok (.invokevirtual 136, 3) := by decide +kernel
theorem k_QuestionReader_takesStar : xCal m_QuestionReader_takesStar 0 := ⟨List.mem_append_right _ (List.mem_of_getElem? (i := 1062) (by decide +kernel)), w_9, Nat.le_of_ble_eq_true rfl, ⟨by decide +kernel, by decide +kernel⟩, by decide +kernel, by decide +kernel, rfl⟩
theorem w_1059 : Cond.methodLink "BeaconIndex$QuestionReader" 136 ⟨"BeaconIndex$QuestionReader", "takesStar", "()Z"⟩ ∈ lw_tbl := List.mem_append_right _ (List.mem_of_getElem? (i := 1059) (by decide +kernel))
theorem w_1061 : Cond.instanceMethod ⟨"BeaconIndex$QuestionReader", "takesStar", "()Z"⟩ ∈ lw_tbl := List.mem_append_right _ (List.mem_of_getElem? (i := 1061) (by decide +kernel))
theorem sel_QuestionReader_takesStar : Cond.selects "BeaconIndex$QuestionReader" ⟨"BeaconIndex$QuestionReader", "takesStar", "()Z"⟩ ⟨"BeaconIndex$QuestionReader", "takesStar", "()Z"⟩ ∈ lw_tbl := List.mem_append_left _ (by decide +kernel)
theorem d_QuestionReader_takes_110 : decode prog_7_method_6_code 110 = .ok (.aload_n 0, 1) := by decide +kernel
theorem d_QuestionReader_takes_111 : decode prog_7_method_6_code 111 = .ok (.invokevirtual 130, 3) := by decide +kernel
theorem k_QuestionReader_takesSign : xCal m_QuestionReader_takesSign 0 := ⟨List.mem_append_right _ (List.mem_of_getElem? (i := 1049) (by decide +kernel)), w_9, Nat.le_of_ble_eq_true rfl, ⟨by decide +kernel, by decide +kernel⟩, by decide +kernel, by decide +kernel, rfl⟩
theorem w_1046 : Cond.methodLink "BeaconIndex$QuestionReader" 130 ⟨"BeaconIndex$QuestionReader", "takesSign", "()Z"⟩ ∈ lw_tbl := List.mem_append_right _ (List.mem_of_getElem? (i := 1046) (by decide +kernel))
theorem w_1048 : Cond.instanceMethod ⟨"BeaconIndex$QuestionReader", "takesSign", "()Z"⟩ ∈ lw_tbl := List.mem_append_right _ (List.mem_of_getElem? (i := 1048) (by decide +kernel))
theorem sel_QuestionReader_takesSign : Cond.selects "BeaconIndex$QuestionReader" ⟨"BeaconIndex$QuestionReader", "takesSign", "()Z"⟩ ⟨"BeaconIndex$QuestionReader", "takesSign", "()Z"⟩ ∈ lw_tbl := List.mem_append_left _ (by decide +kernel)
theorem d_QuestionReader_takes_174 : decode prog_7_method_6_code 174 = .ok (.aload_n 0, 1) := by decide +kernel
theorem d_QuestionReader_takes_175 : decode prog_7_method_6_code 175 = .ok (.aload_n 0, 1) := by decide +kernel
theorem d_QuestionReader_takes_176 : decode prog_7_method_6_code 176 = .ok (.getfield 64, 3) := by decide +kernel
theorem d_QuestionReader_takes_179 : decode prog_7_method_6_code 179 = .ok (.iconst 3, 1) := by decide +kernel
theorem d_QuestionReader_takes_180 : decode prog_7_method_6_code 180 = .ok (.if_icmp .ne 7, 3) := by decide +kernel
theorem d_QuestionReader_takes_187 : decode prog_7_method_6_code 187 = .ok (.iconst 0, 1) := by decide +kernel
theorem d_QuestionReader_takes_188 : decode prog_7_method_6_code 188 = .ok (.iconst 2, 1) := by decide +kernel
theorem d_QuestionReader_takes_189 : decode prog_7_method_6_code 189 = .ok (.invokevirtual 139, 3) := by decide +kernel
theorem k_QuestionReader_moves : xCal m_QuestionReader_moves 2 := ⟨List.mem_append_right _ (List.mem_of_getElem? (i := 1066) (by decide +kernel)), w_9, Nat.le_of_ble_eq_true rfl, ⟨by decide +kernel, by decide +kernel⟩, by decide +kernel, by decide +kernel, rfl⟩
theorem w_1063 : Cond.methodLink "BeaconIndex$QuestionReader" 139 ⟨"BeaconIndex$QuestionReader", "moves", "(ZI)Z"⟩ ∈ lw_tbl := List.mem_append_right _ (List.mem_of_getElem? (i := 1063) (by decide +kernel))
theorem w_1065 : Cond.instanceMethod ⟨"BeaconIndex$QuestionReader", "moves", "(ZI)Z"⟩ ∈ lw_tbl := List.mem_append_right _ (List.mem_of_getElem? (i := 1065) (by decide +kernel))
theorem sel_QuestionReader_moves : Cond.selects "BeaconIndex$QuestionReader" ⟨"BeaconIndex$QuestionReader", "moves", "(ZI)Z"⟩ ⟨"BeaconIndex$QuestionReader", "moves", "(ZI)Z"⟩ ∈ lw_tbl := List.mem_append_left _ (by decide +kernel)
theorem d_QuestionReader_takes_183 : decode prog_7_method_6_code 183 = .ok (.iconst 1, 1) := by decide +kernel
theorem d_QuestionReader_takes_184 : decode prog_7_method_6_code 184 = .ok (.goto 4, 3) := by decide +kernel
theorem d_QuestionReader_takes_146 : decode prog_7_method_6_code 146 = .ok (.aload_n 0, 1) := by decide +kernel
theorem d_QuestionReader_takes_147 : decode prog_7_method_6_code 147 = .ok (.aload_n 0, 1) := by decide +kernel
theorem d_QuestionReader_takes_148 : decode prog_7_method_6_code 148 = .ok (.invokevirtual 143, 3) := by decide +kernel
theorem d_QuestionReader_takes_151 : decode prog_7_method_6_code 151 = .ok (.ifCond .eq 16, 3) := by decide +kernel
theorem d_QuestionReader_takes_167 : decode prog_7_method_6_code 167 = .ok (.iconst 0, 1) := by decide +kernel
theorem d_QuestionReader_takes_168 : decode prog_7_method_6_code 168 = .ok (.bipush 7, 2) := by decide +kernel
theorem d_QuestionReader_takes_170 : decode prog_7_method_6_code 170 = .ok (.invokevirtual 139, 3) := by decide +kernel
theorem d_QuestionReader_takes_154 : decode prog_7_method_6_code 154 = .ok (.aload_n 0, 1) := by decide +kernel
theorem d_QuestionReader_takes_155 : decode prog_7_method_6_code 155 = .ok (.getfield 64, 3) := by decide +kernel
theorem d_QuestionReader_takes_158 : decode prog_7_method_6_code 158 = .ok (.bipush 11, 2) := by decide +kernel
theorem d_QuestionReader_takes_160 : decode prog_7_method_6_code 160 = .ok (.if_icmp .eq 7, 3) := by decide +kernel
theorem d_QuestionReader_takes_163 : decode prog_7_method_6_code 163 = .ok (.iconst 1, 1) := by decide +kernel
theorem d_QuestionReader_takes_164 : decode prog_7_method_6_code 164 = .ok (.goto 4, 3) := by decide +kernel
theorem d_QuestionReader_takes_125 : decode prog_7_method_6_code 125 = .ok (.aload_n 0, 1) := by decide +kernel
theorem d_QuestionReader_takes_126 : decode prog_7_method_6_code 126 = .ok (.aload_n 0, 1) := by decide +kernel
theorem d_QuestionReader_takes_127 : decode prog_7_method_6_code 127 = .ok (.getfield 64, 3) := by decide +kernel
theorem d_QuestionReader_takes_130 : decode prog_7_method_6_code 130 = .ok (.bipush 9, 2) := by decide +kernel
theorem d_QuestionReader_takes_132 : decode prog_7_method_6_code 132 = .ok (.if_icmp .ne 7, 3) := by decide +kernel
theorem d_QuestionReader_takes_139 : decode prog_7_method_6_code 139 = .ok (.iconst 0, 1) := by decide +kernel
theorem d_QuestionReader_takes_140 : decode prog_7_method_6_code 140 = .ok (.bipush 6, 2) := by decide +kernel
theorem d_QuestionReader_takes_142 : decode prog_7_method_6_code 142 = .ok (.invokevirtual 139, 3) := by decide +kernel
theorem d_QuestionReader_takes_135 : decode prog_7_method_6_code 135 = .ok (.iconst 1, 1) := by decide +kernel
theorem d_QuestionReader_takes_136 : decode prog_7_method_6_code 136 = .ok (.goto 4, 3) := by decide +kernel
theorem d_QuestionReader_takes_227 : decode prog_7_method_6_code 227 = .ok (.iconst 0, 1) := by decide +kernel
theorem d_QuestionReader_takes_228 : decode prog_7_method_6_code 228 = .ok (.ireturn, 1) := by decide +kernel
theorem v_QuestionReader_takes_0 {G : XG} {d : Nat} {h : XH} {Q : XV → XH → Prop} {X : Nat → XH → Prop} (F : xFix h) (hyp : (((xpl h 32 10) = 0 → ((((decide (8 ≤ (xpl h 32 12))) = true) → alok h 34 ∧ (((als h 34) = 1 → (Q (xI 1) h)) ∧ (¬ (als h 34) = 1 → (Q (xI 0) h)))) ∧ (¬ ((decide (8 ≤ (xpl h 32 12))) = true) → (Q (xI 0) h)))) ∧ ((xpl h 32 10) = 1 → (xwp G m_QuestionReader_takesRun (d + 10) 0 [xR 32, xR 1, xZ] [] h (fun v9 h9 => xwp G m_QuestionReader_takes (d + 11) 109 [xZ, xZ] (xpush v9 []) h9 Q X) X)) ∧ ((xpl h 32 10) = 34 → (xwp G m_QuestionReader_takesQuote (d + 10) 0 [xR 32] [] h (fun v9 h9 => xwp G m_QuestionReader_takes (d + 11) 119 [xZ, xZ] (xpush v9 []) h9 Q X) X)) ∧ ((xpl h 32 10) = 40 → (xwp G m_QuestionReader_takesOpening (d + 10) 0 [xR 32] [] h (fun v9 h9 => xwp G m_QuestionReader_takes (d + 11) 197 [xZ, xZ] (xpush v9 []) h9 Q X) X)) ∧ ((xpl h 32 10) = 41 → (xwp G m_QuestionReader_takesClosing (d + 10) 0 [xR 32] [] h (fun v9 h9 => xwp G m_QuestionReader_takes (d + 11) 202 [xZ, xZ] (xpush v9 []) h9 Q X) X)) ∧ ((xpl h 32 10) = 42 → (xwp G m_QuestionReader_takesStar (d + 10) 0 [xR 32] [] h (fun v9 h9 => xwp G m_QuestionReader_takes (d + 11) 124 [xZ, xZ] (xpush v9 []) h9 Q X) X)) ∧ ((xpl h 32 10) = 43 → (xwp G m_QuestionReader_takesSign (d + 10) 0 [xR 32] [] h (fun v9 h9 => xwp G m_QuestionReader_takes (d + 11) 114 [xZ, xZ] (xpush v9 []) h9 Q X) X)) ∧ ((xpl h 32 10) = 45 → (xwp G m_QuestionReader_takesSign (d + 10) 0 [xR 32] [] h (fun v9 h9 => xwp G m_QuestionReader_takes (d + 11) 114 [xZ, xZ] (xpush v9 []) h9 Q X) X)) ∧ ((xpl h 32 10) = 58 → (((xpl h 32 12) = 3 → (xwp G m_QuestionReader_moves (d + 10) 0 [xR 32, xI 1, xI 2] [] h (fun v9 h9 => xwp G m_QuestionReader_takes (d + 11) 192 [xZ, xZ] (xpush v9 []) h9 Q X) X)) ∧ (¬ (xpl h 32 12) = 3 → (xwp G m_QuestionReader_moves (d + 10) 0 [xR 32, xI 0, xI 2] [] h (fun v9 h9 => xwp G m_QuestionReader_takes (d + 11) 192 [xZ, xZ] (xpush v9 []) h9 Q X) X)))) ∧ ((xpl h 32 10) = 94 → ((((decide (8 ≤ (xpl h 32 12))) = true) → (((xpl h 32 12) = 11 → (xwp G m_QuestionReader_moves (d + 10) 0 [xR 32, xI 0, xI 7] [] h (fun v9 h9 => xwp G m_QuestionReader_takes (d + 11) 173 [xZ, xZ] (xpush v9 []) h9 Q X) X)) ∧ (¬ (xpl h 32 12) = 11 → (xwp G m_QuestionReader_moves (d + 10) 0 [xR 32, xI 1, xI 7] [] h (fun v9 h9 => xwp G m_QuestionReader_takes (d + 11) 173 [xZ, xZ] (xpush v9 []) h9 Q X) X)))) ∧ (¬ ((decide (8 ≤ (xpl h 32 12))) = true) → (xwp G m_QuestionReader_moves (d + 10) 0 [xR 32, xI 0, xI 7] [] h (fun v9 h9 => xwp G m_QuestionReader_takes (d + 11) 173 [xZ, xZ] (xpush v9 []) h9 Q X) X)))) ∧ ((xpl h 32 10) = 126 → (((xpl h 32 12) = 9 → (xwp G m_QuestionReader_moves (d + 10) 0 [xR 32, xI 1, xI 6] [] h (fun v9 h9 => xwp G m_QuestionReader_takes (d + 11) 145 [xZ, xZ] (xpush v9 []) h9 Q X) X)) ∧ (¬ (xpl h 32 12) = 9 → (xwp G m_QuestionReader_moves (d + 10) 0 [xR 32, xI 0, xI 6] [] h (fun v9 h9 => xwp G m_QuestionReader_takes (d + 11) 145 [xZ, xZ] (xpush v9 []) h9 Q X) X)))) ∧ (¬ (xpl h 32 10) = 0 ∧ ¬ (xpl h 32 10) = 1 ∧ ¬ (xpl h 32 10) = 34 ∧ ¬ (xpl h 32 10) = 40 ∧ ¬ (xpl h 32 10) = 41 ∧ ¬ (xpl h 32 10) = 42 ∧ ¬ (xpl h 32 10) = 43 ∧ ¬ (xpl h 32 10) = 45 ∧ ¬ (xpl h 32 10) = 58 ∧ ¬ (xpl h 32 10) = 94 ∧ ¬ (xpl h 32 10) = 126 → (Q (xI 0) h)))) : xwp G m_QuestionReader_takes (d + 11) 0 [xR 32, xR 1] [] h Q X := by
  have hnx9 : (93 : Int) ≤ xnx h := F.2.2
  refine xr_aload_n (pc := 0) (i := 0) (hI := d_QuestionReader_takes_0) (hi := rfl) (hl := rfl) ?_
  refine xg_getf (pc := 1) (ci := 6) (k := 10) (N := 15) (v9 := 0) (v := (xpl h 32 10)) (T := xF6) (hI := d_QuestionReader_takes_1) (hw := w_318) rfl xi6 (Or.inl rfl) (Nat.le_of_ble_eq_true rfl) (Nat.le_of_ble_eq_true rfl) rfl (ft_32 F) rfl (fun f1_ => ?_)
  replace f1_ : -2147483648 ≤ (xpl h 32 10) ∧ (xpl h 32 10) ≤ 2147483647 := f1_
  by_cases q9 : (xpl h 32 10) = 0
  · replace hyp := hyp.1 q9
    refine xr_lsw (pc := 4) (tgt := 203) (off := 199) (hI := d_QuestionReader_takes_4) (by decide) (by rw [q9]; rfl) (ht := by decide) ?_
    refine xr_aload_n (pc := 203) (i := 0) (hI := d_QuestionReader_takes_203) (hi := rfl) (hl := rfl) ?_
    refine xq_callV (pc := 204) (index := 143) (K := m_QuestionReader_isPartWhole) (As := []) (S := []) (L0 := [xR 32]) (hI := d_QuestionReader_takes_204) (hK := k_QuestionReader_isPartWhole) (hlk := w_1017) (hnoM := rfl) (hS8 := Nat.le_of_ble_eq_true rfl) (ci := 6) (N := 15) (C := "BeaconIndex$QuestionReader") (T := xF6) (hc := rfl) (hci := Nat.le_of_ble_eq_true rfl) (htb := (ft_32 F)) (hinst := w_1019) (hsel := sel_QuestionReader_isPartWhole) (hlen := Nat.le_of_ble_eq_true rfl) (hst := rfl) (hL0 := rfl)  (p_QR_isPartWhole F  ?_)
    show xwp G m_QuestionReader_takes (d + 11) 207 [xR 32, xR 1] [xI (b2i (decide (8 ≤ (xpl h 32 12))))] _ _ _
    refine xr_if_eq (pc := 207) (tgt := 225) (hI := d_QuestionReader_takes_207) (ht := by decide) (fun q9 => ?_) (fun q9 => ?_)
    · replace hyp := hyp.2 (b2i_0.mp q9)
      have q2_ := b2i_0.mp q9
      clear q9
      refine xr_iconst (pc := 225) (hI := d_QuestionReader_takes_225) (hr := by decide) ?_
      refine xr_ireturnT (S := []) (pc := 226) (hI := d_QuestionReader_takes_226) (hr := rfl) (xnar_z (by decide)) ?_
      exact hyp
    · replace hyp := hyp.1 (b2i_1.mp q9)
      have q2_ := b2i_1.mp q9
      clear q9
      refine xr_aload_n (pc := 210) (i := 0) (hI := d_QuestionReader_takes_210) (hi := rfl) (hl := rfl) ?_
      refine xg_getf (pc := 211) (ci := 6) (k := 2) (N := 15) (v9 := 2) (v := 34) (T := xF6) (hI := d_QuestionReader_takes_211) (hw := w_308) rfl xi6 (Or.inl rfl) (Nat.le_of_ble_eq_true rfl) (Nat.le_of_ble_eq_true rfl) rfl (ft_32 F) (fp_32_2 F) (fun f3_ => ?_)
      clear f3_
      obtain ⟨c4_, hyp⟩ := hyp
      refine xq_callV (pc := 214) (index := 152) (K := m_ArrayList_size) (As := []) (S := []) (L0 := [xR 34]) (hI := d_QuestionReader_takes_214) (hK := k_ArrayList_size) (hlk := w_1040) (hnoM := rfl) (hS8 := Nat.le_of_ble_eq_true rfl) (ci := 13) (N := 3) (C := "java/util/ArrayList") (T := xF13) (hc := rfl) (hci := Nat.le_of_ble_eq_true rfl) (htb := (ft_34 F)) (hinst := w_465) (hsel := w_466) (hlen := Nat.le_of_ble_eq_true rfl) (hst := rfl) (hL0 := rfl)  (p_AL_size F c4_ ?_)
      show xwp G m_QuestionReader_takes (d + 11) 217 [xR 32, xR 1] [xI (als h 34)] _ _ _
      have f5_ : 0 ≤ (als h 34) ∧ (als h 34) ≤ 1000000 := ⟨c4_.2.2.1, c4_.2.2.2.2⟩
      refine xr_iconst (pc := 217) (hI := d_QuestionReader_takes_217) (hr := by decide) ?_
      refine xr_icmp_ne (pc := 218) (tgt := 225) (hI := d_QuestionReader_takes_218) (ht := by decide) (fun q9 => ?_) (fun q9 => ?_)
      · replace hyp := hyp.2 q9
        have q6_ := q9
        clear q9
        refine xr_iconst (pc := 225) (hI := d_QuestionReader_takes_225) (hr := by decide) ?_
        refine xr_ireturnT (S := []) (pc := 226) (hI := d_QuestionReader_takes_226) (hr := rfl) (xnar_z (by decide)) ?_
        exact hyp
      · replace hyp := hyp.1 q9
        have q6_ := q9
        clear q9
        refine xr_iconst (pc := 221) (hI := d_QuestionReader_takes_221) (hr := by decide) ?_
        refine xr_goto (pc := 222) (tgt := 226) (hI := d_QuestionReader_takes_222) (ht := by decide) ?_
        refine xr_ireturnT (S := []) (pc := 226) (hI := d_QuestionReader_takes_226) (hr := rfl) (xnar_z (by decide)) ?_
        exact hyp
  replace hyp := hyp.2
  have u0_ := q9
  clear q9
  by_cases q9 : (xpl h 32 10) = 1
  · replace hyp := hyp.1 q9
    refine xr_lsw (pc := 4) (tgt := 104) (off := 100) (hI := d_QuestionReader_takes_4) (by decide) (by rw [q9]; rfl) (ht := by decide) ?_
    refine xr_aload_n (pc := 104) (i := 0) (hI := d_QuestionReader_takes_104) (hi := rfl) (hl := rfl) ?_
    refine xr_aload_n (pc := 105) (i := 1) (hI := d_QuestionReader_takes_105) (hi := rfl) (hl := rfl) ?_
    exact xq_callV (pc := 106) (index := 127) (K := m_QuestionReader_takesRun) (As := [xR 1]) (S := []) (L0 := [xR 32, xR 1, xZ]) (hI := d_QuestionReader_takes_106) (hK := k_QuestionReader_takesRun) (hlk := w_997) (hnoM := rfl) (hS8 := Nat.le_of_ble_eq_true rfl) (ci := 6) (N := 15) (C := "BeaconIndex$QuestionReader") (T := xF6) (hc := rfl) (hci := Nat.le_of_ble_eq_true rfl) (htb := (ft_32 F)) (hinst := w_999) (hsel := sel_QuestionReader_takesRun) (hlen := Nat.le_of_ble_eq_true rfl) (hst := rfl) (hL0 := rfl)  (xwp_mono hyp (fun v9 h9 q9 => xr_drop (L9 := [xZ, xZ]) (xdrz (xdrz xdr0)) q9) (fun _ _ z9 => z9))
  replace hyp := hyp.2
  have u1_ := q9
  clear q9
  by_cases q9 : (xpl h 32 10) = 34
  · replace hyp := hyp.1 q9
    refine xr_lsw (pc := 4) (tgt := 115) (off := 111) (hI := d_QuestionReader_takes_4) (by decide) (by rw [q9]; rfl) (ht := by decide) ?_
    refine xr_aload_n (pc := 115) (i := 0) (hI := d_QuestionReader_takes_115) (hi := rfl) (hl := rfl) ?_
    exact xq_callV (pc := 116) (index := 133) (K := m_QuestionReader_takesQuote) (As := []) (S := []) (L0 := [xR 32]) (hI := d_QuestionReader_takes_116) (hK := k_QuestionReader_takesQuote) (hlk := w_1050) (hnoM := rfl) (hS8 := Nat.le_of_ble_eq_true rfl) (ci := 6) (N := 15) (C := "BeaconIndex$QuestionReader") (T := xF6) (hc := rfl) (hci := Nat.le_of_ble_eq_true rfl) (htb := (ft_32 F)) (hinst := w_1052) (hsel := sel_QuestionReader_takesQuote) (hlen := Nat.le_of_ble_eq_true rfl) (hst := rfl) (hL0 := rfl)  (xwp_mono hyp (fun v9 h9 q9 => xr_drop (L9 := [xZ, xZ]) (xdrz (xdrz xdr0)) q9) (fun _ _ z9 => z9))
  replace hyp := hyp.2
  have u2_ := q9
  clear q9
  by_cases q9 : (xpl h 32 10) = 40
  · replace hyp := hyp.1 q9
    refine xr_lsw (pc := 4) (tgt := 193) (off := 189) (hI := d_QuestionReader_takes_4) (by decide) (by rw [q9]; rfl) (ht := by decide) ?_
    refine xr_aload_n (pc := 193) (i := 0) (hI := d_QuestionReader_takes_193) (hi := rfl) (hl := rfl) ?_
    exact xq_callV (pc := 194) (index := 146) (K := m_QuestionReader_takesOpening) (As := []) (S := []) (L0 := [xR 32]) (hI := d_QuestionReader_takes_194) (hK := k_QuestionReader_takesOpening) (hlk := w_1067) (hnoM := rfl) (hS8 := Nat.le_of_ble_eq_true rfl) (ci := 6) (N := 15) (C := "BeaconIndex$QuestionReader") (T := xF6) (hc := rfl) (hci := Nat.le_of_ble_eq_true rfl) (htb := (ft_32 F)) (hinst := w_1069) (hsel := sel_QuestionReader_takesOpening) (hlen := Nat.le_of_ble_eq_true rfl) (hst := rfl) (hL0 := rfl)  (xwp_mono hyp (fun v9 h9 q9 => xr_drop (L9 := [xZ, xZ]) (xdrz (xdrz xdr0)) q9) (fun _ _ z9 => z9))
  replace hyp := hyp.2
  have u3_ := q9
  clear q9
  by_cases q9 : (xpl h 32 10) = 41
  · replace hyp := hyp.1 q9
    refine xr_lsw (pc := 4) (tgt := 198) (off := 194) (hI := d_QuestionReader_takes_4) (by decide) (by rw [q9]; rfl) (ht := by decide) ?_
    refine xr_aload_n (pc := 198) (i := 0) (hI := d_QuestionReader_takes_198) (hi := rfl) (hl := rfl) ?_
    exact xq_callV (pc := 199) (index := 149) (K := m_QuestionReader_takesClosing) (As := []) (S := []) (L0 := [xR 32]) (hI := d_QuestionReader_takes_199) (hK := k_QuestionReader_takesClosing) (hlk := w_1071) (hnoM := rfl) (hS8 := Nat.le_of_ble_eq_true rfl) (ci := 6) (N := 15) (C := "BeaconIndex$QuestionReader") (T := xF6) (hc := rfl) (hci := Nat.le_of_ble_eq_true rfl) (htb := (ft_32 F)) (hinst := w_1073) (hsel := sel_QuestionReader_takesClosing) (hlen := Nat.le_of_ble_eq_true rfl) (hst := rfl) (hL0 := rfl)  (xwp_mono hyp (fun v9 h9 q9 => xr_drop (L9 := [xZ, xZ]) (xdrz (xdrz xdr0)) q9) (fun _ _ z9 => z9))
  replace hyp := hyp.2
  have u4_ := q9
  clear q9
  by_cases q9 : (xpl h 32 10) = 42
  · replace hyp := hyp.1 q9
    refine xr_lsw (pc := 4) (tgt := 120) (off := 116) (hI := d_QuestionReader_takes_4) (by decide) (by rw [q9]; rfl) (ht := by decide) ?_
    refine xr_aload_n (pc := 120) (i := 0) (hI := d_QuestionReader_takes_120) (hi := rfl) (hl := rfl) ?_
    exact xq_callV (pc := 121) (index := 136) (K := m_QuestionReader_takesStar) (As := []) (S := []) (L0 := [xR 32]) (hI := d_QuestionReader_takes_121) (hK := k_QuestionReader_takesStar) (hlk := w_1059) (hnoM := rfl) (hS8 := Nat.le_of_ble_eq_true rfl) (ci := 6) (N := 15) (C := "BeaconIndex$QuestionReader") (T := xF6) (hc := rfl) (hci := Nat.le_of_ble_eq_true rfl) (htb := (ft_32 F)) (hinst := w_1061) (hsel := sel_QuestionReader_takesStar) (hlen := Nat.le_of_ble_eq_true rfl) (hst := rfl) (hL0 := rfl)  (xwp_mono hyp (fun v9 h9 q9 => xr_drop (L9 := [xZ, xZ]) (xdrz (xdrz xdr0)) q9) (fun _ _ z9 => z9))
  replace hyp := hyp.2
  have u5_ := q9
  clear q9
  by_cases q9 : (xpl h 32 10) = 43
  · replace hyp := hyp.1 q9
    refine xr_lsw (pc := 4) (tgt := 110) (off := 106) (hI := d_QuestionReader_takes_4) (by decide) (by rw [q9]; rfl) (ht := by decide) ?_
    refine xr_aload_n (pc := 110) (i := 0) (hI := d_QuestionReader_takes_110) (hi := rfl) (hl := rfl) ?_
    exact xq_callV (pc := 111) (index := 130) (K := m_QuestionReader_takesSign) (As := []) (S := []) (L0 := [xR 32]) (hI := d_QuestionReader_takes_111) (hK := k_QuestionReader_takesSign) (hlk := w_1046) (hnoM := rfl) (hS8 := Nat.le_of_ble_eq_true rfl) (ci := 6) (N := 15) (C := "BeaconIndex$QuestionReader") (T := xF6) (hc := rfl) (hci := Nat.le_of_ble_eq_true rfl) (htb := (ft_32 F)) (hinst := w_1048) (hsel := sel_QuestionReader_takesSign) (hlen := Nat.le_of_ble_eq_true rfl) (hst := rfl) (hL0 := rfl)  (xwp_mono hyp (fun v9 h9 q9 => xr_drop (L9 := [xZ, xZ]) (xdrz (xdrz xdr0)) q9) (fun _ _ z9 => z9))
  replace hyp := hyp.2
  have u6_ := q9
  clear q9
  by_cases q9 : (xpl h 32 10) = 45
  · replace hyp := hyp.1 q9
    refine xr_lsw (pc := 4) (tgt := 110) (off := 106) (hI := d_QuestionReader_takes_4) (by decide) (by rw [q9]; rfl) (ht := by decide) ?_
    refine xr_aload_n (pc := 110) (i := 0) (hI := d_QuestionReader_takes_110) (hi := rfl) (hl := rfl) ?_
    exact xq_callV (pc := 111) (index := 130) (K := m_QuestionReader_takesSign) (As := []) (S := []) (L0 := [xR 32]) (hI := d_QuestionReader_takes_111) (hK := k_QuestionReader_takesSign) (hlk := w_1046) (hnoM := rfl) (hS8 := Nat.le_of_ble_eq_true rfl) (ci := 6) (N := 15) (C := "BeaconIndex$QuestionReader") (T := xF6) (hc := rfl) (hci := Nat.le_of_ble_eq_true rfl) (htb := (ft_32 F)) (hinst := w_1048) (hsel := sel_QuestionReader_takesSign) (hlen := Nat.le_of_ble_eq_true rfl) (hst := rfl) (hL0 := rfl)  (xwp_mono hyp (fun v9 h9 q9 => xr_drop (L9 := [xZ, xZ]) (xdrz (xdrz xdr0)) q9) (fun _ _ z9 => z9))
  replace hyp := hyp.2
  have u7_ := q9
  clear q9
  by_cases q9 : (xpl h 32 10) = 58
  · replace hyp := hyp.1 q9
    refine xr_lsw (pc := 4) (tgt := 174) (off := 170) (hI := d_QuestionReader_takes_4) (by decide) (by rw [q9]; rfl) (ht := by decide) ?_
    refine xr_aload_n (pc := 174) (i := 0) (hI := d_QuestionReader_takes_174) (hi := rfl) (hl := rfl) ?_
    refine xr_aload_n (pc := 175) (i := 0) (hI := d_QuestionReader_takes_175) (hi := rfl) (hl := rfl) ?_
    refine xg_getf (pc := 176) (ci := 6) (k := 12) (N := 15) (v9 := 0) (v := (xpl h 32 12)) (T := xF6) (hI := d_QuestionReader_takes_176) (hw := w_320) rfl xi6 (Or.inl rfl) (Nat.le_of_ble_eq_true rfl) (Nat.le_of_ble_eq_true rfl) rfl (ft_32 F) rfl (fun f7_ => ?_)
    replace f7_ : -2147483648 ≤ (xpl h 32 12) ∧ (xpl h 32 12) ≤ 2147483647 := f7_
    refine xr_iconst (pc := 179) (hI := d_QuestionReader_takes_179) (hr := by decide) ?_
    refine xr_icmp_ne (pc := 180) (tgt := 187) (hI := d_QuestionReader_takes_180) (ht := by decide) (fun q9 => ?_) (fun q9 => ?_)
    · replace hyp := hyp.2 q9
      have q8_ := q9
      clear q9
      refine xr_iconst (pc := 187) (hI := d_QuestionReader_takes_187) (hr := by decide) ?_
      refine xr_iconst (pc := 188) (hI := d_QuestionReader_takes_188) (hr := by decide) ?_
      exact xq_callV (pc := 189) (index := 139) (K := m_QuestionReader_moves) (As := [xI 0, xI 2]) (S := []) (L0 := [xR 32, xI 0, xI 2]) (hI := d_QuestionReader_takes_189) (hK := k_QuestionReader_moves) (hlk := w_1063) (hnoM := rfl) (hS8 := Nat.le_of_ble_eq_true rfl) (ci := 6) (N := 15) (C := "BeaconIndex$QuestionReader") (T := xF6) (hc := rfl) (hci := Nat.le_of_ble_eq_true rfl) (htb := (ft_32 F)) (hinst := w_1065) (hsel := sel_QuestionReader_moves) (hlen := Nat.le_of_ble_eq_true rfl) (hst := rfl) (hL0 := rfl)  (xwp_mono hyp (fun v9 h9 q9 => xr_drop (L9 := [xZ, xZ]) (xdrz (xdrz xdr0)) q9) (fun _ _ z9 => z9))
    · replace hyp := hyp.1 q9
      have q8_ := q9
      clear q9
      refine xr_iconst (pc := 183) (hI := d_QuestionReader_takes_183) (hr := by decide) ?_
      refine xr_goto (pc := 184) (tgt := 188) (hI := d_QuestionReader_takes_184) (ht := by decide) ?_
      refine xr_iconst (pc := 188) (hI := d_QuestionReader_takes_188) (hr := by decide) ?_
      exact xq_callV (pc := 189) (index := 139) (K := m_QuestionReader_moves) (As := [xI 1, xI 2]) (S := []) (L0 := [xR 32, xI 1, xI 2]) (hI := d_QuestionReader_takes_189) (hK := k_QuestionReader_moves) (hlk := w_1063) (hnoM := rfl) (hS8 := Nat.le_of_ble_eq_true rfl) (ci := 6) (N := 15) (C := "BeaconIndex$QuestionReader") (T := xF6) (hc := rfl) (hci := Nat.le_of_ble_eq_true rfl) (htb := (ft_32 F)) (hinst := w_1065) (hsel := sel_QuestionReader_moves) (hlen := Nat.le_of_ble_eq_true rfl) (hst := rfl) (hL0 := rfl)  (xwp_mono hyp (fun v9 h9 q9 => xr_drop (L9 := [xZ, xZ]) (xdrz (xdrz xdr0)) q9) (fun _ _ z9 => z9))
  replace hyp := hyp.2
  have u8_ := q9
  clear q9
  by_cases q9 : (xpl h 32 10) = 94
  · replace hyp := hyp.1 q9
    refine xr_lsw (pc := 4) (tgt := 146) (off := 142) (hI := d_QuestionReader_takes_4) (by decide) (by rw [q9]; rfl) (ht := by decide) ?_
    refine xr_aload_n (pc := 146) (i := 0) (hI := d_QuestionReader_takes_146) (hi := rfl) (hl := rfl) ?_
    refine xr_aload_n (pc := 147) (i := 0) (hI := d_QuestionReader_takes_147) (hi := rfl) (hl := rfl) ?_
    refine xq_callV (pc := 148) (index := 143) (K := m_QuestionReader_isPartWhole) (As := []) (S := [xR 32]) (L0 := [xR 32]) (hI := d_QuestionReader_takes_148) (hK := k_QuestionReader_isPartWhole) (hlk := w_1017) (hnoM := rfl) (hS8 := Nat.le_of_ble_eq_true rfl) (ci := 6) (N := 15) (C := "BeaconIndex$QuestionReader") (T := xF6) (hc := rfl) (hci := Nat.le_of_ble_eq_true rfl) (htb := (ft_32 F)) (hinst := w_1019) (hsel := sel_QuestionReader_isPartWhole) (hlen := Nat.le_of_ble_eq_true rfl) (hst := rfl) (hL0 := rfl)  (p_QR_isPartWhole F  ?_)
    show xwp G m_QuestionReader_takes (d + 11) 151 [xR 32, xR 1] [xI (b2i (decide (8 ≤ (xpl h 32 12)))), xR 32] _ _ _
    refine xr_if_eq (pc := 151) (tgt := 167) (hI := d_QuestionReader_takes_151) (ht := by decide) (fun q9 => ?_) (fun q9 => ?_)
    · replace hyp := hyp.2 (b2i_0.mp q9)
      have q9_ := b2i_0.mp q9
      clear q9
      refine xr_iconst (pc := 167) (hI := d_QuestionReader_takes_167) (hr := by decide) ?_
      refine xr_bipush (pc := 168) (hI := d_QuestionReader_takes_168) (hr := by decide) (hv := by decide) ?_
      exact xq_callV (pc := 170) (index := 139) (K := m_QuestionReader_moves) (As := [xI 0, xI 7]) (S := []) (L0 := [xR 32, xI 0, xI 7]) (hI := d_QuestionReader_takes_170) (hK := k_QuestionReader_moves) (hlk := w_1063) (hnoM := rfl) (hS8 := Nat.le_of_ble_eq_true rfl) (ci := 6) (N := 15) (C := "BeaconIndex$QuestionReader") (T := xF6) (hc := rfl) (hci := Nat.le_of_ble_eq_true rfl) (htb := (ft_32 F)) (hinst := w_1065) (hsel := sel_QuestionReader_moves) (hlen := Nat.le_of_ble_eq_true rfl) (hst := rfl) (hL0 := rfl)  (xwp_mono hyp (fun v9 h9 q9 => xr_drop (L9 := [xZ, xZ]) (xdrz (xdrz xdr0)) q9) (fun _ _ z9 => z9))
    · replace hyp := hyp.1 (b2i_1.mp q9)
      have q9_ := b2i_1.mp q9
      clear q9
      refine xr_aload_n (pc := 154) (i := 0) (hI := d_QuestionReader_takes_154) (hi := rfl) (hl := rfl) ?_
      refine xg_getf (pc := 155) (ci := 6) (k := 12) (N := 15) (v9 := 0) (v := (xpl h 32 12)) (T := xF6) (hI := d_QuestionReader_takes_155) (hw := w_320) rfl xi6 (Or.inl rfl) (Nat.le_of_ble_eq_true rfl) (Nat.le_of_ble_eq_true rfl) rfl (ft_32 F) rfl (fun f10_ => ?_)
      replace f10_ : -2147483648 ≤ (xpl h 32 12) ∧ (xpl h 32 12) ≤ 2147483647 := f10_
      refine xr_bipush (pc := 158) (hI := d_QuestionReader_takes_158) (hr := by decide) (hv := by decide) ?_
      refine xr_icmp_eq (pc := 160) (tgt := 167) (hI := d_QuestionReader_takes_160) (ht := by decide) (fun q9 => ?_) (fun q9 => ?_)
      · replace hyp := hyp.1 q9
        have q11_ := q9
        clear q9
        refine xr_iconst (pc := 167) (hI := d_QuestionReader_takes_167) (hr := by decide) ?_
        refine xr_bipush (pc := 168) (hI := d_QuestionReader_takes_168) (hr := by decide) (hv := by decide) ?_
        exact xq_callV (pc := 170) (index := 139) (K := m_QuestionReader_moves) (As := [xI 0, xI 7]) (S := []) (L0 := [xR 32, xI 0, xI 7]) (hI := d_QuestionReader_takes_170) (hK := k_QuestionReader_moves) (hlk := w_1063) (hnoM := rfl) (hS8 := Nat.le_of_ble_eq_true rfl) (ci := 6) (N := 15) (C := "BeaconIndex$QuestionReader") (T := xF6) (hc := rfl) (hci := Nat.le_of_ble_eq_true rfl) (htb := (ft_32 F)) (hinst := w_1065) (hsel := sel_QuestionReader_moves) (hlen := Nat.le_of_ble_eq_true rfl) (hst := rfl) (hL0 := rfl)  (xwp_mono hyp (fun v9 h9 q9 => xr_drop (L9 := [xZ, xZ]) (xdrz (xdrz xdr0)) q9) (fun _ _ z9 => z9))
      · replace hyp := hyp.2 q9
        have q11_ := q9
        clear q9
        refine xr_iconst (pc := 163) (hI := d_QuestionReader_takes_163) (hr := by decide) ?_
        refine xr_goto (pc := 164) (tgt := 168) (hI := d_QuestionReader_takes_164) (ht := by decide) ?_
        refine xr_bipush (pc := 168) (hI := d_QuestionReader_takes_168) (hr := by decide) (hv := by decide) ?_
        exact xq_callV (pc := 170) (index := 139) (K := m_QuestionReader_moves) (As := [xI 1, xI 7]) (S := []) (L0 := [xR 32, xI 1, xI 7]) (hI := d_QuestionReader_takes_170) (hK := k_QuestionReader_moves) (hlk := w_1063) (hnoM := rfl) (hS8 := Nat.le_of_ble_eq_true rfl) (ci := 6) (N := 15) (C := "BeaconIndex$QuestionReader") (T := xF6) (hc := rfl) (hci := Nat.le_of_ble_eq_true rfl) (htb := (ft_32 F)) (hinst := w_1065) (hsel := sel_QuestionReader_moves) (hlen := Nat.le_of_ble_eq_true rfl) (hst := rfl) (hL0 := rfl)  (xwp_mono hyp (fun v9 h9 q9 => xr_drop (L9 := [xZ, xZ]) (xdrz (xdrz xdr0)) q9) (fun _ _ z9 => z9))
  replace hyp := hyp.2
  have u9_ := q9
  clear q9
  by_cases q9 : (xpl h 32 10) = 126
  · replace hyp := hyp.1 q9
    refine xr_lsw (pc := 4) (tgt := 125) (off := 121) (hI := d_QuestionReader_takes_4) (by decide) (by rw [q9]; rfl) (ht := by decide) ?_
    refine xr_aload_n (pc := 125) (i := 0) (hI := d_QuestionReader_takes_125) (hi := rfl) (hl := rfl) ?_
    refine xr_aload_n (pc := 126) (i := 0) (hI := d_QuestionReader_takes_126) (hi := rfl) (hl := rfl) ?_
    refine xg_getf (pc := 127) (ci := 6) (k := 12) (N := 15) (v9 := 0) (v := (xpl h 32 12)) (T := xF6) (hI := d_QuestionReader_takes_127) (hw := w_320) rfl xi6 (Or.inl rfl) (Nat.le_of_ble_eq_true rfl) (Nat.le_of_ble_eq_true rfl) rfl (ft_32 F) rfl (fun f12_ => ?_)
    replace f12_ : -2147483648 ≤ (xpl h 32 12) ∧ (xpl h 32 12) ≤ 2147483647 := f12_
    refine xr_bipush (pc := 130) (hI := d_QuestionReader_takes_130) (hr := by decide) (hv := by decide) ?_
    refine xr_icmp_ne (pc := 132) (tgt := 139) (hI := d_QuestionReader_takes_132) (ht := by decide) (fun q9 => ?_) (fun q9 => ?_)
    · replace hyp := hyp.2 q9
      have q13_ := q9
      clear q9
      refine xr_iconst (pc := 139) (hI := d_QuestionReader_takes_139) (hr := by decide) ?_
      refine xr_bipush (pc := 140) (hI := d_QuestionReader_takes_140) (hr := by decide) (hv := by decide) ?_
      exact xq_callV (pc := 142) (index := 139) (K := m_QuestionReader_moves) (As := [xI 0, xI 6]) (S := []) (L0 := [xR 32, xI 0, xI 6]) (hI := d_QuestionReader_takes_142) (hK := k_QuestionReader_moves) (hlk := w_1063) (hnoM := rfl) (hS8 := Nat.le_of_ble_eq_true rfl) (ci := 6) (N := 15) (C := "BeaconIndex$QuestionReader") (T := xF6) (hc := rfl) (hci := Nat.le_of_ble_eq_true rfl) (htb := (ft_32 F)) (hinst := w_1065) (hsel := sel_QuestionReader_moves) (hlen := Nat.le_of_ble_eq_true rfl) (hst := rfl) (hL0 := rfl)  (xwp_mono hyp (fun v9 h9 q9 => xr_drop (L9 := [xZ, xZ]) (xdrz (xdrz xdr0)) q9) (fun _ _ z9 => z9))
    · replace hyp := hyp.1 q9
      have q13_ := q9
      clear q9
      refine xr_iconst (pc := 135) (hI := d_QuestionReader_takes_135) (hr := by decide) ?_
      refine xr_goto (pc := 136) (tgt := 140) (hI := d_QuestionReader_takes_136) (ht := by decide) ?_
      refine xr_bipush (pc := 140) (hI := d_QuestionReader_takes_140) (hr := by decide) (hv := by decide) ?_
      exact xq_callV (pc := 142) (index := 139) (K := m_QuestionReader_moves) (As := [xI 1, xI 6]) (S := []) (L0 := [xR 32, xI 1, xI 6]) (hI := d_QuestionReader_takes_142) (hK := k_QuestionReader_moves) (hlk := w_1063) (hnoM := rfl) (hS8 := Nat.le_of_ble_eq_true rfl) (ci := 6) (N := 15) (C := "BeaconIndex$QuestionReader") (T := xF6) (hc := rfl) (hci := Nat.le_of_ble_eq_true rfl) (htb := (ft_32 F)) (hinst := w_1065) (hsel := sel_QuestionReader_moves) (hlen := Nat.le_of_ble_eq_true rfl) (hst := rfl) (hL0 := rfl)  (xwp_mono hyp (fun v9 h9 q9 => xr_drop (L9 := [xZ, xZ]) (xdrz (xdrz xdr0)) q9) (fun _ _ z9 => z9))
  replace hyp := hyp.2
  have u10_ := q9
  clear q9
  refine xr_lsw (pc := 4) (tgt := 227) (off := 223) (hI := d_QuestionReader_takes_4) (by decide) (by simp [Op.lookupswitch.offset, Ne.symm u0_, Ne.symm u1_, Ne.symm u2_, Ne.symm u3_, Ne.symm u4_, Ne.symm u5_, Ne.symm u6_, Ne.symm u7_, Ne.symm u8_, Ne.symm u9_, Ne.symm u10_]) (ht := by decide) ?_
  replace hyp := hyp ⟨u0_, u1_, u2_, u3_, u4_, u5_, u6_, u7_, u8_, u9_, u10_⟩
  refine xr_iconst (pc := 227) (hI := d_QuestionReader_takes_227) (hr := by decide) ?_
  refine xr_ireturnT (S := []) (pc := 228) (hI := d_QuestionReader_takes_228) (hr := rfl) (xnar_z (by decide)) ?_
  exact hyp
theorem d_QuestionReader_takes_109 : decode prog_7_method_6_code 109 = .ok (.ireturn, 1) := by decide +kernel
theorem v_QuestionReader_takes_109 {G : XG} {d : Nat} {h : XH} {Q : XV → XH → Prop} {X : Nat → XH → Prop} {s0 : Int} (F : xFix h) (hyp : (0 ≤ s0 ∧ s0 ≤ 1) ∧ (Q (xI s0) h)) : xwp G m_QuestionReader_takes (d + 11) 109 [xZ, xZ] [xI s0] h Q X := by
  have hnx9 : (93 : Int) ≤ xnx h := F.2.2
  refine xr_okS (fun hs9 => ?_)
  have r_s0 : -2147483648 ≤ s0 ∧ s0 ≤ 2147483647 := hs9 (xI s0) (.head _)
  obtain ⟨c9, hyp⟩ := hyp
  refine xr_ireturnT (S := []) (pc := 109) (hI := d_QuestionReader_takes_109) (hr := rfl) (xnar_z c9) ?_
  exact hyp
theorem d_QuestionReader_takes_114 : decode prog_7_method_6_code 114 = .ok (.ireturn, 1) := by decide +kernel
theorem v_QuestionReader_takes_114 {G : XG} {d : Nat} {h : XH} {Q : XV → XH → Prop} {X : Nat → XH → Prop} {s0 : Int} (F : xFix h) (hyp : (0 ≤ s0 ∧ s0 ≤ 1) ∧ (Q (xI s0) h)) : xwp G m_QuestionReader_takes (d + 11) 114 [xZ, xZ] [xI s0] h Q X := by
  have hnx9 : (93 : Int) ≤ xnx h := F.2.2
  refine xr_okS (fun hs9 => ?_)
  have r_s0 : -2147483648 ≤ s0 ∧ s0 ≤ 2147483647 := hs9 (xI s0) (.head _)
  obtain ⟨c9, hyp⟩ := hyp
  refine xr_ireturnT (S := []) (pc := 114) (hI := d_QuestionReader_takes_114) (hr := rfl) (xnar_z c9) ?_
  exact hyp
theorem d_QuestionReader_takes_119 : decode prog_7_method_6_code 119 = .ok (.ireturn, 1) := by decide +kernel
theorem v_QuestionReader_takes_119 {G : XG} {d : Nat} {h : XH} {Q : XV → XH → Prop} {X : Nat → XH → Prop} {s0 : Int} (F : xFix h) (hyp : (0 ≤ s0 ∧ s0 ≤ 1) ∧ (Q (xI s0) h)) : xwp G m_QuestionReader_takes (d + 11) 119 [xZ, xZ] [xI s0] h Q X := by
  have hnx9 : (93 : Int) ≤ xnx h := F.2.2
  refine xr_okS (fun hs9 => ?_)
  have r_s0 : -2147483648 ≤ s0 ∧ s0 ≤ 2147483647 := hs9 (xI s0) (.head _)
  obtain ⟨c9, hyp⟩ := hyp
  refine xr_ireturnT (S := []) (pc := 119) (hI := d_QuestionReader_takes_119) (hr := rfl) (xnar_z c9) ?_
  exact hyp
theorem d_QuestionReader_takes_124 : decode prog_7_method_6_code 124 = .ok (.ireturn, 1) := by decide +kernel
theorem v_QuestionReader_takes_124 {G : XG} {d : Nat} {h : XH} {Q : XV → XH → Prop} {X : Nat → XH → Prop} {s0 : Int} (F : xFix h) (hyp : (0 ≤ s0 ∧ s0 ≤ 1) ∧ (Q (xI s0) h)) : xwp G m_QuestionReader_takes (d + 11) 124 [xZ, xZ] [xI s0] h Q X := by
  have hnx9 : (93 : Int) ≤ xnx h := F.2.2
  refine xr_okS (fun hs9 => ?_)
  have r_s0 : -2147483648 ≤ s0 ∧ s0 ≤ 2147483647 := hs9 (xI s0) (.head _)
  obtain ⟨c9, hyp⟩ := hyp
  refine xr_ireturnT (S := []) (pc := 124) (hI := d_QuestionReader_takes_124) (hr := rfl) (xnar_z c9) ?_
  exact hyp
theorem d_QuestionReader_takes_145 : decode prog_7_method_6_code 145 = .ok (.ireturn, 1) := by decide +kernel
theorem v_QuestionReader_takes_145 {G : XG} {d : Nat} {h : XH} {Q : XV → XH → Prop} {X : Nat → XH → Prop} {s0 : Int} (F : xFix h) (hyp : (0 ≤ s0 ∧ s0 ≤ 1) ∧ (Q (xI s0) h)) : xwp G m_QuestionReader_takes (d + 11) 145 [xZ, xZ] [xI s0] h Q X := by
  have hnx9 : (93 : Int) ≤ xnx h := F.2.2
  refine xr_okS (fun hs9 => ?_)
  have r_s0 : -2147483648 ≤ s0 ∧ s0 ≤ 2147483647 := hs9 (xI s0) (.head _)
  obtain ⟨c9, hyp⟩ := hyp
  refine xr_ireturnT (S := []) (pc := 145) (hI := d_QuestionReader_takes_145) (hr := rfl) (xnar_z c9) ?_
  exact hyp
theorem d_QuestionReader_takes_173 : decode prog_7_method_6_code 173 = .ok (.ireturn, 1) := by decide +kernel
theorem v_QuestionReader_takes_173 {G : XG} {d : Nat} {h : XH} {Q : XV → XH → Prop} {X : Nat → XH → Prop} {s0 : Int} (F : xFix h) (hyp : (0 ≤ s0 ∧ s0 ≤ 1) ∧ (Q (xI s0) h)) : xwp G m_QuestionReader_takes (d + 11) 173 [xZ, xZ] [xI s0] h Q X := by
  have hnx9 : (93 : Int) ≤ xnx h := F.2.2
  refine xr_okS (fun hs9 => ?_)
  have r_s0 : -2147483648 ≤ s0 ∧ s0 ≤ 2147483647 := hs9 (xI s0) (.head _)
  obtain ⟨c9, hyp⟩ := hyp
  refine xr_ireturnT (S := []) (pc := 173) (hI := d_QuestionReader_takes_173) (hr := rfl) (xnar_z c9) ?_
  exact hyp
theorem d_QuestionReader_takes_192 : decode prog_7_method_6_code 192 = .ok (.ireturn, 1) := by decide +kernel
theorem v_QuestionReader_takes_192 {G : XG} {d : Nat} {h : XH} {Q : XV → XH → Prop} {X : Nat → XH → Prop} {s0 : Int} (F : xFix h) (hyp : (0 ≤ s0 ∧ s0 ≤ 1) ∧ (Q (xI s0) h)) : xwp G m_QuestionReader_takes (d + 11) 192 [xZ, xZ] [xI s0] h Q X := by
  have hnx9 : (93 : Int) ≤ xnx h := F.2.2
  refine xr_okS (fun hs9 => ?_)
  have r_s0 : -2147483648 ≤ s0 ∧ s0 ≤ 2147483647 := hs9 (xI s0) (.head _)
  obtain ⟨c9, hyp⟩ := hyp
  refine xr_ireturnT (S := []) (pc := 192) (hI := d_QuestionReader_takes_192) (hr := rfl) (xnar_z c9) ?_
  exact hyp
theorem d_QuestionReader_takes_197 : decode prog_7_method_6_code 197 = .ok (.ireturn, 1) := by decide +kernel
theorem v_QuestionReader_takes_197 {G : XG} {d : Nat} {h : XH} {Q : XV → XH → Prop} {X : Nat → XH → Prop} {s0 : Int} (F : xFix h) (hyp : (0 ≤ s0 ∧ s0 ≤ 1) ∧ (Q (xI s0) h)) : xwp G m_QuestionReader_takes (d + 11) 197 [xZ, xZ] [xI s0] h Q X := by
  have hnx9 : (93 : Int) ≤ xnx h := F.2.2
  refine xr_okS (fun hs9 => ?_)
  have r_s0 : -2147483648 ≤ s0 ∧ s0 ≤ 2147483647 := hs9 (xI s0) (.head _)
  obtain ⟨c9, hyp⟩ := hyp
  refine xr_ireturnT (S := []) (pc := 197) (hI := d_QuestionReader_takes_197) (hr := rfl) (xnar_z c9) ?_
  exact hyp
theorem d_QuestionReader_takes_202 : decode prog_7_method_6_code 202 = .ok (.ireturn, 1) := by decide +kernel
theorem v_QuestionReader_takes_202 {G : XG} {d : Nat} {h : XH} {Q : XV → XH → Prop} {X : Nat → XH → Prop} {s0 : Int} (F : xFix h) (hyp : (0 ≤ s0 ∧ s0 ≤ 1) ∧ (Q (xI s0) h)) : xwp G m_QuestionReader_takes (d + 11) 202 [xZ, xZ] [xI s0] h Q X := by
  have hnx9 : (93 : Int) ≤ xnx h := F.2.2
  refine xr_okS (fun hs9 => ?_)
  have r_s0 : -2147483648 ≤ s0 ∧ s0 ≤ 2147483647 := hs9 (xI s0) (.head _)
  obtain ⟨c9, hyp⟩ := hyp
  refine xr_ireturnT (S := []) (pc := 202) (hI := d_QuestionReader_takes_202) (hr := rfl) (xnar_z c9) ?_
  exact hyp
abbrev m_QuestionReader_read : XM := (⟨"BeaconIndex$QuestionReader", "read", "(LBeaconIndex$Tape;)I"⟩, prog_7_method_2_code, 4, (some .int), [])
theorem d_QuestionReader_read_0 : decode prog_7_method_2_code 0 = .ok (.aload_n 0, 1) := by decide +kernel
theorem d_QuestionReader_read_1 : decode prog_7_method_2_code 1 = .ok (.new 19, 3) := by decide +kernel
theorem w_208 : Cond.classLink "BeaconIndex$QuestionReader" 19 "java/util/ArrayList" ∈ lw_tbl := List.mem_append_right _ (List.mem_of_getElem? (i := 208) (by decide +kernel))
theorem d_QuestionReader_read_4 : decode prog_7_method_2_code 4 = .ok (.dup, 1) := by decide +kernel
theorem d_QuestionReader_read_5 : decode prog_7_method_2_code 5 = .ok (.invokespecial 21, 3) := by decide +kernel
theorem w_209 : Cond.methodLink "BeaconIndex$QuestionReader" 21 ⟨"java/util/ArrayList", "<init>", "()V"⟩ ∈ lw_tbl := List.mem_append_right _ (List.mem_of_getElem? (i := 209) (by decide +kernel))
theorem d_QuestionReader_read_8 : decode prog_7_method_2_code 8 = .ok (.putfield 42, 3) := by decide +kernel
theorem xfk_32_5 : xfree 32 5 = true := by decide +kernel
theorem v_QuestionReader_read_0 {G : XG} {d : Nat} {h : XH} {Q : XV → XH → Prop} {X : Nat → XH → Prop} (F : xFix h) (hyp : xnx h + 1 ≤ xKC ∧ xsl h + 3 ≤ xKS ∧ (xFix (xst (xst (xst (xmk h 13 3 (xdef 13)) (xnx h) 2 0) (xnx h) 0 (-103)) 32 5 (xnx h)) → xwp G m_QuestionReader_read (d + 12) 11 [xR 32, xR 1, xZ, xZ] [] (xst (xst (xst (xmk h 13 3 (xdef 13)) (xnx h) 2 0) (xnx h) 0 (-103)) 32 5 (xnx h)) Q X)) : xwp G m_QuestionReader_read (d + 12) 0 [xR 32, xR 1, xZ, xZ] [] h Q X := by
  have hnx9 : (93 : Int) ≤ xnx h := F.2.2
  refine xr_aload_n (pc := 0) (i := 0) (hI := d_QuestionReader_read_0) (hi := rfl) (hl := rfl) ?_
  obtain ⟨c8, c9, hyp⟩ := hyp
  refine xr_new (pc := 1) (ci := 13) (N := 3) (T := xF13) (tF := xT13) (hI := d_QuestionReader_read_1) w_208 xj13 w_6 rfl xi13 xt13 (Nat.le_of_ble_eq_true rfl) xd713 xdf13 c8 c9 ?_
  have F1_ : xFix (xmk h 13 3 (xdef 13)) := F.mk
  have f2_ : (93 : Int) ≤ xnx h := F.nx
  have f3_ : (93 : Int) ≤ xnx (xmk h 13 3 (xdef 13)) := F1_.nx
  have f4_ : xnx (xmk h 13 3 (xdef 13)) = xnx h + 1 := xnx_mk _ _ _ _
  show xwp G m_QuestionReader_read (d + 12) 4 [xR 32, xR 1, xZ, xZ] [xR (xnx h), xR 32] (xmk h 13 3 (xdef 13)) _ _
  refine xr_dup (pc := 4) (hI := d_QuestionReader_read_4) (hv := rfl) ?_
  refine xq_callI (pc := 5) (index := 21) (K := m_ArrayList_init) (As := []) (S := [xR (xnx h), xR 32]) (L0 := [xR (xnx h)]) (hI := d_QuestionReader_read_5) (hK := k_ArrayList_init) (hlk := w_209) (hnoM := rfl) (hS8 := Nat.le_of_ble_eq_true rfl) (hb0 := (by clear hyp; omega)) (hinst := w_90) (hname := rfl) (hret := rfl) (hlen := Nat.le_of_ble_eq_true rfl) (hst := rfl) (hL0 := rfl)  ?_
  refine xr_aload_n (pc := 0) (i := 0) (hI := d_ArrayList_init_0) (hi := rfl) (hl := rfl) ?_
  refine xq_callI (pc := 1) (index := 1) (K := m_AbstractList_init) (As := []) (S := []) (L0 := [xR (xnx h)]) (hI := d_ArrayList_init_1) (hK := k_AbstractList_init) (hlk := w_92) (hnoM := rfl) (hS8 := Nat.le_of_ble_eq_true rfl) (hb0 := (by clear hyp; omega)) (hinst := w_93) (hname := rfl) (hret := rfl) (hlen := Nat.le_of_ble_eq_true rfl) (hst := rfl) (hL0 := rfl)  ?_
  refine xr_aload_n (pc := 0) (i := 0) (hI := d_AbstractList_init_0) (hi := rfl) (hl := rfl) ?_
  refine xq_callI (pc := 1) (index := 1) (K := m_AbstractCollection_init) (As := []) (S := []) (L0 := [xR (xnx h)]) (hI := d_AbstractList_init_1) (hK := k_AbstractCollection_init) (hlk := w_95) (hnoM := rfl) (hS8 := Nat.le_of_ble_eq_true rfl) (hb0 := (by clear hyp; omega)) (hinst := w_96) (hname := rfl) (hret := rfl) (hlen := Nat.le_of_ble_eq_true rfl) (hst := rfl) (hL0 := rfl)  ?_
  refine xr_aload_n (pc := 0) (i := 0) (hI := d_AbstractCollection_init_0) (hi := rfl) (hl := rfl) ?_
  refine xr_objInit (pc := 1) (hI := d_AbstractCollection_init_1) w_98 w_46 w_objc (by clear hyp; omega) (Nat.le_add_left_of_le (by decide)) (Nat.le_of_ble_eq_true rfl) ?_
  refine xr_return (S := []) (pc := 4) (hI := d_AbstractCollection_init_4) (hr := rfl) ?_
  show xwp G m_AbstractList_init (d + 10) 4 [xR (xnx h)] [] _ _ _
  refine xr_aload_n (pc := 4) (i := 0) (hI := d_AbstractList_init_4) (hi := rfl) (hl := rfl) ?_
  refine xr_iconst (pc := 5) (hI := d_AbstractList_init_5) (hr := by decide) ?_
  refine xr_putf (pc := 6) (ci := 13) (k := 2) (N := 3) (v9 := 0) (T := xF13) (tF := xT13) (hI := d_AbstractList_init_6) (hw := w_103) rfl xi13 xt13 xn13 (Or.inl rfl) (Nat.le_of_ble_eq_true rfl) (Nat.le_of_ble_eq_true rfl) rfl xfit_i rfl (show xtg (xmk h 13 3 (xdef 13)) (xnx h) = 13 from xtg_new rfl) (by clear hyp; omega) (fun z => z) ?_
  have F5_ : xFix (xst (xmk h 13 3 (xdef 13)) (xnx h) 2 0) := F1_.stD (by clear hyp; omega)
  refine xr_return (S := []) (pc := 9) (hI := d_AbstractList_init_9) (hr := rfl) ?_
  show xwp G m_ArrayList_init (d + 11) 4 [xR (xnx h)] [] _ _ _
  refine xr_aload_n (pc := 4) (i := 0) (hI := d_ArrayList_init_4) (hi := rfl) (hl := rfl) ?_
  refine xr_getstatic (pc := 5) (v := xR (-103)) (hI := d_ArrayList_init_5) w_99 (by decide +kernel) (by exact trivial) ?_
  refine xr_putf (pc := 8) (ci := 13) (k := 0) (N := 3) (v9 := 2) (T := xF13) (tF := xT13) (hI := d_ArrayList_init_8) (hw := w_101) rfl xi13 xt13 xn13 (Or.inl rfl) (Nat.le_of_ble_eq_true rfl) (Nat.le_of_ble_eq_true rfl) rfl (xfit_a _) rfl (show xtg (xmk h 13 3 (xdef 13)) (xnx h) = 13 from xtg_new rfl) (by clear hyp; omega) (fun z => z) ?_
  have F6_ : xFix (xst (xst (xmk h 13 3 (xdef 13)) (xnx h) 2 0) (xnx h) 0 (-103)) := F5_.stD (by clear hyp; omega)
  refine xr_return (S := []) (pc := 11) (hI := d_ArrayList_init_11) (hr := rfl) ?_
  show xwp G m_QuestionReader_read (d + 12) 8 [xR 32, xR 1, xZ, xZ] [xR (xnx h), xR 32] _ _ _
  refine xr_putf (pc := 8) (ci := 6) (k := 5) (N := 15) (v9 := 2) (T := xF6) (tF := xT6) (hI := d_QuestionReader_read_8) (hw := w_312) rfl xi6 xt6 xn6 (Or.inl rfl) (Nat.le_of_ble_eq_true rfl) (Nat.le_of_ble_eq_true rfl) rfl (xfit_o _) rfl (ft_32 F6_) (by decide) (fun z => z) ?_
  have F7_ : xFix (xst (xst (xst (xmk h 13 3 (xdef 13)) (xnx h) 2 0) (xnx h) 0 (-103)) 32 5 (xnx h)) := F6_.stL xfk_32_5
  exact (hyp F7_)
theorem d_QuestionReader_read_11 : decode prog_7_method_2_code 11 = .ok (.aload_n 0, 1) := by decide +kernel
theorem d_QuestionReader_read_12 : decode prog_7_method_2_code 12 = .ok (.getfield 42, 3) := by decide +kernel
theorem d_QuestionReader_read_15 : decode prog_7_method_2_code 15 = .ok (.new 35, 3) := by decide +kernel
theorem d_QuestionReader_read_18 : decode prog_7_method_2_code 18 = .ok (.dup, 1) := by decide +kernel
theorem d_QuestionReader_read_19 : decode prog_7_method_2_code 19 = .ok (.invokespecial 37, 3) := by decide +kernel
theorem d_QuestionReader_read_22 : decode prog_7_method_2_code 22 = .ok (.invokevirtual 73, 3) := by decide +kernel
theorem v_QuestionReader_read_11 {G : XG} {d : Nat} {h : XH} {Q : XV → XH → Prop} {X : Nat → XH → Prop} (F : xFix h) (hyp : xnx h + 1 ≤ xKC ∧ xsl h + 5 ≤ xKS ∧ xnx (xmk h 5 5 (xdef 5)) + 1 ≤ xKC ∧ xsl (xmk h 5 5 (xdef 5)) + 3 ≤ xKS ∧ xtg (xmk (xmk h 5 5 (xdef 5)) 13 3 (xdef 13)) (xpl h 32 5) = 13 ∧ (xFix (xst (xst (xst (xst (xst (xst (xst (xmk (xmk h 5 5 (xdef 5)) 13 3 (xdef 13)) (xnx (xmk h 5 5 (xdef 5))) 2 0) (xnx (xmk h 5 5 (xdef 5))) 0 (-103)) (xnx h) 0 (xnx (xmk h 5 5 (xdef 5)))) (xnx h) 1 0) (xnx h) 2 0) (xnx h) 3 0) (xnx h) 4 0) → xwp G m_ArrayList_add_Object (d + 11) 0 [xR (xpl h 32 5), xR (xnx h)] [] (xst (xst (xst (xst (xst (xst (xst (xmk (xmk h 5 5 (xdef 5)) 13 3 (xdef 13)) (xnx (xmk h 5 5 (xdef 5))) 2 0) (xnx (xmk h 5 5 (xdef 5))) 0 (-103)) (xnx h) 0 (xnx (xmk h 5 5 (xdef 5)))) (xnx h) 1 0) (xnx h) 2 0) (xnx h) 3 0) (xnx h) 4 0) (fun v9 h9 => xwp G m_QuestionReader_read (d + 12) 25 [xR 32, xR 1, xZ, xZ] (xpush v9 []) h9 Q X) X)) : xwp G m_QuestionReader_read (d + 12) 11 [xR 32, xR 1, xZ, xZ] [] h Q X := by
  have hnx9 : (93 : Int) ≤ xnx h := F.2.2
  refine xr_aload_n (pc := 11) (i := 0) (hI := d_QuestionReader_read_11) (hi := rfl) (hl := rfl) ?_
  refine xg_getf (pc := 12) (ci := 6) (k := 5) (N := 15) (v9 := 2) (v := (xpl h 32 5)) (T := xF6) (hI := d_QuestionReader_read_12) (hw := w_312) rfl xi6 (Or.inl rfl) (Nat.le_of_ble_eq_true rfl) (Nat.le_of_ble_eq_true rfl) rfl (ft_32 F) rfl (fun f1_ => ?_)
  clear f1_
  obtain ⟨c8, c9, hyp⟩ := hyp
  refine xr_new (pc := 15) (ci := 5) (N := 5) (T := xF5) (tF := xT5) (hI := d_QuestionReader_read_15) w_278 xj5 w_11 rfl xi5 xt5 (Nat.le_of_ble_eq_true rfl) xd75 xdf5 c8 c9 ?_
  have F2_ : xFix (xmk h 5 5 (xdef 5)) := F.mk
  have f3_ : (93 : Int) ≤ xnx h := F.nx
  have f4_ : (93 : Int) ≤ xnx (xmk h 5 5 (xdef 5)) := F2_.nx
  have f5_ : xnx (xmk h 5 5 (xdef 5)) = xnx h + 1 := xnx_mk _ _ _ _
  show xwp G m_QuestionReader_read (d + 12) 18 [xR 32, xR 1, xZ, xZ] [xR (xnx h), xR (xpl h 32 5)] (xmk h 5 5 (xdef 5)) _ _
  refine xr_dup (pc := 18) (hI := d_QuestionReader_read_18) (hv := rfl) ?_
  refine xq_callIN (pc := 19) (index := 37) (K := m_Question_init) (As := []) (S := [xR (xnx h), xR (xpl h 32 5)]) (L0 := [xR (xnx h)]) (hI := d_QuestionReader_read_19) (hK := k_Question_init) (hlk := w_280) (hnoM := rfl) (hS8 := Nat.le_of_ble_eq_true rfl) (hb0 := (by clear hyp; omega)) (hinst := w_281) (hname := rfl) (hret := rfl) (hlen := Nat.le_of_ble_eq_true rfl) (hst := rfl) (hL0 := rfl)  ?_
  refine xr_aload_n (pc := 0) (i := 0) (hI := d_Question_init_0) (hi := rfl) (hl := rfl) ?_
  refine xr_objInit (pc := 1) (hI := d_Question_init_1) w_283 w_46 w_objc (by clear hyp; omega) (Nat.le_add_left_of_le (by decide)) (Nat.le_of_ble_eq_true rfl) ?_
  refine xr_aload_n (pc := 4) (i := 0) (hI := d_Question_init_4) (hi := rfl) (hl := rfl) ?_
  obtain ⟨c8, c9, hyp⟩ := hyp
  refine xr_new (pc := 5) (ci := 13) (N := 3) (T := xF13) (tF := xT13) (hI := d_Question_init_5) w_284 xj13 w_6 rfl xi13 xt13 (Nat.le_of_ble_eq_true rfl) xd713 xdf13 c8 c9 ?_
  have F6_ : xFix (xmk (xmk h 5 5 (xdef 5)) 13 3 (xdef 13)) := F2_.mk
  have f7_ : (93 : Int) ≤ xnx (xmk h 5 5 (xdef 5)) := F2_.nx
  have f8_ : (93 : Int) ≤ xnx (xmk (xmk h 5 5 (xdef 5)) 13 3 (xdef 13)) := F6_.nx
  have f9_ : xnx (xmk (xmk h 5 5 (xdef 5)) 13 3 (xdef 13)) = xnx (xmk h 5 5 (xdef 5)) + 1 := xnx_mk _ _ _ _
  show xwp G m_Question_init (d + 11) 8 [xR (xnx h)] [xR (xnx (xmk h 5 5 (xdef 5))), xR (xnx h)] (xmk (xmk h 5 5 (xdef 5)) 13 3 (xdef 13)) _ _
  refine xr_dup (pc := 8) (hI := d_Question_init_8) (hv := rfl) ?_
  refine xq_callI (pc := 9) (index := 9) (K := m_ArrayList_init) (As := []) (S := [xR (xnx (xmk h 5 5 (xdef 5))), xR (xnx h)]) (L0 := [xR (xnx (xmk h 5 5 (xdef 5)))]) (hI := d_Question_init_9) (hK := k_ArrayList_init) (hlk := w_285) (hnoM := rfl) (hS8 := Nat.le_of_ble_eq_true rfl) (hb0 := (by clear hyp; omega)) (hinst := w_90) (hname := rfl) (hret := rfl) (hlen := Nat.le_of_ble_eq_true rfl) (hst := rfl) (hL0 := rfl)  ?_
  refine xr_aload_n (pc := 0) (i := 0) (hI := d_ArrayList_init_0) (hi := rfl) (hl := rfl) ?_
  refine xq_callI (pc := 1) (index := 1) (K := m_AbstractList_init) (As := []) (S := []) (L0 := [xR (xnx (xmk h 5 5 (xdef 5)))]) (hI := d_ArrayList_init_1) (hK := k_AbstractList_init) (hlk := w_92) (hnoM := rfl) (hS8 := Nat.le_of_ble_eq_true rfl) (hb0 := (by clear hyp; omega)) (hinst := w_93) (hname := rfl) (hret := rfl) (hlen := Nat.le_of_ble_eq_true rfl) (hst := rfl) (hL0 := rfl)  ?_
  refine xr_aload_n (pc := 0) (i := 0) (hI := d_AbstractList_init_0) (hi := rfl) (hl := rfl) ?_
  refine xq_callI (pc := 1) (index := 1) (K := m_AbstractCollection_init) (As := []) (S := []) (L0 := [xR (xnx (xmk h 5 5 (xdef 5)))]) (hI := d_AbstractList_init_1) (hK := k_AbstractCollection_init) (hlk := w_95) (hnoM := rfl) (hS8 := Nat.le_of_ble_eq_true rfl) (hb0 := (by clear hyp; omega)) (hinst := w_96) (hname := rfl) (hret := rfl) (hlen := Nat.le_of_ble_eq_true rfl) (hst := rfl) (hL0 := rfl)  ?_
  refine xr_aload_n (pc := 0) (i := 0) (hI := d_AbstractCollection_init_0) (hi := rfl) (hl := rfl) ?_
  refine xr_objInit (pc := 1) (hI := d_AbstractCollection_init_1) w_98 w_46 w_objc (by clear hyp; omega) (Nat.le_add_left_of_le (by decide)) (Nat.le_of_ble_eq_true rfl) ?_
  refine xr_return (S := []) (pc := 4) (hI := d_AbstractCollection_init_4) (hr := rfl) ?_
  show xwp G m_AbstractList_init (d + 9) 4 [xR (xnx (xmk h 5 5 (xdef 5)))] [] _ _ _
  refine xr_aload_n (pc := 4) (i := 0) (hI := d_AbstractList_init_4) (hi := rfl) (hl := rfl) ?_
  refine xr_iconst (pc := 5) (hI := d_AbstractList_init_5) (hr := by decide) ?_
  refine xr_putf (pc := 6) (ci := 13) (k := 2) (N := 3) (v9 := 0) (T := xF13) (tF := xT13) (hI := d_AbstractList_init_6) (hw := w_103) rfl xi13 xt13 xn13 (Or.inl rfl) (Nat.le_of_ble_eq_true rfl) (Nat.le_of_ble_eq_true rfl) rfl xfit_i rfl (show xtg (xmk (xmk h 5 5 (xdef 5)) 13 3 (xdef 13)) (xnx (xmk h 5 5 (xdef 5))) = 13 from xtg_new rfl) (by clear hyp; omega) (fun z => z) ?_
  have F10_ : xFix (xst (xmk (xmk h 5 5 (xdef 5)) 13 3 (xdef 13)) (xnx (xmk h 5 5 (xdef 5))) 2 0) := F6_.stD (by clear hyp; omega)
  refine xr_return (S := []) (pc := 9) (hI := d_AbstractList_init_9) (hr := rfl) ?_
  show xwp G m_ArrayList_init (d + 10) 4 [xR (xnx (xmk h 5 5 (xdef 5)))] [] _ _ _
  refine xr_aload_n (pc := 4) (i := 0) (hI := d_ArrayList_init_4) (hi := rfl) (hl := rfl) ?_
  refine xr_getstatic (pc := 5) (v := xR (-103)) (hI := d_ArrayList_init_5) w_99 (by decide +kernel) (by exact trivial) ?_
  refine xr_putf (pc := 8) (ci := 13) (k := 0) (N := 3) (v9 := 2) (T := xF13) (tF := xT13) (hI := d_ArrayList_init_8) (hw := w_101) rfl xi13 xt13 xn13 (Or.inl rfl) (Nat.le_of_ble_eq_true rfl) (Nat.le_of_ble_eq_true rfl) rfl (xfit_a _) rfl (show xtg (xmk (xmk h 5 5 (xdef 5)) 13 3 (xdef 13)) (xnx (xmk h 5 5 (xdef 5))) = 13 from xtg_new rfl) (by clear hyp; omega) (fun z => z) ?_
  have F11_ : xFix (xst (xst (xmk (xmk h 5 5 (xdef 5)) 13 3 (xdef 13)) (xnx (xmk h 5 5 (xdef 5))) 2 0) (xnx (xmk h 5 5 (xdef 5))) 0 (-103)) := F10_.stD (by clear hyp; omega)
  refine xr_return (S := []) (pc := 11) (hI := d_ArrayList_init_11) (hr := rfl) ?_
  show xwp G m_Question_init (d + 11) 12 [xR (xnx h)] [xR (xnx (xmk h 5 5 (xdef 5))), xR (xnx h)] _ _ _
  refine xr_putfF (pc := 12) (ci := 5) (k := 0) (N := 5) (v9 := 2) (T := xF5) (tF := xT5) (hI := d_Question_init_12) (hw := w_286) rfl xi5 xt5 xn5 (Or.inl rfl) (Nat.le_of_ble_eq_true rfl) (Nat.le_of_ble_eq_true rfl) rfl (xfit_o _) rfl rfl rfl ((xtg_old (n := 3) (c := (xdef 13)) (by clear hyp; omega)).trans (show xtg (xmk h 5 5 (xdef 5)) (xnx h) = 5 from xtg_new rfl)) (by clear hyp; omega) (fun z => z) ?_
  have F12_ : xFix (xst (xst (xst (xmk (xmk h 5 5 (xdef 5)) 13 3 (xdef 13)) (xnx (xmk h 5 5 (xdef 5))) 2 0) (xnx (xmk h 5 5 (xdef 5))) 0 (-103)) (xnx h) 0 (xnx (xmk h 5 5 (xdef 5)))) := F11_.stD (by clear hyp; omega)
  refine xr_aload_n (pc := 15) (i := 0) (hI := d_Question_init_15) (hi := rfl) (hl := rfl) ?_
  refine xr_iconst (pc := 16) (hI := d_Question_init_16) (hr := by decide) ?_
  refine xr_putf (pc := 17) (ci := 5) (k := 1) (N := 5) (v9 := 0) (T := xF5) (tF := xT5) (hI := d_Question_init_17) (hw := w_291) rfl xi5 xt5 xn5 (Or.inl rfl) (Nat.le_of_ble_eq_true rfl) (Nat.le_of_ble_eq_true rfl) rfl xfit_z rfl ((xtg_old (n := 3) (c := (xdef 13)) (by clear hyp; omega)).trans (show xtg (xmk h 5 5 (xdef 5)) (xnx h) = 5 from xtg_new rfl)) (by clear hyp; omega) (fun _ => (by decide : (0 : Int) ≤ 0 ∧ (0 : Int) ≤ 1)) ?_
  have F13_ : xFix (xst (xst (xst (xst (xmk (xmk h 5 5 (xdef 5)) 13 3 (xdef 13)) (xnx (xmk h 5 5 (xdef 5))) 2 0) (xnx (xmk h 5 5 (xdef 5))) 0 (-103)) (xnx h) 0 (xnx (xmk h 5 5 (xdef 5)))) (xnx h) 1 0) := F12_.stD (by clear hyp; omega)
  refine xr_aload_n (pc := 20) (i := 0) (hI := d_Question_init_20) (hi := rfl) (hl := rfl) ?_
  refine xr_iconst (pc := 21) (hI := d_Question_init_21) (hr := by decide) ?_
  refine xr_putf (pc := 22) (ci := 5) (k := 2) (N := 5) (v9 := 0) (T := xF5) (tF := xT5) (hI := d_Question_init_22) (hw := w_292) rfl xi5 xt5 xn5 (Or.inl rfl) (Nat.le_of_ble_eq_true rfl) (Nat.le_of_ble_eq_true rfl) rfl xfit_z rfl ((xtg_old (n := 3) (c := (xdef 13)) (by clear hyp; omega)).trans (show xtg (xmk h 5 5 (xdef 5)) (xnx h) = 5 from xtg_new rfl)) (by clear hyp; omega) (fun _ => (by decide : (0 : Int) ≤ 0 ∧ (0 : Int) ≤ 1)) ?_
  have F14_ : xFix (xst (xst (xst (xst (xst (xmk (xmk h 5 5 (xdef 5)) 13 3 (xdef 13)) (xnx (xmk h 5 5 (xdef 5))) 2 0) (xnx (xmk h 5 5 (xdef 5))) 0 (-103)) (xnx h) 0 (xnx (xmk h 5 5 (xdef 5)))) (xnx h) 1 0) (xnx h) 2 0) := F13_.stD (by clear hyp; omega)
  refine xr_aload_n (pc := 25) (i := 0) (hI := d_Question_init_25) (hi := rfl) (hl := rfl) ?_
  refine xr_iconst (pc := 26) (hI := d_Question_init_26) (hr := by decide) ?_
  refine xr_putf (pc := 27) (ci := 5) (k := 3) (N := 5) (v9 := 0) (T := xF5) (tF := xT5) (hI := d_Question_init_27) (hw := w_293) rfl xi5 xt5 xn5 (Or.inl rfl) (Nat.le_of_ble_eq_true rfl) (Nat.le_of_ble_eq_true rfl) rfl xfit_z rfl ((xtg_old (n := 3) (c := (xdef 13)) (by clear hyp; omega)).trans (show xtg (xmk h 5 5 (xdef 5)) (xnx h) = 5 from xtg_new rfl)) (by clear hyp; omega) (fun _ => (by decide : (0 : Int) ≤ 0 ∧ (0 : Int) ≤ 1)) ?_
  have F15_ : xFix (xst (xst (xst (xst (xst (xst (xmk (xmk h 5 5 (xdef 5)) 13 3 (xdef 13)) (xnx (xmk h 5 5 (xdef 5))) 2 0) (xnx (xmk h 5 5 (xdef 5))) 0 (-103)) (xnx h) 0 (xnx (xmk h 5 5 (xdef 5)))) (xnx h) 1 0) (xnx h) 2 0) (xnx h) 3 0) := F14_.stD (by clear hyp; omega)
  refine xr_aload_n (pc := 30) (i := 0) (hI := d_Question_init_30) (hi := rfl) (hl := rfl) ?_
  refine xr_iconst (pc := 31) (hI := d_Question_init_31) (hr := by decide) ?_
  refine xr_putf (pc := 32) (ci := 5) (k := 4) (N := 5) (v9 := 0) (T := xF5) (tF := xT5) (hI := d_Question_init_32) (hw := w_294) rfl xi5 xt5 xn5 (Or.inl rfl) (Nat.le_of_ble_eq_true rfl) (Nat.le_of_ble_eq_true rfl) rfl xfit_i rfl ((xtg_old (n := 3) (c := (xdef 13)) (by clear hyp; omega)).trans (show xtg (xmk h 5 5 (xdef 5)) (xnx h) = 5 from xtg_new rfl)) (by clear hyp; omega) (fun z => z) ?_
  have F16_ : xFix (xst (xst (xst (xst (xst (xst (xst (xmk (xmk h 5 5 (xdef 5)) 13 3 (xdef 13)) (xnx (xmk h 5 5 (xdef 5))) 2 0) (xnx (xmk h 5 5 (xdef 5))) 0 (-103)) (xnx h) 0 (xnx (xmk h 5 5 (xdef 5)))) (xnx h) 1 0) (xnx h) 2 0) (xnx h) 3 0) (xnx h) 4 0) := F15_.stD (by clear hyp; omega)
  refine xr_return (S := []) (pc := 35) (hI := d_Question_init_35) (hr := rfl) ?_
  show xwp G m_QuestionReader_read (d + 12) 22 [xR 32, xR 1, xZ, xZ] [xR (xnx h), xR (xpl h 32 5)] _ _ _
  obtain ⟨c9, hyp⟩ := hyp
  have t17_ := c9
  clear c9
  exact xq_callV (pc := 22) (index := 73) (K := m_ArrayList_add_Object) (As := [xR (xnx h)]) (S := []) (L0 := [xR (xpl h 32 5), xR (xnx h)]) (hI := d_QuestionReader_read_22) (hK := k_ArrayList_add_Object) (hlk := w_956) (hnoM := rfl) (hS8 := Nat.le_of_ble_eq_true rfl) (ci := 13) (N := 3) (C := "java/util/ArrayList") (T := xF13) (hc := rfl) (hci := Nat.le_of_ble_eq_true rfl) (htb := t17_) (hinst := w_483) (hsel := w_484) (hlen := Nat.le_of_ble_eq_true rfl) (hst := rfl) (hL0 := rfl)  (hyp F16_)
theorem d_QuestionReader_read_25 : decode prog_7_method_2_code 25 = .ok (.pop, 1) := by decide +kernel
theorem d_QuestionReader_read_26 : decode prog_7_method_2_code 26 = .ok (.aload_n 0, 1) := by decide +kernel
theorem d_QuestionReader_read_27 : decode prog_7_method_2_code 27 = .ok (.iconst 0, 1) := by decide +kernel
theorem d_QuestionReader_read_28 : decode prog_7_method_2_code 28 = .ok (.putfield 45, 3) := by decide +kernel
theorem d_QuestionReader_read_31 : decode prog_7_method_2_code 31 = .ok (.aload_n 0, 1) := by decide +kernel
theorem d_QuestionReader_read_32 : decode prog_7_method_2_code 32 = .ok (.getfield 22, 3) := by decide +kernel
theorem d_QuestionReader_read_35 : decode prog_7_method_2_code 35 = .ok (.invokevirtual 77, 3) := by decide +kernel
theorem w_957 : Cond.methodLink "BeaconIndex$QuestionReader" 77 ⟨"java/util/ArrayList", "clear", "()V"⟩ ∈ lw_tbl := List.mem_append_right _ (List.mem_of_getElem? (i := 957) (by decide +kernel))
theorem v_QuestionReader_read_25 {G : XG} {d : Nat} {h : XH} {Q : XV → XH → Prop} {X : Nat → XH → Prop} {s0 : Int} (F : xFix h) (hyp : (xFix (xst h 32 6 0) → xwp G m_ArrayList_clear (d + 11) 0 [xR 34, xZ, xZ, xZ] [] (xst h 32 6 0) (fun v9 h9 => xwp G m_QuestionReader_read (d + 12) 38 [xR 32, xR 1, xZ, xZ] (xpush v9 []) h9 Q X) X)) : xwp G m_QuestionReader_read (d + 12) 25 [xR 32, xR 1, xZ, xZ] [xI s0] h Q X := by
  have hnx9 : (93 : Int) ≤ xnx h := F.2.2
  refine xr_okS (fun hs9 => ?_)
  have r_s0 : -2147483648 ≤ s0 ∧ s0 ≤ 2147483647 := hs9 (xI s0) (.head _)
  refine xr_pop (pc := 25) (hI := d_QuestionReader_read_25) (hv := rfl) ?_
  refine xr_aload_n (pc := 26) (i := 0) (hI := d_QuestionReader_read_26) (hi := rfl) (hl := rfl) ?_
  refine xr_iconst (pc := 27) (hI := d_QuestionReader_read_27) (hr := by decide) ?_
  refine xr_putf (pc := 28) (ci := 6) (k := 6) (N := 15) (v9 := 0) (T := xF6) (tF := xT6) (hI := d_QuestionReader_read_28) (hw := w_314) rfl xi6 xt6 xn6 (Or.inl rfl) (Nat.le_of_ble_eq_true rfl) (Nat.le_of_ble_eq_true rfl) rfl xfit_i rfl (ft_32 F) (by decide) (fun z => z) ?_
  have F1_ : xFix (xst h 32 6 0) := F.stL xfk_32_6
  refine xr_aload_n (pc := 31) (i := 0) (hI := d_QuestionReader_read_31) (hi := rfl) (hl := rfl) ?_
  refine xg_getf (pc := 32) (ci := 6) (k := 2) (N := 15) (v9 := 2) (v := 34) (T := xF6) (hI := d_QuestionReader_read_32) (hw := w_308) rfl xi6 (Or.inl rfl) (Nat.le_of_ble_eq_true rfl) (Nat.le_of_ble_eq_true rfl) rfl (ft_32 F1_) (fp_32_2 F1_) (fun f2_ => ?_)
  clear f2_
  exact xq_callV (pc := 35) (index := 77) (K := m_ArrayList_clear) (As := []) (S := []) (L0 := [xR 34, xZ, xZ, xZ]) (hI := d_QuestionReader_read_35) (hK := k_ArrayList_clear) (hlk := w_957) (hnoM := rfl) (hS8 := Nat.le_of_ble_eq_true rfl) (ci := 13) (N := 3) (C := "java/util/ArrayList") (T := xF13) (hc := rfl) (hci := Nat.le_of_ble_eq_true rfl) (htb := (ft_34 F1_)) (hinst := w_550) (hsel := w_551) (hlen := Nat.le_of_ble_eq_true rfl) (hst := rfl) (hL0 := rfl)  (hyp F1_)
theorem d_QuestionReader_read_38 : decode prog_7_method_2_code 38 = .ok (.aload_n 0, 1) := by decide +kernel
theorem d_QuestionReader_read_39 : decode prog_7_method_2_code 39 = .ok (.getfield 22, 3) := by decide +kernel
theorem d_QuestionReader_read_42 : decode prog_7_method_2_code 42 = .ok (.aload_n 0, 1) := by decide +kernel
theorem d_QuestionReader_read_43 : decode prog_7_method_2_code 43 = .ok (.getfield 31, 3) := by decide +kernel
theorem d_QuestionReader_read_46 : decode prog_7_method_2_code 46 = .ok (.invokevirtual 73, 3) := by decide +kernel
theorem v_QuestionReader_read_38 {G : XG} {d : Nat} {h : XH} {Q : XV → XH → Prop} {X : Nat → XH → Prop} (F : xFix h) (hyp : (xwp G m_ArrayList_add_Object (d + 11) 0 [xR 34, xR 35] [] h (fun v9 h9 => xwp G m_QuestionReader_read (d + 12) 49 [xR 32, xR 1, xZ, xZ] (xpush v9 []) h9 Q X) X)) : xwp G m_QuestionReader_read (d + 12) 38 [xR 32, xR 1, xZ, xZ] [] h Q X := by
  have hnx9 : (93 : Int) ≤ xnx h := F.2.2
  refine xr_aload_n (pc := 38) (i := 0) (hI := d_QuestionReader_read_38) (hi := rfl) (hl := rfl) ?_
  refine xg_getf (pc := 39) (ci := 6) (k := 2) (N := 15) (v9 := 2) (v := 34) (T := xF6) (hI := d_QuestionReader_read_39) (hw := w_308) rfl xi6 (Or.inl rfl) (Nat.le_of_ble_eq_true rfl) (Nat.le_of_ble_eq_true rfl) rfl (ft_32 F) (fp_32_2 F) (fun f1_ => ?_)
  clear f1_
  refine xr_aload_n (pc := 42) (i := 0) (hI := d_QuestionReader_read_42) (hi := rfl) (hl := rfl) ?_
  refine xg_getf (pc := 43) (ci := 6) (k := 3) (N := 15) (v9 := 2) (v := 35) (T := xF6) (hI := d_QuestionReader_read_43) (hw := w_309) rfl xi6 (Or.inl rfl) (Nat.le_of_ble_eq_true rfl) (Nat.le_of_ble_eq_true rfl) rfl (ft_32 F) (fp_32_3 F) (fun f2_ => ?_)
  clear f2_
  exact xq_callV (pc := 46) (index := 73) (K := m_ArrayList_add_Object) (As := [xR 35]) (S := []) (L0 := [xR 34, xR 35]) (hI := d_QuestionReader_read_46) (hK := k_ArrayList_add_Object) (hlk := w_956) (hnoM := rfl) (hS8 := Nat.le_of_ble_eq_true rfl) (ci := 13) (N := 3) (C := "java/util/ArrayList") (T := xF13) (hc := rfl) (hci := Nat.le_of_ble_eq_true rfl) (htb := (ft_34 F)) (hinst := w_483) (hsel := w_484) (hlen := Nat.le_of_ble_eq_true rfl) (hst := rfl) (hL0 := rfl)  hyp
theorem d_QuestionReader_read_49 : decode prog_7_method_2_code 49 = .ok (.pop, 1) := by decide +kernel
theorem d_QuestionReader_read_50 : decode prog_7_method_2_code 50 = .ok (.aload_n 0, 1) := by decide +kernel
theorem d_QuestionReader_read_51 : decode prog_7_method_2_code 51 = .ok (.iconst 0, 1) := by decide +kernel
theorem d_QuestionReader_read_52 : decode prog_7_method_2_code 52 = .ok (.putfield 51, 3) := by decide +kernel
theorem d_QuestionReader_read_55 : decode prog_7_method_2_code 55 = .ok (.aload_n 0, 1) := by decide +kernel
theorem d_QuestionReader_read_56 : decode prog_7_method_2_code 56 = .ok (.iconst 0, 1) := by decide +kernel
theorem d_QuestionReader_read_57 : decode prog_7_method_2_code 57 = .ok (.putfield 64, 3) := by decide +kernel
theorem d_QuestionReader_read_60 : decode prog_7_method_2_code 60 = .ok (.iconst 0, 1) := by decide +kernel
theorem d_QuestionReader_read_61 : decode prog_7_method_2_code 61 = .ok (.istore_n 2, 1) := by decide +kernel
theorem v_QuestionReader_read_49 {G : XG} {d : Nat} {h : XH} {Q : XV → XH → Prop} {X : Nat → XH → Prop} {s0 : Int} (F : xFix h) (hyp : (xFix (xst (xst h 32 8 0) 32 12 0) → xwp G m_QuestionReader_read (d + 12) 62 [xR 32, xR 1, xI 0, xZ] [] (xst (xst h 32 8 0) 32 12 0) Q X)) : xwp G m_QuestionReader_read (d + 12) 49 [xR 32, xR 1, xZ, xZ] [xI s0] h Q X := by
  have hnx9 : (93 : Int) ≤ xnx h := F.2.2
  refine xr_okS (fun hs9 => ?_)
  have r_s0 : -2147483648 ≤ s0 ∧ s0 ≤ 2147483647 := hs9 (xI s0) (.head _)
  refine xr_pop (pc := 49) (hI := d_QuestionReader_read_49) (hv := rfl) ?_
  refine xr_aload_n (pc := 50) (i := 0) (hI := d_QuestionReader_read_50) (hi := rfl) (hl := rfl) ?_
  refine xr_iconst (pc := 51) (hI := d_QuestionReader_read_51) (hr := by decide) ?_
  refine xr_putf (pc := 52) (ci := 6) (k := 8) (N := 15) (v9 := 0) (T := xF6) (tF := xT6) (hI := d_QuestionReader_read_52) (hw := w_316) rfl xi6 xt6 xn6 (Or.inl rfl) (Nat.le_of_ble_eq_true rfl) (Nat.le_of_ble_eq_true rfl) rfl xfit_i rfl (ft_32 F) (by decide) (fun z => z) ?_
  have F1_ : xFix (xst h 32 8 0) := F.stL xfk_32_8
  refine xr_aload_n (pc := 55) (i := 0) (hI := d_QuestionReader_read_55) (hi := rfl) (hl := rfl) ?_
  refine xr_iconst (pc := 56) (hI := d_QuestionReader_read_56) (hr := by decide) ?_
  refine xr_putf (pc := 57) (ci := 6) (k := 12) (N := 15) (v9 := 0) (T := xF6) (tF := xT6) (hI := d_QuestionReader_read_57) (hw := w_320) rfl xi6 xt6 xn6 (Or.inl rfl) (Nat.le_of_ble_eq_true rfl) (Nat.le_of_ble_eq_true rfl) rfl xfit_i rfl (ft_32 F1_) (by decide) (fun z => z) ?_
  have F2_ : xFix (xst (xst h 32 8 0) 32 12 0) := F1_.stL xfk_32_12
  refine xr_iconst (pc := 60) (hI := d_QuestionReader_read_60) (hr := by decide) ?_
  refine xr_istore_n (pc := 61) (i := 2) (L9 := [xR 32, xR 1, xI 0, xZ]) (hI := d_QuestionReader_read_61) (hi := rfl) (hn := Nat.le_of_ble_eq_true rfl) (hL9 := rfl) ?_
  exact (hyp F2_)
theorem d_QuestionReader_read_62 : decode prog_7_method_2_code 62 = .ok (.iload_n 2, 1) := by decide +kernel
theorem d_QuestionReader_read_63 : decode prog_7_method_2_code 63 = .ok (.bipush 40, 2) := by decide +kernel
theorem d_QuestionReader_read_65 : decode prog_7_method_2_code 65 = .ok (.if_icmp .gt 59, 3) := by decide +kernel
theorem d_QuestionReader_read_124 : decode prog_7_method_2_code 124 = .ok (.aload_n 0, 1) := by decide +kernel
theorem d_QuestionReader_read_125 : decode prog_7_method_2_code 125 = .ok (.getfield 54, 3) := by decide +kernel
theorem d_QuestionReader_read_128 : decode prog_7_method_2_code 128 = .ok (.ireturn, 1) := by decide +kernel
theorem d_QuestionReader_read_68 : decode prog_7_method_2_code 68 = .ok (.aload_n 0, 1) := by decide +kernel
theorem d_QuestionReader_read_69 : decode prog_7_method_2_code 69 = .ok (.aload_n 1, 1) := by decide +kernel
theorem d_QuestionReader_read_70 : decode prog_7_method_2_code 70 = .ok (.invokevirtual 80, 3) := by decide +kernel
theorem k_QuestionReader_nextToken : xCal m_QuestionReader_nextToken 1 := ⟨List.mem_append_right _ (List.mem_of_getElem? (i := 961) (by decide +kernel)), w_9, Nat.le_of_ble_eq_true rfl, ⟨by decide +kernel, by decide +kernel⟩, by decide +kernel, by decide +kernel, rfl⟩
theorem w_958 : Cond.methodLink "BeaconIndex$QuestionReader" 80 ⟨"BeaconIndex$QuestionReader", "nextToken", "(LBeaconIndex$Tape;)V"⟩ ∈ lw_tbl := List.mem_append_right _ (List.mem_of_getElem? (i := 958) (by decide +kernel))
theorem w_960 : Cond.instanceMethod ⟨"BeaconIndex$QuestionReader", "nextToken", "(LBeaconIndex$Tape;)V"⟩ ∈ lw_tbl := List.mem_append_right _ (List.mem_of_getElem? (i := 960) (by decide +kernel))
theorem sel_QuestionReader_nextToken : Cond.selects "BeaconIndex$QuestionReader" ⟨"BeaconIndex$QuestionReader", "nextToken", "(LBeaconIndex$Tape;)V"⟩ ⟨"BeaconIndex$QuestionReader", "nextToken", "(LBeaconIndex$Tape;)V"⟩ ∈ lw_tbl := List.mem_append_left _ (by decide +kernel)
theorem v_QuestionReader_read_62 {G : XG} {d : Nat} {h : XH} {Q : XV → XH → Prop} {X : Nat → XH → Prop} {x2 : Int} (F : xFix h) (hyp : (((40 : Int) < x2 → (Q (xI (xpl h 32 9)) h)) ∧ (¬ (40 : Int) < x2 → (xwp G m_QuestionReader_nextToken (d + 11) 0 [xR 32, xR 1, xZ] [] h (fun v9 h9 => xwp G m_QuestionReader_read (d + 12) 73 [xR 32, xR 1, xI x2, xZ] (xpush v9 []) h9 Q X) X)))) : xwp G m_QuestionReader_read (d + 12) 62 [xR 32, xR 1, xI x2, xZ] [] h Q X := by
  have hnx9 : (93 : Int) ≤ xnx h := F.2.2
  refine xr_okL (fun hl9 => ?_)
  have r_x2 : -2147483648 ≤ x2 ∧ x2 ≤ 2147483647 := hl9 (xI x2) (.tail _ (.tail _ (.head _))) (Nat.le_of_ble_eq_true rfl)
  refine xr_iload_n (pc := 62) (i := 2) (hI := d_QuestionReader_read_62) (hi := rfl) (hl := rfl) ?_
  refine xr_bipush (pc := 63) (hI := d_QuestionReader_read_63) (hr := by decide) (hv := by decide) ?_
  refine xr_icmp_gt (pc := 65) (tgt := 124) (hI := d_QuestionReader_read_65) (ht := by decide) (fun q9 => ?_) (fun q9 => ?_)
  · replace hyp := hyp.1 q9
    have q1_ := q9
    clear q9
    refine xr_aload_n (pc := 124) (i := 0) (hI := d_QuestionReader_read_124) (hi := rfl) (hl := rfl) ?_
    refine xg_getf (pc := 125) (ci := 6) (k := 9) (N := 15) (v9 := 0) (v := (xpl h 32 9)) (T := xF6) (hI := d_QuestionReader_read_125) (hw := w_317) rfl xi6 (Or.inl rfl) (Nat.le_of_ble_eq_true rfl) (Nat.le_of_ble_eq_true rfl) rfl (ft_32 F) rfl (fun f2_ => ?_)
    replace f2_ : -2147483648 ≤ (xpl h 32 9) ∧ (xpl h 32 9) ≤ 2147483647 := f2_
    refine xr_ireturn (S := []) (pc := 128) (hI := d_QuestionReader_read_128) (hr := rfl) ?_
    exact hyp
  · replace hyp := hyp.2 q9
    have q1_ := q9
    clear q9
    refine xr_aload_n (pc := 68) (i := 0) (hI := d_QuestionReader_read_68) (hi := rfl) (hl := rfl) ?_
    refine xr_aload_n (pc := 69) (i := 1) (hI := d_QuestionReader_read_69) (hi := rfl) (hl := rfl) ?_
    exact xq_callV (pc := 70) (index := 80) (K := m_QuestionReader_nextToken) (As := [xR 1]) (S := []) (L0 := [xR 32, xR 1, xZ]) (hI := d_QuestionReader_read_70) (hK := k_QuestionReader_nextToken) (hlk := w_958) (hnoM := rfl) (hS8 := Nat.le_of_ble_eq_true rfl) (ci := 6) (N := 15) (C := "BeaconIndex$QuestionReader") (T := xF6) (hc := rfl) (hci := Nat.le_of_ble_eq_true rfl) (htb := (ft_32 F)) (hinst := w_960) (hsel := sel_QuestionReader_nextToken) (hlen := Nat.le_of_ble_eq_true rfl) (hst := rfl) (hL0 := rfl)  hyp
theorem d_QuestionReader_read_73 : decode prog_7_method_2_code 73 = .ok (.iload_n 2, 1) := by decide +kernel
theorem d_QuestionReader_read_74 : decode prog_7_method_2_code 74 = .ok (.bipush 40, 2) := by decide +kernel
theorem d_QuestionReader_read_76 : decode prog_7_method_2_code 76 = .ok (.if_icmp .ne 14, 3) := by decide +kernel
theorem d_QuestionReader_read_79 : decode prog_7_method_2_code 79 = .ok (.aload_n 0, 1) := by decide +kernel
theorem d_QuestionReader_read_80 : decode prog_7_method_2_code 80 = .ok (.getfield 57, 3) := by decide +kernel
theorem d_QuestionReader_read_83 : decode prog_7_method_2_code 83 = .ok (.ifCond .eq 7, 3) := by decide +kernel
theorem d_QuestionReader_read_86 : decode prog_7_method_2_code 86 = .ok (.iconst 1, 1) := by decide +kernel
theorem d_QuestionReader_read_87 : decode prog_7_method_2_code 87 = .ok (.goto 4, 3) := by decide +kernel
theorem v_QuestionReader_read_73 {G : XG} {d : Nat} {h : XH} {Q : XV → XH → Prop} {X : Nat → XH → Prop} {x2 : Int} (F : xFix h) (hyp : ((x2 = 40 → (((xpl h 32 10) = 0 → (xwp G m_QuestionReader_read (d + 12) 90 [xR 32, xR 1, xI x2, xZ] [] h Q X)) ∧ (¬ (xpl h 32 10) = 0 → (xwp G m_QuestionReader_read (d + 12) 91 [xR 32, xR 1, xI x2, xZ] [xI 1] h Q X)))) ∧ (¬ x2 = 40 → (xwp G m_QuestionReader_read (d + 12) 90 [xR 32, xR 1, xI x2, xZ] [] h Q X)))) : xwp G m_QuestionReader_read (d + 12) 73 [xR 32, xR 1, xI x2, xZ] [] h Q X := by
  have hnx9 : (93 : Int) ≤ xnx h := F.2.2
  refine xr_okL (fun hl9 => ?_)
  have r_x2 : -2147483648 ≤ x2 ∧ x2 ≤ 2147483647 := hl9 (xI x2) (.tail _ (.tail _ (.head _))) (Nat.le_of_ble_eq_true rfl)
  refine xr_iload_n (pc := 73) (i := 2) (hI := d_QuestionReader_read_73) (hi := rfl) (hl := rfl) ?_
  refine xr_bipush (pc := 74) (hI := d_QuestionReader_read_74) (hr := by decide) (hv := by decide) ?_
  refine xr_icmp_ne (pc := 76) (tgt := 90) (hI := d_QuestionReader_read_76) (ht := by decide) (fun q9 => ?_) (fun q9 => ?_)
  · replace hyp := hyp.2 q9
    have q1_ := q9
    clear q9
    exact hyp
  · replace hyp := hyp.1 q9
    have q1_ := q9
    clear q9
    refine xr_aload_n (pc := 79) (i := 0) (hI := d_QuestionReader_read_79) (hi := rfl) (hl := rfl) ?_
    refine xg_getf (pc := 80) (ci := 6) (k := 10) (N := 15) (v9 := 0) (v := (xpl h 32 10)) (T := xF6) (hI := d_QuestionReader_read_80) (hw := w_318) rfl xi6 (Or.inl rfl) (Nat.le_of_ble_eq_true rfl) (Nat.le_of_ble_eq_true rfl) rfl (ft_32 F) rfl (fun f2_ => ?_)
    replace f2_ : -2147483648 ≤ (xpl h 32 10) ∧ (xpl h 32 10) ≤ 2147483647 := f2_
    refine xr_if_eq (pc := 83) (tgt := 90) (hI := d_QuestionReader_read_83) (ht := by decide) (fun q9 => ?_) (fun q9 => ?_)
    · replace hyp := hyp.1 q9
      have q3_ := q9
      clear q9
      exact hyp
    · replace hyp := hyp.2 q9
      have q3_ := q9
      clear q9
      refine xr_iconst (pc := 86) (hI := d_QuestionReader_read_86) (hr := by decide) ?_
      refine xr_goto (pc := 87) (tgt := 91) (hI := d_QuestionReader_read_87) (ht := by decide) ?_
      exact hyp
theorem d_QuestionReader_read_90 : decode prog_7_method_2_code 90 = .ok (.iconst 0, 1) := by decide +kernel
theorem v_QuestionReader_read_90 {G : XG} {d : Nat} {h : XH} {Q : XV → XH → Prop} {X : Nat → XH → Prop} {x2 : Int} (F : xFix h) (hyp : (xwp G m_QuestionReader_read (d + 12) 91 [xR 32, xR 1, xI x2, xZ] [xI 0] h Q X)) : xwp G m_QuestionReader_read (d + 12) 90 [xR 32, xR 1, xI x2, xZ] [] h Q X := by
  have hnx9 : (93 : Int) ≤ xnx h := F.2.2
  refine xr_okL (fun hl9 => ?_)
  have r_x2 : -2147483648 ≤ x2 ∧ x2 ≤ 2147483647 := hl9 (xI x2) (.tail _ (.tail _ (.head _))) (Nat.le_of_ble_eq_true rfl)
  refine xr_iconst (pc := 90) (hI := d_QuestionReader_read_90) (hr := by decide) ?_
  exact hyp
theorem d_QuestionReader_read_91 : decode prog_7_method_2_code 91 = .ok (.istore_n 3, 1) := by decide +kernel
theorem d_QuestionReader_read_92 : decode prog_7_method_2_code 92 = .ok (.iload_n 3, 1) := by decide +kernel
theorem d_QuestionReader_read_93 : decode prog_7_method_2_code 93 = .ok (.ifCond .ne 11, 3) := by decide +kernel
theorem d_QuestionReader_read_104 : decode prog_7_method_2_code 104 = .ok (.aload_n 0, 1) := by decide +kernel
theorem d_QuestionReader_read_105 : decode prog_7_method_2_code 105 = .ok (.getfield 54, 3) := by decide +kernel
theorem d_QuestionReader_read_108 : decode prog_7_method_2_code 108 = .ok (.ireturn, 1) := by decide +kernel
theorem d_QuestionReader_read_96 : decode prog_7_method_2_code 96 = .ok (.aload_n 0, 1) := by decide +kernel
theorem d_QuestionReader_read_97 : decode prog_7_method_2_code 97 = .ok (.aload_n 1, 1) := by decide +kernel
theorem d_QuestionReader_read_98 : decode prog_7_method_2_code 98 = .ok (.invokevirtual 84, 3) := by decide +kernel
theorem k_QuestionReader_takes : xCal m_QuestionReader_takes 1 := ⟨List.mem_append_right _ (List.mem_of_getElem? (i := 996) (by decide +kernel)), w_9, Nat.le_of_ble_eq_true rfl, ⟨by decide +kernel, by decide +kernel⟩, by decide +kernel, by decide +kernel, rfl⟩
theorem w_993 : Cond.methodLink "BeaconIndex$QuestionReader" 84 ⟨"BeaconIndex$QuestionReader", "takes", "(LBeaconIndex$Tape;)Z"⟩ ∈ lw_tbl := List.mem_append_right _ (List.mem_of_getElem? (i := 993) (by decide +kernel))
theorem w_995 : Cond.instanceMethod ⟨"BeaconIndex$QuestionReader", "takes", "(LBeaconIndex$Tape;)Z"⟩ ∈ lw_tbl := List.mem_append_right _ (List.mem_of_getElem? (i := 995) (by decide +kernel))
theorem sel_QuestionReader_takes : Cond.selects "BeaconIndex$QuestionReader" ⟨"BeaconIndex$QuestionReader", "takes", "(LBeaconIndex$Tape;)Z"⟩ ⟨"BeaconIndex$QuestionReader", "takes", "(LBeaconIndex$Tape;)Z"⟩ ∈ lw_tbl := List.mem_append_left _ (by decide +kernel)
theorem v_QuestionReader_read_91 {G : XG} {d : Nat} {h : XH} {Q : XV → XH → Prop} {X : Nat → XH → Prop} {x2 s0 : Int} (F : xFix h) (hyp : ((s0 = 0 → (xwp G m_QuestionReader_takes (d + 11) 0 [xR 32, xR 1] [] h (fun v9 h9 => xwp G m_QuestionReader_read (d + 12) 101 [xR 32, xR 1, xI x2, xZ] (xpush v9 []) h9 Q X) X)) ∧ (¬ s0 = 0 → (Q (xI (xpl h 32 9)) h)))) : xwp G m_QuestionReader_read (d + 12) 91 [xR 32, xR 1, xI x2, xZ] [xI s0] h Q X := by
  have hnx9 : (93 : Int) ≤ xnx h := F.2.2
  refine xr_okL (fun hl9 => ?_)
  have r_x2 : -2147483648 ≤ x2 ∧ x2 ≤ 2147483647 := hl9 (xI x2) (.tail _ (.tail _ (.head _))) (Nat.le_of_ble_eq_true rfl)
  refine xr_okS (fun hs9 => ?_)
  have r_s0 : -2147483648 ≤ s0 ∧ s0 ≤ 2147483647 := hs9 (xI s0) (.head _)
  refine xr_istore_n (pc := 91) (i := 3) (L9 := [xR 32, xR 1, xI x2, xI s0]) (hI := d_QuestionReader_read_91) (hi := rfl) (hn := Nat.le_of_ble_eq_true rfl) (hL9 := rfl) ?_
  refine xr_iload_n (pc := 92) (i := 3) (hI := d_QuestionReader_read_92) (hi := rfl) (hl := rfl) ?_
  refine xr_if_ne (pc := 93) (tgt := 104) (hI := d_QuestionReader_read_93) (ht := by decide) (fun q9 => ?_) (fun q9 => ?_)
  · replace hyp := hyp.2 q9
    have q1_ := q9
    clear q9
    refine xr_aload_n (pc := 104) (i := 0) (hI := d_QuestionReader_read_104) (hi := rfl) (hl := rfl) ?_
    refine xg_getf (pc := 105) (ci := 6) (k := 9) (N := 15) (v9 := 0) (v := (xpl h 32 9)) (T := xF6) (hI := d_QuestionReader_read_105) (hw := w_317) rfl xi6 (Or.inl rfl) (Nat.le_of_ble_eq_true rfl) (Nat.le_of_ble_eq_true rfl) rfl (ft_32 F) rfl (fun f2_ => ?_)
    replace f2_ : -2147483648 ≤ (xpl h 32 9) ∧ (xpl h 32 9) ≤ 2147483647 := f2_
    refine xr_ireturn (S := []) (pc := 108) (hI := d_QuestionReader_read_108) (hr := rfl) ?_
    exact hyp
  · replace hyp := hyp.1 q9
    have q1_ := q9
    clear q9
    refine xr_aload_n (pc := 96) (i := 0) (hI := d_QuestionReader_read_96) (hi := rfl) (hl := rfl) ?_
    refine xr_aload_n (pc := 97) (i := 1) (hI := d_QuestionReader_read_97) (hi := rfl) (hl := rfl) ?_
    exact xq_callV (pc := 98) (index := 84) (K := m_QuestionReader_takes) (As := [xR 1]) (S := []) (L0 := [xR 32, xR 1]) (hI := d_QuestionReader_read_98) (hK := k_QuestionReader_takes) (hlk := w_993) (hnoM := rfl) (hS8 := Nat.le_of_ble_eq_true rfl) (ci := 6) (N := 15) (C := "BeaconIndex$QuestionReader") (T := xF6) (hc := rfl) (hci := Nat.le_of_ble_eq_true rfl) (htb := (ft_32 F)) (hinst := w_995) (hsel := sel_QuestionReader_takes) (hlen := Nat.le_of_ble_eq_true rfl) (hst := rfl) (hL0 := rfl)  (xwp_mono hyp (fun v9 h9 q9 => xr_drop (L9 := [xR 32, xR 1, xI x2, xZ]) (xdrs (xdrs (xdrs (xdrz xdr0)))) q9) (fun _ _ z9 => z9))
theorem d_QuestionReader_read_101 : decode prog_7_method_2_code 101 = .ok (.ifCond .ne 8, 3) := by decide +kernel
theorem d_QuestionReader_read_109 : decode prog_7_method_2_code 109 = .ok (.aload_n 0, 1) := by decide +kernel
theorem d_QuestionReader_read_110 : decode prog_7_method_2_code 110 = .ok (.getfield 57, 3) := by decide +kernel
theorem d_QuestionReader_read_113 : decode prog_7_method_2_code 113 = .ok (.ifCond .ne 5, 3) := by decide +kernel
theorem d_QuestionReader_read_118 : decode prog_7_method_2_code 118 = .ok (.iinc 2 1, 3) := by decide +kernel
theorem d_QuestionReader_read_121 : decode prog_7_method_2_code 121 = .ok (.goto (-59), 3) := by decide +kernel
theorem d_QuestionReader_read_116 : decode prog_7_method_2_code 116 = .ok (.iconst (-1), 1) := by decide +kernel
theorem d_QuestionReader_read_117 : decode prog_7_method_2_code 117 = .ok (.ireturn, 1) := by decide +kernel
theorem v_QuestionReader_read_101 {G : XG} {d : Nat} {h : XH} {Q : XV → XH → Prop} {X : Nat → XH → Prop} {x2 s0 : Int} (F : xFix h) (hyp : ((s0 = 0 → (Q (xI (xpl h 32 9)) h)) ∧ (¬ s0 = 0 → (((xpl h 32 10) = 0 → (Q (xI (-1)) h)) ∧ (¬ (xpl h 32 10) = 0 → xiR (x2 + 1) ∧ (xwp G m_QuestionReader_read (d + 12) 62 [xR 32, xR 1, xI (x2 + 1), xZ] [] h Q X)))))) : xwp G m_QuestionReader_read (d + 12) 101 [xR 32, xR 1, xI x2, xZ] [xI s0] h Q X := by
  have hnx9 : (93 : Int) ≤ xnx h := F.2.2
  refine xr_okL (fun hl9 => ?_)
  have r_x2 : -2147483648 ≤ x2 ∧ x2 ≤ 2147483647 := hl9 (xI x2) (.tail _ (.tail _ (.head _))) (Nat.le_of_ble_eq_true rfl)
  refine xr_okS (fun hs9 => ?_)
  have r_s0 : -2147483648 ≤ s0 ∧ s0 ≤ 2147483647 := hs9 (xI s0) (.head _)
  refine xr_if_ne (pc := 101) (tgt := 109) (hI := d_QuestionReader_read_101) (ht := by decide) (fun q9 => ?_) (fun q9 => ?_)
  · replace hyp := hyp.2 q9
    have q1_ := q9
    clear q9
    refine xr_aload_n (pc := 109) (i := 0) (hI := d_QuestionReader_read_109) (hi := rfl) (hl := rfl) ?_
    refine xg_getf (pc := 110) (ci := 6) (k := 10) (N := 15) (v9 := 0) (v := (xpl h 32 10)) (T := xF6) (hI := d_QuestionReader_read_110) (hw := w_318) rfl xi6 (Or.inl rfl) (Nat.le_of_ble_eq_true rfl) (Nat.le_of_ble_eq_true rfl) rfl (ft_32 F) rfl (fun f2_ => ?_)
    replace f2_ : -2147483648 ≤ (xpl h 32 10) ∧ (xpl h 32 10) ≤ 2147483647 := f2_
    refine xr_if_ne (pc := 113) (tgt := 118) (hI := d_QuestionReader_read_113) (ht := by decide) (fun q9 => ?_) (fun q9 => ?_)
    · replace hyp := hyp.2 q9
      have q3_ := q9
      clear q9
      obtain ⟨c9, hyp⟩ := hyp
      refine xr_iinc (pc := 118) (i := 2) (L9 := [xR 32, xR 1, xI (x2 + 1), xZ]) (hI := d_QuestionReader_read_118) (hl := rfl) (hn := Nat.le_of_ble_eq_true rfl) (hr := c9) (hL9 := rfl) ?_
      refine xr_goto (pc := 121) (tgt := 62) (hI := d_QuestionReader_read_121) (ht := by decide) ?_
      exact hyp
    · replace hyp := hyp.1 q9
      have q3_ := q9
      clear q9
      refine xr_iconst (pc := 116) (hI := d_QuestionReader_read_116) (hr := by decide) ?_
      refine xr_ireturn (S := []) (pc := 117) (hI := d_QuestionReader_read_117) (hr := rfl) ?_
      exact hyp
  · replace hyp := hyp.1 q9
    have q1_ := q9
    clear q9
    refine xr_aload_n (pc := 104) (i := 0) (hI := d_QuestionReader_read_104) (hi := rfl) (hl := rfl) ?_
    refine xg_getf (pc := 105) (ci := 6) (k := 9) (N := 15) (v9 := 0) (v := (xpl h 32 9)) (T := xF6) (hI := d_QuestionReader_read_105) (hw := w_317) rfl xi6 (Or.inl rfl) (Nat.le_of_ble_eq_true rfl) (Nat.le_of_ble_eq_true rfl) rfl (ft_32 F) rfl (fun f4_ => ?_)
    replace f4_ : -2147483648 ≤ (xpl h 32 9) ∧ (xpl h 32 9) ≤ 2147483647 := f4_
    refine xr_ireturn (S := []) (pc := 108) (hI := d_QuestionReader_read_108) (hr := rfl) ?_
    exact hyp
theorem p_QR_namedField {G : XG} {d : Nat} {h : XH} {Q : XV → XH → Prop} {X : Nat → XH → Prop} {ls : List Int} (F : xFix h) (R : RunL h ls) (hq : Q (xI (nmF ls)) h) : xwp G m_QuestionReader_namedField (d + 8) 0 [xR 1] [] h Q X := by
  have e1 := R.isr (str_32 F)
  have e2 := R.isr (str_34 F)
  unfold nmF at hq
  refine v_QuestionReader_namedField_0 F ?_
  refine ⟨?_, ?_⟩
  · exact R.kp
  · refine ⟨fun q1 => ?_, fun q1 => ?_⟩
    · rw [e1] at q1
      rw [if_pos (of_decide_eq_true q1)] at hq; exact hq
    · refine ⟨fun q2 => ?_, fun q2 => ?_⟩
      · rw [e1] at q1
        rw [e2] at q2
        rw [if_neg (fun y => q1 (decide_eq_true y)), if_pos (of_decide_eq_true q2)] at hq; exact hq
      · rw [e1] at q1
        rw [e2] at q2
        rw [if_neg (fun y => q1 (decide_eq_true y)), if_neg (fun y => q2 (decide_eq_true y))] at hq; exact hq
theorem s_QR_beginCore {G : XG} {d : Nat} {h : XH} {Q : XV → XH → Prop} {X : Nat → XH → Prop} {h0 : XH} {bs qa pa : List Int} {a : Int} {r : RS} (B : RdB h0 h bs a qa pa r.2.1 r.2.2.1) (RF : RdF h a pa r) (hcc : ccb r.1.1 = true)
    (hq : ∀ h', RdB h0 h' bs a qa pa (bcF r).2.1 (bcF r).2.2.1 → RdF h' a pa (bcF r) → RdX h' (bcF r) → xsm (fun c => c = 32 ∨ c = 33) h h' → (∀ k, k ≠ 13 → k ≠ 14 → xpl h' 32 k = xpl h 32 k) → xnx h' = xnx h → xsl h' = xsl h → Q xN h') : xwp G m_QuestionReader_beginCore (d + 3) 0 [xR 32] [] h Q X := by
  have F := B.1.1
  obtain ⟨⟨f1, f2⟩, ⟨f4, f5, f6⟩, f7⟩ := RF
  have hcc := of_decide_eq_true hcc
  refine v_QuestionReader_beginCore_0 F ?_
  refine ⟨fun q1 => ?_, fun q1 => ?_⟩
  · intro F9
    rw [f1] at q1
    have e : bcF r = ((r.1.1, 0, 2), r.2) := by unfold bcF; rw [if_pos q1]
    rw [e] at hq
    have S : xsm (fun c => c = 32 ∨ c = 33) h (xst (xst h 32 13 0) 32 14 2) := (x32 (by decide)).trans (x32 (by decide))
    have X : RdX (xst (xst h 32 13 0) 32 14 2) ((r.1.1, 0, 2), r.2) := ⟨by rw [xpl_st, if_neg (by omega), xpl_st, if_pos ⟨rfl, rfl⟩], by rw [xpl_st, if_pos ⟨rfl, rfl⟩]⟩
    refine hq _ (B.f32 F9 S) ⟨⟨?_, fun _ _ => X⟩, ⟨?_, ?_, ?_⟩, fun y => ⟨?_, fun i hi => ?_⟩⟩ X S (fun k k1 k2 => ?_) rfl rfl
    · rw [xpl_st, if_neg (by omega), xpl_st, if_neg (by omega)]; exact f1
    · rw [xpl_st, if_neg (by omega), xpl_st, if_neg (by omega)]; exact f4
    · rw [xpl_st, if_neg (by omega), xpl_st, if_neg (by omega)]; exact f5
    · rw [xpl_st, if_neg (by omega), xpl_st, if_neg (by omega)]; exact f6
    · rw [xpl_st, if_neg (by omega), xpl_st, if_neg (by omega)]; exact (f7 y).1
    · rw [xpl_st, if_neg (by omega), xpl_st, if_neg (by omega)]; exact (f7 y).2 i hi
    · rw [xpl_st, if_neg (by omega), xpl_st, if_neg (by omega)]
  · rw [f1] at q1
    have e : bcF r = r := by unfold bcF; rw [if_neg q1]
    rw [e] at hq
    have hn : ¬ (r.1.1 = 0 ∨ 8 ≤ r.1.1) := fun y => q1 (decide_eq_true y)
    exact hq h B ⟨⟨f1, f2⟩, ⟨f4, f5, f6⟩, f7⟩ (f2 (by omega) (by omega)) (xsm.refl h) (fun _ _ _ => rfl) rfl rfl

end
