/-! ===== bivc2 ===== -/
section
abbrev m_B_ask : XM := (⟨"BeaconIndex", "ask", "()I"⟩, prog_1_method_27_code, 2, (some .int), [])
theorem d_B_ask_0 : decode prog_1_method_27_code 0 = .ok (.aload_n 0, 1) := by decide +kernel
theorem d_B_ask_1 : decode prog_1_method_27_code 1 = .ok (.getfield 33, 3) := by decide +kernel
theorem w_433 : Cond.fieldLink "BeaconIndex" 33 "BeaconIndex" "questionReader" "LBeaconIndex$QuestionReader;" ∈ lw_tbl := List.mem_append_right _ (List.mem_of_getElem? (i := 433) (by decide +kernel))
theorem d_B_ask_4 : decode prog_1_method_27_code 4 = .ok (.aload_n 0, 1) := by decide +kernel
theorem d_B_ask_5 : decode prog_1_method_27_code 5 = .ok (.getfield 10, 3) := by decide +kernel
theorem d_B_ask_8 : decode prog_1_method_27_code 8 = .ok (.invokevirtual 237, 3) := by decide +kernel
theorem k_QuestionReader_read : xCal m_QuestionReader_read 1 := ⟨List.mem_append_right _ (List.mem_of_getElem? (i := 955) (by decide +kernel)), w_9, Nat.le_of_ble_eq_true rfl, ⟨by decide +kernel, by decide +kernel⟩, by decide +kernel, by decide +kernel, rfl⟩
theorem w_952 : Cond.methodLink "BeaconIndex" 237 ⟨"BeaconIndex$QuestionReader", "read", "(LBeaconIndex$Tape;)I"⟩ ∈ lw_tbl := List.mem_append_right _ (List.mem_of_getElem? (i := 952) (by decide +kernel))
theorem w_953 : Cond.instanceMethod ⟨"BeaconIndex$QuestionReader", "read", "(LBeaconIndex$Tape;)I"⟩ ∈ lw_tbl := List.mem_append_right _ (List.mem_of_getElem? (i := 953) (by decide +kernel))
theorem w_954 : Cond.selects "BeaconIndex$QuestionReader" ⟨"BeaconIndex$QuestionReader", "read", "(LBeaconIndex$Tape;)I"⟩ ⟨"BeaconIndex$QuestionReader", "read", "(LBeaconIndex$Tape;)I"⟩ ∈ lw_tbl := List.mem_append_right _ (List.mem_of_getElem? (i := 954) (by decide +kernel))
theorem v_B_ask_0 {G : XG} {d : Nat} {h : XH} {Q : XV → XH → Prop} {X : Nat → XH → Prop} (F : xFix h) (hyp : (xwp G m_QuestionReader_read (d + 12) 0 [xR 32, xR 1, xZ, xZ] [] h (fun v9 h9 => xwp G m_B_ask (d + 13) 11 [xR 0, xZ] (xpush v9 []) h9 Q X) X)) : xwp G m_B_ask (d + 13) 0 [xR 0, xZ] [] h Q X := by
  have hnx9 : (93 : Int) ≤ xnx h := F.2.2
  refine xr_aload_n (pc := 0) (i := 0) (hI := d_B_ask_0) (hi := rfl) (hl := rfl) ?_
  refine xg_getf (pc := 1) (ci := 0) (k := 3) (N := 7) (v9 := 2) (v := 32) (T := xF0) (hI := d_B_ask_1) (hw := w_433) rfl xi0 (Or.inl rfl) (Nat.le_of_ble_eq_true rfl) (Nat.le_of_ble_eq_true rfl) rfl (ft_0 F) (fp_0_3 F) (fun f1_ => ?_)
  clear f1_
  refine xr_aload_n (pc := 4) (i := 0) (hI := d_B_ask_4) (hi := rfl) (hl := rfl) ?_
  refine xg_getf (pc := 5) (ci := 0) (k := 0) (N := 7) (v9 := 2) (v := 1) (T := xF0) (hI := d_B_ask_5) (hw := w_430) rfl xi0 (Or.inl rfl) (Nat.le_of_ble_eq_true rfl) (Nat.le_of_ble_eq_true rfl) rfl (ft_0 F) (fp_0_0 F) (fun f2_ => ?_)
  clear f2_
  exact xq_callV (pc := 8) (index := 237) (K := m_QuestionReader_read) (As := [xR 1]) (S := []) (L0 := [xR 32, xR 1, xZ, xZ]) (hI := d_B_ask_8) (hK := k_QuestionReader_read) (hlk := w_952) (hnoM := rfl) (hS8 := Nat.le_of_ble_eq_true rfl) (ci := 6) (N := 15) (C := "BeaconIndex$QuestionReader") (T := xF6) (hc := rfl) (hci := Nat.le_of_ble_eq_true rfl) (htb := (ft_32 F)) (hinst := w_953) (hsel := w_954) (hlen := Nat.le_of_ble_eq_true rfl) (hst := rfl) (hL0 := rfl)  hyp
theorem d_B_ask_11 : decode prog_1_method_27_code 11 = .ok (.istore_n 1, 1) := by decide +kernel
theorem d_B_ask_12 : decode prog_1_method_27_code 12 = .ok (.aload_n 0, 1) := by decide +kernel
theorem d_B_ask_13 : decode prog_1_method_27_code 13 = .ok (.getfield 10, 3) := by decide +kernel
theorem d_B_ask_16 : decode prog_1_method_27_code 16 = .ok (.iconst 0, 1) := by decide +kernel
theorem d_B_ask_17 : decode prog_1_method_27_code 17 = .ok (.putfield 55, 3) := by decide +kernel
theorem d_B_ask_20 : decode prog_1_method_27_code 20 = .ok (.iload_n 1, 1) := by decide +kernel
theorem d_B_ask_21 : decode prog_1_method_27_code 21 = .ok (.iconst (-1), 1) := by decide +kernel
theorem d_B_ask_22 : decode prog_1_method_27_code 22 = .ok (.if_icmp .ne 32, 3) := by decide +kernel
theorem d_B_ask_25 : decode prog_1_method_27_code 25 = .ok (.aload_n 0, 1) := by decide +kernel
theorem d_B_ask_26 : decode prog_1_method_27_code 26 = .ok (.aload_n 0, 1) := by decide +kernel
theorem d_B_ask_27 : decode prog_1_method_27_code 27 = .ok (.getfield 33, 3) := by decide +kernel
theorem d_B_ask_30 : decode prog_1_method_27_code 30 = .ok (.getfield 241, 3) := by decide +kernel
theorem w_313 : Cond.fieldLink "BeaconIndex" 241 "BeaconIndex$QuestionReader" "draft" "Ljava/util/ArrayList;" ∈ lw_tbl := List.mem_append_right _ (List.mem_of_getElem? (i := 313) (by decide +kernel))
theorem d_B_ask_33 : decode prog_1_method_27_code 33 = .ok (.putfield 51, 3) := by decide +kernel
theorem xfk_0_6 : xfree 0 6 = true := by decide +kernel
theorem d_B_ask_36 : decode prog_1_method_27_code 36 = .ok (.aload_n 0, 1) := by decide +kernel
theorem d_B_ask_37 : decode prog_1_method_27_code 37 = .ok (.getfield 40, 3) := by decide +kernel
theorem d_B_ask_40 : decode prog_1_method_27_code 40 = .ok (.aload_n 0, 1) := by decide +kernel
theorem d_B_ask_41 : decode prog_1_method_27_code 41 = .ok (.getfield 51, 3) := by decide +kernel
theorem d_B_ask_44 : decode prog_1_method_27_code 44 = .ok (.aload_n 0, 1) := by decide +kernel
theorem d_B_ask_45 : decode prog_1_method_27_code 45 = .ok (.getfield 19, 3) := by decide +kernel
theorem d_B_ask_48 : decode prog_1_method_27_code 48 = .ok (.getfield 96, 3) := by decide +kernel
theorem d_B_ask_51 : decode prog_1_method_27_code 51 = .ok (.invokevirtual 99, 3) := by decide +kernel
theorem v_B_ask_11 {G : XG} {d : Nat} {h : XH} {Q : XV → XH → Prop} {X : Nat → XH → Prop} {s0 : Int} (F : xFix h) (hyp : ((s0 = (-1) → (xFix (xst (xst h 1 3 0) 0 6 (xpl h 32 5)) → xwp G m_Findings_refresh (d + 12) 0 [xR 40, xR (xpl h 32 5), xR 7, xZ, xZ] [] (xst (xst h 1 3 0) 0 6 (xpl h 32 5)) (fun v9 h9 => xwp G m_B_ask (d + 13) 54 [xZ, xI s0] (xpush v9 []) h9 Q X) X)) ∧ (¬ s0 = (-1) → (xFix (xst h 1 3 0) → xwp G m_B_ask (d + 13) 54 [xZ, xI s0] [] (xst h 1 3 0) Q X)))) : xwp G m_B_ask (d + 13) 11 [xR 0, xZ] [xI s0] h Q X := by
  have hnx9 : (93 : Int) ≤ xnx h := F.2.2
  refine xr_okS (fun hs9 => ?_)
  have r_s0 : -2147483648 ≤ s0 ∧ s0 ≤ 2147483647 := hs9 (xI s0) (.head _)
  refine xr_istore_n (pc := 11) (i := 1) (L9 := [xR 0, xI s0]) (hI := d_B_ask_11) (hi := rfl) (hn := Nat.le_of_ble_eq_true rfl) (hL9 := rfl) ?_
  refine xr_aload_n (pc := 12) (i := 0) (hI := d_B_ask_12) (hi := rfl) (hl := rfl) ?_
  refine xg_getf (pc := 13) (ci := 0) (k := 0) (N := 7) (v9 := 2) (v := 1) (T := xF0) (hI := d_B_ask_13) (hw := w_430) rfl xi0 (Or.inl rfl) (Nat.le_of_ble_eq_true rfl) (Nat.le_of_ble_eq_true rfl) rfl (ft_0 F) (fp_0_0 F) (fun f1_ => ?_)
  clear f1_
  refine xr_iconst (pc := 16) (hI := d_B_ask_16) (hr := by decide) ?_
  refine xr_putf (pc := 17) (ci := 8) (k := 3) (N := 7) (v9 := 0) (T := xF8) (tF := xT8) (hI := d_B_ask_17) (hw := w_58) rfl xi8 xt8 xn8 (Or.inl rfl) (Nat.le_of_ble_eq_true rfl) (Nat.le_of_ble_eq_true rfl) rfl xfit_i rfl (ft_1 F) (by decide) (fun z => z) ?_
  have F2_ : xFix (xst h 1 3 0) := F.stL xfk_1_3
  refine xr_iload_n (pc := 20) (i := 1) (hI := d_B_ask_20) (hi := rfl) (hl := rfl) ?_
  refine xr_iconst (pc := 21) (hI := d_B_ask_21) (hr := by decide) ?_
  refine xr_icmp_ne (pc := 22) (tgt := 54) (hI := d_B_ask_22) (ht := by decide) (fun q9 => ?_) (fun q9 => ?_)
  · replace hyp := hyp.2 q9
    have q3_ := q9
    clear q9
    exact xr_drop (L9 := [xZ, xI s0]) (xdrz (xdrs xdr0)) (hyp F2_)
  · replace hyp := hyp.1 q9
    have q3_ := q9
    clear q9
    refine xr_aload_n (pc := 25) (i := 0) (hI := d_B_ask_25) (hi := rfl) (hl := rfl) ?_
    refine xr_aload_n (pc := 26) (i := 0) (hI := d_B_ask_26) (hi := rfl) (hl := rfl) ?_
    refine xg_getf (pc := 27) (ci := 0) (k := 3) (N := 7) (v9 := 2) (v := 32) (T := xF0) (hI := d_B_ask_27) (hw := w_433) rfl xi0 (Or.inl rfl) (Nat.le_of_ble_eq_true rfl) (Nat.le_of_ble_eq_true rfl) rfl (ft_0 F2_) (fp_0_3 F2_) (fun f4_ => ?_)
    clear f4_
    refine xg_getf (pc := 30) (ci := 6) (k := 5) (N := 15) (v9 := 2) (v := (xpl h 32 5)) (T := xF6) (hI := d_B_ask_30) (hw := w_313) rfl xi6 (Or.inl rfl) (Nat.le_of_ble_eq_true rfl) (Nat.le_of_ble_eq_true rfl) rfl (ft_32 F2_) (xpl_oa (by decide)) (fun f5_ => ?_)
    clear f5_
    refine xr_putf (pc := 33) (ci := 0) (k := 6) (N := 7) (v9 := 2) (T := xF0) (tF := xT0) (hI := d_B_ask_33) (hw := w_436) rfl xi0 xt0 xn0 (Or.inl rfl) (Nat.le_of_ble_eq_true rfl) (Nat.le_of_ble_eq_true rfl) rfl (xfit_o _) rfl (ft_0 F2_) (by decide) (fun z => z) ?_
    have F6_ : xFix (xst (xst h 1 3 0) 0 6 (xpl h 32 5)) := F2_.stL xfk_0_6
    refine xr_aload_n (pc := 36) (i := 0) (hI := d_B_ask_36) (hi := rfl) (hl := rfl) ?_
    refine xg_getf (pc := 37) (ci := 0) (k := 4) (N := 7) (v9 := 2) (v := 40) (T := xF0) (hI := d_B_ask_37) (hw := w_434) rfl xi0 (Or.inl rfl) (Nat.le_of_ble_eq_true rfl) (Nat.le_of_ble_eq_true rfl) rfl (ft_0 F6_) (fp_0_4 F6_) (fun f7_ => ?_)
    clear f7_
    refine xr_aload_n (pc := 40) (i := 0) (hI := d_B_ask_40) (hi := rfl) (hl := rfl) ?_
    refine xg_getf (pc := 41) (ci := 0) (k := 6) (N := 7) (v9 := 2) (v := (xpl h 32 5)) (T := xF0) (hI := d_B_ask_41) (hw := w_436) rfl xi0 (Or.inl rfl) (Nat.le_of_ble_eq_true rfl) (Nat.le_of_ble_eq_true rfl) rfl (ft_0 F6_) (xpl_hit _ _ _ _) (fun f8_ => ?_)
    clear f8_
    refine xr_aload_n (pc := 44) (i := 0) (hI := d_B_ask_44) (hi := rfl) (hl := rfl) ?_
    refine xg_getf (pc := 45) (ci := 0) (k := 1) (N := 7) (v9 := 2) (v := 5) (T := xF0) (hI := d_B_ask_45) (hw := w_431) rfl xi0 (Or.inl rfl) (Nat.le_of_ble_eq_true rfl) (Nat.le_of_ble_eq_true rfl) rfl (ft_0 F6_) (fp_0_1 F6_) (fun f9_ => ?_)
    clear f9_
    refine xg_getf (pc := 48) (ci := 7) (k := 1) (N := 6) (v9 := 2) (v := 7) (T := xF7) (hI := d_B_ask_48) (hw := w_151) rfl xi7 (Or.inl rfl) (Nat.le_of_ble_eq_true rfl) (Nat.le_of_ble_eq_true rfl) rfl (ft_5 F6_) (fp_5_1 F6_) (fun f10_ => ?_)
    clear f10_
    exact xq_callV (pc := 51) (index := 99) (K := m_Findings_refresh) (As := [xR (xpl h 32 5), xR 7]) (S := []) (L0 := [xR 40, xR (xpl h 32 5), xR 7, xZ, xZ]) (hI := d_B_ask_51) (hK := k_Findings_refresh) (hlk := w_594) (hnoM := rfl) (hS8 := Nat.le_of_ble_eq_true rfl) (ci := 1) (N := 6) (C := "BeaconIndex$Findings") (T := xF1) (hc := rfl) (hci := Nat.le_of_ble_eq_true rfl) (htb := (ft_40 F6_)) (hinst := w_595) (hsel := w_596) (hlen := Nat.le_of_ble_eq_true rfl) (hst := rfl) (hL0 := rfl)  (xwp_mono (hyp F6_) (fun v9 h9 q9 => xr_drop (L9 := [xZ, xI s0]) (xdrz (xdrs xdr0)) q9) (fun _ _ z9 => z9))
theorem d_B_ask_54 : decode prog_1_method_27_code 54 = .ok (.iload_n 1, 1) := by decide +kernel
theorem d_B_ask_55 : decode prog_1_method_27_code 55 = .ok (.ireturn, 1) := by decide +kernel
theorem v_B_ask_54 {G : XG} {d : Nat} {h : XH} {Q : XV → XH → Prop} {X : Nat → XH → Prop} {x1 : Int} (F : xFix h) (hyp : (Q (xI x1) h)) : xwp G m_B_ask (d + 13) 54 [xZ, xI x1] [] h Q X := by
  have hnx9 : (93 : Int) ≤ xnx h := F.2.2
  refine xr_okL (fun hl9 => ?_)
  have r_x1 : -2147483648 ≤ x1 ∧ x1 ≤ 2147483647 := hl9 (xI x1) (.tail _ (.head _)) (Nat.le_of_ble_eq_true rfl)
  refine xr_iload_n (pc := 54) (i := 1) (hI := d_B_ask_54) (hi := rfl) (hl := rfl) ?_
  refine xr_ireturn (S := []) (pc := 55) (hI := d_B_ask_55) (hr := rfl) ?_
  exact hyp
abbrev m_B_parts : XM := (⟨"BeaconIndex", "parts", "()I"⟩, prog_1_method_28_code, 1, (some .int), [])
theorem d_B_parts_0 : decode prog_1_method_28_code 0 = .ok (.aload_n 0, 1) := by decide +kernel
theorem d_B_parts_1 : decode prog_1_method_28_code 1 = .ok (.invokevirtual 244, 3) := by decide +kernel
abbrev m_B_checkQuestion : XM := (⟨"BeaconIndex", "checkQuestion", "()V"⟩, prog_1_method_47_code, 1, none, [])
theorem k_B_checkQuestion : xCal m_B_checkQuestion 0 := ⟨List.mem_append_right _ (List.mem_of_getElem? (i := 1241) (by decide +kernel)), w_1, Nat.le_of_ble_eq_true rfl, ⟨by decide +kernel, by decide +kernel⟩, by decide +kernel, by decide +kernel, rfl⟩
theorem w_1238 : Cond.methodLink "BeaconIndex" 244 ⟨"BeaconIndex", "checkQuestion", "()V"⟩ ∈ lw_tbl := List.mem_append_right _ (List.mem_of_getElem? (i := 1238) (by decide +kernel))
theorem w_1240 : Cond.instanceMethod ⟨"BeaconIndex", "checkQuestion", "()V"⟩ ∈ lw_tbl := List.mem_append_right _ (List.mem_of_getElem? (i := 1240) (by decide +kernel))
theorem sel_B_checkQuestion : Cond.selects "BeaconIndex" ⟨"BeaconIndex", "checkQuestion", "()V"⟩ ⟨"BeaconIndex", "checkQuestion", "()V"⟩ ∈ lw_tbl := List.mem_append_left _ (by decide +kernel)
theorem d_B_checkQuestion_0 : decode prog_1_method_47_code 0 = .ok (.aload_n 0, 1) := by decide +kernel
theorem d_B_checkQuestion_1 : decode prog_1_method_47_code 1 = .ok (.getfield 51, 3) := by decide +kernel
theorem d_B_checkQuestion_4 : decode prog_1_method_47_code 4 = .ok (.invokevirtual 315, 3) := by decide +kernel
theorem w_1229 : Cond.methodLink "BeaconIndex" 315 ⟨"java/util/ArrayList", "isEmpty", "()Z"⟩ ∈ lw_tbl := List.mem_append_right _ (List.mem_of_getElem? (i := 1229) (by decide +kernel))
theorem d_B_checkQuestion_7 : decode prog_1_method_47_code 7 = .ok (.ifCond .eq 11, 3) := by decide +kernel
theorem d_B_checkQuestion_18 : decode prog_1_method_47_code 18 = .ok (.return_, 1) := by decide +kernel
theorem d_B_parts_4 : decode prog_1_method_28_code 4 = .ok (.aload_n 0, 1) := by decide +kernel
theorem d_B_parts_5 : decode prog_1_method_28_code 5 = .ok (.invokevirtual 247, 3) := by decide +kernel
abbrev m_B_question : XM := (⟨"BeaconIndex", "question", "()LBeaconIndex$Question;"⟩, prog_1_method_50_code, 1, (some (.object "BeaconIndex$Question")), [])
theorem k_B_question : xCal m_B_question 0 := ⟨List.mem_append_right _ (List.mem_of_getElem? (i := 1260) (by decide +kernel)), w_1, Nat.le_of_ble_eq_true rfl, ⟨by decide +kernel, by decide +kernel⟩, by decide +kernel, by decide +kernel, rfl⟩
theorem w_1257 : Cond.methodLink "BeaconIndex" 247 ⟨"BeaconIndex", "question", "()LBeaconIndex$Question;"⟩ ∈ lw_tbl := List.mem_append_right _ (List.mem_of_getElem? (i := 1257) (by decide +kernel))
theorem w_1259 : Cond.instanceMethod ⟨"BeaconIndex", "question", "()LBeaconIndex$Question;"⟩ ∈ lw_tbl := List.mem_append_right _ (List.mem_of_getElem? (i := 1259) (by decide +kernel))
theorem sel_B_question : Cond.selects "BeaconIndex" ⟨"BeaconIndex", "question", "()LBeaconIndex$Question;"⟩ ⟨"BeaconIndex", "question", "()LBeaconIndex$Question;"⟩ ∈ lw_tbl := List.mem_append_left _ (by decide +kernel)
theorem d_B_question_0 : decode prog_1_method_50_code 0 = .ok (.aload_n 0, 1) := by decide +kernel
theorem d_B_question_1 : decode prog_1_method_50_code 1 = .ok (.getfield 51, 3) := by decide +kernel
theorem d_B_question_4 : decode prog_1_method_50_code 4 = .ok (.invokevirtual 315, 3) := by decide +kernel
theorem d_B_question_7 : decode prog_1_method_50_code 7 = .ok (.ifCond .eq 13, 3) := by decide +kernel
theorem d_B_question_20 : decode prog_1_method_50_code 20 = .ok (.aload_n 0, 1) := by decide +kernel
theorem d_B_question_21 : decode prog_1_method_50_code 21 = .ok (.getfield 51, 3) := by decide +kernel
theorem d_B_question_24 : decode prog_1_method_50_code 24 = .ok (.iconst 0, 1) := by decide +kernel
theorem d_B_question_25 : decode prog_1_method_50_code 25 = .ok (.invokevirtual 184, 3) := by decide +kernel
theorem d_B_question_28 : decode prog_1_method_50_code 28 = .ok (.checkcast 252, 3) := by decide +kernel
theorem w_1262 : Cond.classLink "BeaconIndex" 252 "BeaconIndex$Question" ∈ lw_tbl := List.mem_append_right _ (List.mem_of_getElem? (i := 1262) (by decide +kernel))
theorem d_B_question_31 : decode prog_1_method_50_code 31 = .ok (.areturn, 1) := by decide +kernel
theorem d_B_parts_8 : decode prog_1_method_28_code 8 = .ok (.getfield 251, 3) := by decide +kernel
theorem w_290 : Cond.fieldLink "BeaconIndex" 251 "BeaconIndex$Question" "parts" "Ljava/util/ArrayList;" ∈ lw_tbl := List.mem_append_right _ (List.mem_of_getElem? (i := 290) (by decide +kernel))
theorem d_B_parts_11 : decode prog_1_method_28_code 11 = .ok (.invokevirtual 128, 3) := by decide +kernel
theorem d_B_parts_14 : decode prog_1_method_28_code 14 = .ok (.ireturn, 1) := by decide +kernel
theorem d_B_question_10 : decode prog_1_method_50_code 10 = .ok (.aload_n 0, 1) := by decide +kernel
theorem d_B_question_11 : decode prog_1_method_50_code 11 = .ok (.getfield 33, 3) := by decide +kernel
theorem d_B_question_14 : decode prog_1_method_50_code 14 = .ok (.getfield 372, 3) := by decide +kernel
theorem w_311 : Cond.fieldLink "BeaconIndex" 372 "BeaconIndex$QuestionReader" "noQuestion" "LBeaconIndex$Question;" ∈ lw_tbl := List.mem_append_right _ (List.mem_of_getElem? (i := 311) (by decide +kernel))
theorem d_B_question_17 : decode prog_1_method_50_code 17 = .ok (.goto 14, 3) := by decide +kernel
theorem d_B_checkQuestion_10 : decode prog_1_method_47_code 10 = .ok (.new 59, 3) := by decide +kernel
theorem d_B_checkQuestion_13 : decode prog_1_method_47_code 13 = .ok (.dup, 1) := by decide +kernel
theorem d_B_checkQuestion_14 : decode prog_1_method_47_code 14 = .ok (.invokespecial 61, 3) := by decide +kernel
theorem d_B_checkQuestion_17 : decode prog_1_method_47_code 17 = .ok (.athrow, 1) := by decide +kernel
theorem v_B_parts_0 {G : XG} {d : Nat} {h : XH} {Q : XV → XH → Prop} {X : Nat → XH → Prop} (F : xFix h) (hyp : xtg h (xpl h 0 6) = 13 ∧ alok h (xpl h 0 6) ∧ ((((decide (als h (xpl h 0 6) = 0)) = true) → xnx h + 1 ≤ xKC ∧ xsl h + 6 ≤ xKS ∧ (xFix (xmk h 300 6 (fun _ => 0)) → X 1 (xmk h 300 6 (fun _ => 0)))) ∧ (¬ ((decide (als h (xpl h 0 6) = 0)) = true) → ((((decide (als h (xpl h 0 6) = 0)) = true) → alok h 38 ∧ (Q (xI (als h 38)) h)) ∧ (¬ ((decide (als h (xpl h 0 6) = 0)) = true) → (0 : Int) < als h (xpl h 0 6) ∧ xtg h (alg h (xpl h 0 6) 0) = 5 ∧ xtg h (xpl h (alg h (xpl h 0 6) 0) 0) = 13 ∧ alok h (xpl h (alg h (xpl h 0 6) 0) 0) ∧ (Q (xI (als h (xpl h (alg h (xpl h 0 6) 0) 0))) h)))))) : xwp G m_B_parts (d + 8) 0 [xR 0] [] h Q X := by
  have hnx9 : (93 : Int) ≤ xnx h := F.2.2
  refine xr_aload_n (pc := 0) (i := 0) (hI := d_B_parts_0) (hi := rfl) (hl := rfl) ?_
  refine xq_callV (pc := 1) (index := 244) (K := m_B_checkQuestion) (As := []) (S := []) (L0 := [xR 0]) (hI := d_B_parts_1) (hK := k_B_checkQuestion) (hlk := w_1238) (hnoM := rfl) (hS8 := Nat.le_of_ble_eq_true rfl) (ci := 0) (N := 7) (C := "BeaconIndex") (T := xF0) (hc := rfl) (hci := Nat.le_of_ble_eq_true rfl) (htb := (ft_0 F)) (hinst := w_1240) (hsel := sel_B_checkQuestion) (hlen := Nat.le_of_ble_eq_true rfl) (hst := rfl) (hL0 := rfl)  ?_
  refine xr_aload_n (pc := 0) (i := 0) (hI := d_B_checkQuestion_0) (hi := rfl) (hl := rfl) ?_
  refine xg_getf (pc := 1) (ci := 0) (k := 6) (N := 7) (v9 := 2) (v := (xpl h 0 6)) (T := xF0) (hI := d_B_checkQuestion_1) (hw := w_436) rfl xi0 (Or.inl rfl) (Nat.le_of_ble_eq_true rfl) (Nat.le_of_ble_eq_true rfl) rfl (ft_0 F) rfl (fun f1_ => ?_)
  clear f1_
  obtain ⟨c9, hyp⟩ := hyp
  have t2_ := c9
  clear c9
  obtain ⟨c3_, hyp⟩ := hyp
  refine xq_callV (pc := 4) (index := 315) (K := m_ArrayList_isEmpty) (As := []) (S := []) (L0 := [xR (xpl h 0 6)]) (hI := d_B_checkQuestion_4) (hK := k_ArrayList_isEmpty) (hlk := w_1229) (hnoM := rfl) (hS8 := Nat.le_of_ble_eq_true rfl) (ci := 13) (N := 3) (C := "java/util/ArrayList") (T := xF13) (hc := rfl) (hci := Nat.le_of_ble_eq_true rfl) (htb := t2_) (hinst := w_461) (hsel := w_462) (hlen := Nat.le_of_ble_eq_true rfl) (hst := rfl) (hL0 := rfl)  (p_AL_isEmpty F c3_ ?_)
  show xwp G m_B_checkQuestion (d + 7) 7 [xR 0] [xI (b2i (decide (als h (xpl h 0 6) = 0)))] _ _ _
  refine xr_if_eq (pc := 7) (tgt := 18) (hI := d_B_checkQuestion_7) (ht := by decide) (fun q9 => ?_) (fun q9 => ?_)
  · replace hyp := hyp.2 (b2i_0.mp q9)
    have q4_ := b2i_0.mp q9
    clear q9
    refine xr_return (S := []) (pc := 18) (hI := d_B_checkQuestion_18) (hr := rfl) ?_
    show xwp G m_B_parts (d + 8) 4 [xR 0] [] _ _ _
    refine xr_aload_n (pc := 4) (i := 0) (hI := d_B_parts_4) (hi := rfl) (hl := rfl) ?_
    refine xq_callV (pc := 5) (index := 247) (K := m_B_question) (As := []) (S := []) (L0 := [xR 0]) (hI := d_B_parts_5) (hK := k_B_question) (hlk := w_1257) (hnoM := rfl) (hS8 := Nat.le_of_ble_eq_true rfl) (ci := 0) (N := 7) (C := "BeaconIndex") (T := xF0) (hc := rfl) (hci := Nat.le_of_ble_eq_true rfl) (htb := (ft_0 F)) (hinst := w_1259) (hsel := sel_B_question) (hlen := Nat.le_of_ble_eq_true rfl) (hst := rfl) (hL0 := rfl)  ?_
    refine xr_aload_n (pc := 0) (i := 0) (hI := d_B_question_0) (hi := rfl) (hl := rfl) ?_
    refine xg_getf (pc := 1) (ci := 0) (k := 6) (N := 7) (v9 := 2) (v := (xpl h 0 6)) (T := xF0) (hI := d_B_question_1) (hw := w_436) rfl xi0 (Or.inl rfl) (Nat.le_of_ble_eq_true rfl) (Nat.le_of_ble_eq_true rfl) rfl (ft_0 F) rfl (fun f5_ => ?_)
    clear f5_
    refine xq_callV (pc := 4) (index := 315) (K := m_ArrayList_isEmpty) (As := []) (S := []) (L0 := [xR (xpl h 0 6)]) (hI := d_B_question_4) (hK := k_ArrayList_isEmpty) (hlk := w_1229) (hnoM := rfl) (hS8 := Nat.le_of_ble_eq_true rfl) (ci := 13) (N := 3) (C := "java/util/ArrayList") (T := xF13) (hc := rfl) (hci := Nat.le_of_ble_eq_true rfl) (htb := t2_) (hinst := w_461) (hsel := w_462) (hlen := Nat.le_of_ble_eq_true rfl) (hst := rfl) (hL0 := rfl)  (p_AL_isEmpty F c3_ ?_)
    show xwp G m_B_question (d + 7) 7 [xR 0] [xI (b2i (decide (als h (xpl h 0 6) = 0)))] _ _ _
    refine xr_if_eq (pc := 7) (tgt := 20) (hI := d_B_question_7) (ht := by decide) (fun q9 => ?_) (fun q9 => ?_)
    · replace hyp := hyp.2 (b2i_0.mp q9)
      have q6_ := b2i_0.mp q9
      clear q9
      refine xr_aload_n (pc := 20) (i := 0) (hI := d_B_question_20) (hi := rfl) (hl := rfl) ?_
      refine xg_getf (pc := 21) (ci := 0) (k := 6) (N := 7) (v9 := 2) (v := (xpl h 0 6)) (T := xF0) (hI := d_B_question_21) (hw := w_436) rfl xi0 (Or.inl rfl) (Nat.le_of_ble_eq_true rfl) (Nat.le_of_ble_eq_true rfl) rfl (ft_0 F) rfl (fun f7_ => ?_)
      clear f7_
      refine xr_iconst (pc := 24) (hI := d_B_question_24) (hr := by decide) ?_
      obtain ⟨c8_, hyp⟩ := hyp
      refine xq_callV (pc := 25) (index := 184) (K := m_ArrayList_get) (As := [xI 0]) (S := []) (L0 := [xR (xpl h 0 6), xI 0]) (hI := d_B_question_25) (hK := k_ArrayList_get) (hlk := w_1261) (hnoM := rfl) (hS8 := Nat.le_of_ble_eq_true rfl) (ci := 13) (N := 3) (C := "java/util/ArrayList") (T := xF13) (hc := rfl) (hci := Nat.le_of_ble_eq_true rfl) (htb := t2_) (hinst := w_469) (hsel := w_470) (hlen := Nat.le_of_ble_eq_true rfl) (hst := rfl) (hL0 := rfl)  (p_AL_get F c3_ (by decide) c8_ ?_)
      show xwp G m_B_question (d + 7) 28 [xR 0] [xR (alg h (xpl h 0 6) 0)] _ _ _
      obtain ⟨c9, hyp⟩ := hyp
      have t9_ := c9
      clear c9
      refine xr_cast (pc := 28) (ci := 5) (T := xF5) (N := 5) (hI := d_B_question_28) w_1262 rfl (Nat.le_of_ble_eq_true rfl) t9_ ?_
      refine xr_areturn (S := []) (pc := 31) (hI := d_B_question_31) (hr := rfl) (hrt := Or.inl ⟨_, rfl⟩) ?_
      show xwp G m_B_parts (d + 8) 8 [xR 0] [xR (alg h (xpl h 0 6) 0)] _ _ _
      refine xg_getf (pc := 8) (ci := 5) (k := 0) (N := 5) (v9 := 2) (v := (xpl h (alg h (xpl h 0 6) 0) 0)) (T := xF5) (hI := d_B_parts_8) (hw := w_290) rfl xi5 (Or.inl rfl) (Nat.le_of_ble_eq_true rfl) (Nat.le_of_ble_eq_true rfl) rfl t9_ rfl (fun f10_ => ?_)
      clear f10_
      obtain ⟨c9, hyp⟩ := hyp
      have t11_ := c9
      clear c9
      obtain ⟨c12_, hyp⟩ := hyp
      refine xq_callV (pc := 11) (index := 128) (K := m_ArrayList_size) (As := []) (S := []) (L0 := [xR (xpl h (alg h (xpl h 0 6) 0) 0)]) (hI := d_B_parts_11) (hK := k_ArrayList_size) (hlk := w_774) (hnoM := rfl) (hS8 := Nat.le_of_ble_eq_true rfl) (ci := 13) (N := 3) (C := "java/util/ArrayList") (T := xF13) (hc := rfl) (hci := Nat.le_of_ble_eq_true rfl) (htb := t11_) (hinst := w_465) (hsel := w_466) (hlen := Nat.le_of_ble_eq_true rfl) (hst := rfl) (hL0 := rfl)  (p_AL_size F c12_ ?_)
      show xwp G m_B_parts (d + 8) 14 [xR 0] [xI (als h (xpl h (alg h (xpl h 0 6) 0) 0))] _ _ _
      have f13_ : 0 ≤ (als h (xpl h (alg h (xpl h 0 6) 0) 0)) ∧ (als h (xpl h (alg h (xpl h 0 6) 0) 0)) ≤ 1000000 := ⟨c12_.2.2.1, c12_.2.2.2.2⟩
      refine xr_ireturn (S := []) (pc := 14) (hI := d_B_parts_14) (hr := rfl) ?_
      exact hyp
    · replace hyp := hyp.1 (b2i_1.mp q9)
      have q6_ := b2i_1.mp q9
      clear q9
      refine xr_aload_n (pc := 10) (i := 0) (hI := d_B_question_10) (hi := rfl) (hl := rfl) ?_
      refine xg_getf (pc := 11) (ci := 0) (k := 3) (N := 7) (v9 := 2) (v := 32) (T := xF0) (hI := d_B_question_11) (hw := w_433) rfl xi0 (Or.inl rfl) (Nat.le_of_ble_eq_true rfl) (Nat.le_of_ble_eq_true rfl) rfl (ft_0 F) (fp_0_3 F) (fun f14_ => ?_)
      clear f14_
      refine xg_getf (pc := 14) (ci := 6) (k := 4) (N := 15) (v9 := 2) (v := 37) (T := xF6) (hI := d_B_question_14) (hw := w_311) rfl xi6 (Or.inl rfl) (Nat.le_of_ble_eq_true rfl) (Nat.le_of_ble_eq_true rfl) rfl (ft_32 F) (fp_32_4 F) (fun f15_ => ?_)
      clear f15_
      refine xr_goto (pc := 17) (tgt := 31) (hI := d_B_question_17) (ht := by decide) ?_
      refine xr_areturn (S := []) (pc := 31) (hI := d_B_question_31) (hr := rfl) (hrt := Or.inl ⟨_, rfl⟩) ?_
      show xwp G m_B_parts (d + 8) 8 [xR 0] [xR 37] _ _ _
      refine xg_getf (pc := 8) (ci := 5) (k := 0) (N := 5) (v9 := 2) (v := 38) (T := xF5) (hI := d_B_parts_8) (hw := w_290) rfl xi5 (Or.inl rfl) (Nat.le_of_ble_eq_true rfl) (Nat.le_of_ble_eq_true rfl) rfl (ft_37 F) (fp_37_0 F) (fun f16_ => ?_)
      clear f16_
      obtain ⟨c17_, hyp⟩ := hyp
      refine xq_callV (pc := 11) (index := 128) (K := m_ArrayList_size) (As := []) (S := []) (L0 := [xR 38]) (hI := d_B_parts_11) (hK := k_ArrayList_size) (hlk := w_774) (hnoM := rfl) (hS8 := Nat.le_of_ble_eq_true rfl) (ci := 13) (N := 3) (C := "java/util/ArrayList") (T := xF13) (hc := rfl) (hci := Nat.le_of_ble_eq_true rfl) (htb := (ft_38 F)) (hinst := w_465) (hsel := w_466) (hlen := Nat.le_of_ble_eq_true rfl) (hst := rfl) (hL0 := rfl)  (p_AL_size F c17_ ?_)
      show xwp G m_B_parts (d + 8) 14 [xR 0] [xI (als h 38)] _ _ _
      have f18_ : 0 ≤ (als h 38) ∧ (als h 38) ≤ 1000000 := ⟨c17_.2.2.1, c17_.2.2.2.2⟩
      refine xr_ireturn (S := []) (pc := 14) (hI := d_B_parts_14) (hr := rfl) ?_
      exact hyp
  · replace hyp := hyp.1 (b2i_1.mp q9)
    have q4_ := b2i_1.mp q9
    clear q9
    obtain ⟨c7, c8, hyp⟩ := hyp
    exact xr_throw (pc := 10) (k := 1) (ik := 59) (ic := 61) (names := ["java/lang/RuntimeException", "java/lang/Exception"]) (by decide +kernel) (by decide +kernel) (by decide) w_1242 w_20 thr_B_61.1 thr_B_61.2 d_B_checkQuestion_10 d_B_checkQuestion_13 d_B_checkQuestion_14 d_B_checkQuestion_17 rfl (Nat.le_of_ble_eq_true rfl) (Nat.le_add_left_of_le (by decide)) (Nat.le_of_ble_eq_true rfl) c7 c8 (hyp (xFix.mk F))
abbrev m_B_found : XM := (⟨"BeaconIndex", "found", "()I"⟩, prog_1_method_29_code, 1, (some .int), [])
theorem d_B_found_0 : decode prog_1_method_29_code 0 = .ok (.aload_n 0, 1) := by decide +kernel
theorem d_B_found_1 : decode prog_1_method_29_code 1 = .ok (.invokevirtual 244, 3) := by decide +kernel
theorem d_B_found_4 : decode prog_1_method_29_code 4 = .ok (.aload_n 0, 1) := by decide +kernel
theorem d_B_found_5 : decode prog_1_method_29_code 5 = .ok (.getfield 40, 3) := by decide +kernel
theorem d_B_found_8 : decode prog_1_method_29_code 8 = .ok (.getfield 256, 3) := by decide +kernel
theorem w_413 : Cond.fieldLink "BeaconIndex" 256 "BeaconIndex$Findings" "count" "I" ∈ lw_tbl := List.mem_append_right _ (List.mem_of_getElem? (i := 413) (by decide +kernel))
theorem d_B_found_11 : decode prog_1_method_29_code 11 = .ok (.ireturn, 1) := by decide +kernel
theorem v_B_found_0 {G : XG} {d : Nat} {h : XH} {Q : XV → XH → Prop} {X : Nat → XH → Prop} (F : xFix h) (hyp : xtg h (xpl h 0 6) = 13 ∧ alok h (xpl h 0 6) ∧ ((((decide (als h (xpl h 0 6) = 0)) = true) → xnx h + 1 ≤ xKC ∧ xsl h + 6 ≤ xKS ∧ (xFix (xmk h 300 6 (fun _ => 0)) → X 1 (xmk h 300 6 (fun _ => 0)))) ∧ (¬ ((decide (als h (xpl h 0 6) = 0)) = true) → (Q (xI (xpl h 40 5)) h)))) : xwp G m_B_found (d + 8) 0 [xR 0] [] h Q X := by
  have hnx9 : (93 : Int) ≤ xnx h := F.2.2
  refine xr_aload_n (pc := 0) (i := 0) (hI := d_B_found_0) (hi := rfl) (hl := rfl) ?_
  refine xq_callV (pc := 1) (index := 244) (K := m_B_checkQuestion) (As := []) (S := []) (L0 := [xR 0]) (hI := d_B_found_1) (hK := k_B_checkQuestion) (hlk := w_1238) (hnoM := rfl) (hS8 := Nat.le_of_ble_eq_true rfl) (ci := 0) (N := 7) (C := "BeaconIndex") (T := xF0) (hc := rfl) (hci := Nat.le_of_ble_eq_true rfl) (htb := (ft_0 F)) (hinst := w_1240) (hsel := sel_B_checkQuestion) (hlen := Nat.le_of_ble_eq_true rfl) (hst := rfl) (hL0 := rfl)  ?_
  refine xr_aload_n (pc := 0) (i := 0) (hI := d_B_checkQuestion_0) (hi := rfl) (hl := rfl) ?_
  refine xg_getf (pc := 1) (ci := 0) (k := 6) (N := 7) (v9 := 2) (v := (xpl h 0 6)) (T := xF0) (hI := d_B_checkQuestion_1) (hw := w_436) rfl xi0 (Or.inl rfl) (Nat.le_of_ble_eq_true rfl) (Nat.le_of_ble_eq_true rfl) rfl (ft_0 F) rfl (fun f1_ => ?_)
  clear f1_
  obtain ⟨c9, hyp⟩ := hyp
  have t2_ := c9
  clear c9
  obtain ⟨c3_, hyp⟩ := hyp
  refine xq_callV (pc := 4) (index := 315) (K := m_ArrayList_isEmpty) (As := []) (S := []) (L0 := [xR (xpl h 0 6)]) (hI := d_B_checkQuestion_4) (hK := k_ArrayList_isEmpty) (hlk := w_1229) (hnoM := rfl) (hS8 := Nat.le_of_ble_eq_true rfl) (ci := 13) (N := 3) (C := "java/util/ArrayList") (T := xF13) (hc := rfl) (hci := Nat.le_of_ble_eq_true rfl) (htb := t2_) (hinst := w_461) (hsel := w_462) (hlen := Nat.le_of_ble_eq_true rfl) (hst := rfl) (hL0 := rfl)  (p_AL_isEmpty F c3_ ?_)
  show xwp G m_B_checkQuestion (d + 7) 7 [xR 0] [xI (b2i (decide (als h (xpl h 0 6) = 0)))] _ _ _
  refine xr_if_eq (pc := 7) (tgt := 18) (hI := d_B_checkQuestion_7) (ht := by decide) (fun q9 => ?_) (fun q9 => ?_)
  · replace hyp := hyp.2 (b2i_0.mp q9)
    have q4_ := b2i_0.mp q9
    clear q9
    refine xr_return (S := []) (pc := 18) (hI := d_B_checkQuestion_18) (hr := rfl) ?_
    show xwp G m_B_found (d + 8) 4 [xR 0] [] _ _ _
    refine xr_aload_n (pc := 4) (i := 0) (hI := d_B_found_4) (hi := rfl) (hl := rfl) ?_
    refine xg_getf (pc := 5) (ci := 0) (k := 4) (N := 7) (v9 := 2) (v := 40) (T := xF0) (hI := d_B_found_5) (hw := w_434) rfl xi0 (Or.inl rfl) (Nat.le_of_ble_eq_true rfl) (Nat.le_of_ble_eq_true rfl) rfl (ft_0 F) (fp_0_4 F) (fun f5_ => ?_)
    clear f5_
    refine xg_getf (pc := 8) (ci := 1) (k := 5) (N := 6) (v9 := 0) (v := (xpl h 40 5)) (T := xF1) (hI := d_B_found_8) (hw := w_413) rfl xi1 (Or.inl rfl) (Nat.le_of_ble_eq_true rfl) (Nat.le_of_ble_eq_true rfl) rfl (ft_40 F) rfl (fun f6_ => ?_)
    replace f6_ : -2147483648 ≤ (xpl h 40 5) ∧ (xpl h 40 5) ≤ 2147483647 := f6_
    refine xr_ireturn (S := []) (pc := 11) (hI := d_B_found_11) (hr := rfl) ?_
    exact hyp
  · replace hyp := hyp.1 (b2i_1.mp q9)
    have q4_ := b2i_1.mp q9
    clear q9
    obtain ⟨c7, c8, hyp⟩ := hyp
    exact xr_throw (pc := 10) (k := 1) (ik := 59) (ic := 61) (names := ["java/lang/RuntimeException", "java/lang/Exception"]) (by decide +kernel) (by decide +kernel) (by decide) w_1242 w_20 thr_B_61.1 thr_B_61.2 d_B_checkQuestion_10 d_B_checkQuestion_13 d_B_checkQuestion_14 d_B_checkQuestion_17 rfl (Nat.le_of_ble_eq_true rfl) (Nat.le_add_left_of_le (by decide)) (Nat.le_of_ble_eq_true rfl) c7 c8 (hyp (xFix.mk F))
abbrev m_B_keyFound : XM := (⟨"BeaconIndex", "keyFound", "(I)I"⟩, prog_1_method_30_code, 2, (some .int), [])
theorem d_B_keyFound_0 : decode prog_1_method_30_code 0 = .ok (.aload_n 0, 1) := by decide +kernel
theorem d_B_keyFound_1 : decode prog_1_method_30_code 1 = .ok (.invokevirtual 244, 3) := by decide +kernel
theorem d_B_keyFound_4 : decode prog_1_method_30_code 4 = .ok (.aload_n 0, 1) := by decide +kernel
theorem d_B_keyFound_5 : decode prog_1_method_30_code 5 = .ok (.iload_n 1, 1) := by decide +kernel
theorem d_B_keyFound_6 : decode prog_1_method_30_code 6 = .ok (.invokevirtual 259, 3) := by decide +kernel
abbrev m_B_checkPlace : XM := (⟨"BeaconIndex", "checkPlace", "(I)V"⟩, prog_1_method_48_code, 2, none, [])
theorem k_B_checkPlace : xCal m_B_checkPlace 1 := ⟨List.mem_append_right _ (List.mem_of_getElem? (i := 1274) (by decide +kernel)), w_1, Nat.le_of_ble_eq_true rfl, ⟨by decide +kernel, by decide +kernel⟩, by decide +kernel, by decide +kernel, rfl⟩
theorem w_1271 : Cond.methodLink "BeaconIndex" 259 ⟨"BeaconIndex", "checkPlace", "(I)V"⟩ ∈ lw_tbl := List.mem_append_right _ (List.mem_of_getElem? (i := 1271) (by decide +kernel))
theorem w_1273 : Cond.instanceMethod ⟨"BeaconIndex", "checkPlace", "(I)V"⟩ ∈ lw_tbl := List.mem_append_right _ (List.mem_of_getElem? (i := 1273) (by decide +kernel))
theorem sel_B_checkPlace : Cond.selects "BeaconIndex" ⟨"BeaconIndex", "checkPlace", "(I)V"⟩ ⟨"BeaconIndex", "checkPlace", "(I)V"⟩ ∈ lw_tbl := List.mem_append_left _ (by decide +kernel)
theorem d_B_checkPlace_0 : decode prog_1_method_48_code 0 = .ok (.iload_n 1, 1) := by decide +kernel
theorem d_B_checkPlace_1 : decode prog_1_method_48_code 1 = .ok (.ifCond .lt 14, 3) := by decide +kernel
theorem d_B_checkPlace_15 : decode prog_1_method_48_code 15 = .ok (.new 204, 3) := by decide +kernel
theorem d_B_checkPlace_18 : decode prog_1_method_48_code 18 = .ok (.dup, 1) := by decide +kernel
theorem d_B_checkPlace_19 : decode prog_1_method_48_code 19 = .ok (.invokespecial 206, 3) := by decide +kernel
theorem d_B_checkPlace_22 : decode prog_1_method_48_code 22 = .ok (.athrow, 1) := by decide +kernel
theorem d_B_checkPlace_4 : decode prog_1_method_48_code 4 = .ok (.iload_n 1, 1) := by decide +kernel
theorem d_B_checkPlace_5 : decode prog_1_method_48_code 5 = .ok (.aload_n 0, 1) := by decide +kernel
theorem d_B_checkPlace_6 : decode prog_1_method_48_code 6 = .ok (.getfield 40, 3) := by decide +kernel
theorem d_B_checkPlace_9 : decode prog_1_method_48_code 9 = .ok (.getfield 256, 3) := by decide +kernel
theorem d_B_checkPlace_12 : decode prog_1_method_48_code 12 = .ok (.if_icmp .lt 11, 3) := by decide +kernel
theorem d_B_checkPlace_23 : decode prog_1_method_48_code 23 = .ok (.return_, 1) := by decide +kernel
theorem d_B_keyFound_9 : decode prog_1_method_30_code 9 = .ok (.aload_n 0, 1) := by decide +kernel
theorem d_B_keyFound_10 : decode prog_1_method_30_code 10 = .ok (.getfield 19, 3) := by decide +kernel
theorem d_B_keyFound_13 : decode prog_1_method_30_code 13 = .ok (.aload_n 0, 1) := by decide +kernel
theorem d_B_keyFound_14 : decode prog_1_method_30_code 14 = .ok (.getfield 40, 3) := by decide +kernel
theorem d_B_keyFound_17 : decode prog_1_method_30_code 17 = .ok (.iload_n 1, 1) := by decide +kernel
theorem d_B_keyFound_18 : decode prog_1_method_30_code 18 = .ok (.invokevirtual 262, 3) := by decide +kernel
theorem w_1275 : Cond.methodLink "BeaconIndex" 262 ⟨"BeaconIndex$Findings", "textAt", "(I)I"⟩ ∈ lw_tbl := List.mem_append_right _ (List.mem_of_getElem? (i := 1275) (by decide +kernel))
theorem v_B_keyFound_0 {G : XG} {d : Nat} {h : XH} {Q : XV → XH → Prop} {X : Nat → XH → Prop} {x1 : Int} (F : xFix h) (hyp : xtg h (xpl h 0 6) = 13 ∧ alok h (xpl h 0 6) ∧ ((((decide (als h (xpl h 0 6) = 0)) = true) → xnx h + 1 ≤ xKC ∧ xsl h + 6 ≤ xKS ∧ (xFix (xmk h 300 6 (fun _ => 0)) → X 1 (xmk h 300 6 (fun _ => 0)))) ∧ (¬ ((decide (als h (xpl h 0 6) = 0)) = true) → ((x1 < 0 → xnx h + 1 ≤ xKC ∧ xsl h + 6 ≤ xKS ∧ (xFix (xmk h 300 6 (fun _ => 0)) → X 2 (xmk h 300 6 (fun _ => 0)))) ∧ (¬ x1 < 0 → ((x1 < (xpl h 40 5) → (xwp G m_Findings_textAt (d + 7) 0 [xR 40, xI x1] [] h (fun v9 h9 => xwp G m_B_keyFound (d + 8) 21 [xZ, xZ] (xpush v9 [xR 5]) h9 Q X) X)) ∧ (¬ x1 < (xpl h 40 5) → xnx h + 1 ≤ xKC ∧ xsl h + 6 ≤ xKS ∧ (xFix (xmk h 300 6 (fun _ => 0)) → X 2 (xmk h 300 6 (fun _ => 0)))))))))) : xwp G m_B_keyFound (d + 8) 0 [xR 0, xI x1] [] h Q X := by
  have hnx9 : (93 : Int) ≤ xnx h := F.2.2
  refine xr_okL (fun hl9 => ?_)
  have r_x1 : -2147483648 ≤ x1 ∧ x1 ≤ 2147483647 := hl9 (xI x1) (.tail _ (.head _)) (Nat.le_of_ble_eq_true rfl)
  refine xr_aload_n (pc := 0) (i := 0) (hI := d_B_keyFound_0) (hi := rfl) (hl := rfl) ?_
  refine xq_callV (pc := 1) (index := 244) (K := m_B_checkQuestion) (As := []) (S := []) (L0 := [xR 0]) (hI := d_B_keyFound_1) (hK := k_B_checkQuestion) (hlk := w_1238) (hnoM := rfl) (hS8 := Nat.le_of_ble_eq_true rfl) (ci := 0) (N := 7) (C := "BeaconIndex") (T := xF0) (hc := rfl) (hci := Nat.le_of_ble_eq_true rfl) (htb := (ft_0 F)) (hinst := w_1240) (hsel := sel_B_checkQuestion) (hlen := Nat.le_of_ble_eq_true rfl) (hst := rfl) (hL0 := rfl)  ?_
  refine xr_aload_n (pc := 0) (i := 0) (hI := d_B_checkQuestion_0) (hi := rfl) (hl := rfl) ?_
  refine xg_getf (pc := 1) (ci := 0) (k := 6) (N := 7) (v9 := 2) (v := (xpl h 0 6)) (T := xF0) (hI := d_B_checkQuestion_1) (hw := w_436) rfl xi0 (Or.inl rfl) (Nat.le_of_ble_eq_true rfl) (Nat.le_of_ble_eq_true rfl) rfl (ft_0 F) rfl (fun f1_ => ?_)
  clear f1_
  obtain ⟨c9, hyp⟩ := hyp
  have t2_ := c9
  clear c9
  obtain ⟨c3_, hyp⟩ := hyp
  refine xq_callV (pc := 4) (index := 315) (K := m_ArrayList_isEmpty) (As := []) (S := []) (L0 := [xR (xpl h 0 6)]) (hI := d_B_checkQuestion_4) (hK := k_ArrayList_isEmpty) (hlk := w_1229) (hnoM := rfl) (hS8 := Nat.le_of_ble_eq_true rfl) (ci := 13) (N := 3) (C := "java/util/ArrayList") (T := xF13) (hc := rfl) (hci := Nat.le_of_ble_eq_true rfl) (htb := t2_) (hinst := w_461) (hsel := w_462) (hlen := Nat.le_of_ble_eq_true rfl) (hst := rfl) (hL0 := rfl)  (p_AL_isEmpty F c3_ ?_)
  show xwp G m_B_checkQuestion (d + 7) 7 [xR 0] [xI (b2i (decide (als h (xpl h 0 6) = 0)))] _ _ _
  refine xr_if_eq (pc := 7) (tgt := 18) (hI := d_B_checkQuestion_7) (ht := by decide) (fun q9 => ?_) (fun q9 => ?_)
  · replace hyp := hyp.2 (b2i_0.mp q9)
    have q4_ := b2i_0.mp q9
    clear q9
    refine xr_return (S := []) (pc := 18) (hI := d_B_checkQuestion_18) (hr := rfl) ?_
    show xwp G m_B_keyFound (d + 8) 4 [xR 0, xI x1] [] _ _ _
    refine xr_aload_n (pc := 4) (i := 0) (hI := d_B_keyFound_4) (hi := rfl) (hl := rfl) ?_
    refine xr_iload_n (pc := 5) (i := 1) (hI := d_B_keyFound_5) (hi := rfl) (hl := rfl) ?_
    refine xq_callV (pc := 6) (index := 259) (K := m_B_checkPlace) (As := [xI x1]) (S := []) (L0 := [xR 0, xI x1]) (hI := d_B_keyFound_6) (hK := k_B_checkPlace) (hlk := w_1271) (hnoM := rfl) (hS8 := Nat.le_of_ble_eq_true rfl) (ci := 0) (N := 7) (C := "BeaconIndex") (T := xF0) (hc := rfl) (hci := Nat.le_of_ble_eq_true rfl) (htb := (ft_0 F)) (hinst := w_1273) (hsel := sel_B_checkPlace) (hlen := Nat.le_of_ble_eq_true rfl) (hst := rfl) (hL0 := rfl)  ?_
    refine xr_iload_n (pc := 0) (i := 1) (hI := d_B_checkPlace_0) (hi := rfl) (hl := rfl) ?_
    refine xr_if_lt (pc := 1) (tgt := 15) (hI := d_B_checkPlace_1) (ht := by decide) (fun q9 => ?_) (fun q9 => ?_)
    · replace hyp := hyp.1 q9
      have q5_ := q9
      clear q9
      obtain ⟨c7, c8, hyp⟩ := hyp
      exact xr_throw (pc := 15) (k := 2) (ik := 204) (ic := 206) (names := ["java/lang/RuntimeException", "java/lang/Exception"]) (by decide +kernel) (by decide +kernel) (by decide) w_1101 w_32 thr_B_206.1 thr_B_206.2 d_B_checkPlace_15 d_B_checkPlace_18 d_B_checkPlace_19 d_B_checkPlace_22 rfl (Nat.le_of_ble_eq_true rfl) (Nat.le_add_left_of_le (by decide)) (Nat.le_of_ble_eq_true rfl) c7 c8 (hyp (xFix.mk F))
    · replace hyp := hyp.2 q9
      have q5_ := q9
      clear q9
      refine xr_iload_n (pc := 4) (i := 1) (hI := d_B_checkPlace_4) (hi := rfl) (hl := rfl) ?_
      refine xr_aload_n (pc := 5) (i := 0) (hI := d_B_checkPlace_5) (hi := rfl) (hl := rfl) ?_
      refine xg_getf (pc := 6) (ci := 0) (k := 4) (N := 7) (v9 := 2) (v := 40) (T := xF0) (hI := d_B_checkPlace_6) (hw := w_434) rfl xi0 (Or.inl rfl) (Nat.le_of_ble_eq_true rfl) (Nat.le_of_ble_eq_true rfl) rfl (ft_0 F) (fp_0_4 F) (fun f6_ => ?_)
      clear f6_
      refine xg_getf (pc := 9) (ci := 1) (k := 5) (N := 6) (v9 := 0) (v := (xpl h 40 5)) (T := xF1) (hI := d_B_checkPlace_9) (hw := w_413) rfl xi1 (Or.inl rfl) (Nat.le_of_ble_eq_true rfl) (Nat.le_of_ble_eq_true rfl) rfl (ft_40 F) rfl (fun f7_ => ?_)
      replace f7_ : -2147483648 ≤ (xpl h 40 5) ∧ (xpl h 40 5) ≤ 2147483647 := f7_
      refine xr_icmp_lt (pc := 12) (tgt := 23) (hI := d_B_checkPlace_12) (ht := by decide) (fun q9 => ?_) (fun q9 => ?_)
      · replace hyp := hyp.1 q9
        have q8_ := q9
        clear q9
        refine xr_return (S := []) (pc := 23) (hI := d_B_checkPlace_23) (hr := rfl) ?_
        show xwp G m_B_keyFound (d + 8) 9 [xR 0, xI x1] [] _ _ _
        refine xr_aload_n (pc := 9) (i := 0) (hI := d_B_keyFound_9) (hi := rfl) (hl := rfl) ?_
        refine xg_getf (pc := 10) (ci := 0) (k := 1) (N := 7) (v9 := 2) (v := 5) (T := xF0) (hI := d_B_keyFound_10) (hw := w_431) rfl xi0 (Or.inl rfl) (Nat.le_of_ble_eq_true rfl) (Nat.le_of_ble_eq_true rfl) rfl (ft_0 F) (fp_0_1 F) (fun f9_ => ?_)
        clear f9_
        refine xr_aload_n (pc := 13) (i := 0) (hI := d_B_keyFound_13) (hi := rfl) (hl := rfl) ?_
        refine xg_getf (pc := 14) (ci := 0) (k := 4) (N := 7) (v9 := 2) (v := 40) (T := xF0) (hI := d_B_keyFound_14) (hw := w_434) rfl xi0 (Or.inl rfl) (Nat.le_of_ble_eq_true rfl) (Nat.le_of_ble_eq_true rfl) rfl (ft_0 F) (fp_0_4 F) (fun f10_ => ?_)
        clear f10_
        refine xr_iload_n (pc := 17) (i := 1) (hI := d_B_keyFound_17) (hi := rfl) (hl := rfl) ?_
        exact xq_callV (pc := 18) (index := 262) (K := m_Findings_textAt) (As := [xI x1]) (S := [xR 5]) (L0 := [xR 40, xI x1]) (hI := d_B_keyFound_18) (hK := k_Findings_textAt) (hlk := w_1275) (hnoM := rfl) (hS8 := Nat.le_of_ble_eq_true rfl) (ci := 1) (N := 6) (C := "BeaconIndex$Findings") (T := xF1) (hc := rfl) (hci := Nat.le_of_ble_eq_true rfl) (htb := (ft_40 F)) (hinst := w_1276) (hsel := w_1277) (hlen := Nat.le_of_ble_eq_true rfl) (hst := rfl) (hL0 := rfl)  (xwp_mono hyp (fun v9 h9 q9 => xr_drop (L9 := [xZ, xZ]) (xdrz (xdrz xdr0)) q9) (fun _ _ z9 => z9))
      · replace hyp := hyp.2 q9
        have q8_ := q9
        clear q9
        obtain ⟨c7, c8, hyp⟩ := hyp
        exact xr_throw (pc := 15) (k := 2) (ik := 204) (ic := 206) (names := ["java/lang/RuntimeException", "java/lang/Exception"]) (by decide +kernel) (by decide +kernel) (by decide) w_1101 w_32 thr_B_206.1 thr_B_206.2 d_B_checkPlace_15 d_B_checkPlace_18 d_B_checkPlace_19 d_B_checkPlace_22 rfl (Nat.le_of_ble_eq_true rfl) (Nat.le_add_left_of_le (by decide)) (Nat.le_of_ble_eq_true rfl) c7 c8 (hyp (xFix.mk F))
  · replace hyp := hyp.1 (b2i_1.mp q9)
    have q4_ := b2i_1.mp q9
    clear q9
    obtain ⟨c7, c8, hyp⟩ := hyp
    exact xr_throw (pc := 10) (k := 1) (ik := 59) (ic := 61) (names := ["java/lang/RuntimeException", "java/lang/Exception"]) (by decide +kernel) (by decide +kernel) (by decide) w_1242 w_20 thr_B_61.1 thr_B_61.2 d_B_checkQuestion_10 d_B_checkQuestion_13 d_B_checkQuestion_14 d_B_checkQuestion_17 rfl (Nat.le_of_ble_eq_true rfl) (Nat.le_add_left_of_le (by decide)) (Nat.le_of_ble_eq_true rfl) c7 c8 (hyp (xFix.mk F))
theorem d_B_keyFound_21 : decode prog_1_method_30_code 21 = .ok (.invokevirtual 154, 3) := by decide +kernel
theorem d_B_keyFound_24 : decode prog_1_method_30_code 24 = .ok (.getfield 174, 3) := by decide +kernel
theorem d_B_keyFound_27 : decode prog_1_method_30_code 27 = .ok (.ireturn, 1) := by decide +kernel
theorem v_B_keyFound_21 {G : XG} {d : Nat} {h : XH} {Q : XV → XH → Prop} {X : Nat → XH → Prop} {s0 : Int} (F : xFix h) (hyp : stok h ∧ (Q (xI (xpl h (fat h s0) 0)) h)) : xwp G m_B_keyFound (d + 8) 21 [xZ, xZ] [xI s0, xR 5] h Q X := by
  have hnx9 : (93 : Int) ≤ xnx h := F.2.2
  refine xr_okS (fun hs9 => ?_)
  have r_s0 : -2147483648 ≤ s0 ∧ s0 ≤ 2147483647 := hs9 (xI s0) (.head _)
  obtain ⟨c1_, hyp⟩ := hyp
  refine xq_callV (pc := 21) (index := 154) (K := m_Store_filedAt) (As := [xI s0]) (S := []) (L0 := [xR 5, xI s0]) (hI := d_B_keyFound_21) (hK := k_Store_filedAt) (hlk := w_882) (hnoM := rfl) (hS8 := Nat.le_of_ble_eq_true rfl) (ci := 7) (N := 6) (C := "BeaconIndex$Store") (T := xF7) (hc := rfl) (hci := Nat.le_of_ble_eq_true rfl) (htb := (ft_5 F)) (hinst := w_578) (hsel := w_579) (hlen := Nat.le_of_ble_eq_true rfl) (hst := rfl) (hL0 := rfl)  (p_Store_filedAt F c1_ ?_)
  show xwp G m_B_keyFound (d + 8) 24 [xZ, xZ] [xR (fat h s0)] _ _ _
  have t2_ : xtg h (fat h s0) = 9 := (fat_ok F c1_ _).1
  refine xg_getf (pc := 24) (ci := 9) (k := 0) (N := 6) (v9 := 0) (v := (xpl h (fat h s0) 0)) (T := xF9) (hI := d_B_keyFound_24) (hw := w_122) rfl xi9 (Or.inl rfl) (Nat.le_of_ble_eq_true rfl) (Nat.le_of_ble_eq_true rfl) rfl t2_ rfl (fun f3_ => ?_)
  replace f3_ : -2147483648 ≤ (xpl h (fat h s0) 0) ∧ (xpl h (fat h s0) 0) ≤ 2147483647 := f3_
  refine xr_ireturn (S := []) (pc := 27) (hI := d_B_keyFound_27) (hr := rfl) ?_
  exact hyp
abbrev m_B_weightFound : XM := (⟨"BeaconIndex", "weightFound", "(I)I"⟩, prog_1_method_31_code, 2, (some .int), [])
theorem d_B_weightFound_0 : decode prog_1_method_31_code 0 = .ok (.aload_n 0, 1) := by decide +kernel
theorem d_B_weightFound_1 : decode prog_1_method_31_code 1 = .ok (.invokevirtual 244, 3) := by decide +kernel
theorem d_B_weightFound_4 : decode prog_1_method_31_code 4 = .ok (.aload_n 0, 1) := by decide +kernel
theorem d_B_weightFound_5 : decode prog_1_method_31_code 5 = .ok (.iload_n 1, 1) := by decide +kernel
theorem d_B_weightFound_6 : decode prog_1_method_31_code 6 = .ok (.invokevirtual 259, 3) := by decide +kernel
theorem d_B_weightFound_9 : decode prog_1_method_31_code 9 = .ok (.aload_n 0, 1) := by decide +kernel
theorem d_B_weightFound_10 : decode prog_1_method_31_code 10 = .ok (.getfield 40, 3) := by decide +kernel
theorem d_B_weightFound_13 : decode prog_1_method_31_code 13 = .ok (.iload_n 1, 1) := by decide +kernel
theorem d_B_weightFound_14 : decode prog_1_method_31_code 14 = .ok (.invokevirtual 265, 3) := by decide +kernel
theorem k_Findings_weightAt : xCal m_Findings_weightAt 1 := ⟨List.mem_append_right _ (List.mem_of_getElem? (i := 1286) (by decide +kernel)), w_12, Nat.le_of_ble_eq_true rfl, ⟨by decide +kernel, by decide +kernel⟩, by decide +kernel, by decide +kernel, rfl⟩
theorem w_1283 : Cond.methodLink "BeaconIndex" 265 ⟨"BeaconIndex$Findings", "weightAt", "(I)I"⟩ ∈ lw_tbl := List.mem_append_right _ (List.mem_of_getElem? (i := 1283) (by decide +kernel))
theorem w_1284 : Cond.instanceMethod ⟨"BeaconIndex$Findings", "weightAt", "(I)I"⟩ ∈ lw_tbl := List.mem_append_right _ (List.mem_of_getElem? (i := 1284) (by decide +kernel))
theorem w_1285 : Cond.selects "BeaconIndex$Findings" ⟨"BeaconIndex$Findings", "weightAt", "(I)I"⟩ ⟨"BeaconIndex$Findings", "weightAt", "(I)I"⟩ ∈ lw_tbl := List.mem_append_right _ (List.mem_of_getElem? (i := 1285) (by decide +kernel))
theorem v_B_weightFound_0 {G : XG} {d : Nat} {h : XH} {Q : XV → XH → Prop} {X : Nat → XH → Prop} {x1 : Int} (F : xFix h) (hyp : xtg h (xpl h 0 6) = 13 ∧ alok h (xpl h 0 6) ∧ ((((decide (als h (xpl h 0 6) = 0)) = true) → xnx h + 1 ≤ xKC ∧ xsl h + 6 ≤ xKS ∧ (xFix (xmk h 300 6 (fun _ => 0)) → X 1 (xmk h 300 6 (fun _ => 0)))) ∧ (¬ ((decide (als h (xpl h 0 6) = 0)) = true) → ((x1 < 0 → xnx h + 1 ≤ xKC ∧ xsl h + 6 ≤ xKS ∧ (xFix (xmk h 300 6 (fun _ => 0)) → X 2 (xmk h 300 6 (fun _ => 0)))) ∧ (¬ x1 < 0 → ((x1 < (xpl h 40 5) → (xwp G m_Findings_weightAt (d + 7) 0 [xR 40, xI x1, xZ] [] h (fun v9 h9 => xwp G m_B_weightFound (d + 8) 17 [xZ, xZ] (xpush v9 []) h9 Q X) X)) ∧ (¬ x1 < (xpl h 40 5) → xnx h + 1 ≤ xKC ∧ xsl h + 6 ≤ xKS ∧ (xFix (xmk h 300 6 (fun _ => 0)) → X 2 (xmk h 300 6 (fun _ => 0)))))))))) : xwp G m_B_weightFound (d + 8) 0 [xR 0, xI x1] [] h Q X := by
  have hnx9 : (93 : Int) ≤ xnx h := F.2.2
  refine xr_okL (fun hl9 => ?_)
  have r_x1 : -2147483648 ≤ x1 ∧ x1 ≤ 2147483647 := hl9 (xI x1) (.tail _ (.head _)) (Nat.le_of_ble_eq_true rfl)
  refine xr_aload_n (pc := 0) (i := 0) (hI := d_B_weightFound_0) (hi := rfl) (hl := rfl) ?_
  refine xq_callV (pc := 1) (index := 244) (K := m_B_checkQuestion) (As := []) (S := []) (L0 := [xR 0]) (hI := d_B_weightFound_1) (hK := k_B_checkQuestion) (hlk := w_1238) (hnoM := rfl) (hS8 := Nat.le_of_ble_eq_true rfl) (ci := 0) (N := 7) (C := "BeaconIndex") (T := xF0) (hc := rfl) (hci := Nat.le_of_ble_eq_true rfl) (htb := (ft_0 F)) (hinst := w_1240) (hsel := sel_B_checkQuestion) (hlen := Nat.le_of_ble_eq_true rfl) (hst := rfl) (hL0 := rfl)  ?_
  refine xr_aload_n (pc := 0) (i := 0) (hI := d_B_checkQuestion_0) (hi := rfl) (hl := rfl) ?_
  refine xg_getf (pc := 1) (ci := 0) (k := 6) (N := 7) (v9 := 2) (v := (xpl h 0 6)) (T := xF0) (hI := d_B_checkQuestion_1) (hw := w_436) rfl xi0 (Or.inl rfl) (Nat.le_of_ble_eq_true rfl) (Nat.le_of_ble_eq_true rfl) rfl (ft_0 F) rfl (fun f1_ => ?_)
  clear f1_
  obtain ⟨c9, hyp⟩ := hyp
  have t2_ := c9
  clear c9
  obtain ⟨c3_, hyp⟩ := hyp
  refine xq_callV (pc := 4) (index := 315) (K := m_ArrayList_isEmpty) (As := []) (S := []) (L0 := [xR (xpl h 0 6)]) (hI := d_B_checkQuestion_4) (hK := k_ArrayList_isEmpty) (hlk := w_1229) (hnoM := rfl) (hS8 := Nat.le_of_ble_eq_true rfl) (ci := 13) (N := 3) (C := "java/util/ArrayList") (T := xF13) (hc := rfl) (hci := Nat.le_of_ble_eq_true rfl) (htb := t2_) (hinst := w_461) (hsel := w_462) (hlen := Nat.le_of_ble_eq_true rfl) (hst := rfl) (hL0 := rfl)  (p_AL_isEmpty F c3_ ?_)
  show xwp G m_B_checkQuestion (d + 7) 7 [xR 0] [xI (b2i (decide (als h (xpl h 0 6) = 0)))] _ _ _
  refine xr_if_eq (pc := 7) (tgt := 18) (hI := d_B_checkQuestion_7) (ht := by decide) (fun q9 => ?_) (fun q9 => ?_)
  · replace hyp := hyp.2 (b2i_0.mp q9)
    have q4_ := b2i_0.mp q9
    clear q9
    refine xr_return (S := []) (pc := 18) (hI := d_B_checkQuestion_18) (hr := rfl) ?_
    show xwp G m_B_weightFound (d + 8) 4 [xR 0, xI x1] [] _ _ _
    refine xr_aload_n (pc := 4) (i := 0) (hI := d_B_weightFound_4) (hi := rfl) (hl := rfl) ?_
    refine xr_iload_n (pc := 5) (i := 1) (hI := d_B_weightFound_5) (hi := rfl) (hl := rfl) ?_
    refine xq_callV (pc := 6) (index := 259) (K := m_B_checkPlace) (As := [xI x1]) (S := []) (L0 := [xR 0, xI x1]) (hI := d_B_weightFound_6) (hK := k_B_checkPlace) (hlk := w_1271) (hnoM := rfl) (hS8 := Nat.le_of_ble_eq_true rfl) (ci := 0) (N := 7) (C := "BeaconIndex") (T := xF0) (hc := rfl) (hci := Nat.le_of_ble_eq_true rfl) (htb := (ft_0 F)) (hinst := w_1273) (hsel := sel_B_checkPlace) (hlen := Nat.le_of_ble_eq_true rfl) (hst := rfl) (hL0 := rfl)  ?_
    refine xr_iload_n (pc := 0) (i := 1) (hI := d_B_checkPlace_0) (hi := rfl) (hl := rfl) ?_
    refine xr_if_lt (pc := 1) (tgt := 15) (hI := d_B_checkPlace_1) (ht := by decide) (fun q9 => ?_) (fun q9 => ?_)
    · replace hyp := hyp.1 q9
      have q5_ := q9
      clear q9
      obtain ⟨c7, c8, hyp⟩ := hyp
      exact xr_throw (pc := 15) (k := 2) (ik := 204) (ic := 206) (names := ["java/lang/RuntimeException", "java/lang/Exception"]) (by decide +kernel) (by decide +kernel) (by decide) w_1101 w_32 thr_B_206.1 thr_B_206.2 d_B_checkPlace_15 d_B_checkPlace_18 d_B_checkPlace_19 d_B_checkPlace_22 rfl (Nat.le_of_ble_eq_true rfl) (Nat.le_add_left_of_le (by decide)) (Nat.le_of_ble_eq_true rfl) c7 c8 (hyp (xFix.mk F))
    · replace hyp := hyp.2 q9
      have q5_ := q9
      clear q9
      refine xr_iload_n (pc := 4) (i := 1) (hI := d_B_checkPlace_4) (hi := rfl) (hl := rfl) ?_
      refine xr_aload_n (pc := 5) (i := 0) (hI := d_B_checkPlace_5) (hi := rfl) (hl := rfl) ?_
      refine xg_getf (pc := 6) (ci := 0) (k := 4) (N := 7) (v9 := 2) (v := 40) (T := xF0) (hI := d_B_checkPlace_6) (hw := w_434) rfl xi0 (Or.inl rfl) (Nat.le_of_ble_eq_true rfl) (Nat.le_of_ble_eq_true rfl) rfl (ft_0 F) (fp_0_4 F) (fun f6_ => ?_)
      clear f6_
      refine xg_getf (pc := 9) (ci := 1) (k := 5) (N := 6) (v9 := 0) (v := (xpl h 40 5)) (T := xF1) (hI := d_B_checkPlace_9) (hw := w_413) rfl xi1 (Or.inl rfl) (Nat.le_of_ble_eq_true rfl) (Nat.le_of_ble_eq_true rfl) rfl (ft_40 F) rfl (fun f7_ => ?_)
      replace f7_ : -2147483648 ≤ (xpl h 40 5) ∧ (xpl h 40 5) ≤ 2147483647 := f7_
      refine xr_icmp_lt (pc := 12) (tgt := 23) (hI := d_B_checkPlace_12) (ht := by decide) (fun q9 => ?_) (fun q9 => ?_)
      · replace hyp := hyp.1 q9
        have q8_ := q9
        clear q9
        refine xr_return (S := []) (pc := 23) (hI := d_B_checkPlace_23) (hr := rfl) ?_
        show xwp G m_B_weightFound (d + 8) 9 [xR 0, xI x1] [] _ _ _
        refine xr_aload_n (pc := 9) (i := 0) (hI := d_B_weightFound_9) (hi := rfl) (hl := rfl) ?_
        refine xg_getf (pc := 10) (ci := 0) (k := 4) (N := 7) (v9 := 2) (v := 40) (T := xF0) (hI := d_B_weightFound_10) (hw := w_434) rfl xi0 (Or.inl rfl) (Nat.le_of_ble_eq_true rfl) (Nat.le_of_ble_eq_true rfl) rfl (ft_0 F) (fp_0_4 F) (fun f9_ => ?_)
        clear f9_
        refine xr_iload_n (pc := 13) (i := 1) (hI := d_B_weightFound_13) (hi := rfl) (hl := rfl) ?_
        exact xq_callV (pc := 14) (index := 265) (K := m_Findings_weightAt) (As := [xI x1]) (S := []) (L0 := [xR 40, xI x1, xZ]) (hI := d_B_weightFound_14) (hK := k_Findings_weightAt) (hlk := w_1283) (hnoM := rfl) (hS8 := Nat.le_of_ble_eq_true rfl) (ci := 1) (N := 6) (C := "BeaconIndex$Findings") (T := xF1) (hc := rfl) (hci := Nat.le_of_ble_eq_true rfl) (htb := (ft_40 F)) (hinst := w_1284) (hsel := w_1285) (hlen := Nat.le_of_ble_eq_true rfl) (hst := rfl) (hL0 := rfl)  (xwp_mono hyp (fun v9 h9 q9 => xr_drop (L9 := [xZ, xZ]) (xdrz (xdrz xdr0)) q9) (fun _ _ z9 => z9))
      · replace hyp := hyp.2 q9
        have q8_ := q9
        clear q9
        obtain ⟨c7, c8, hyp⟩ := hyp
        exact xr_throw (pc := 15) (k := 2) (ik := 204) (ic := 206) (names := ["java/lang/RuntimeException", "java/lang/Exception"]) (by decide +kernel) (by decide +kernel) (by decide) w_1101 w_32 thr_B_206.1 thr_B_206.2 d_B_checkPlace_15 d_B_checkPlace_18 d_B_checkPlace_19 d_B_checkPlace_22 rfl (Nat.le_of_ble_eq_true rfl) (Nat.le_add_left_of_le (by decide)) (Nat.le_of_ble_eq_true rfl) c7 c8 (hyp (xFix.mk F))
  · replace hyp := hyp.1 (b2i_1.mp q9)
    have q4_ := b2i_1.mp q9
    clear q9
    obtain ⟨c7, c8, hyp⟩ := hyp
    exact xr_throw (pc := 10) (k := 1) (ik := 59) (ic := 61) (names := ["java/lang/RuntimeException", "java/lang/Exception"]) (by decide +kernel) (by decide +kernel) (by decide) w_1242 w_20 thr_B_61.1 thr_B_61.2 d_B_checkQuestion_10 d_B_checkQuestion_13 d_B_checkQuestion_14 d_B_checkQuestion_17 rfl (Nat.le_of_ble_eq_true rfl) (Nat.le_add_left_of_le (by decide)) (Nat.le_of_ble_eq_true rfl) c7 c8 (hyp (xFix.mk F))
theorem d_B_weightFound_17 : decode prog_1_method_31_code 17 = .ok (.ireturn, 1) := by decide +kernel
theorem v_B_weightFound_17 {G : XG} {d : Nat} {h : XH} {Q : XV → XH → Prop} {X : Nat → XH → Prop} {s0 : Int} (F : xFix h) (hyp : (Q (xI s0) h)) : xwp G m_B_weightFound (d + 8) 17 [xZ, xZ] [xI s0] h Q X := by
  have hnx9 : (93 : Int) ≤ xnx h := F.2.2
  refine xr_okS (fun hs9 => ?_)
  have r_s0 : -2147483648 ≤ s0 ∧ s0 ≤ 2147483647 := hs9 (xI s0) (.head _)
  refine xr_ireturn (S := []) (pc := 17) (hI := d_B_weightFound_17) (hr := rfl) ?_
  exact hyp
abbrev m_B_foundOn : XM := (⟨"BeaconIndex", "foundOn", "(I)I"⟩, prog_1_method_32_code, 4, (some .int), [])
theorem d_B_foundOn_0 : decode prog_1_method_32_code 0 = .ok (.aload_n 0, 1) := by decide +kernel
theorem d_B_foundOn_1 : decode prog_1_method_32_code 1 = .ok (.invokevirtual 244, 3) := by decide +kernel
theorem d_B_foundOn_4 : decode prog_1_method_32_code 4 = .ok (.iload_n 1, 1) := by decide +kernel
theorem d_B_foundOn_5 : decode prog_1_method_32_code 5 = .ok (.ifCond .lt 9, 3) := by decide +kernel
theorem d_B_foundOn_14 : decode prog_1_method_32_code 14 = .ok (.new 204, 3) := by decide +kernel
theorem d_B_foundOn_17 : decode prog_1_method_32_code 17 = .ok (.dup, 1) := by decide +kernel
theorem d_B_foundOn_18 : decode prog_1_method_32_code 18 = .ok (.invokespecial 206, 3) := by decide +kernel
theorem d_B_foundOn_21 : decode prog_1_method_32_code 21 = .ok (.athrow, 1) := by decide +kernel
theorem d_B_foundOn_8 : decode prog_1_method_32_code 8 = .ok (.iload_n 1, 1) := by decide +kernel
theorem d_B_foundOn_9 : decode prog_1_method_32_code 9 = .ok (.bipush 8, 2) := by decide +kernel
theorem d_B_foundOn_11 : decode prog_1_method_32_code 11 = .ok (.if_icmp .lt 11, 3) := by decide +kernel
theorem d_B_foundOn_22 : decode prog_1_method_32_code 22 = .ok (.iconst 0, 1) := by decide +kernel
theorem d_B_foundOn_23 : decode prog_1_method_32_code 23 = .ok (.istore_n 2, 1) := by decide +kernel
theorem d_B_foundOn_24 : decode prog_1_method_32_code 24 = .ok (.iconst 0, 1) := by decide +kernel
theorem d_B_foundOn_25 : decode prog_1_method_32_code 25 = .ok (.istore_n 3, 1) := by decide +kernel
theorem v_B_foundOn_0 {G : XG} {d : Nat} {h : XH} {Q : XV → XH → Prop} {X : Nat → XH → Prop} {x1 : Int} (F : xFix h) (hyp : xtg h (xpl h 0 6) = 13 ∧ alok h (xpl h 0 6) ∧ ((((decide (als h (xpl h 0 6) = 0)) = true) → xnx h + 1 ≤ xKC ∧ xsl h + 6 ≤ xKS ∧ (xFix (xmk h 300 6 (fun _ => 0)) → X 1 (xmk h 300 6 (fun _ => 0)))) ∧ (¬ ((decide (als h (xpl h 0 6) = 0)) = true) → ((x1 < 0 → xnx h + 1 ≤ xKC ∧ xsl h + 6 ≤ xKS ∧ (xFix (xmk h 300 6 (fun _ => 0)) → X 2 (xmk h 300 6 (fun _ => 0)))) ∧ (¬ x1 < 0 → ((x1 < 8 → (xwp G m_B_foundOn (d + 8) 26 [xR 0, xI x1, xI 0, xI 0] [] h Q X)) ∧ (¬ x1 < 8 → xnx h + 1 ≤ xKC ∧ xsl h + 6 ≤ xKS ∧ (xFix (xmk h 300 6 (fun _ => 0)) → X 2 (xmk h 300 6 (fun _ => 0)))))))))) : xwp G m_B_foundOn (d + 8) 0 [xR 0, xI x1, xZ, xZ] [] h Q X := by
  have hnx9 : (93 : Int) ≤ xnx h := F.2.2
  refine xr_okL (fun hl9 => ?_)
  have r_x1 : -2147483648 ≤ x1 ∧ x1 ≤ 2147483647 := hl9 (xI x1) (.tail _ (.head _)) (Nat.le_of_ble_eq_true rfl)
  refine xr_aload_n (pc := 0) (i := 0) (hI := d_B_foundOn_0) (hi := rfl) (hl := rfl) ?_
  refine xq_callV (pc := 1) (index := 244) (K := m_B_checkQuestion) (As := []) (S := []) (L0 := [xR 0]) (hI := d_B_foundOn_1) (hK := k_B_checkQuestion) (hlk := w_1238) (hnoM := rfl) (hS8 := Nat.le_of_ble_eq_true rfl) (ci := 0) (N := 7) (C := "BeaconIndex") (T := xF0) (hc := rfl) (hci := Nat.le_of_ble_eq_true rfl) (htb := (ft_0 F)) (hinst := w_1240) (hsel := sel_B_checkQuestion) (hlen := Nat.le_of_ble_eq_true rfl) (hst := rfl) (hL0 := rfl)  ?_
  refine xr_aload_n (pc := 0) (i := 0) (hI := d_B_checkQuestion_0) (hi := rfl) (hl := rfl) ?_
  refine xg_getf (pc := 1) (ci := 0) (k := 6) (N := 7) (v9 := 2) (v := (xpl h 0 6)) (T := xF0) (hI := d_B_checkQuestion_1) (hw := w_436) rfl xi0 (Or.inl rfl) (Nat.le_of_ble_eq_true rfl) (Nat.le_of_ble_eq_true rfl) rfl (ft_0 F) rfl (fun f1_ => ?_)
  clear f1_
  obtain ⟨c9, hyp⟩ := hyp
  have t2_ := c9
  clear c9
  obtain ⟨c3_, hyp⟩ := hyp
  refine xq_callV (pc := 4) (index := 315) (K := m_ArrayList_isEmpty) (As := []) (S := []) (L0 := [xR (xpl h 0 6)]) (hI := d_B_checkQuestion_4) (hK := k_ArrayList_isEmpty) (hlk := w_1229) (hnoM := rfl) (hS8 := Nat.le_of_ble_eq_true rfl) (ci := 13) (N := 3) (C := "java/util/ArrayList") (T := xF13) (hc := rfl) (hci := Nat.le_of_ble_eq_true rfl) (htb := t2_) (hinst := w_461) (hsel := w_462) (hlen := Nat.le_of_ble_eq_true rfl) (hst := rfl) (hL0 := rfl)  (p_AL_isEmpty F c3_ ?_)
  show xwp G m_B_checkQuestion (d + 7) 7 [xR 0] [xI (b2i (decide (als h (xpl h 0 6) = 0)))] _ _ _
  refine xr_if_eq (pc := 7) (tgt := 18) (hI := d_B_checkQuestion_7) (ht := by decide) (fun q9 => ?_) (fun q9 => ?_)
  · replace hyp := hyp.2 (b2i_0.mp q9)
    have q4_ := b2i_0.mp q9
    clear q9
    refine xr_return (S := []) (pc := 18) (hI := d_B_checkQuestion_18) (hr := rfl) ?_
    show xwp G m_B_foundOn (d + 8) 4 [xR 0, xI x1, xZ, xZ] [] _ _ _
    refine xr_iload_n (pc := 4) (i := 1) (hI := d_B_foundOn_4) (hi := rfl) (hl := rfl) ?_
    refine xr_if_lt (pc := 5) (tgt := 14) (hI := d_B_foundOn_5) (ht := by decide) (fun q9 => ?_) (fun q9 => ?_)
    · replace hyp := hyp.1 q9
      have q5_ := q9
      clear q9
      obtain ⟨c7, c8, hyp⟩ := hyp
      exact xr_throw (pc := 14) (k := 2) (ik := 204) (ic := 206) (names := ["java/lang/RuntimeException", "java/lang/Exception"]) (by decide +kernel) (by decide +kernel) (by decide) w_1101 w_32 thr_B_206.1 thr_B_206.2 d_B_foundOn_14 d_B_foundOn_17 d_B_foundOn_18 d_B_foundOn_21 rfl (Nat.le_of_ble_eq_true rfl) (Nat.le_add_left_of_le (by decide)) (Nat.le_of_ble_eq_true rfl) c7 c8 (hyp (xFix.mk F))
    · replace hyp := hyp.2 q9
      have q5_ := q9
      clear q9
      refine xr_iload_n (pc := 8) (i := 1) (hI := d_B_foundOn_8) (hi := rfl) (hl := rfl) ?_
      refine xr_bipush (pc := 9) (hI := d_B_foundOn_9) (hr := by decide) (hv := by decide) ?_
      refine xr_icmp_lt (pc := 11) (tgt := 22) (hI := d_B_foundOn_11) (ht := by decide) (fun q9 => ?_) (fun q9 => ?_)
      · replace hyp := hyp.1 q9
        have q6_ := q9
        clear q9
        refine xr_iconst (pc := 22) (hI := d_B_foundOn_22) (hr := by decide) ?_
        refine xr_istore_n (pc := 23) (i := 2) (L9 := [xR 0, xI x1, xI 0, xZ]) (hI := d_B_foundOn_23) (hi := rfl) (hn := Nat.le_of_ble_eq_true rfl) (hL9 := rfl) ?_
        refine xr_iconst (pc := 24) (hI := d_B_foundOn_24) (hr := by decide) ?_
        refine xr_istore_n (pc := 25) (i := 3) (L9 := [xR 0, xI x1, xI 0, xI 0]) (hI := d_B_foundOn_25) (hi := rfl) (hn := Nat.le_of_ble_eq_true rfl) (hL9 := rfl) ?_
        exact hyp
      · replace hyp := hyp.2 q9
        have q6_ := q9
        clear q9
        obtain ⟨c7, c8, hyp⟩ := hyp
        exact xr_throw (pc := 14) (k := 2) (ik := 204) (ic := 206) (names := ["java/lang/RuntimeException", "java/lang/Exception"]) (by decide +kernel) (by decide +kernel) (by decide) w_1101 w_32 thr_B_206.1 thr_B_206.2 d_B_foundOn_14 d_B_foundOn_17 d_B_foundOn_18 d_B_foundOn_21 rfl (Nat.le_of_ble_eq_true rfl) (Nat.le_add_left_of_le (by decide)) (Nat.le_of_ble_eq_true rfl) c7 c8 (hyp (xFix.mk F))
  · replace hyp := hyp.1 (b2i_1.mp q9)
    have q4_ := b2i_1.mp q9
    clear q9
    obtain ⟨c7, c8, hyp⟩ := hyp
    exact xr_throw (pc := 10) (k := 1) (ik := 59) (ic := 61) (names := ["java/lang/RuntimeException", "java/lang/Exception"]) (by decide +kernel) (by decide +kernel) (by decide) w_1242 w_20 thr_B_61.1 thr_B_61.2 d_B_checkQuestion_10 d_B_checkQuestion_13 d_B_checkQuestion_14 d_B_checkQuestion_17 rfl (Nat.le_of_ble_eq_true rfl) (Nat.le_add_left_of_le (by decide)) (Nat.le_of_ble_eq_true rfl) c7 c8 (hyp (xFix.mk F))
theorem d_B_foundOn_26 : decode prog_1_method_32_code 26 = .ok (.iload_n 3, 1) := by decide +kernel
theorem d_B_foundOn_27 : decode prog_1_method_32_code 27 = .ok (.aload_n 0, 1) := by decide +kernel
theorem d_B_foundOn_28 : decode prog_1_method_32_code 28 = .ok (.getfield 40, 3) := by decide +kernel
theorem d_B_foundOn_31 : decode prog_1_method_32_code 31 = .ok (.getfield 256, 3) := by decide +kernel
theorem d_B_foundOn_34 : decode prog_1_method_32_code 34 = .ok (.if_icmp .ge 34, 3) := by decide +kernel
theorem d_B_foundOn_68 : decode prog_1_method_32_code 68 = .ok (.iload_n 2, 1) := by decide +kernel
theorem d_B_foundOn_69 : decode prog_1_method_32_code 69 = .ok (.ireturn, 1) := by decide +kernel
theorem d_B_foundOn_37 : decode prog_1_method_32_code 37 = .ok (.aload_n 0, 1) := by decide +kernel
theorem d_B_foundOn_38 : decode prog_1_method_32_code 38 = .ok (.getfield 19, 3) := by decide +kernel
theorem d_B_foundOn_41 : decode prog_1_method_32_code 41 = .ok (.aload_n 0, 1) := by decide +kernel
theorem d_B_foundOn_42 : decode prog_1_method_32_code 42 = .ok (.getfield 40, 3) := by decide +kernel
theorem d_B_foundOn_45 : decode prog_1_method_32_code 45 = .ok (.iload_n 3, 1) := by decide +kernel
theorem d_B_foundOn_46 : decode prog_1_method_32_code 46 = .ok (.invokevirtual 262, 3) := by decide +kernel
theorem v_B_foundOn_26 {G : XG} {d : Nat} {h : XH} {Q : XV → XH → Prop} {X : Nat → XH → Prop} {x1 x2 x3 : Int} (F : xFix h) (hyp : (((xpl h 40 5) ≤ x3 → (Q (xI x2) h)) ∧ (¬ (xpl h 40 5) ≤ x3 → (xwp G m_Findings_textAt (d + 7) 0 [xR 40, xI x3] [] h (fun v9 h9 => xwp G m_B_foundOn (d + 8) 49 [xR 0, xI x1, xI x2, xI x3] (xpush v9 [xR 5]) h9 Q X) X)))) : xwp G m_B_foundOn (d + 8) 26 [xR 0, xI x1, xI x2, xI x3] [] h Q X := by
  have hnx9 : (93 : Int) ≤ xnx h := F.2.2
  refine xr_okL (fun hl9 => ?_)
  have r_x1 : -2147483648 ≤ x1 ∧ x1 ≤ 2147483647 := hl9 (xI x1) (.tail _ (.head _)) (Nat.le_of_ble_eq_true rfl)
  have r_x2 : -2147483648 ≤ x2 ∧ x2 ≤ 2147483647 := hl9 (xI x2) (.tail _ (.tail _ (.head _))) (Nat.le_of_ble_eq_true rfl)
  have r_x3 : -2147483648 ≤ x3 ∧ x3 ≤ 2147483647 := hl9 (xI x3) (.tail _ (.tail _ (.tail _ (.head _)))) (Nat.le_of_ble_eq_true rfl)
  refine xr_iload_n (pc := 26) (i := 3) (hI := d_B_foundOn_26) (hi := rfl) (hl := rfl) ?_
  refine xr_aload_n (pc := 27) (i := 0) (hI := d_B_foundOn_27) (hi := rfl) (hl := rfl) ?_
  refine xg_getf (pc := 28) (ci := 0) (k := 4) (N := 7) (v9 := 2) (v := 40) (T := xF0) (hI := d_B_foundOn_28) (hw := w_434) rfl xi0 (Or.inl rfl) (Nat.le_of_ble_eq_true rfl) (Nat.le_of_ble_eq_true rfl) rfl (ft_0 F) (fp_0_4 F) (fun f1_ => ?_)
  clear f1_
  refine xg_getf (pc := 31) (ci := 1) (k := 5) (N := 6) (v9 := 0) (v := (xpl h 40 5)) (T := xF1) (hI := d_B_foundOn_31) (hw := w_413) rfl xi1 (Or.inl rfl) (Nat.le_of_ble_eq_true rfl) (Nat.le_of_ble_eq_true rfl) rfl (ft_40 F) rfl (fun f2_ => ?_)
  replace f2_ : -2147483648 ≤ (xpl h 40 5) ∧ (xpl h 40 5) ≤ 2147483647 := f2_
  refine xr_icmp_ge (pc := 34) (tgt := 68) (hI := d_B_foundOn_34) (ht := by decide) (fun q9 => ?_) (fun q9 => ?_)
  · replace hyp := hyp.1 q9
    have q3_ := q9
    clear q9
    refine xr_iload_n (pc := 68) (i := 2) (hI := d_B_foundOn_68) (hi := rfl) (hl := rfl) ?_
    refine xr_ireturn (S := []) (pc := 69) (hI := d_B_foundOn_69) (hr := rfl) ?_
    exact hyp
  · replace hyp := hyp.2 q9
    have q3_ := q9
    clear q9
    refine xr_aload_n (pc := 37) (i := 0) (hI := d_B_foundOn_37) (hi := rfl) (hl := rfl) ?_
    refine xg_getf (pc := 38) (ci := 0) (k := 1) (N := 7) (v9 := 2) (v := 5) (T := xF0) (hI := d_B_foundOn_38) (hw := w_431) rfl xi0 (Or.inl rfl) (Nat.le_of_ble_eq_true rfl) (Nat.le_of_ble_eq_true rfl) rfl (ft_0 F) (fp_0_1 F) (fun f4_ => ?_)
    clear f4_
    refine xr_aload_n (pc := 41) (i := 0) (hI := d_B_foundOn_41) (hi := rfl) (hl := rfl) ?_
    refine xg_getf (pc := 42) (ci := 0) (k := 4) (N := 7) (v9 := 2) (v := 40) (T := xF0) (hI := d_B_foundOn_42) (hw := w_434) rfl xi0 (Or.inl rfl) (Nat.le_of_ble_eq_true rfl) (Nat.le_of_ble_eq_true rfl) rfl (ft_0 F) (fp_0_4 F) (fun f5_ => ?_)
    clear f5_
    refine xr_iload_n (pc := 45) (i := 3) (hI := d_B_foundOn_45) (hi := rfl) (hl := rfl) ?_
    exact xq_callV (pc := 46) (index := 262) (K := m_Findings_textAt) (As := [xI x3]) (S := [xR 5]) (L0 := [xR 40, xI x3]) (hI := d_B_foundOn_46) (hK := k_Findings_textAt) (hlk := w_1275) (hnoM := rfl) (hS8 := Nat.le_of_ble_eq_true rfl) (ci := 1) (N := 6) (C := "BeaconIndex$Findings") (T := xF1) (hc := rfl) (hci := Nat.le_of_ble_eq_true rfl) (htb := (ft_40 F)) (hinst := w_1276) (hsel := w_1277) (hlen := Nat.le_of_ble_eq_true rfl) (hst := rfl) (hL0 := rfl)  hyp
theorem d_B_foundOn_49 : decode prog_1_method_32_code 49 = .ok (.invokevirtual 154, 3) := by decide +kernel
theorem d_B_foundOn_52 : decode prog_1_method_32_code 52 = .ok (.getfield 188, 3) := by decide +kernel
theorem d_B_foundOn_55 : decode prog_1_method_32_code 55 = .ok (.iload_n 1, 1) := by decide +kernel
theorem d_B_foundOn_56 : decode prog_1_method_32_code 56 = .ok (.if_icmp .ne 6, 3) := by decide +kernel
theorem d_B_foundOn_62 : decode prog_1_method_32_code 62 = .ok (.iinc 3 1, 3) := by decide +kernel
theorem d_B_foundOn_65 : decode prog_1_method_32_code 65 = .ok (.goto (-39), 3) := by decide +kernel
theorem d_B_foundOn_59 : decode prog_1_method_32_code 59 = .ok (.iinc 2 1, 3) := by decide +kernel
theorem v_B_foundOn_49 {G : XG} {d : Nat} {h : XH} {Q : XV → XH → Prop} {X : Nat → XH → Prop} {x1 x2 x3 s0 : Int} (F : xFix h) (hyp : stok h ∧ (((xpl h (fat h s0) 1) = x1 → xiR (x2 + 1) ∧ xiR (x3 + 1) ∧ (xwp G m_B_foundOn (d + 8) 26 [xR 0, xI x1, xI (x2 + 1), xI (x3 + 1)] [] h Q X)) ∧ (¬ (xpl h (fat h s0) 1) = x1 → xiR (x3 + 1) ∧ (xwp G m_B_foundOn (d + 8) 26 [xR 0, xI x1, xI x2, xI (x3 + 1)] [] h Q X)))) : xwp G m_B_foundOn (d + 8) 49 [xR 0, xI x1, xI x2, xI x3] [xI s0, xR 5] h Q X := by
  have hnx9 : (93 : Int) ≤ xnx h := F.2.2
  refine xr_okL (fun hl9 => ?_)
  have r_x1 : -2147483648 ≤ x1 ∧ x1 ≤ 2147483647 := hl9 (xI x1) (.tail _ (.head _)) (Nat.le_of_ble_eq_true rfl)
  have r_x2 : -2147483648 ≤ x2 ∧ x2 ≤ 2147483647 := hl9 (xI x2) (.tail _ (.tail _ (.head _))) (Nat.le_of_ble_eq_true rfl)
  have r_x3 : -2147483648 ≤ x3 ∧ x3 ≤ 2147483647 := hl9 (xI x3) (.tail _ (.tail _ (.tail _ (.head _)))) (Nat.le_of_ble_eq_true rfl)
  refine xr_okS (fun hs9 => ?_)
  have r_s0 : -2147483648 ≤ s0 ∧ s0 ≤ 2147483647 := hs9 (xI s0) (.head _)
  obtain ⟨c1_, hyp⟩ := hyp
  refine xq_callV (pc := 49) (index := 154) (K := m_Store_filedAt) (As := [xI s0]) (S := []) (L0 := [xR 5, xI s0]) (hI := d_B_foundOn_49) (hK := k_Store_filedAt) (hlk := w_882) (hnoM := rfl) (hS8 := Nat.le_of_ble_eq_true rfl) (ci := 7) (N := 6) (C := "BeaconIndex$Store") (T := xF7) (hc := rfl) (hci := Nat.le_of_ble_eq_true rfl) (htb := (ft_5 F)) (hinst := w_578) (hsel := w_579) (hlen := Nat.le_of_ble_eq_true rfl) (hst := rfl) (hL0 := rfl)  (p_Store_filedAt F c1_ ?_)
  show xwp G m_B_foundOn (d + 8) 52 [xR 0, xI x1, xI x2, xI x3] [xR (fat h s0)] _ _ _
  have t2_ : xtg h (fat h s0) = 9 := (fat_ok F c1_ _).1
  refine xg_getf (pc := 52) (ci := 9) (k := 1) (N := 6) (v9 := 0) (v := (xpl h (fat h s0) 1)) (T := xF9) (hI := d_B_foundOn_52) (hw := w_124) rfl xi9 (Or.inl rfl) (Nat.le_of_ble_eq_true rfl) (Nat.le_of_ble_eq_true rfl) rfl t2_ rfl (fun f3_ => ?_)
  replace f3_ : -2147483648 ≤ (xpl h (fat h s0) 1) ∧ (xpl h (fat h s0) 1) ≤ 2147483647 := f3_
  refine xr_iload_n (pc := 55) (i := 1) (hI := d_B_foundOn_55) (hi := rfl) (hl := rfl) ?_
  refine xr_icmp_ne (pc := 56) (tgt := 62) (hI := d_B_foundOn_56) (ht := by decide) (fun q9 => ?_) (fun q9 => ?_)
  · replace hyp := hyp.2 q9
    have q4_ := q9
    clear q9
    obtain ⟨c9, hyp⟩ := hyp
    refine xr_iinc (pc := 62) (i := 3) (L9 := [xR 0, xI x1, xI x2, xI (x3 + 1)]) (hI := d_B_foundOn_62) (hl := rfl) (hn := Nat.le_of_ble_eq_true rfl) (hr := c9) (hL9 := rfl) ?_
    refine xr_goto (pc := 65) (tgt := 26) (hI := d_B_foundOn_65) (ht := by decide) ?_
    exact hyp
  · replace hyp := hyp.1 q9
    have q4_ := q9
    clear q9
    obtain ⟨c9, hyp⟩ := hyp
    refine xr_iinc (pc := 59) (i := 2) (L9 := [xR 0, xI x1, xI (x2 + 1), xI x3]) (hI := d_B_foundOn_59) (hl := rfl) (hn := Nat.le_of_ble_eq_true rfl) (hr := c9) (hL9 := rfl) ?_
    obtain ⟨c9, hyp⟩ := hyp
    refine xr_iinc (pc := 62) (i := 3) (L9 := [xR 0, xI x1, xI (x2 + 1), xI (x3 + 1)]) (hI := d_B_foundOn_62) (hl := rfl) (hn := Nat.le_of_ble_eq_true rfl) (hr := c9) (hL9 := rfl) ?_
    refine xr_goto (pc := 65) (tgt := 26) (hI := d_B_foundOn_65) (ht := by decide) ?_
    exact hyp
abbrev m_B_placeOf : XM := (⟨"BeaconIndex", "placeOf", "(I)I"⟩, prog_1_method_33_code, 3, (some .int), [])
theorem d_B_placeOf_0 : decode prog_1_method_33_code 0 = .ok (.aload_n 0, 1) := by decide +kernel
theorem d_B_placeOf_1 : decode prog_1_method_33_code 1 = .ok (.invokevirtual 244, 3) := by decide +kernel
theorem d_B_placeOf_4 : decode prog_1_method_33_code 4 = .ok (.iload_n 1, 1) := by decide +kernel
theorem d_B_placeOf_5 : decode prog_1_method_33_code 5 = .ok (.invokestatic 69, 3) := by decide +kernel
theorem d_B_placeOf_8 : decode prog_1_method_33_code 8 = .ok (.iconst 0, 1) := by decide +kernel
theorem d_B_placeOf_9 : decode prog_1_method_33_code 9 = .ok (.istore_n 2, 1) := by decide +kernel
theorem v_B_placeOf_0 {G : XG} {d : Nat} {h : XH} {Q : XV → XH → Prop} {X : Nat → XH → Prop} {x1 : Int} (F : xFix h) (hyp : xtg h (xpl h 0 6) = 13 ∧ alok h (xpl h 0 6) ∧ ((((decide (als h (xpl h 0 6) = 0)) = true) → xnx h + 1 ≤ xKC ∧ xsl h + 6 ≤ xKS ∧ (xFix (xmk h 300 6 (fun _ => 0)) → X 1 (xmk h 300 6 (fun _ => 0)))) ∧ (¬ ((decide (als h (xpl h 0 6) = 0)) = true) → ((x1 < 0 → xnx h + 1 ≤ xKC ∧ xsl h + 6 ≤ xKS ∧ (xFix (xmk h 300 6 (fun _ => 0)) → X 0 (xmk h 300 6 (fun _ => 0)))) ∧ (¬ x1 < 0 → ((x1 < 100 → (xwp G m_B_placeOf (d + 8) 10 [xR 0, xI x1, xI 0] [] h Q X)) ∧ (¬ x1 < 100 → xnx h + 1 ≤ xKC ∧ xsl h + 6 ≤ xKS ∧ (xFix (xmk h 300 6 (fun _ => 0)) → X 0 (xmk h 300 6 (fun _ => 0)))))))))) : xwp G m_B_placeOf (d + 8) 0 [xR 0, xI x1, xZ] [] h Q X := by
  have hnx9 : (93 : Int) ≤ xnx h := F.2.2
  refine xr_okL (fun hl9 => ?_)
  have r_x1 : -2147483648 ≤ x1 ∧ x1 ≤ 2147483647 := hl9 (xI x1) (.tail _ (.head _)) (Nat.le_of_ble_eq_true rfl)
  refine xr_aload_n (pc := 0) (i := 0) (hI := d_B_placeOf_0) (hi := rfl) (hl := rfl) ?_
  refine xq_callV (pc := 1) (index := 244) (K := m_B_checkQuestion) (As := []) (S := []) (L0 := [xR 0]) (hI := d_B_placeOf_1) (hK := k_B_checkQuestion) (hlk := w_1238) (hnoM := rfl) (hS8 := Nat.le_of_ble_eq_true rfl) (ci := 0) (N := 7) (C := "BeaconIndex") (T := xF0) (hc := rfl) (hci := Nat.le_of_ble_eq_true rfl) (htb := (ft_0 F)) (hinst := w_1240) (hsel := sel_B_checkQuestion) (hlen := Nat.le_of_ble_eq_true rfl) (hst := rfl) (hL0 := rfl)  ?_
  refine xr_aload_n (pc := 0) (i := 0) (hI := d_B_checkQuestion_0) (hi := rfl) (hl := rfl) ?_
  refine xg_getf (pc := 1) (ci := 0) (k := 6) (N := 7) (v9 := 2) (v := (xpl h 0 6)) (T := xF0) (hI := d_B_checkQuestion_1) (hw := w_436) rfl xi0 (Or.inl rfl) (Nat.le_of_ble_eq_true rfl) (Nat.le_of_ble_eq_true rfl) rfl (ft_0 F) rfl (fun f1_ => ?_)
  clear f1_
  obtain ⟨c9, hyp⟩ := hyp
  have t2_ := c9
  clear c9
  obtain ⟨c3_, hyp⟩ := hyp
  refine xq_callV (pc := 4) (index := 315) (K := m_ArrayList_isEmpty) (As := []) (S := []) (L0 := [xR (xpl h 0 6)]) (hI := d_B_checkQuestion_4) (hK := k_ArrayList_isEmpty) (hlk := w_1229) (hnoM := rfl) (hS8 := Nat.le_of_ble_eq_true rfl) (ci := 13) (N := 3) (C := "java/util/ArrayList") (T := xF13) (hc := rfl) (hci := Nat.le_of_ble_eq_true rfl) (htb := t2_) (hinst := w_461) (hsel := w_462) (hlen := Nat.le_of_ble_eq_true rfl) (hst := rfl) (hL0 := rfl)  (p_AL_isEmpty F c3_ ?_)
  show xwp G m_B_checkQuestion (d + 7) 7 [xR 0] [xI (b2i (decide (als h (xpl h 0 6) = 0)))] _ _ _
  refine xr_if_eq (pc := 7) (tgt := 18) (hI := d_B_checkQuestion_7) (ht := by decide) (fun q9 => ?_) (fun q9 => ?_)
  · replace hyp := hyp.2 (b2i_0.mp q9)
    have q4_ := b2i_0.mp q9
    clear q9
    refine xr_return (S := []) (pc := 18) (hI := d_B_checkQuestion_18) (hr := rfl) ?_
    show xwp G m_B_placeOf (d + 8) 4 [xR 0, xI x1, xZ] [] _ _ _
    refine xr_iload_n (pc := 4) (i := 1) (hI := d_B_placeOf_4) (hi := rfl) (hl := rfl) ?_
    refine xq_callS (pc := 5) (index := 69) (K := m_B_checkKey) (As := [xI x1]) (S := []) (L0 := [xI x1]) (hI := d_B_placeOf_5) (hK := k_B_checkKey) (hlk := w_1292) (hnoM := rfl) (hS8 := Nat.le_of_ble_eq_true rfl) (hstat := w_1293) (hlen := Nat.le_of_ble_eq_true rfl) (hst := rfl) (hL0 := rfl)  ?_
    refine xr_iload_n (pc := 0) (i := 0) (hI := d_B_checkKey_0) (hi := rfl) (hl := rfl) ?_
    refine xr_if_lt (pc := 1) (tgt := 10) (hI := d_B_checkKey_1) (ht := by decide) (fun q9 => ?_) (fun q9 => ?_)
    · replace hyp := hyp.1 q9
      have q5_ := q9
      clear q9
      obtain ⟨c7, c8, hyp⟩ := hyp
      exact xr_throw (pc := 10) (k := 0) (ik := 66) (ic := 68) (names := ["java/lang/RuntimeException", "java/lang/Exception"]) (by decide +kernel) (by decide +kernel) (by decide) w_1295 w_21 thr_B_68.1 thr_B_68.2 d_B_checkKey_10 d_B_checkKey_13 d_B_checkKey_14 d_B_checkKey_17 rfl (Nat.le_of_ble_eq_true rfl) (Nat.le_add_left_of_le (by decide)) (Nat.le_of_ble_eq_true rfl) c7 c8 (hyp (xFix.mk F))
    · replace hyp := hyp.2 q9
      have q5_ := q9
      clear q9
      refine xr_iload_n (pc := 4) (i := 0) (hI := d_B_checkKey_4) (hi := rfl) (hl := rfl) ?_
      refine xr_bipush (pc := 5) (hI := d_B_checkKey_5) (hr := by decide) (hv := by decide) ?_
      refine xr_icmp_lt (pc := 7) (tgt := 18) (hI := d_B_checkKey_7) (ht := by decide) (fun q9 => ?_) (fun q9 => ?_)
      · replace hyp := hyp.1 q9
        have q6_ := q9
        clear q9
        refine xr_return (S := []) (pc := 18) (hI := d_B_checkKey_18) (hr := rfl) ?_
        show xwp G m_B_placeOf (d + 8) 8 [xR 0, xI x1, xZ] [] _ _ _
        refine xr_iconst (pc := 8) (hI := d_B_placeOf_8) (hr := by decide) ?_
        refine xr_istore_n (pc := 9) (i := 2) (L9 := [xR 0, xI x1, xI 0]) (hI := d_B_placeOf_9) (hi := rfl) (hn := Nat.le_of_ble_eq_true rfl) (hL9 := rfl) ?_
        exact hyp
      · replace hyp := hyp.2 q9
        have q6_ := q9
        clear q9
        obtain ⟨c7, c8, hyp⟩ := hyp
        exact xr_throw (pc := 10) (k := 0) (ik := 66) (ic := 68) (names := ["java/lang/RuntimeException", "java/lang/Exception"]) (by decide +kernel) (by decide +kernel) (by decide) w_1295 w_21 thr_B_68.1 thr_B_68.2 d_B_checkKey_10 d_B_checkKey_13 d_B_checkKey_14 d_B_checkKey_17 rfl (Nat.le_of_ble_eq_true rfl) (Nat.le_add_left_of_le (by decide)) (Nat.le_of_ble_eq_true rfl) c7 c8 (hyp (xFix.mk F))
  · replace hyp := hyp.1 (b2i_1.mp q9)
    have q4_ := b2i_1.mp q9
    clear q9
    obtain ⟨c7, c8, hyp⟩ := hyp
    exact xr_throw (pc := 10) (k := 1) (ik := 59) (ic := 61) (names := ["java/lang/RuntimeException", "java/lang/Exception"]) (by decide +kernel) (by decide +kernel) (by decide) w_1242 w_20 thr_B_61.1 thr_B_61.2 d_B_checkQuestion_10 d_B_checkQuestion_13 d_B_checkQuestion_14 d_B_checkQuestion_17 rfl (Nat.le_of_ble_eq_true rfl) (Nat.le_add_left_of_le (by decide)) (Nat.le_of_ble_eq_true rfl) c7 c8 (hyp (xFix.mk F))
theorem d_B_placeOf_10 : decode prog_1_method_33_code 10 = .ok (.iload_n 2, 1) := by decide +kernel
theorem d_B_placeOf_11 : decode prog_1_method_33_code 11 = .ok (.aload_n 0, 1) := by decide +kernel
theorem d_B_placeOf_12 : decode prog_1_method_33_code 12 = .ok (.getfield 40, 3) := by decide +kernel
theorem d_B_placeOf_15 : decode prog_1_method_33_code 15 = .ok (.getfield 256, 3) := by decide +kernel
theorem d_B_placeOf_18 : decode prog_1_method_33_code 18 = .ok (.if_icmp .ge 33, 3) := by decide +kernel
theorem d_B_placeOf_51 : decode prog_1_method_33_code 51 = .ok (.iconst (-1), 1) := by decide +kernel
theorem d_B_placeOf_52 : decode prog_1_method_33_code 52 = .ok (.ireturn, 1) := by decide +kernel
theorem d_B_placeOf_21 : decode prog_1_method_33_code 21 = .ok (.aload_n 0, 1) := by decide +kernel
theorem d_B_placeOf_22 : decode prog_1_method_33_code 22 = .ok (.getfield 19, 3) := by decide +kernel
theorem d_B_placeOf_25 : decode prog_1_method_33_code 25 = .ok (.aload_n 0, 1) := by decide +kernel
theorem d_B_placeOf_26 : decode prog_1_method_33_code 26 = .ok (.getfield 40, 3) := by decide +kernel
theorem d_B_placeOf_29 : decode prog_1_method_33_code 29 = .ok (.iload_n 2, 1) := by decide +kernel
theorem d_B_placeOf_30 : decode prog_1_method_33_code 30 = .ok (.invokevirtual 262, 3) := by decide +kernel
theorem v_B_placeOf_10 {G : XG} {d : Nat} {h : XH} {Q : XV → XH → Prop} {X : Nat → XH → Prop} {x1 x2 : Int} (F : xFix h) (hyp : (((xpl h 40 5) ≤ x2 → (Q (xI (-1)) h)) ∧ (¬ (xpl h 40 5) ≤ x2 → (xwp G m_Findings_textAt (d + 7) 0 [xR 40, xI x2] [] h (fun v9 h9 => xwp G m_B_placeOf (d + 8) 33 [xR 0, xI x1, xI x2] (xpush v9 [xR 5]) h9 Q X) X)))) : xwp G m_B_placeOf (d + 8) 10 [xR 0, xI x1, xI x2] [] h Q X := by
  have hnx9 : (93 : Int) ≤ xnx h := F.2.2
  refine xr_okL (fun hl9 => ?_)
  have r_x1 : -2147483648 ≤ x1 ∧ x1 ≤ 2147483647 := hl9 (xI x1) (.tail _ (.head _)) (Nat.le_of_ble_eq_true rfl)
  have r_x2 : -2147483648 ≤ x2 ∧ x2 ≤ 2147483647 := hl9 (xI x2) (.tail _ (.tail _ (.head _))) (Nat.le_of_ble_eq_true rfl)
  refine xr_iload_n (pc := 10) (i := 2) (hI := d_B_placeOf_10) (hi := rfl) (hl := rfl) ?_
  refine xr_aload_n (pc := 11) (i := 0) (hI := d_B_placeOf_11) (hi := rfl) (hl := rfl) ?_
  refine xg_getf (pc := 12) (ci := 0) (k := 4) (N := 7) (v9 := 2) (v := 40) (T := xF0) (hI := d_B_placeOf_12) (hw := w_434) rfl xi0 (Or.inl rfl) (Nat.le_of_ble_eq_true rfl) (Nat.le_of_ble_eq_true rfl) rfl (ft_0 F) (fp_0_4 F) (fun f1_ => ?_)
  clear f1_
  refine xg_getf (pc := 15) (ci := 1) (k := 5) (N := 6) (v9 := 0) (v := (xpl h 40 5)) (T := xF1) (hI := d_B_placeOf_15) (hw := w_413) rfl xi1 (Or.inl rfl) (Nat.le_of_ble_eq_true rfl) (Nat.le_of_ble_eq_true rfl) rfl (ft_40 F) rfl (fun f2_ => ?_)
  replace f2_ : -2147483648 ≤ (xpl h 40 5) ∧ (xpl h 40 5) ≤ 2147483647 := f2_
  refine xr_icmp_ge (pc := 18) (tgt := 51) (hI := d_B_placeOf_18) (ht := by decide) (fun q9 => ?_) (fun q9 => ?_)
  · replace hyp := hyp.1 q9
    have q3_ := q9
    clear q9
    refine xr_iconst (pc := 51) (hI := d_B_placeOf_51) (hr := by decide) ?_
    refine xr_ireturn (S := []) (pc := 52) (hI := d_B_placeOf_52) (hr := rfl) ?_
    exact hyp
  · replace hyp := hyp.2 q9
    have q3_ := q9
    clear q9
    refine xr_aload_n (pc := 21) (i := 0) (hI := d_B_placeOf_21) (hi := rfl) (hl := rfl) ?_
    refine xg_getf (pc := 22) (ci := 0) (k := 1) (N := 7) (v9 := 2) (v := 5) (T := xF0) (hI := d_B_placeOf_22) (hw := w_431) rfl xi0 (Or.inl rfl) (Nat.le_of_ble_eq_true rfl) (Nat.le_of_ble_eq_true rfl) rfl (ft_0 F) (fp_0_1 F) (fun f4_ => ?_)
    clear f4_
    refine xr_aload_n (pc := 25) (i := 0) (hI := d_B_placeOf_25) (hi := rfl) (hl := rfl) ?_
    refine xg_getf (pc := 26) (ci := 0) (k := 4) (N := 7) (v9 := 2) (v := 40) (T := xF0) (hI := d_B_placeOf_26) (hw := w_434) rfl xi0 (Or.inl rfl) (Nat.le_of_ble_eq_true rfl) (Nat.le_of_ble_eq_true rfl) rfl (ft_0 F) (fp_0_4 F) (fun f5_ => ?_)
    clear f5_
    refine xr_iload_n (pc := 29) (i := 2) (hI := d_B_placeOf_29) (hi := rfl) (hl := rfl) ?_
    exact xq_callV (pc := 30) (index := 262) (K := m_Findings_textAt) (As := [xI x2]) (S := [xR 5]) (L0 := [xR 40, xI x2]) (hI := d_B_placeOf_30) (hK := k_Findings_textAt) (hlk := w_1275) (hnoM := rfl) (hS8 := Nat.le_of_ble_eq_true rfl) (ci := 1) (N := 6) (C := "BeaconIndex$Findings") (T := xF1) (hc := rfl) (hci := Nat.le_of_ble_eq_true rfl) (htb := (ft_40 F)) (hinst := w_1276) (hsel := w_1277) (hlen := Nat.le_of_ble_eq_true rfl) (hst := rfl) (hL0 := rfl)  hyp
theorem d_B_placeOf_33 : decode prog_1_method_33_code 33 = .ok (.invokevirtual 154, 3) := by decide +kernel
theorem d_B_placeOf_36 : decode prog_1_method_33_code 36 = .ok (.getfield 174, 3) := by decide +kernel
theorem d_B_placeOf_39 : decode prog_1_method_33_code 39 = .ok (.iload_n 1, 1) := by decide +kernel
theorem d_B_placeOf_40 : decode prog_1_method_33_code 40 = .ok (.if_icmp .ne 5, 3) := by decide +kernel
theorem d_B_placeOf_45 : decode prog_1_method_33_code 45 = .ok (.iinc 2 1, 3) := by decide +kernel
theorem d_B_placeOf_48 : decode prog_1_method_33_code 48 = .ok (.goto (-38), 3) := by decide +kernel
theorem d_B_placeOf_43 : decode prog_1_method_33_code 43 = .ok (.iload_n 2, 1) := by decide +kernel
theorem d_B_placeOf_44 : decode prog_1_method_33_code 44 = .ok (.ireturn, 1) := by decide +kernel
theorem v_B_placeOf_33 {G : XG} {d : Nat} {h : XH} {Q : XV → XH → Prop} {X : Nat → XH → Prop} {x1 x2 s0 : Int} (F : xFix h) (hyp : stok h ∧ (((xpl h (fat h s0) 0) = x1 → (Q (xI x2) h)) ∧ (¬ (xpl h (fat h s0) 0) = x1 → xiR (x2 + 1) ∧ (xwp G m_B_placeOf (d + 8) 10 [xR 0, xI x1, xI (x2 + 1)] [] h Q X)))) : xwp G m_B_placeOf (d + 8) 33 [xR 0, xI x1, xI x2] [xI s0, xR 5] h Q X := by
  have hnx9 : (93 : Int) ≤ xnx h := F.2.2
  refine xr_okL (fun hl9 => ?_)
  have r_x1 : -2147483648 ≤ x1 ∧ x1 ≤ 2147483647 := hl9 (xI x1) (.tail _ (.head _)) (Nat.le_of_ble_eq_true rfl)
  have r_x2 : -2147483648 ≤ x2 ∧ x2 ≤ 2147483647 := hl9 (xI x2) (.tail _ (.tail _ (.head _))) (Nat.le_of_ble_eq_true rfl)
  refine xr_okS (fun hs9 => ?_)
  have r_s0 : -2147483648 ≤ s0 ∧ s0 ≤ 2147483647 := hs9 (xI s0) (.head _)
  obtain ⟨c1_, hyp⟩ := hyp
  refine xq_callV (pc := 33) (index := 154) (K := m_Store_filedAt) (As := [xI s0]) (S := []) (L0 := [xR 5, xI s0]) (hI := d_B_placeOf_33) (hK := k_Store_filedAt) (hlk := w_882) (hnoM := rfl) (hS8 := Nat.le_of_ble_eq_true rfl) (ci := 7) (N := 6) (C := "BeaconIndex$Store") (T := xF7) (hc := rfl) (hci := Nat.le_of_ble_eq_true rfl) (htb := (ft_5 F)) (hinst := w_578) (hsel := w_579) (hlen := Nat.le_of_ble_eq_true rfl) (hst := rfl) (hL0 := rfl)  (p_Store_filedAt F c1_ ?_)
  show xwp G m_B_placeOf (d + 8) 36 [xR 0, xI x1, xI x2] [xR (fat h s0)] _ _ _
  have t2_ : xtg h (fat h s0) = 9 := (fat_ok F c1_ _).1
  refine xg_getf (pc := 36) (ci := 9) (k := 0) (N := 6) (v9 := 0) (v := (xpl h (fat h s0) 0)) (T := xF9) (hI := d_B_placeOf_36) (hw := w_122) rfl xi9 (Or.inl rfl) (Nat.le_of_ble_eq_true rfl) (Nat.le_of_ble_eq_true rfl) rfl t2_ rfl (fun f3_ => ?_)
  replace f3_ : -2147483648 ≤ (xpl h (fat h s0) 0) ∧ (xpl h (fat h s0) 0) ≤ 2147483647 := f3_
  refine xr_iload_n (pc := 39) (i := 1) (hI := d_B_placeOf_39) (hi := rfl) (hl := rfl) ?_
  refine xr_icmp_ne (pc := 40) (tgt := 45) (hI := d_B_placeOf_40) (ht := by decide) (fun q9 => ?_) (fun q9 => ?_)
  · replace hyp := hyp.2 q9
    have q4_ := q9
    clear q9
    obtain ⟨c9, hyp⟩ := hyp
    refine xr_iinc (pc := 45) (i := 2) (L9 := [xR 0, xI x1, xI (x2 + 1)]) (hI := d_B_placeOf_45) (hl := rfl) (hn := Nat.le_of_ble_eq_true rfl) (hr := c9) (hL9 := rfl) ?_
    refine xr_goto (pc := 48) (tgt := 10) (hI := d_B_placeOf_48) (ht := by decide) ?_
    exact hyp
  · replace hyp := hyp.1 q9
    have q4_ := q9
    clear q9
    refine xr_iload_n (pc := 43) (i := 2) (hI := d_B_placeOf_43) (hi := rfl) (hl := rfl) ?_
    refine xr_ireturn (S := []) (pc := 44) (hI := d_B_placeOf_44) (hr := rfl) ?_
    exact hyp
abbrev m_B_partWeight : XM := (⟨"BeaconIndex", "partWeight", "(II)I"⟩, prog_1_method_34_code, 4, (some .int), [])
theorem d_B_partWeight_0 : decode prog_1_method_34_code 0 = .ok (.aload_n 0, 1) := by decide +kernel
theorem d_B_partWeight_1 : decode prog_1_method_34_code 1 = .ok (.invokevirtual 244, 3) := by decide +kernel
theorem d_B_partWeight_4 : decode prog_1_method_34_code 4 = .ok (.iload_n 1, 1) := by decide +kernel
theorem d_B_partWeight_5 : decode prog_1_method_34_code 5 = .ok (.invokestatic 69, 3) := by decide +kernel
theorem d_B_partWeight_8 : decode prog_1_method_34_code 8 = .ok (.aload_n 0, 1) := by decide +kernel
theorem d_B_partWeight_9 : decode prog_1_method_34_code 9 = .ok (.iload_n 2, 1) := by decide +kernel
theorem d_B_partWeight_10 : decode prog_1_method_34_code 10 = .ok (.invokevirtual 268, 3) := by decide +kernel
abbrev m_B_checkPart : XM := (⟨"BeaconIndex", "checkPart", "(I)V"⟩, prog_1_method_49_code, 2, none, [])
theorem k_B_checkPart : xCal m_B_checkPart 1 := ⟨List.mem_append_right _ (List.mem_of_getElem? (i := 1329) (by decide +kernel)), w_1, Nat.le_of_ble_eq_true rfl, ⟨by decide +kernel, by decide +kernel⟩, by decide +kernel, by decide +kernel, rfl⟩
theorem w_1326 : Cond.methodLink "BeaconIndex" 268 ⟨"BeaconIndex", "checkPart", "(I)V"⟩ ∈ lw_tbl := List.mem_append_right _ (List.mem_of_getElem? (i := 1326) (by decide +kernel))
theorem w_1328 : Cond.instanceMethod ⟨"BeaconIndex", "checkPart", "(I)V"⟩ ∈ lw_tbl := List.mem_append_right _ (List.mem_of_getElem? (i := 1328) (by decide +kernel))
theorem sel_B_checkPart : Cond.selects "BeaconIndex" ⟨"BeaconIndex", "checkPart", "(I)V"⟩ ⟨"BeaconIndex", "checkPart", "(I)V"⟩ ∈ lw_tbl := List.mem_append_left _ (by decide +kernel)
theorem d_B_checkPart_0 : decode prog_1_method_49_code 0 = .ok (.iload_n 1, 1) := by decide +kernel
theorem d_B_checkPart_1 : decode prog_1_method_49_code 1 = .ok (.ifCond .lt 17, 3) := by decide +kernel
theorem d_B_checkPart_18 : decode prog_1_method_49_code 18 = .ok (.new 204, 3) := by decide +kernel
theorem d_B_checkPart_21 : decode prog_1_method_49_code 21 = .ok (.dup, 1) := by decide +kernel
theorem d_B_checkPart_22 : decode prog_1_method_49_code 22 = .ok (.invokespecial 206, 3) := by decide +kernel
theorem d_B_checkPart_25 : decode prog_1_method_49_code 25 = .ok (.athrow, 1) := by decide +kernel
theorem d_B_checkPart_4 : decode prog_1_method_49_code 4 = .ok (.iload_n 1, 1) := by decide +kernel
theorem d_B_checkPart_5 : decode prog_1_method_49_code 5 = .ok (.aload_n 0, 1) := by decide +kernel
theorem d_B_checkPart_6 : decode prog_1_method_49_code 6 = .ok (.invokevirtual 247, 3) := by decide +kernel
theorem d_B_checkPart_9 : decode prog_1_method_49_code 9 = .ok (.getfield 251, 3) := by decide +kernel
theorem d_B_checkPart_12 : decode prog_1_method_49_code 12 = .ok (.invokevirtual 128, 3) := by decide +kernel
theorem d_B_checkPart_15 : decode prog_1_method_49_code 15 = .ok (.if_icmp .lt 11, 3) := by decide +kernel
theorem d_B_checkPart_26 : decode prog_1_method_49_code 26 = .ok (.return_, 1) := by decide +kernel
theorem d_B_partWeight_13 : decode prog_1_method_34_code 13 = .ok (.aload_n 0, 1) := by decide +kernel
theorem d_B_partWeight_14 : decode prog_1_method_34_code 14 = .ok (.getfield 19, 3) := by decide +kernel
theorem d_B_partWeight_17 : decode prog_1_method_34_code 17 = .ok (.iload_n 1, 1) := by decide +kernel
theorem d_B_partWeight_18 : decode prog_1_method_34_code 18 = .ok (.invokevirtual 113, 3) := by decide +kernel
theorem d_B_partWeight_21 : decode prog_1_method_34_code 21 = .ok (.istore_n 3, 1) := by decide +kernel
theorem d_B_partWeight_22 : decode prog_1_method_34_code 22 = .ok (.iload_n 3, 1) := by decide +kernel
theorem d_B_partWeight_23 : decode prog_1_method_34_code 23 = .ok (.iconst (-1), 1) := by decide +kernel
theorem d_B_partWeight_24 : decode prog_1_method_34_code 24 = .ok (.if_icmp .ne 7, 3) := by decide +kernel
theorem d_B_partWeight_31 : decode prog_1_method_34_code 31 = .ok (.aload_n 0, 1) := by decide +kernel
theorem d_B_partWeight_32 : decode prog_1_method_34_code 32 = .ok (.getfield 40, 3) := by decide +kernel
theorem d_B_partWeight_35 : decode prog_1_method_34_code 35 = .ok (.aload_n 0, 1) := by decide +kernel
theorem d_B_partWeight_36 : decode prog_1_method_34_code 36 = .ok (.invokevirtual 247, 3) := by decide +kernel
theorem d_B_partWeight_39 : decode prog_1_method_34_code 39 = .ok (.getfield 251, 3) := by decide +kernel
theorem d_B_partWeight_42 : decode prog_1_method_34_code 42 = .ok (.iload_n 2, 1) := by decide +kernel
theorem d_B_partWeight_43 : decode prog_1_method_34_code 43 = .ok (.invokevirtual 184, 3) := by decide +kernel
theorem d_B_partWeight_46 : decode prog_1_method_34_code 46 = .ok (.checkcast 271, 3) := by decide +kernel
theorem w_1504 : Cond.classLink "BeaconIndex" 271 "BeaconIndex$Part" ∈ lw_tbl := List.mem_append_right _ (List.mem_of_getElem? (i := 1504) (by decide +kernel))
theorem d_B_partWeight_49 : decode prog_1_method_34_code 49 = .ok (.iload_n 3, 1) := by decide +kernel
theorem d_B_partWeight_50 : decode prog_1_method_34_code 50 = .ok (.invokevirtual 273, 3) := by decide +kernel
theorem k_Findings_weightOfPart : xCal m_Findings_weightOfPart 2 := ⟨List.mem_append_right _ (List.mem_of_getElem? (i := 1508) (by decide +kernel)), w_12, Nat.le_of_ble_eq_true rfl, ⟨by decide +kernel, by decide +kernel⟩, by decide +kernel, by decide +kernel, rfl⟩
theorem w_1505 : Cond.methodLink "BeaconIndex" 273 ⟨"BeaconIndex$Findings", "weightOfPart", "(LBeaconIndex$Part;I)I"⟩ ∈ lw_tbl := List.mem_append_right _ (List.mem_of_getElem? (i := 1505) (by decide +kernel))
theorem w_1506 : Cond.instanceMethod ⟨"BeaconIndex$Findings", "weightOfPart", "(LBeaconIndex$Part;I)I"⟩ ∈ lw_tbl := List.mem_append_right _ (List.mem_of_getElem? (i := 1506) (by decide +kernel))
theorem w_1507 : Cond.selects "BeaconIndex$Findings" ⟨"BeaconIndex$Findings", "weightOfPart", "(LBeaconIndex$Part;I)I"⟩ ⟨"BeaconIndex$Findings", "weightOfPart", "(LBeaconIndex$Part;I)I"⟩ ∈ lw_tbl := List.mem_append_right _ (List.mem_of_getElem? (i := 1507) (by decide +kernel))
theorem d_B_partWeight_27 : decode prog_1_method_34_code 27 = .ok (.iconst 0, 1) := by decide +kernel
theorem d_B_partWeight_28 : decode prog_1_method_34_code 28 = .ok (.goto 25, 3) := by decide +kernel
theorem v_B_partWeight_0 {G : XG} {d : Nat} {h : XH} {Q : XV → XH → Prop} {X : Nat → XH → Prop} {x1 x2 : Int} (F : xFix h) (hyp : xtg h (xpl h 0 6) = 13 ∧ alok h (xpl h 0 6) ∧ ((((decide (als h (xpl h 0 6) = 0)) = true) → xnx h + 1 ≤ xKC ∧ xsl h + 6 ≤ xKS ∧ (xFix (xmk h 300 6 (fun _ => 0)) → X 1 (xmk h 300 6 (fun _ => 0)))) ∧ (¬ ((decide (als h (xpl h 0 6) = 0)) = true) → ((x1 < 0 → xnx h + 1 ≤ xKC ∧ xsl h + 6 ≤ xKS ∧ (xFix (xmk h 300 6 (fun _ => 0)) → X 0 (xmk h 300 6 (fun _ => 0)))) ∧ (¬ x1 < 0 → ((x1 < 100 → ((x2 < 0 → xnx h + 1 ≤ xKC ∧ xsl h + 6 ≤ xKS ∧ (xFix (xmk h 300 6 (fun _ => 0)) → X 2 (xmk h 300 6 (fun _ => 0)))) ∧ (¬ x2 < 0 → ((((decide (als h (xpl h 0 6) = 0)) = true) → alok h 38 ∧ ((x2 < (als h 38) → stok h ∧ (((sidx (filL h) x1) = (-1) → (xwp G m_B_partWeight (d + 8) 53 [xZ, xZ, xZ, xZ] [xI 0] h Q X)) ∧ (¬ (sidx (filL h) x1) = (-1) → ((((decide (als h (xpl h 0 6) = 0)) = true) → xtg h (alg h 38 x2) = 4 ∧ (xwp G m_Findings_weightOfPart (d + 7) 0 [xR 40, xR (alg h 38 x2), xI (sidx (filL h) x1)] [] h (fun v9 h9 => xwp G m_B_partWeight (d + 8) 53 [xZ, xZ, xZ, xZ] (xpush v9 []) h9 Q X) X)) ∧ (¬ ((decide (als h (xpl h 0 6) = 0)) = true) → (0 : Int) < als h (xpl h 0 6) ∧ xtg h (alg h (xpl h 0 6) 0) = 5 ∧ xtg h (xpl h (alg h (xpl h 0 6) 0) 0) = 13 ∧ alok h (xpl h (alg h (xpl h 0 6) 0) 0) ∧ x2 < als h (xpl h (alg h (xpl h 0 6) 0) 0) ∧ xtg h (alg h (xpl h (alg h (xpl h 0 6) 0) 0) x2) = 4 ∧ (xwp G m_Findings_weightOfPart (d + 7) 0 [xR 40, xR (alg h (xpl h (alg h (xpl h 0 6) 0) 0) x2), xI (sidx (filL h) x1)] [] h (fun v9 h9 => xwp G m_B_partWeight (d + 8) 53 [xZ, xZ, xZ, xZ] (xpush v9 []) h9 Q X) X)))))) ∧ (¬ x2 < (als h 38) → xnx h + 1 ≤ xKC ∧ xsl h + 6 ≤ xKS ∧ (xFix (xmk h 300 6 (fun _ => 0)) → X 2 (xmk h 300 6 (fun _ => 0)))))) ∧ (¬ ((decide (als h (xpl h 0 6) = 0)) = true) → (0 : Int) < als h (xpl h 0 6) ∧ xtg h (alg h (xpl h 0 6) 0) = 5 ∧ xtg h (xpl h (alg h (xpl h 0 6) 0) 0) = 13 ∧ alok h (xpl h (alg h (xpl h 0 6) 0) 0) ∧ ((x2 < (als h (xpl h (alg h (xpl h 0 6) 0) 0)) → stok h ∧ (((sidx (filL h) x1) = (-1) → (xwp G m_B_partWeight (d + 8) 53 [xZ, xZ, xZ, xZ] [xI 0] h Q X)) ∧ (¬ (sidx (filL h) x1) = (-1) → ((((decide (als h (xpl h 0 6) = 0)) = true) → alok h 38 ∧ x2 < als h 38 ∧ xtg h (alg h 38 x2) = 4 ∧ (xwp G m_Findings_weightOfPart (d + 7) 0 [xR 40, xR (alg h 38 x2), xI (sidx (filL h) x1)] [] h (fun v9 h9 => xwp G m_B_partWeight (d + 8) 53 [xZ, xZ, xZ, xZ] (xpush v9 []) h9 Q X) X)) ∧ (¬ ((decide (als h (xpl h 0 6) = 0)) = true) → (0 : Int) < als h (xpl h 0 6) ∧ xtg h (alg h (xpl h (alg h (xpl h 0 6) 0) 0) x2) = 4 ∧ (xwp G m_Findings_weightOfPart (d + 7) 0 [xR 40, xR (alg h (xpl h (alg h (xpl h 0 6) 0) 0) x2), xI (sidx (filL h) x1)] [] h (fun v9 h9 => xwp G m_B_partWeight (d + 8) 53 [xZ, xZ, xZ, xZ] (xpush v9 []) h9 Q X) X)))))) ∧ (¬ x2 < (als h (xpl h (alg h (xpl h 0 6) 0) 0)) → xnx h + 1 ≤ xKC ∧ xsl h + 6 ≤ xKS ∧ (xFix (xmk h 300 6 (fun _ => 0)) → X 2 (xmk h 300 6 (fun _ => 0)))))))))) ∧ (¬ x1 < 100 → xnx h + 1 ≤ xKC ∧ xsl h + 6 ≤ xKS ∧ (xFix (xmk h 300 6 (fun _ => 0)) → X 0 (xmk h 300 6 (fun _ => 0)))))))))) : xwp G m_B_partWeight (d + 8) 0 [xR 0, xI x1, xI x2, xZ] [] h Q X := by
  have hnx9 : (93 : Int) ≤ xnx h := F.2.2
  refine xr_okL (fun hl9 => ?_)
  have r_x1 : -2147483648 ≤ x1 ∧ x1 ≤ 2147483647 := hl9 (xI x1) (.tail _ (.head _)) (Nat.le_of_ble_eq_true rfl)
  have r_x2 : -2147483648 ≤ x2 ∧ x2 ≤ 2147483647 := hl9 (xI x2) (.tail _ (.tail _ (.head _))) (Nat.le_of_ble_eq_true rfl)
  refine xr_aload_n (pc := 0) (i := 0) (hI := d_B_partWeight_0) (hi := rfl) (hl := rfl) ?_
  refine xq_callV (pc := 1) (index := 244) (K := m_B_checkQuestion) (As := []) (S := []) (L0 := [xR 0]) (hI := d_B_partWeight_1) (hK := k_B_checkQuestion) (hlk := w_1238) (hnoM := rfl) (hS8 := Nat.le_of_ble_eq_true rfl) (ci := 0) (N := 7) (C := "BeaconIndex") (T := xF0) (hc := rfl) (hci := Nat.le_of_ble_eq_true rfl) (htb := (ft_0 F)) (hinst := w_1240) (hsel := sel_B_checkQuestion) (hlen := Nat.le_of_ble_eq_true rfl) (hst := rfl) (hL0 := rfl)  ?_
  refine xr_aload_n (pc := 0) (i := 0) (hI := d_B_checkQuestion_0) (hi := rfl) (hl := rfl) ?_
  refine xg_getf (pc := 1) (ci := 0) (k := 6) (N := 7) (v9 := 2) (v := (xpl h 0 6)) (T := xF0) (hI := d_B_checkQuestion_1) (hw := w_436) rfl xi0 (Or.inl rfl) (Nat.le_of_ble_eq_true rfl) (Nat.le_of_ble_eq_true rfl) rfl (ft_0 F) rfl (fun f1_ => ?_)
  clear f1_
  obtain ⟨c9, hyp⟩ := hyp
  have t2_ := c9
  clear c9
  obtain ⟨c3_, hyp⟩ := hyp
  refine xq_callV (pc := 4) (index := 315) (K := m_ArrayList_isEmpty) (As := []) (S := []) (L0 := [xR (xpl h 0 6)]) (hI := d_B_checkQuestion_4) (hK := k_ArrayList_isEmpty) (hlk := w_1229) (hnoM := rfl) (hS8 := Nat.le_of_ble_eq_true rfl) (ci := 13) (N := 3) (C := "java/util/ArrayList") (T := xF13) (hc := rfl) (hci := Nat.le_of_ble_eq_true rfl) (htb := t2_) (hinst := w_461) (hsel := w_462) (hlen := Nat.le_of_ble_eq_true rfl) (hst := rfl) (hL0 := rfl)  (p_AL_isEmpty F c3_ ?_)
  show xwp G m_B_checkQuestion (d + 7) 7 [xR 0] [xI (b2i (decide (als h (xpl h 0 6) = 0)))] _ _ _
  refine xr_if_eq (pc := 7) (tgt := 18) (hI := d_B_checkQuestion_7) (ht := by decide) (fun q9 => ?_) (fun q9 => ?_)
  · replace hyp := hyp.2 (b2i_0.mp q9)
    have q4_ := b2i_0.mp q9
    clear q9
    refine xr_return (S := []) (pc := 18) (hI := d_B_checkQuestion_18) (hr := rfl) ?_
    show xwp G m_B_partWeight (d + 8) 4 [xR 0, xI x1, xI x2, xZ] [] _ _ _
    refine xr_iload_n (pc := 4) (i := 1) (hI := d_B_partWeight_4) (hi := rfl) (hl := rfl) ?_
    refine xq_callS (pc := 5) (index := 69) (K := m_B_checkKey) (As := [xI x1]) (S := []) (L0 := [xI x1]) (hI := d_B_partWeight_5) (hK := k_B_checkKey) (hlk := w_1292) (hnoM := rfl) (hS8 := Nat.le_of_ble_eq_true rfl) (hstat := w_1293) (hlen := Nat.le_of_ble_eq_true rfl) (hst := rfl) (hL0 := rfl)  ?_
    refine xr_iload_n (pc := 0) (i := 0) (hI := d_B_checkKey_0) (hi := rfl) (hl := rfl) ?_
    refine xr_if_lt (pc := 1) (tgt := 10) (hI := d_B_checkKey_1) (ht := by decide) (fun q9 => ?_) (fun q9 => ?_)
    · replace hyp := hyp.1 q9
      have q5_ := q9
      clear q9
      obtain ⟨c7, c8, hyp⟩ := hyp
      exact xr_throw (pc := 10) (k := 0) (ik := 66) (ic := 68) (names := ["java/lang/RuntimeException", "java/lang/Exception"]) (by decide +kernel) (by decide +kernel) (by decide) w_1295 w_21 thr_B_68.1 thr_B_68.2 d_B_checkKey_10 d_B_checkKey_13 d_B_checkKey_14 d_B_checkKey_17 rfl (Nat.le_of_ble_eq_true rfl) (Nat.le_add_left_of_le (by decide)) (Nat.le_of_ble_eq_true rfl) c7 c8 (hyp (xFix.mk F))
    · replace hyp := hyp.2 q9
      have q5_ := q9
      clear q9
      refine xr_iload_n (pc := 4) (i := 0) (hI := d_B_checkKey_4) (hi := rfl) (hl := rfl) ?_
      refine xr_bipush (pc := 5) (hI := d_B_checkKey_5) (hr := by decide) (hv := by decide) ?_
      refine xr_icmp_lt (pc := 7) (tgt := 18) (hI := d_B_checkKey_7) (ht := by decide) (fun q9 => ?_) (fun q9 => ?_)
      · replace hyp := hyp.1 q9
        have q6_ := q9
        clear q9
        refine xr_return (S := []) (pc := 18) (hI := d_B_checkKey_18) (hr := rfl) ?_
        show xwp G m_B_partWeight (d + 8) 8 [xR 0, xI x1, xI x2, xZ] [] _ _ _
        refine xr_aload_n (pc := 8) (i := 0) (hI := d_B_partWeight_8) (hi := rfl) (hl := rfl) ?_
        refine xr_iload_n (pc := 9) (i := 2) (hI := d_B_partWeight_9) (hi := rfl) (hl := rfl) ?_
        refine xq_callV (pc := 10) (index := 268) (K := m_B_checkPart) (As := [xI x2]) (S := []) (L0 := [xR 0, xI x2]) (hI := d_B_partWeight_10) (hK := k_B_checkPart) (hlk := w_1326) (hnoM := rfl) (hS8 := Nat.le_of_ble_eq_true rfl) (ci := 0) (N := 7) (C := "BeaconIndex") (T := xF0) (hc := rfl) (hci := Nat.le_of_ble_eq_true rfl) (htb := (ft_0 F)) (hinst := w_1328) (hsel := sel_B_checkPart) (hlen := Nat.le_of_ble_eq_true rfl) (hst := rfl) (hL0 := rfl)  ?_
        refine xr_iload_n (pc := 0) (i := 1) (hI := d_B_checkPart_0) (hi := rfl) (hl := rfl) ?_
        refine xr_if_lt (pc := 1) (tgt := 18) (hI := d_B_checkPart_1) (ht := by decide) (fun q9 => ?_) (fun q9 => ?_)
        · replace hyp := hyp.1 q9
          have q7_ := q9
          clear q9
          obtain ⟨c7, c8, hyp⟩ := hyp
          exact xr_throw (pc := 18) (k := 2) (ik := 204) (ic := 206) (names := ["java/lang/RuntimeException", "java/lang/Exception"]) (by decide +kernel) (by decide +kernel) (by decide) w_1101 w_32 thr_B_206.1 thr_B_206.2 d_B_checkPart_18 d_B_checkPart_21 d_B_checkPart_22 d_B_checkPart_25 rfl (Nat.le_of_ble_eq_true rfl) (Nat.le_add_left_of_le (by decide)) (Nat.le_of_ble_eq_true rfl) c7 c8 (hyp (xFix.mk F))
        · replace hyp := hyp.2 q9
          have q7_ := q9
          clear q9
          refine xr_iload_n (pc := 4) (i := 1) (hI := d_B_checkPart_4) (hi := rfl) (hl := rfl) ?_
          refine xr_aload_n (pc := 5) (i := 0) (hI := d_B_checkPart_5) (hi := rfl) (hl := rfl) ?_
          refine xq_callV (pc := 6) (index := 247) (K := m_B_question) (As := []) (S := [xI x2]) (L0 := [xR 0]) (hI := d_B_checkPart_6) (hK := k_B_question) (hlk := w_1257) (hnoM := rfl) (hS8 := Nat.le_of_ble_eq_true rfl) (ci := 0) (N := 7) (C := "BeaconIndex") (T := xF0) (hc := rfl) (hci := Nat.le_of_ble_eq_true rfl) (htb := (ft_0 F)) (hinst := w_1259) (hsel := sel_B_question) (hlen := Nat.le_of_ble_eq_true rfl) (hst := rfl) (hL0 := rfl)  ?_
          refine xr_aload_n (pc := 0) (i := 0) (hI := d_B_question_0) (hi := rfl) (hl := rfl) ?_
          refine xg_getf (pc := 1) (ci := 0) (k := 6) (N := 7) (v9 := 2) (v := (xpl h 0 6)) (T := xF0) (hI := d_B_question_1) (hw := w_436) rfl xi0 (Or.inl rfl) (Nat.le_of_ble_eq_true rfl) (Nat.le_of_ble_eq_true rfl) rfl (ft_0 F) rfl (fun f8_ => ?_)
          clear f8_
          refine xq_callV (pc := 4) (index := 315) (K := m_ArrayList_isEmpty) (As := []) (S := []) (L0 := [xR (xpl h 0 6)]) (hI := d_B_question_4) (hK := k_ArrayList_isEmpty) (hlk := w_1229) (hnoM := rfl) (hS8 := Nat.le_of_ble_eq_true rfl) (ci := 13) (N := 3) (C := "java/util/ArrayList") (T := xF13) (hc := rfl) (hci := Nat.le_of_ble_eq_true rfl) (htb := t2_) (hinst := w_461) (hsel := w_462) (hlen := Nat.le_of_ble_eq_true rfl) (hst := rfl) (hL0 := rfl)  (p_AL_isEmpty F c3_ ?_)
          show xwp G m_B_question (d + 6) 7 [xR 0] [xI (b2i (decide (als h (xpl h 0 6) = 0)))] _ _ _
          refine xr_if_eq (pc := 7) (tgt := 20) (hI := d_B_question_7) (ht := by decide) (fun q9 => ?_) (fun q9 => ?_)
          · replace hyp := hyp.2 (b2i_0.mp q9)
            have q9_ := b2i_0.mp q9
            clear q9
            refine xr_aload_n (pc := 20) (i := 0) (hI := d_B_question_20) (hi := rfl) (hl := rfl) ?_
            refine xg_getf (pc := 21) (ci := 0) (k := 6) (N := 7) (v9 := 2) (v := (xpl h 0 6)) (T := xF0) (hI := d_B_question_21) (hw := w_436) rfl xi0 (Or.inl rfl) (Nat.le_of_ble_eq_true rfl) (Nat.le_of_ble_eq_true rfl) rfl (ft_0 F) rfl (fun f10_ => ?_)
            clear f10_
            refine xr_iconst (pc := 24) (hI := d_B_question_24) (hr := by decide) ?_
            obtain ⟨c11_, hyp⟩ := hyp
            refine xq_callV (pc := 25) (index := 184) (K := m_ArrayList_get) (As := [xI 0]) (S := []) (L0 := [xR (xpl h 0 6), xI 0]) (hI := d_B_question_25) (hK := k_ArrayList_get) (hlk := w_1261) (hnoM := rfl) (hS8 := Nat.le_of_ble_eq_true rfl) (ci := 13) (N := 3) (C := "java/util/ArrayList") (T := xF13) (hc := rfl) (hci := Nat.le_of_ble_eq_true rfl) (htb := t2_) (hinst := w_469) (hsel := w_470) (hlen := Nat.le_of_ble_eq_true rfl) (hst := rfl) (hL0 := rfl)  (p_AL_get F c3_ (by decide) c11_ ?_)
            show xwp G m_B_question (d + 6) 28 [xR 0] [xR (alg h (xpl h 0 6) 0)] _ _ _
            obtain ⟨c9, hyp⟩ := hyp
            have t12_ := c9
            clear c9
            refine xr_cast (pc := 28) (ci := 5) (T := xF5) (N := 5) (hI := d_B_question_28) w_1262 rfl (Nat.le_of_ble_eq_true rfl) t12_ ?_
            refine xr_areturn (S := []) (pc := 31) (hI := d_B_question_31) (hr := rfl) (hrt := Or.inl ⟨_, rfl⟩) ?_
            show xwp G m_B_checkPart (d + 7) 9 [xR 0, xI x2] [xR (alg h (xpl h 0 6) 0), xI x2] _ _ _
            refine xg_getf (pc := 9) (ci := 5) (k := 0) (N := 5) (v9 := 2) (v := (xpl h (alg h (xpl h 0 6) 0) 0)) (T := xF5) (hI := d_B_checkPart_9) (hw := w_290) rfl xi5 (Or.inl rfl) (Nat.le_of_ble_eq_true rfl) (Nat.le_of_ble_eq_true rfl) rfl t12_ rfl (fun f13_ => ?_)
            clear f13_
            obtain ⟨c9, hyp⟩ := hyp
            have t14_ := c9
            clear c9
            obtain ⟨c15_, hyp⟩ := hyp
            refine xq_callV (pc := 12) (index := 128) (K := m_ArrayList_size) (As := []) (S := [xI x2]) (L0 := [xR (xpl h (alg h (xpl h 0 6) 0) 0)]) (hI := d_B_checkPart_12) (hK := k_ArrayList_size) (hlk := w_774) (hnoM := rfl) (hS8 := Nat.le_of_ble_eq_true rfl) (ci := 13) (N := 3) (C := "java/util/ArrayList") (T := xF13) (hc := rfl) (hci := Nat.le_of_ble_eq_true rfl) (htb := t14_) (hinst := w_465) (hsel := w_466) (hlen := Nat.le_of_ble_eq_true rfl) (hst := rfl) (hL0 := rfl)  (p_AL_size F c15_ ?_)
            show xwp G m_B_checkPart (d + 7) 15 [xR 0, xI x2] [xI (als h (xpl h (alg h (xpl h 0 6) 0) 0)), xI x2] _ _ _
            have f16_ : 0 ≤ (als h (xpl h (alg h (xpl h 0 6) 0) 0)) ∧ (als h (xpl h (alg h (xpl h 0 6) 0) 0)) ≤ 1000000 := ⟨c15_.2.2.1, c15_.2.2.2.2⟩
            refine xr_icmp_lt (pc := 15) (tgt := 26) (hI := d_B_checkPart_15) (ht := by decide) (fun q9 => ?_) (fun q9 => ?_)
            · replace hyp := hyp.1 q9
              have q17_ := q9
              clear q9
              refine xr_return (S := []) (pc := 26) (hI := d_B_checkPart_26) (hr := rfl) ?_
              show xwp G m_B_partWeight (d + 8) 13 [xR 0, xI x1, xI x2, xZ] [] _ _ _
              refine xr_aload_n (pc := 13) (i := 0) (hI := d_B_partWeight_13) (hi := rfl) (hl := rfl) ?_
              refine xg_getf (pc := 14) (ci := 0) (k := 1) (N := 7) (v9 := 2) (v := 5) (T := xF0) (hI := d_B_partWeight_14) (hw := w_431) rfl xi0 (Or.inl rfl) (Nat.le_of_ble_eq_true rfl) (Nat.le_of_ble_eq_true rfl) rfl (ft_0 F) (fp_0_1 F) (fun f18_ => ?_)
              clear f18_
              refine xr_iload_n (pc := 17) (i := 1) (hI := d_B_partWeight_17) (hi := rfl) (hl := rfl) ?_
              obtain ⟨c19_, hyp⟩ := hyp
              refine xq_callV (pc := 18) (index := 113) (K := m_Store_placeInSegments) (As := [xI x1]) (S := []) (L0 := [xR 5, xI x1, xZ, xZ]) (hI := d_B_partWeight_18) (hK := k_Store_placeInSegments) (hlk := w_1310) (hnoM := rfl) (hS8 := Nat.le_of_ble_eq_true rfl) (ci := 7) (N := 6) (C := "BeaconIndex$Store") (T := xF7) (hc := rfl) (hci := Nat.le_of_ble_eq_true rfl) (htb := (ft_5 F)) (hinst := w_1311) (hsel := w_1312) (hlen := Nat.le_of_ble_eq_true rfl) (hst := rfl) (hL0 := rfl)  (p_Store_placeInSegments F c19_ ?_)
              show xwp G m_B_partWeight (d + 8) 21 [xR 0, xI x1, xI x2, xZ] [xI (sidx (filL h) x1)] _ _ _
              have f20_ : -1 ≤ (sidx (filL h) x1) := (idxI_rng _ _).1
              have f21_ : (sidx (filL h) x1) < als h 7 := sidx_lt c19_ _
              refine xr_istore_n (pc := 21) (i := 3) (L9 := [xR 0, xI x1, xI x2, xI (sidx (filL h) x1)]) (hI := d_B_partWeight_21) (hi := rfl) (hn := Nat.le_of_ble_eq_true rfl) (hL9 := rfl) ?_
              refine xr_iload_n (pc := 22) (i := 3) (hI := d_B_partWeight_22) (hi := rfl) (hl := rfl) ?_
              refine xr_iconst (pc := 23) (hI := d_B_partWeight_23) (hr := by decide) ?_
              refine xr_icmp_ne (pc := 24) (tgt := 31) (hI := d_B_partWeight_24) (ht := by decide) (fun q9 => ?_) (fun q9 => ?_)
              · replace hyp := hyp.2 q9
                have q22_ := q9
                clear q9
                refine xr_aload_n (pc := 31) (i := 0) (hI := d_B_partWeight_31) (hi := rfl) (hl := rfl) ?_
                refine xg_getf (pc := 32) (ci := 0) (k := 4) (N := 7) (v9 := 2) (v := 40) (T := xF0) (hI := d_B_partWeight_32) (hw := w_434) rfl xi0 (Or.inl rfl) (Nat.le_of_ble_eq_true rfl) (Nat.le_of_ble_eq_true rfl) rfl (ft_0 F) (fp_0_4 F) (fun f23_ => ?_)
                clear f23_
                refine xr_aload_n (pc := 35) (i := 0) (hI := d_B_partWeight_35) (hi := rfl) (hl := rfl) ?_
                refine xq_callV (pc := 36) (index := 247) (K := m_B_question) (As := []) (S := [xR 40]) (L0 := [xR 0]) (hI := d_B_partWeight_36) (hK := k_B_question) (hlk := w_1257) (hnoM := rfl) (hS8 := Nat.le_of_ble_eq_true rfl) (ci := 0) (N := 7) (C := "BeaconIndex") (T := xF0) (hc := rfl) (hci := Nat.le_of_ble_eq_true rfl) (htb := (ft_0 F)) (hinst := w_1259) (hsel := sel_B_question) (hlen := Nat.le_of_ble_eq_true rfl) (hst := rfl) (hL0 := rfl)  ?_
                refine xr_aload_n (pc := 0) (i := 0) (hI := d_B_question_0) (hi := rfl) (hl := rfl) ?_
                refine xg_getf (pc := 1) (ci := 0) (k := 6) (N := 7) (v9 := 2) (v := (xpl h 0 6)) (T := xF0) (hI := d_B_question_1) (hw := w_436) rfl xi0 (Or.inl rfl) (Nat.le_of_ble_eq_true rfl) (Nat.le_of_ble_eq_true rfl) rfl (ft_0 F) rfl (fun f24_ => ?_)
                clear f24_
                refine xq_callV (pc := 4) (index := 315) (K := m_ArrayList_isEmpty) (As := []) (S := []) (L0 := [xR (xpl h 0 6)]) (hI := d_B_question_4) (hK := k_ArrayList_isEmpty) (hlk := w_1229) (hnoM := rfl) (hS8 := Nat.le_of_ble_eq_true rfl) (ci := 13) (N := 3) (C := "java/util/ArrayList") (T := xF13) (hc := rfl) (hci := Nat.le_of_ble_eq_true rfl) (htb := t2_) (hinst := w_461) (hsel := w_462) (hlen := Nat.le_of_ble_eq_true rfl) (hst := rfl) (hL0 := rfl)  (p_AL_isEmpty F c3_ ?_)
                show xwp G m_B_question (d + 7) 7 [xR 0] [xI (b2i (decide (als h (xpl h 0 6) = 0)))] _ _ _
                refine xr_if_eq (pc := 7) (tgt := 20) (hI := d_B_question_7) (ht := by decide) (fun q9 => ?_) (fun q9 => ?_)
                · replace hyp := hyp.2 (b2i_0.mp q9)
                  have q25_ := b2i_0.mp q9
                  clear q9
                  refine xr_aload_n (pc := 20) (i := 0) (hI := d_B_question_20) (hi := rfl) (hl := rfl) ?_
                  refine xg_getf (pc := 21) (ci := 0) (k := 6) (N := 7) (v9 := 2) (v := (xpl h 0 6)) (T := xF0) (hI := d_B_question_21) (hw := w_436) rfl xi0 (Or.inl rfl) (Nat.le_of_ble_eq_true rfl) (Nat.le_of_ble_eq_true rfl) rfl (ft_0 F) rfl (fun f26_ => ?_)
                  clear f26_
                  refine xr_iconst (pc := 24) (hI := d_B_question_24) (hr := by decide) ?_
                  obtain ⟨c27_, hyp⟩ := hyp
                  refine xq_callV (pc := 25) (index := 184) (K := m_ArrayList_get) (As := [xI 0]) (S := []) (L0 := [xR (xpl h 0 6), xI 0]) (hI := d_B_question_25) (hK := k_ArrayList_get) (hlk := w_1261) (hnoM := rfl) (hS8 := Nat.le_of_ble_eq_true rfl) (ci := 13) (N := 3) (C := "java/util/ArrayList") (T := xF13) (hc := rfl) (hci := Nat.le_of_ble_eq_true rfl) (htb := t2_) (hinst := w_469) (hsel := w_470) (hlen := Nat.le_of_ble_eq_true rfl) (hst := rfl) (hL0 := rfl)  (p_AL_get F c3_ (by decide) c27_ ?_)
                  show xwp G m_B_question (d + 7) 28 [xR 0] [xR (alg h (xpl h 0 6) 0)] _ _ _
                  refine xr_cast (pc := 28) (ci := 5) (T := xF5) (N := 5) (hI := d_B_question_28) w_1262 rfl (Nat.le_of_ble_eq_true rfl) t12_ ?_
                  refine xr_areturn (S := []) (pc := 31) (hI := d_B_question_31) (hr := rfl) (hrt := Or.inl ⟨_, rfl⟩) ?_
                  show xwp G m_B_partWeight (d + 8) 39 [xR 0, xI x1, xI x2, xI (sidx (filL h) x1)] [xR (alg h (xpl h 0 6) 0), xR 40] _ _ _
                  refine xg_getf (pc := 39) (ci := 5) (k := 0) (N := 5) (v9 := 2) (v := (xpl h (alg h (xpl h 0 6) 0) 0)) (T := xF5) (hI := d_B_partWeight_39) (hw := w_290) rfl xi5 (Or.inl rfl) (Nat.le_of_ble_eq_true rfl) (Nat.le_of_ble_eq_true rfl) rfl t12_ rfl (fun f28_ => ?_)
                  clear f28_
                  refine xr_iload_n (pc := 42) (i := 2) (hI := d_B_partWeight_42) (hi := rfl) (hl := rfl) ?_
                  refine xq_callV (pc := 43) (index := 184) (K := m_ArrayList_get) (As := [xI x2]) (S := [xR 40]) (L0 := [xR (xpl h (alg h (xpl h 0 6) 0) 0), xI x2]) (hI := d_B_partWeight_43) (hK := k_ArrayList_get) (hlk := w_1261) (hnoM := rfl) (hS8 := Nat.le_of_ble_eq_true rfl) (ci := 13) (N := 3) (C := "java/util/ArrayList") (T := xF13) (hc := rfl) (hci := Nat.le_of_ble_eq_true rfl) (htb := t14_) (hinst := w_469) (hsel := w_470) (hlen := Nat.le_of_ble_eq_true rfl) (hst := rfl) (hL0 := rfl)  (p_AL_get F c15_ (by clear hyp; omega) (by clear hyp; omega) ?_)
                  show xwp G m_B_partWeight (d + 8) 46 [xR 0, xI x1, xI x2, xI (sidx (filL h) x1)] [xR (alg h (xpl h (alg h (xpl h 0 6) 0) 0) x2), xR 40] _ _ _
                  obtain ⟨c9, hyp⟩ := hyp
                  have t29_ := c9
                  clear c9
                  refine xr_cast (pc := 46) (ci := 4) (T := xF4) (N := 13) (hI := d_B_partWeight_46) w_1504 rfl (Nat.le_of_ble_eq_true rfl) t29_ ?_
                  refine xr_iload_n (pc := 49) (i := 3) (hI := d_B_partWeight_49) (hi := rfl) (hl := rfl) ?_
                  exact xq_callV (pc := 50) (index := 273) (K := m_Findings_weightOfPart) (As := [xR (alg h (xpl h (alg h (xpl h 0 6) 0) 0) x2), xI (sidx (filL h) x1)]) (S := []) (L0 := [xR 40, xR (alg h (xpl h (alg h (xpl h 0 6) 0) 0) x2), xI (sidx (filL h) x1)]) (hI := d_B_partWeight_50) (hK := k_Findings_weightOfPart) (hlk := w_1505) (hnoM := rfl) (hS8 := Nat.le_of_ble_eq_true rfl) (ci := 1) (N := 6) (C := "BeaconIndex$Findings") (T := xF1) (hc := rfl) (hci := Nat.le_of_ble_eq_true rfl) (htb := (ft_40 F)) (hinst := w_1506) (hsel := w_1507) (hlen := Nat.le_of_ble_eq_true rfl) (hst := rfl) (hL0 := rfl)  (xwp_mono hyp (fun v9 h9 q9 => xr_drop (L9 := [xZ, xZ, xZ, xZ]) (xdrz (xdrz (xdrz (xdrz xdr0)))) q9) (fun _ _ z9 => z9))
                · replace hyp := hyp.1 (b2i_1.mp q9)
                  have q25_ := b2i_1.mp q9
                  clear q9
                  refine xr_aload_n (pc := 10) (i := 0) (hI := d_B_question_10) (hi := rfl) (hl := rfl) ?_
                  refine xg_getf (pc := 11) (ci := 0) (k := 3) (N := 7) (v9 := 2) (v := 32) (T := xF0) (hI := d_B_question_11) (hw := w_433) rfl xi0 (Or.inl rfl) (Nat.le_of_ble_eq_true rfl) (Nat.le_of_ble_eq_true rfl) rfl (ft_0 F) (fp_0_3 F) (fun f30_ => ?_)
                  clear f30_
                  refine xg_getf (pc := 14) (ci := 6) (k := 4) (N := 15) (v9 := 2) (v := 37) (T := xF6) (hI := d_B_question_14) (hw := w_311) rfl xi6 (Or.inl rfl) (Nat.le_of_ble_eq_true rfl) (Nat.le_of_ble_eq_true rfl) rfl (ft_32 F) (fp_32_4 F) (fun f31_ => ?_)
                  clear f31_
                  refine xr_goto (pc := 17) (tgt := 31) (hI := d_B_question_17) (ht := by decide) ?_
                  refine xr_areturn (S := []) (pc := 31) (hI := d_B_question_31) (hr := rfl) (hrt := Or.inl ⟨_, rfl⟩) ?_
                  show xwp G m_B_partWeight (d + 8) 39 [xR 0, xI x1, xI x2, xI (sidx (filL h) x1)] [xR 37, xR 40] _ _ _
                  refine xg_getf (pc := 39) (ci := 5) (k := 0) (N := 5) (v9 := 2) (v := 38) (T := xF5) (hI := d_B_partWeight_39) (hw := w_290) rfl xi5 (Or.inl rfl) (Nat.le_of_ble_eq_true rfl) (Nat.le_of_ble_eq_true rfl) rfl (ft_37 F) (fp_37_0 F) (fun f32_ => ?_)
                  clear f32_
                  refine xr_iload_n (pc := 42) (i := 2) (hI := d_B_partWeight_42) (hi := rfl) (hl := rfl) ?_
                  obtain ⟨c33_, hyp⟩ := hyp
                  obtain ⟨c34_, hyp⟩ := hyp
                  refine xq_callV (pc := 43) (index := 184) (K := m_ArrayList_get) (As := [xI x2]) (S := [xR 40]) (L0 := [xR 38, xI x2]) (hI := d_B_partWeight_43) (hK := k_ArrayList_get) (hlk := w_1261) (hnoM := rfl) (hS8 := Nat.le_of_ble_eq_true rfl) (ci := 13) (N := 3) (C := "java/util/ArrayList") (T := xF13) (hc := rfl) (hci := Nat.le_of_ble_eq_true rfl) (htb := (ft_38 F)) (hinst := w_469) (hsel := w_470) (hlen := Nat.le_of_ble_eq_true rfl) (hst := rfl) (hL0 := rfl)  (p_AL_get F c33_ (by clear hyp; omega) c34_ ?_)
                  show xwp G m_B_partWeight (d + 8) 46 [xR 0, xI x1, xI x2, xI (sidx (filL h) x1)] [xR (alg h 38 x2), xR 40] _ _ _
                  obtain ⟨c9, hyp⟩ := hyp
                  have t35_ := c9
                  clear c9
                  refine xr_cast (pc := 46) (ci := 4) (T := xF4) (N := 13) (hI := d_B_partWeight_46) w_1504 rfl (Nat.le_of_ble_eq_true rfl) t35_ ?_
                  refine xr_iload_n (pc := 49) (i := 3) (hI := d_B_partWeight_49) (hi := rfl) (hl := rfl) ?_
                  exact xq_callV (pc := 50) (index := 273) (K := m_Findings_weightOfPart) (As := [xR (alg h 38 x2), xI (sidx (filL h) x1)]) (S := []) (L0 := [xR 40, xR (alg h 38 x2), xI (sidx (filL h) x1)]) (hI := d_B_partWeight_50) (hK := k_Findings_weightOfPart) (hlk := w_1505) (hnoM := rfl) (hS8 := Nat.le_of_ble_eq_true rfl) (ci := 1) (N := 6) (C := "BeaconIndex$Findings") (T := xF1) (hc := rfl) (hci := Nat.le_of_ble_eq_true rfl) (htb := (ft_40 F)) (hinst := w_1506) (hsel := w_1507) (hlen := Nat.le_of_ble_eq_true rfl) (hst := rfl) (hL0 := rfl)  (xwp_mono hyp (fun v9 h9 q9 => xr_drop (L9 := [xZ, xZ, xZ, xZ]) (xdrz (xdrz (xdrz (xdrz xdr0)))) q9) (fun _ _ z9 => z9))
              · replace hyp := hyp.1 q9
                have q22_ := q9
                clear q9
                refine xr_iconst (pc := 27) (hI := d_B_partWeight_27) (hr := by decide) ?_
                refine xr_goto (pc := 28) (tgt := 53) (hI := d_B_partWeight_28) (ht := by decide) ?_
                exact xr_drop (L9 := [xZ, xZ, xZ, xZ]) (xdrz (xdrz (xdrz (xdrz xdr0)))) hyp
            · replace hyp := hyp.2 q9
              have q17_ := q9
              clear q9
              obtain ⟨c7, c8, hyp⟩ := hyp
              exact xr_throw (pc := 18) (k := 2) (ik := 204) (ic := 206) (names := ["java/lang/RuntimeException", "java/lang/Exception"]) (by decide +kernel) (by decide +kernel) (by decide) w_1101 w_32 thr_B_206.1 thr_B_206.2 d_B_checkPart_18 d_B_checkPart_21 d_B_checkPart_22 d_B_checkPart_25 rfl (Nat.le_of_ble_eq_true rfl) (Nat.le_add_left_of_le (by decide)) (Nat.le_of_ble_eq_true rfl) c7 c8 (hyp (xFix.mk F))
          · replace hyp := hyp.1 (b2i_1.mp q9)
            have q9_ := b2i_1.mp q9
            clear q9
            refine xr_aload_n (pc := 10) (i := 0) (hI := d_B_question_10) (hi := rfl) (hl := rfl) ?_
            refine xg_getf (pc := 11) (ci := 0) (k := 3) (N := 7) (v9 := 2) (v := 32) (T := xF0) (hI := d_B_question_11) (hw := w_433) rfl xi0 (Or.inl rfl) (Nat.le_of_ble_eq_true rfl) (Nat.le_of_ble_eq_true rfl) rfl (ft_0 F) (fp_0_3 F) (fun f36_ => ?_)
            clear f36_
            refine xg_getf (pc := 14) (ci := 6) (k := 4) (N := 15) (v9 := 2) (v := 37) (T := xF6) (hI := d_B_question_14) (hw := w_311) rfl xi6 (Or.inl rfl) (Nat.le_of_ble_eq_true rfl) (Nat.le_of_ble_eq_true rfl) rfl (ft_32 F) (fp_32_4 F) (fun f37_ => ?_)
            clear f37_
            refine xr_goto (pc := 17) (tgt := 31) (hI := d_B_question_17) (ht := by decide) ?_
            refine xr_areturn (S := []) (pc := 31) (hI := d_B_question_31) (hr := rfl) (hrt := Or.inl ⟨_, rfl⟩) ?_
            show xwp G m_B_checkPart (d + 7) 9 [xR 0, xI x2] [xR 37, xI x2] _ _ _
            refine xg_getf (pc := 9) (ci := 5) (k := 0) (N := 5) (v9 := 2) (v := 38) (T := xF5) (hI := d_B_checkPart_9) (hw := w_290) rfl xi5 (Or.inl rfl) (Nat.le_of_ble_eq_true rfl) (Nat.le_of_ble_eq_true rfl) rfl (ft_37 F) (fp_37_0 F) (fun f38_ => ?_)
            clear f38_
            obtain ⟨c39_, hyp⟩ := hyp
            refine xq_callV (pc := 12) (index := 128) (K := m_ArrayList_size) (As := []) (S := [xI x2]) (L0 := [xR 38]) (hI := d_B_checkPart_12) (hK := k_ArrayList_size) (hlk := w_774) (hnoM := rfl) (hS8 := Nat.le_of_ble_eq_true rfl) (ci := 13) (N := 3) (C := "java/util/ArrayList") (T := xF13) (hc := rfl) (hci := Nat.le_of_ble_eq_true rfl) (htb := (ft_38 F)) (hinst := w_465) (hsel := w_466) (hlen := Nat.le_of_ble_eq_true rfl) (hst := rfl) (hL0 := rfl)  (p_AL_size F c39_ ?_)
            show xwp G m_B_checkPart (d + 7) 15 [xR 0, xI x2] [xI (als h 38), xI x2] _ _ _
            have f40_ : 0 ≤ (als h 38) ∧ (als h 38) ≤ 1000000 := ⟨c39_.2.2.1, c39_.2.2.2.2⟩
            refine xr_icmp_lt (pc := 15) (tgt := 26) (hI := d_B_checkPart_15) (ht := by decide) (fun q9 => ?_) (fun q9 => ?_)
            · replace hyp := hyp.1 q9
              have q41_ := q9
              clear q9
              refine xr_return (S := []) (pc := 26) (hI := d_B_checkPart_26) (hr := rfl) ?_
              show xwp G m_B_partWeight (d + 8) 13 [xR 0, xI x1, xI x2, xZ] [] _ _ _
              refine xr_aload_n (pc := 13) (i := 0) (hI := d_B_partWeight_13) (hi := rfl) (hl := rfl) ?_
              refine xg_getf (pc := 14) (ci := 0) (k := 1) (N := 7) (v9 := 2) (v := 5) (T := xF0) (hI := d_B_partWeight_14) (hw := w_431) rfl xi0 (Or.inl rfl) (Nat.le_of_ble_eq_true rfl) (Nat.le_of_ble_eq_true rfl) rfl (ft_0 F) (fp_0_1 F) (fun f42_ => ?_)
              clear f42_
              refine xr_iload_n (pc := 17) (i := 1) (hI := d_B_partWeight_17) (hi := rfl) (hl := rfl) ?_
              obtain ⟨c43_, hyp⟩ := hyp
              refine xq_callV (pc := 18) (index := 113) (K := m_Store_placeInSegments) (As := [xI x1]) (S := []) (L0 := [xR 5, xI x1, xZ, xZ]) (hI := d_B_partWeight_18) (hK := k_Store_placeInSegments) (hlk := w_1310) (hnoM := rfl) (hS8 := Nat.le_of_ble_eq_true rfl) (ci := 7) (N := 6) (C := "BeaconIndex$Store") (T := xF7) (hc := rfl) (hci := Nat.le_of_ble_eq_true rfl) (htb := (ft_5 F)) (hinst := w_1311) (hsel := w_1312) (hlen := Nat.le_of_ble_eq_true rfl) (hst := rfl) (hL0 := rfl)  (p_Store_placeInSegments F c43_ ?_)
              show xwp G m_B_partWeight (d + 8) 21 [xR 0, xI x1, xI x2, xZ] [xI (sidx (filL h) x1)] _ _ _
              have f44_ : -1 ≤ (sidx (filL h) x1) := (idxI_rng _ _).1
              have f45_ : (sidx (filL h) x1) < als h 7 := sidx_lt c43_ _
              refine xr_istore_n (pc := 21) (i := 3) (L9 := [xR 0, xI x1, xI x2, xI (sidx (filL h) x1)]) (hI := d_B_partWeight_21) (hi := rfl) (hn := Nat.le_of_ble_eq_true rfl) (hL9 := rfl) ?_
              refine xr_iload_n (pc := 22) (i := 3) (hI := d_B_partWeight_22) (hi := rfl) (hl := rfl) ?_
              refine xr_iconst (pc := 23) (hI := d_B_partWeight_23) (hr := by decide) ?_
              refine xr_icmp_ne (pc := 24) (tgt := 31) (hI := d_B_partWeight_24) (ht := by decide) (fun q9 => ?_) (fun q9 => ?_)
              · replace hyp := hyp.2 q9
                have q46_ := q9
                clear q9
                refine xr_aload_n (pc := 31) (i := 0) (hI := d_B_partWeight_31) (hi := rfl) (hl := rfl) ?_
                refine xg_getf (pc := 32) (ci := 0) (k := 4) (N := 7) (v9 := 2) (v := 40) (T := xF0) (hI := d_B_partWeight_32) (hw := w_434) rfl xi0 (Or.inl rfl) (Nat.le_of_ble_eq_true rfl) (Nat.le_of_ble_eq_true rfl) rfl (ft_0 F) (fp_0_4 F) (fun f47_ => ?_)
                clear f47_
                refine xr_aload_n (pc := 35) (i := 0) (hI := d_B_partWeight_35) (hi := rfl) (hl := rfl) ?_
                refine xq_callV (pc := 36) (index := 247) (K := m_B_question) (As := []) (S := [xR 40]) (L0 := [xR 0]) (hI := d_B_partWeight_36) (hK := k_B_question) (hlk := w_1257) (hnoM := rfl) (hS8 := Nat.le_of_ble_eq_true rfl) (ci := 0) (N := 7) (C := "BeaconIndex") (T := xF0) (hc := rfl) (hci := Nat.le_of_ble_eq_true rfl) (htb := (ft_0 F)) (hinst := w_1259) (hsel := sel_B_question) (hlen := Nat.le_of_ble_eq_true rfl) (hst := rfl) (hL0 := rfl)  ?_
                refine xr_aload_n (pc := 0) (i := 0) (hI := d_B_question_0) (hi := rfl) (hl := rfl) ?_
                refine xg_getf (pc := 1) (ci := 0) (k := 6) (N := 7) (v9 := 2) (v := (xpl h 0 6)) (T := xF0) (hI := d_B_question_1) (hw := w_436) rfl xi0 (Or.inl rfl) (Nat.le_of_ble_eq_true rfl) (Nat.le_of_ble_eq_true rfl) rfl (ft_0 F) rfl (fun f48_ => ?_)
                clear f48_
                refine xq_callV (pc := 4) (index := 315) (K := m_ArrayList_isEmpty) (As := []) (S := []) (L0 := [xR (xpl h 0 6)]) (hI := d_B_question_4) (hK := k_ArrayList_isEmpty) (hlk := w_1229) (hnoM := rfl) (hS8 := Nat.le_of_ble_eq_true rfl) (ci := 13) (N := 3) (C := "java/util/ArrayList") (T := xF13) (hc := rfl) (hci := Nat.le_of_ble_eq_true rfl) (htb := t2_) (hinst := w_461) (hsel := w_462) (hlen := Nat.le_of_ble_eq_true rfl) (hst := rfl) (hL0 := rfl)  (p_AL_isEmpty F c3_ ?_)
                show xwp G m_B_question (d + 7) 7 [xR 0] [xI (b2i (decide (als h (xpl h 0 6) = 0)))] _ _ _
                refine xr_if_eq (pc := 7) (tgt := 20) (hI := d_B_question_7) (ht := by decide) (fun q9 => ?_) (fun q9 => ?_)
                · replace hyp := hyp.2 (b2i_0.mp q9)
                  have q49_ := b2i_0.mp q9
                  clear q9
                  refine xr_aload_n (pc := 20) (i := 0) (hI := d_B_question_20) (hi := rfl) (hl := rfl) ?_
                  refine xg_getf (pc := 21) (ci := 0) (k := 6) (N := 7) (v9 := 2) (v := (xpl h 0 6)) (T := xF0) (hI := d_B_question_21) (hw := w_436) rfl xi0 (Or.inl rfl) (Nat.le_of_ble_eq_true rfl) (Nat.le_of_ble_eq_true rfl) rfl (ft_0 F) rfl (fun f50_ => ?_)
                  clear f50_
                  refine xr_iconst (pc := 24) (hI := d_B_question_24) (hr := by decide) ?_
                  obtain ⟨c51_, hyp⟩ := hyp
                  refine xq_callV (pc := 25) (index := 184) (K := m_ArrayList_get) (As := [xI 0]) (S := []) (L0 := [xR (xpl h 0 6), xI 0]) (hI := d_B_question_25) (hK := k_ArrayList_get) (hlk := w_1261) (hnoM := rfl) (hS8 := Nat.le_of_ble_eq_true rfl) (ci := 13) (N := 3) (C := "java/util/ArrayList") (T := xF13) (hc := rfl) (hci := Nat.le_of_ble_eq_true rfl) (htb := t2_) (hinst := w_469) (hsel := w_470) (hlen := Nat.le_of_ble_eq_true rfl) (hst := rfl) (hL0 := rfl)  (p_AL_get F c3_ (by decide) c51_ ?_)
                  show xwp G m_B_question (d + 7) 28 [xR 0] [xR (alg h (xpl h 0 6) 0)] _ _ _
                  obtain ⟨c9, hyp⟩ := hyp
                  have t52_ := c9
                  clear c9
                  refine xr_cast (pc := 28) (ci := 5) (T := xF5) (N := 5) (hI := d_B_question_28) w_1262 rfl (Nat.le_of_ble_eq_true rfl) t52_ ?_
                  refine xr_areturn (S := []) (pc := 31) (hI := d_B_question_31) (hr := rfl) (hrt := Or.inl ⟨_, rfl⟩) ?_
                  show xwp G m_B_partWeight (d + 8) 39 [xR 0, xI x1, xI x2, xI (sidx (filL h) x1)] [xR (alg h (xpl h 0 6) 0), xR 40] _ _ _
                  refine xg_getf (pc := 39) (ci := 5) (k := 0) (N := 5) (v9 := 2) (v := (xpl h (alg h (xpl h 0 6) 0) 0)) (T := xF5) (hI := d_B_partWeight_39) (hw := w_290) rfl xi5 (Or.inl rfl) (Nat.le_of_ble_eq_true rfl) (Nat.le_of_ble_eq_true rfl) rfl t52_ rfl (fun f53_ => ?_)
                  clear f53_
                  refine xr_iload_n (pc := 42) (i := 2) (hI := d_B_partWeight_42) (hi := rfl) (hl := rfl) ?_
                  obtain ⟨c9, hyp⟩ := hyp
                  have t54_ := c9
                  clear c9
                  obtain ⟨c55_, hyp⟩ := hyp
                  obtain ⟨c56_, hyp⟩ := hyp
                  refine xq_callV (pc := 43) (index := 184) (K := m_ArrayList_get) (As := [xI x2]) (S := [xR 40]) (L0 := [xR (xpl h (alg h (xpl h 0 6) 0) 0), xI x2]) (hI := d_B_partWeight_43) (hK := k_ArrayList_get) (hlk := w_1261) (hnoM := rfl) (hS8 := Nat.le_of_ble_eq_true rfl) (ci := 13) (N := 3) (C := "java/util/ArrayList") (T := xF13) (hc := rfl) (hci := Nat.le_of_ble_eq_true rfl) (htb := t54_) (hinst := w_469) (hsel := w_470) (hlen := Nat.le_of_ble_eq_true rfl) (hst := rfl) (hL0 := rfl)  (p_AL_get F c55_ (by clear hyp; omega) c56_ ?_)
                  show xwp G m_B_partWeight (d + 8) 46 [xR 0, xI x1, xI x2, xI (sidx (filL h) x1)] [xR (alg h (xpl h (alg h (xpl h 0 6) 0) 0) x2), xR 40] _ _ _
                  obtain ⟨c9, hyp⟩ := hyp
                  have t57_ := c9
                  clear c9
                  refine xr_cast (pc := 46) (ci := 4) (T := xF4) (N := 13) (hI := d_B_partWeight_46) w_1504 rfl (Nat.le_of_ble_eq_true rfl) t57_ ?_
                  refine xr_iload_n (pc := 49) (i := 3) (hI := d_B_partWeight_49) (hi := rfl) (hl := rfl) ?_
                  exact xq_callV (pc := 50) (index := 273) (K := m_Findings_weightOfPart) (As := [xR (alg h (xpl h (alg h (xpl h 0 6) 0) 0) x2), xI (sidx (filL h) x1)]) (S := []) (L0 := [xR 40, xR (alg h (xpl h (alg h (xpl h 0 6) 0) 0) x2), xI (sidx (filL h) x1)]) (hI := d_B_partWeight_50) (hK := k_Findings_weightOfPart) (hlk := w_1505) (hnoM := rfl) (hS8 := Nat.le_of_ble_eq_true rfl) (ci := 1) (N := 6) (C := "BeaconIndex$Findings") (T := xF1) (hc := rfl) (hci := Nat.le_of_ble_eq_true rfl) (htb := (ft_40 F)) (hinst := w_1506) (hsel := w_1507) (hlen := Nat.le_of_ble_eq_true rfl) (hst := rfl) (hL0 := rfl)  (xwp_mono hyp (fun v9 h9 q9 => xr_drop (L9 := [xZ, xZ, xZ, xZ]) (xdrz (xdrz (xdrz (xdrz xdr0)))) q9) (fun _ _ z9 => z9))
                · replace hyp := hyp.1 (b2i_1.mp q9)
                  have q49_ := b2i_1.mp q9
                  clear q9
                  refine xr_aload_n (pc := 10) (i := 0) (hI := d_B_question_10) (hi := rfl) (hl := rfl) ?_
                  refine xg_getf (pc := 11) (ci := 0) (k := 3) (N := 7) (v9 := 2) (v := 32) (T := xF0) (hI := d_B_question_11) (hw := w_433) rfl xi0 (Or.inl rfl) (Nat.le_of_ble_eq_true rfl) (Nat.le_of_ble_eq_true rfl) rfl (ft_0 F) (fp_0_3 F) (fun f58_ => ?_)
                  clear f58_
                  refine xg_getf (pc := 14) (ci := 6) (k := 4) (N := 15) (v9 := 2) (v := 37) (T := xF6) (hI := d_B_question_14) (hw := w_311) rfl xi6 (Or.inl rfl) (Nat.le_of_ble_eq_true rfl) (Nat.le_of_ble_eq_true rfl) rfl (ft_32 F) (fp_32_4 F) (fun f59_ => ?_)
                  clear f59_
                  refine xr_goto (pc := 17) (tgt := 31) (hI := d_B_question_17) (ht := by decide) ?_
                  refine xr_areturn (S := []) (pc := 31) (hI := d_B_question_31) (hr := rfl) (hrt := Or.inl ⟨_, rfl⟩) ?_
                  show xwp G m_B_partWeight (d + 8) 39 [xR 0, xI x1, xI x2, xI (sidx (filL h) x1)] [xR 37, xR 40] _ _ _
                  refine xg_getf (pc := 39) (ci := 5) (k := 0) (N := 5) (v9 := 2) (v := 38) (T := xF5) (hI := d_B_partWeight_39) (hw := w_290) rfl xi5 (Or.inl rfl) (Nat.le_of_ble_eq_true rfl) (Nat.le_of_ble_eq_true rfl) rfl (ft_37 F) (fp_37_0 F) (fun f60_ => ?_)
                  clear f60_
                  refine xr_iload_n (pc := 42) (i := 2) (hI := d_B_partWeight_42) (hi := rfl) (hl := rfl) ?_
                  refine xq_callV (pc := 43) (index := 184) (K := m_ArrayList_get) (As := [xI x2]) (S := [xR 40]) (L0 := [xR 38, xI x2]) (hI := d_B_partWeight_43) (hK := k_ArrayList_get) (hlk := w_1261) (hnoM := rfl) (hS8 := Nat.le_of_ble_eq_true rfl) (ci := 13) (N := 3) (C := "java/util/ArrayList") (T := xF13) (hc := rfl) (hci := Nat.le_of_ble_eq_true rfl) (htb := (ft_38 F)) (hinst := w_469) (hsel := w_470) (hlen := Nat.le_of_ble_eq_true rfl) (hst := rfl) (hL0 := rfl)  (p_AL_get F c39_ (by clear hyp; omega) (by clear hyp; omega) ?_)
                  show xwp G m_B_partWeight (d + 8) 46 [xR 0, xI x1, xI x2, xI (sidx (filL h) x1)] [xR (alg h 38 x2), xR 40] _ _ _
                  obtain ⟨c9, hyp⟩ := hyp
                  have t61_ := c9
                  clear c9
                  refine xr_cast (pc := 46) (ci := 4) (T := xF4) (N := 13) (hI := d_B_partWeight_46) w_1504 rfl (Nat.le_of_ble_eq_true rfl) t61_ ?_
                  refine xr_iload_n (pc := 49) (i := 3) (hI := d_B_partWeight_49) (hi := rfl) (hl := rfl) ?_
                  exact xq_callV (pc := 50) (index := 273) (K := m_Findings_weightOfPart) (As := [xR (alg h 38 x2), xI (sidx (filL h) x1)]) (S := []) (L0 := [xR 40, xR (alg h 38 x2), xI (sidx (filL h) x1)]) (hI := d_B_partWeight_50) (hK := k_Findings_weightOfPart) (hlk := w_1505) (hnoM := rfl) (hS8 := Nat.le_of_ble_eq_true rfl) (ci := 1) (N := 6) (C := "BeaconIndex$Findings") (T := xF1) (hc := rfl) (hci := Nat.le_of_ble_eq_true rfl) (htb := (ft_40 F)) (hinst := w_1506) (hsel := w_1507) (hlen := Nat.le_of_ble_eq_true rfl) (hst := rfl) (hL0 := rfl)  (xwp_mono hyp (fun v9 h9 q9 => xr_drop (L9 := [xZ, xZ, xZ, xZ]) (xdrz (xdrz (xdrz (xdrz xdr0)))) q9) (fun _ _ z9 => z9))
              · replace hyp := hyp.1 q9
                have q46_ := q9
                clear q9
                refine xr_iconst (pc := 27) (hI := d_B_partWeight_27) (hr := by decide) ?_
                refine xr_goto (pc := 28) (tgt := 53) (hI := d_B_partWeight_28) (ht := by decide) ?_
                exact xr_drop (L9 := [xZ, xZ, xZ, xZ]) (xdrz (xdrz (xdrz (xdrz xdr0)))) hyp
            · replace hyp := hyp.2 q9
              have q41_ := q9
              clear q9
              obtain ⟨c7, c8, hyp⟩ := hyp
              exact xr_throw (pc := 18) (k := 2) (ik := 204) (ic := 206) (names := ["java/lang/RuntimeException", "java/lang/Exception"]) (by decide +kernel) (by decide +kernel) (by decide) w_1101 w_32 thr_B_206.1 thr_B_206.2 d_B_checkPart_18 d_B_checkPart_21 d_B_checkPart_22 d_B_checkPart_25 rfl (Nat.le_of_ble_eq_true rfl) (Nat.le_add_left_of_le (by decide)) (Nat.le_of_ble_eq_true rfl) c7 c8 (hyp (xFix.mk F))
      · replace hyp := hyp.2 q9
        have q6_ := q9
        clear q9
        obtain ⟨c7, c8, hyp⟩ := hyp
        exact xr_throw (pc := 10) (k := 0) (ik := 66) (ic := 68) (names := ["java/lang/RuntimeException", "java/lang/Exception"]) (by decide +kernel) (by decide +kernel) (by decide) w_1295 w_21 thr_B_68.1 thr_B_68.2 d_B_checkKey_10 d_B_checkKey_13 d_B_checkKey_14 d_B_checkKey_17 rfl (Nat.le_of_ble_eq_true rfl) (Nat.le_add_left_of_le (by decide)) (Nat.le_of_ble_eq_true rfl) c7 c8 (hyp (xFix.mk F))
  · replace hyp := hyp.1 (b2i_1.mp q9)
    have q4_ := b2i_1.mp q9
    clear q9
    obtain ⟨c7, c8, hyp⟩ := hyp
    exact xr_throw (pc := 10) (k := 1) (ik := 59) (ic := 61) (names := ["java/lang/RuntimeException", "java/lang/Exception"]) (by decide +kernel) (by decide +kernel) (by decide) w_1242 w_20 thr_B_61.1 thr_B_61.2 d_B_checkQuestion_10 d_B_checkQuestion_13 d_B_checkQuestion_14 d_B_checkQuestion_17 rfl (Nat.le_of_ble_eq_true rfl) (Nat.le_add_left_of_le (by decide)) (Nat.le_of_ble_eq_true rfl) c7 c8 (hyp (xFix.mk F))
theorem d_B_partWeight_53 : decode prog_1_method_34_code 53 = .ok (.ireturn, 1) := by decide +kernel
theorem v_B_partWeight_53 {G : XG} {d : Nat} {h : XH} {Q : XV → XH → Prop} {X : Nat → XH → Prop} {s0 : Int} (F : xFix h) (hyp : (Q (xI s0) h)) : xwp G m_B_partWeight (d + 8) 53 [xZ, xZ, xZ, xZ] [xI s0] h Q X := by
  have hnx9 : (93 : Int) ≤ xnx h := F.2.2
  refine xr_okS (fun hs9 => ?_)
  have r_s0 : -2147483648 ≤ s0 ∧ s0 ≤ 2147483647 := hs9 (xI s0) (.head _)
  refine xr_ireturn (S := []) (pc := 53) (hI := d_B_partWeight_53) (hr := rfl) ?_
  exact hyp
abbrev m_B_foundWithout : XM := (⟨"BeaconIndex", "foundWithout", "(I)I"⟩, prog_1_method_35_code, 2, (some .int), [])
theorem d_B_foundWithout_0 : decode prog_1_method_35_code 0 = .ok (.aload_n 0, 1) := by decide +kernel
theorem d_B_foundWithout_1 : decode prog_1_method_35_code 1 = .ok (.invokevirtual 244, 3) := by decide +kernel
theorem d_B_foundWithout_4 : decode prog_1_method_35_code 4 = .ok (.aload_n 0, 1) := by decide +kernel
theorem d_B_foundWithout_5 : decode prog_1_method_35_code 5 = .ok (.iload_n 1, 1) := by decide +kernel
theorem d_B_foundWithout_6 : decode prog_1_method_35_code 6 = .ok (.invokevirtual 268, 3) := by decide +kernel
theorem d_B_foundWithout_9 : decode prog_1_method_35_code 9 = .ok (.aload_n 0, 1) := by decide +kernel
theorem d_B_foundWithout_10 : decode prog_1_method_35_code 10 = .ok (.getfield 40, 3) := by decide +kernel
theorem d_B_foundWithout_13 : decode prog_1_method_35_code 13 = .ok (.iload_n 1, 1) := by decide +kernel
theorem d_B_foundWithout_14 : decode prog_1_method_35_code 14 = .ok (.aload_n 0, 1) := by decide +kernel
theorem d_B_foundWithout_15 : decode prog_1_method_35_code 15 = .ok (.invokevirtual 247, 3) := by decide +kernel
theorem d_B_foundWithout_18 : decode prog_1_method_35_code 18 = .ok (.aload_n 0, 1) := by decide +kernel
theorem d_B_foundWithout_19 : decode prog_1_method_35_code 19 = .ok (.getfield 19, 3) := by decide +kernel
theorem d_B_foundWithout_22 : decode prog_1_method_35_code 22 = .ok (.getfield 96, 3) := by decide +kernel
theorem d_B_foundWithout_25 : decode prog_1_method_35_code 25 = .ok (.invokevirtual 277, 3) := by decide +kernel
theorem k_Findings_countWithout : xCal m_Findings_countWithout 3 := ⟨List.mem_append_right _ (List.mem_of_getElem? (i := 1333) (by decide +kernel)), w_12, Nat.le_of_ble_eq_true rfl, ⟨by decide +kernel, by decide +kernel⟩, by decide +kernel, by decide +kernel, rfl⟩
theorem w_1330 : Cond.methodLink "BeaconIndex" 277 ⟨"BeaconIndex$Findings", "countWithout", "(ILBeaconIndex$Question;Ljava/util/ArrayList;)I"⟩ ∈ lw_tbl := List.mem_append_right _ (List.mem_of_getElem? (i := 1330) (by decide +kernel))
theorem w_1331 : Cond.instanceMethod ⟨"BeaconIndex$Findings", "countWithout", "(ILBeaconIndex$Question;Ljava/util/ArrayList;)I"⟩ ∈ lw_tbl := List.mem_append_right _ (List.mem_of_getElem? (i := 1331) (by decide +kernel))
theorem w_1332 : Cond.selects "BeaconIndex$Findings" ⟨"BeaconIndex$Findings", "countWithout", "(ILBeaconIndex$Question;Ljava/util/ArrayList;)I"⟩ ⟨"BeaconIndex$Findings", "countWithout", "(ILBeaconIndex$Question;Ljava/util/ArrayList;)I"⟩ ∈ lw_tbl := List.mem_append_right _ (List.mem_of_getElem? (i := 1332) (by decide +kernel))
theorem v_B_foundWithout_0 {G : XG} {d : Nat} {h : XH} {Q : XV → XH → Prop} {X : Nat → XH → Prop} {x1 : Int} (F : xFix h) (hyp : xtg h (xpl h 0 6) = 13 ∧ alok h (xpl h 0 6) ∧ ((((decide (als h (xpl h 0 6) = 0)) = true) → xnx h + 1 ≤ xKC ∧ xsl h + 6 ≤ xKS ∧ (xFix (xmk h 300 6 (fun _ => 0)) → X 1 (xmk h 300 6 (fun _ => 0)))) ∧ (¬ ((decide (als h (xpl h 0 6) = 0)) = true) → ((x1 < 0 → xnx h + 1 ≤ xKC ∧ xsl h + 6 ≤ xKS ∧ (xFix (xmk h 300 6 (fun _ => 0)) → X 2 (xmk h 300 6 (fun _ => 0)))) ∧ (¬ x1 < 0 → ((((decide (als h (xpl h 0 6) = 0)) = true) → alok h 38 ∧ ((x1 < (als h 38) → ((((decide (als h (xpl h 0 6) = 0)) = true) → (xwp G m_Findings_countWithout (d + 7) 0 [xR 40, xI x1, xR 37, xR 7, xZ, xZ] [] h (fun v9 h9 => xwp G m_B_foundWithout (d + 8) 28 [xZ, xZ] (xpush v9 []) h9 Q X) X)) ∧ (¬ ((decide (als h (xpl h 0 6) = 0)) = true) → (0 : Int) < als h (xpl h 0 6) ∧ xtg h (alg h (xpl h 0 6) 0) = 5 ∧ (xwp G m_Findings_countWithout (d + 7) 0 [xR 40, xI x1, xR (alg h (xpl h 0 6) 0), xR 7, xZ, xZ] [] h (fun v9 h9 => xwp G m_B_foundWithout (d + 8) 28 [xZ, xZ] (xpush v9 []) h9 Q X) X)))) ∧ (¬ x1 < (als h 38) → xnx h + 1 ≤ xKC ∧ xsl h + 6 ≤ xKS ∧ (xFix (xmk h 300 6 (fun _ => 0)) → X 2 (xmk h 300 6 (fun _ => 0)))))) ∧ (¬ ((decide (als h (xpl h 0 6) = 0)) = true) → (0 : Int) < als h (xpl h 0 6) ∧ xtg h (alg h (xpl h 0 6) 0) = 5 ∧ xtg h (xpl h (alg h (xpl h 0 6) 0) 0) = 13 ∧ alok h (xpl h (alg h (xpl h 0 6) 0) 0) ∧ ((x1 < (als h (xpl h (alg h (xpl h 0 6) 0) 0)) → ((((decide (als h (xpl h 0 6) = 0)) = true) → (xwp G m_Findings_countWithout (d + 7) 0 [xR 40, xI x1, xR 37, xR 7, xZ, xZ] [] h (fun v9 h9 => xwp G m_B_foundWithout (d + 8) 28 [xZ, xZ] (xpush v9 []) h9 Q X) X)) ∧ (¬ ((decide (als h (xpl h 0 6) = 0)) = true) → (0 : Int) < als h (xpl h 0 6) ∧ (xwp G m_Findings_countWithout (d + 7) 0 [xR 40, xI x1, xR (alg h (xpl h 0 6) 0), xR 7, xZ, xZ] [] h (fun v9 h9 => xwp G m_B_foundWithout (d + 8) 28 [xZ, xZ] (xpush v9 []) h9 Q X) X)))) ∧ (¬ x1 < (als h (xpl h (alg h (xpl h 0 6) 0) 0)) → xnx h + 1 ≤ xKC ∧ xsl h + 6 ≤ xKS ∧ (xFix (xmk h 300 6 (fun _ => 0)) → X 2 (xmk h 300 6 (fun _ => 0)))))))))))) : xwp G m_B_foundWithout (d + 8) 0 [xR 0, xI x1] [] h Q X := by
  have hnx9 : (93 : Int) ≤ xnx h := F.2.2
  refine xr_okL (fun hl9 => ?_)
  have r_x1 : -2147483648 ≤ x1 ∧ x1 ≤ 2147483647 := hl9 (xI x1) (.tail _ (.head _)) (Nat.le_of_ble_eq_true rfl)
  refine xr_aload_n (pc := 0) (i := 0) (hI := d_B_foundWithout_0) (hi := rfl) (hl := rfl) ?_
  refine xq_callV (pc := 1) (index := 244) (K := m_B_checkQuestion) (As := []) (S := []) (L0 := [xR 0]) (hI := d_B_foundWithout_1) (hK := k_B_checkQuestion) (hlk := w_1238) (hnoM := rfl) (hS8 := Nat.le_of_ble_eq_true rfl) (ci := 0) (N := 7) (C := "BeaconIndex") (T := xF0) (hc := rfl) (hci := Nat.le_of_ble_eq_true rfl) (htb := (ft_0 F)) (hinst := w_1240) (hsel := sel_B_checkQuestion) (hlen := Nat.le_of_ble_eq_true rfl) (hst := rfl) (hL0 := rfl)  ?_
  refine xr_aload_n (pc := 0) (i := 0) (hI := d_B_checkQuestion_0) (hi := rfl) (hl := rfl) ?_
  refine xg_getf (pc := 1) (ci := 0) (k := 6) (N := 7) (v9 := 2) (v := (xpl h 0 6)) (T := xF0) (hI := d_B_checkQuestion_1) (hw := w_436) rfl xi0 (Or.inl rfl) (Nat.le_of_ble_eq_true rfl) (Nat.le_of_ble_eq_true rfl) rfl (ft_0 F) rfl (fun f1_ => ?_)
  clear f1_
  obtain ⟨c9, hyp⟩ := hyp
  have t2_ := c9
  clear c9
  obtain ⟨c3_, hyp⟩ := hyp
  refine xq_callV (pc := 4) (index := 315) (K := m_ArrayList_isEmpty) (As := []) (S := []) (L0 := [xR (xpl h 0 6)]) (hI := d_B_checkQuestion_4) (hK := k_ArrayList_isEmpty) (hlk := w_1229) (hnoM := rfl) (hS8 := Nat.le_of_ble_eq_true rfl) (ci := 13) (N := 3) (C := "java/util/ArrayList") (T := xF13) (hc := rfl) (hci := Nat.le_of_ble_eq_true rfl) (htb := t2_) (hinst := w_461) (hsel := w_462) (hlen := Nat.le_of_ble_eq_true rfl) (hst := rfl) (hL0 := rfl)  (p_AL_isEmpty F c3_ ?_)
  show xwp G m_B_checkQuestion (d + 7) 7 [xR 0] [xI (b2i (decide (als h (xpl h 0 6) = 0)))] _ _ _
  refine xr_if_eq (pc := 7) (tgt := 18) (hI := d_B_checkQuestion_7) (ht := by decide) (fun q9 => ?_) (fun q9 => ?_)
  · replace hyp := hyp.2 (b2i_0.mp q9)
    have q4_ := b2i_0.mp q9
    clear q9
    refine xr_return (S := []) (pc := 18) (hI := d_B_checkQuestion_18) (hr := rfl) ?_
    show xwp G m_B_foundWithout (d + 8) 4 [xR 0, xI x1] [] _ _ _
    refine xr_aload_n (pc := 4) (i := 0) (hI := d_B_foundWithout_4) (hi := rfl) (hl := rfl) ?_
    refine xr_iload_n (pc := 5) (i := 1) (hI := d_B_foundWithout_5) (hi := rfl) (hl := rfl) ?_
    refine xq_callV (pc := 6) (index := 268) (K := m_B_checkPart) (As := [xI x1]) (S := []) (L0 := [xR 0, xI x1]) (hI := d_B_foundWithout_6) (hK := k_B_checkPart) (hlk := w_1326) (hnoM := rfl) (hS8 := Nat.le_of_ble_eq_true rfl) (ci := 0) (N := 7) (C := "BeaconIndex") (T := xF0) (hc := rfl) (hci := Nat.le_of_ble_eq_true rfl) (htb := (ft_0 F)) (hinst := w_1328) (hsel := sel_B_checkPart) (hlen := Nat.le_of_ble_eq_true rfl) (hst := rfl) (hL0 := rfl)  ?_
    refine xr_iload_n (pc := 0) (i := 1) (hI := d_B_checkPart_0) (hi := rfl) (hl := rfl) ?_
    refine xr_if_lt (pc := 1) (tgt := 18) (hI := d_B_checkPart_1) (ht := by decide) (fun q9 => ?_) (fun q9 => ?_)
    · replace hyp := hyp.1 q9
      have q5_ := q9
      clear q9
      obtain ⟨c7, c8, hyp⟩ := hyp
      exact xr_throw (pc := 18) (k := 2) (ik := 204) (ic := 206) (names := ["java/lang/RuntimeException", "java/lang/Exception"]) (by decide +kernel) (by decide +kernel) (by decide) w_1101 w_32 thr_B_206.1 thr_B_206.2 d_B_checkPart_18 d_B_checkPart_21 d_B_checkPart_22 d_B_checkPart_25 rfl (Nat.le_of_ble_eq_true rfl) (Nat.le_add_left_of_le (by decide)) (Nat.le_of_ble_eq_true rfl) c7 c8 (hyp (xFix.mk F))
    · replace hyp := hyp.2 q9
      have q5_ := q9
      clear q9
      refine xr_iload_n (pc := 4) (i := 1) (hI := d_B_checkPart_4) (hi := rfl) (hl := rfl) ?_
      refine xr_aload_n (pc := 5) (i := 0) (hI := d_B_checkPart_5) (hi := rfl) (hl := rfl) ?_
      refine xq_callV (pc := 6) (index := 247) (K := m_B_question) (As := []) (S := [xI x1]) (L0 := [xR 0]) (hI := d_B_checkPart_6) (hK := k_B_question) (hlk := w_1257) (hnoM := rfl) (hS8 := Nat.le_of_ble_eq_true rfl) (ci := 0) (N := 7) (C := "BeaconIndex") (T := xF0) (hc := rfl) (hci := Nat.le_of_ble_eq_true rfl) (htb := (ft_0 F)) (hinst := w_1259) (hsel := sel_B_question) (hlen := Nat.le_of_ble_eq_true rfl) (hst := rfl) (hL0 := rfl)  ?_
      refine xr_aload_n (pc := 0) (i := 0) (hI := d_B_question_0) (hi := rfl) (hl := rfl) ?_
      refine xg_getf (pc := 1) (ci := 0) (k := 6) (N := 7) (v9 := 2) (v := (xpl h 0 6)) (T := xF0) (hI := d_B_question_1) (hw := w_436) rfl xi0 (Or.inl rfl) (Nat.le_of_ble_eq_true rfl) (Nat.le_of_ble_eq_true rfl) rfl (ft_0 F) rfl (fun f6_ => ?_)
      clear f6_
      refine xq_callV (pc := 4) (index := 315) (K := m_ArrayList_isEmpty) (As := []) (S := []) (L0 := [xR (xpl h 0 6)]) (hI := d_B_question_4) (hK := k_ArrayList_isEmpty) (hlk := w_1229) (hnoM := rfl) (hS8 := Nat.le_of_ble_eq_true rfl) (ci := 13) (N := 3) (C := "java/util/ArrayList") (T := xF13) (hc := rfl) (hci := Nat.le_of_ble_eq_true rfl) (htb := t2_) (hinst := w_461) (hsel := w_462) (hlen := Nat.le_of_ble_eq_true rfl) (hst := rfl) (hL0 := rfl)  (p_AL_isEmpty F c3_ ?_)
      show xwp G m_B_question (d + 6) 7 [xR 0] [xI (b2i (decide (als h (xpl h 0 6) = 0)))] _ _ _
      refine xr_if_eq (pc := 7) (tgt := 20) (hI := d_B_question_7) (ht := by decide) (fun q9 => ?_) (fun q9 => ?_)
      · replace hyp := hyp.2 (b2i_0.mp q9)
        have q7_ := b2i_0.mp q9
        clear q9
        refine xr_aload_n (pc := 20) (i := 0) (hI := d_B_question_20) (hi := rfl) (hl := rfl) ?_
        refine xg_getf (pc := 21) (ci := 0) (k := 6) (N := 7) (v9 := 2) (v := (xpl h 0 6)) (T := xF0) (hI := d_B_question_21) (hw := w_436) rfl xi0 (Or.inl rfl) (Nat.le_of_ble_eq_true rfl) (Nat.le_of_ble_eq_true rfl) rfl (ft_0 F) rfl (fun f8_ => ?_)
        clear f8_
        refine xr_iconst (pc := 24) (hI := d_B_question_24) (hr := by decide) ?_
        obtain ⟨c9_, hyp⟩ := hyp
        refine xq_callV (pc := 25) (index := 184) (K := m_ArrayList_get) (As := [xI 0]) (S := []) (L0 := [xR (xpl h 0 6), xI 0]) (hI := d_B_question_25) (hK := k_ArrayList_get) (hlk := w_1261) (hnoM := rfl) (hS8 := Nat.le_of_ble_eq_true rfl) (ci := 13) (N := 3) (C := "java/util/ArrayList") (T := xF13) (hc := rfl) (hci := Nat.le_of_ble_eq_true rfl) (htb := t2_) (hinst := w_469) (hsel := w_470) (hlen := Nat.le_of_ble_eq_true rfl) (hst := rfl) (hL0 := rfl)  (p_AL_get F c3_ (by decide) c9_ ?_)
        show xwp G m_B_question (d + 6) 28 [xR 0] [xR (alg h (xpl h 0 6) 0)] _ _ _
        obtain ⟨c9, hyp⟩ := hyp
        have t10_ := c9
        clear c9
        refine xr_cast (pc := 28) (ci := 5) (T := xF5) (N := 5) (hI := d_B_question_28) w_1262 rfl (Nat.le_of_ble_eq_true rfl) t10_ ?_
        refine xr_areturn (S := []) (pc := 31) (hI := d_B_question_31) (hr := rfl) (hrt := Or.inl ⟨_, rfl⟩) ?_
        show xwp G m_B_checkPart (d + 7) 9 [xR 0, xI x1] [xR (alg h (xpl h 0 6) 0), xI x1] _ _ _
        refine xg_getf (pc := 9) (ci := 5) (k := 0) (N := 5) (v9 := 2) (v := (xpl h (alg h (xpl h 0 6) 0) 0)) (T := xF5) (hI := d_B_checkPart_9) (hw := w_290) rfl xi5 (Or.inl rfl) (Nat.le_of_ble_eq_true rfl) (Nat.le_of_ble_eq_true rfl) rfl t10_ rfl (fun f11_ => ?_)
        clear f11_
        obtain ⟨c9, hyp⟩ := hyp
        have t12_ := c9
        clear c9
        obtain ⟨c13_, hyp⟩ := hyp
        refine xq_callV (pc := 12) (index := 128) (K := m_ArrayList_size) (As := []) (S := [xI x1]) (L0 := [xR (xpl h (alg h (xpl h 0 6) 0) 0)]) (hI := d_B_checkPart_12) (hK := k_ArrayList_size) (hlk := w_774) (hnoM := rfl) (hS8 := Nat.le_of_ble_eq_true rfl) (ci := 13) (N := 3) (C := "java/util/ArrayList") (T := xF13) (hc := rfl) (hci := Nat.le_of_ble_eq_true rfl) (htb := t12_) (hinst := w_465) (hsel := w_466) (hlen := Nat.le_of_ble_eq_true rfl) (hst := rfl) (hL0 := rfl)  (p_AL_size F c13_ ?_)
        show xwp G m_B_checkPart (d + 7) 15 [xR 0, xI x1] [xI (als h (xpl h (alg h (xpl h 0 6) 0) 0)), xI x1] _ _ _
        have f14_ : 0 ≤ (als h (xpl h (alg h (xpl h 0 6) 0) 0)) ∧ (als h (xpl h (alg h (xpl h 0 6) 0) 0)) ≤ 1000000 := ⟨c13_.2.2.1, c13_.2.2.2.2⟩
        refine xr_icmp_lt (pc := 15) (tgt := 26) (hI := d_B_checkPart_15) (ht := by decide) (fun q9 => ?_) (fun q9 => ?_)
        · replace hyp := hyp.1 q9
          have q15_ := q9
          clear q9
          refine xr_return (S := []) (pc := 26) (hI := d_B_checkPart_26) (hr := rfl) ?_
          show xwp G m_B_foundWithout (d + 8) 9 [xR 0, xI x1] [] _ _ _
          refine xr_aload_n (pc := 9) (i := 0) (hI := d_B_foundWithout_9) (hi := rfl) (hl := rfl) ?_
          refine xg_getf (pc := 10) (ci := 0) (k := 4) (N := 7) (v9 := 2) (v := 40) (T := xF0) (hI := d_B_foundWithout_10) (hw := w_434) rfl xi0 (Or.inl rfl) (Nat.le_of_ble_eq_true rfl) (Nat.le_of_ble_eq_true rfl) rfl (ft_0 F) (fp_0_4 F) (fun f16_ => ?_)
          clear f16_
          refine xr_iload_n (pc := 13) (i := 1) (hI := d_B_foundWithout_13) (hi := rfl) (hl := rfl) ?_
          refine xr_aload_n (pc := 14) (i := 0) (hI := d_B_foundWithout_14) (hi := rfl) (hl := rfl) ?_
          refine xq_callV (pc := 15) (index := 247) (K := m_B_question) (As := []) (S := [xI x1, xR 40]) (L0 := [xR 0]) (hI := d_B_foundWithout_15) (hK := k_B_question) (hlk := w_1257) (hnoM := rfl) (hS8 := Nat.le_of_ble_eq_true rfl) (ci := 0) (N := 7) (C := "BeaconIndex") (T := xF0) (hc := rfl) (hci := Nat.le_of_ble_eq_true rfl) (htb := (ft_0 F)) (hinst := w_1259) (hsel := sel_B_question) (hlen := Nat.le_of_ble_eq_true rfl) (hst := rfl) (hL0 := rfl)  ?_
          refine xr_aload_n (pc := 0) (i := 0) (hI := d_B_question_0) (hi := rfl) (hl := rfl) ?_
          refine xg_getf (pc := 1) (ci := 0) (k := 6) (N := 7) (v9 := 2) (v := (xpl h 0 6)) (T := xF0) (hI := d_B_question_1) (hw := w_436) rfl xi0 (Or.inl rfl) (Nat.le_of_ble_eq_true rfl) (Nat.le_of_ble_eq_true rfl) rfl (ft_0 F) rfl (fun f17_ => ?_)
          clear f17_
          refine xq_callV (pc := 4) (index := 315) (K := m_ArrayList_isEmpty) (As := []) (S := []) (L0 := [xR (xpl h 0 6)]) (hI := d_B_question_4) (hK := k_ArrayList_isEmpty) (hlk := w_1229) (hnoM := rfl) (hS8 := Nat.le_of_ble_eq_true rfl) (ci := 13) (N := 3) (C := "java/util/ArrayList") (T := xF13) (hc := rfl) (hci := Nat.le_of_ble_eq_true rfl) (htb := t2_) (hinst := w_461) (hsel := w_462) (hlen := Nat.le_of_ble_eq_true rfl) (hst := rfl) (hL0 := rfl)  (p_AL_isEmpty F c3_ ?_)
          show xwp G m_B_question (d + 7) 7 [xR 0] [xI (b2i (decide (als h (xpl h 0 6) = 0)))] _ _ _
          refine xr_if_eq (pc := 7) (tgt := 20) (hI := d_B_question_7) (ht := by decide) (fun q9 => ?_) (fun q9 => ?_)
          · replace hyp := hyp.2 (b2i_0.mp q9)
            have q18_ := b2i_0.mp q9
            clear q9
            refine xr_aload_n (pc := 20) (i := 0) (hI := d_B_question_20) (hi := rfl) (hl := rfl) ?_
            refine xg_getf (pc := 21) (ci := 0) (k := 6) (N := 7) (v9 := 2) (v := (xpl h 0 6)) (T := xF0) (hI := d_B_question_21) (hw := w_436) rfl xi0 (Or.inl rfl) (Nat.le_of_ble_eq_true rfl) (Nat.le_of_ble_eq_true rfl) rfl (ft_0 F) rfl (fun f19_ => ?_)
            clear f19_
            refine xr_iconst (pc := 24) (hI := d_B_question_24) (hr := by decide) ?_
            obtain ⟨c20_, hyp⟩ := hyp
            refine xq_callV (pc := 25) (index := 184) (K := m_ArrayList_get) (As := [xI 0]) (S := []) (L0 := [xR (xpl h 0 6), xI 0]) (hI := d_B_question_25) (hK := k_ArrayList_get) (hlk := w_1261) (hnoM := rfl) (hS8 := Nat.le_of_ble_eq_true rfl) (ci := 13) (N := 3) (C := "java/util/ArrayList") (T := xF13) (hc := rfl) (hci := Nat.le_of_ble_eq_true rfl) (htb := t2_) (hinst := w_469) (hsel := w_470) (hlen := Nat.le_of_ble_eq_true rfl) (hst := rfl) (hL0 := rfl)  (p_AL_get F c3_ (by decide) c20_ ?_)
            show xwp G m_B_question (d + 7) 28 [xR 0] [xR (alg h (xpl h 0 6) 0)] _ _ _
            refine xr_cast (pc := 28) (ci := 5) (T := xF5) (N := 5) (hI := d_B_question_28) w_1262 rfl (Nat.le_of_ble_eq_true rfl) t10_ ?_
            refine xr_areturn (S := []) (pc := 31) (hI := d_B_question_31) (hr := rfl) (hrt := Or.inl ⟨_, rfl⟩) ?_
            show xwp G m_B_foundWithout (d + 8) 18 [xR 0, xI x1] [xR (alg h (xpl h 0 6) 0), xI x1, xR 40] _ _ _
            refine xr_aload_n (pc := 18) (i := 0) (hI := d_B_foundWithout_18) (hi := rfl) (hl := rfl) ?_
            refine xg_getf (pc := 19) (ci := 0) (k := 1) (N := 7) (v9 := 2) (v := 5) (T := xF0) (hI := d_B_foundWithout_19) (hw := w_431) rfl xi0 (Or.inl rfl) (Nat.le_of_ble_eq_true rfl) (Nat.le_of_ble_eq_true rfl) rfl (ft_0 F) (fp_0_1 F) (fun f21_ => ?_)
            clear f21_
            refine xg_getf (pc := 22) (ci := 7) (k := 1) (N := 6) (v9 := 2) (v := 7) (T := xF7) (hI := d_B_foundWithout_22) (hw := w_151) rfl xi7 (Or.inl rfl) (Nat.le_of_ble_eq_true rfl) (Nat.le_of_ble_eq_true rfl) rfl (ft_5 F) (fp_5_1 F) (fun f22_ => ?_)
            clear f22_
            exact xq_callV (pc := 25) (index := 277) (K := m_Findings_countWithout) (As := [xI x1, xR (alg h (xpl h 0 6) 0), xR 7]) (S := []) (L0 := [xR 40, xI x1, xR (alg h (xpl h 0 6) 0), xR 7, xZ, xZ]) (hI := d_B_foundWithout_25) (hK := k_Findings_countWithout) (hlk := w_1330) (hnoM := rfl) (hS8 := Nat.le_of_ble_eq_true rfl) (ci := 1) (N := 6) (C := "BeaconIndex$Findings") (T := xF1) (hc := rfl) (hci := Nat.le_of_ble_eq_true rfl) (htb := (ft_40 F)) (hinst := w_1331) (hsel := w_1332) (hlen := Nat.le_of_ble_eq_true rfl) (hst := rfl) (hL0 := rfl)  (xwp_mono hyp (fun v9 h9 q9 => xr_drop (L9 := [xZ, xZ]) (xdrz (xdrz xdr0)) q9) (fun _ _ z9 => z9))
          · replace hyp := hyp.1 (b2i_1.mp q9)
            have q18_ := b2i_1.mp q9
            clear q9
            refine xr_aload_n (pc := 10) (i := 0) (hI := d_B_question_10) (hi := rfl) (hl := rfl) ?_
            refine xg_getf (pc := 11) (ci := 0) (k := 3) (N := 7) (v9 := 2) (v := 32) (T := xF0) (hI := d_B_question_11) (hw := w_433) rfl xi0 (Or.inl rfl) (Nat.le_of_ble_eq_true rfl) (Nat.le_of_ble_eq_true rfl) rfl (ft_0 F) (fp_0_3 F) (fun f23_ => ?_)
            clear f23_
            refine xg_getf (pc := 14) (ci := 6) (k := 4) (N := 15) (v9 := 2) (v := 37) (T := xF6) (hI := d_B_question_14) (hw := w_311) rfl xi6 (Or.inl rfl) (Nat.le_of_ble_eq_true rfl) (Nat.le_of_ble_eq_true rfl) rfl (ft_32 F) (fp_32_4 F) (fun f24_ => ?_)
            clear f24_
            refine xr_goto (pc := 17) (tgt := 31) (hI := d_B_question_17) (ht := by decide) ?_
            refine xr_areturn (S := []) (pc := 31) (hI := d_B_question_31) (hr := rfl) (hrt := Or.inl ⟨_, rfl⟩) ?_
            show xwp G m_B_foundWithout (d + 8) 18 [xR 0, xI x1] [xR 37, xI x1, xR 40] _ _ _
            refine xr_aload_n (pc := 18) (i := 0) (hI := d_B_foundWithout_18) (hi := rfl) (hl := rfl) ?_
            refine xg_getf (pc := 19) (ci := 0) (k := 1) (N := 7) (v9 := 2) (v := 5) (T := xF0) (hI := d_B_foundWithout_19) (hw := w_431) rfl xi0 (Or.inl rfl) (Nat.le_of_ble_eq_true rfl) (Nat.le_of_ble_eq_true rfl) rfl (ft_0 F) (fp_0_1 F) (fun f25_ => ?_)
            clear f25_
            refine xg_getf (pc := 22) (ci := 7) (k := 1) (N := 6) (v9 := 2) (v := 7) (T := xF7) (hI := d_B_foundWithout_22) (hw := w_151) rfl xi7 (Or.inl rfl) (Nat.le_of_ble_eq_true rfl) (Nat.le_of_ble_eq_true rfl) rfl (ft_5 F) (fp_5_1 F) (fun f26_ => ?_)
            clear f26_
            exact xq_callV (pc := 25) (index := 277) (K := m_Findings_countWithout) (As := [xI x1, xR 37, xR 7]) (S := []) (L0 := [xR 40, xI x1, xR 37, xR 7, xZ, xZ]) (hI := d_B_foundWithout_25) (hK := k_Findings_countWithout) (hlk := w_1330) (hnoM := rfl) (hS8 := Nat.le_of_ble_eq_true rfl) (ci := 1) (N := 6) (C := "BeaconIndex$Findings") (T := xF1) (hc := rfl) (hci := Nat.le_of_ble_eq_true rfl) (htb := (ft_40 F)) (hinst := w_1331) (hsel := w_1332) (hlen := Nat.le_of_ble_eq_true rfl) (hst := rfl) (hL0 := rfl)  (xwp_mono hyp (fun v9 h9 q9 => xr_drop (L9 := [xZ, xZ]) (xdrz (xdrz xdr0)) q9) (fun _ _ z9 => z9))
        · replace hyp := hyp.2 q9
          have q15_ := q9
          clear q9
          obtain ⟨c7, c8, hyp⟩ := hyp
          exact xr_throw (pc := 18) (k := 2) (ik := 204) (ic := 206) (names := ["java/lang/RuntimeException", "java/lang/Exception"]) (by decide +kernel) (by decide +kernel) (by decide) w_1101 w_32 thr_B_206.1 thr_B_206.2 d_B_checkPart_18 d_B_checkPart_21 d_B_checkPart_22 d_B_checkPart_25 rfl (Nat.le_of_ble_eq_true rfl) (Nat.le_add_left_of_le (by decide)) (Nat.le_of_ble_eq_true rfl) c7 c8 (hyp (xFix.mk F))
      · replace hyp := hyp.1 (b2i_1.mp q9)
        have q7_ := b2i_1.mp q9
        clear q9
        refine xr_aload_n (pc := 10) (i := 0) (hI := d_B_question_10) (hi := rfl) (hl := rfl) ?_
        refine xg_getf (pc := 11) (ci := 0) (k := 3) (N := 7) (v9 := 2) (v := 32) (T := xF0) (hI := d_B_question_11) (hw := w_433) rfl xi0 (Or.inl rfl) (Nat.le_of_ble_eq_true rfl) (Nat.le_of_ble_eq_true rfl) rfl (ft_0 F) (fp_0_3 F) (fun f27_ => ?_)
        clear f27_
        refine xg_getf (pc := 14) (ci := 6) (k := 4) (N := 15) (v9 := 2) (v := 37) (T := xF6) (hI := d_B_question_14) (hw := w_311) rfl xi6 (Or.inl rfl) (Nat.le_of_ble_eq_true rfl) (Nat.le_of_ble_eq_true rfl) rfl (ft_32 F) (fp_32_4 F) (fun f28_ => ?_)
        clear f28_
        refine xr_goto (pc := 17) (tgt := 31) (hI := d_B_question_17) (ht := by decide) ?_
        refine xr_areturn (S := []) (pc := 31) (hI := d_B_question_31) (hr := rfl) (hrt := Or.inl ⟨_, rfl⟩) ?_
        show xwp G m_B_checkPart (d + 7) 9 [xR 0, xI x1] [xR 37, xI x1] _ _ _
        refine xg_getf (pc := 9) (ci := 5) (k := 0) (N := 5) (v9 := 2) (v := 38) (T := xF5) (hI := d_B_checkPart_9) (hw := w_290) rfl xi5 (Or.inl rfl) (Nat.le_of_ble_eq_true rfl) (Nat.le_of_ble_eq_true rfl) rfl (ft_37 F) (fp_37_0 F) (fun f29_ => ?_)
        clear f29_
        obtain ⟨c30_, hyp⟩ := hyp
        refine xq_callV (pc := 12) (index := 128) (K := m_ArrayList_size) (As := []) (S := [xI x1]) (L0 := [xR 38]) (hI := d_B_checkPart_12) (hK := k_ArrayList_size) (hlk := w_774) (hnoM := rfl) (hS8 := Nat.le_of_ble_eq_true rfl) (ci := 13) (N := 3) (C := "java/util/ArrayList") (T := xF13) (hc := rfl) (hci := Nat.le_of_ble_eq_true rfl) (htb := (ft_38 F)) (hinst := w_465) (hsel := w_466) (hlen := Nat.le_of_ble_eq_true rfl) (hst := rfl) (hL0 := rfl)  (p_AL_size F c30_ ?_)
        show xwp G m_B_checkPart (d + 7) 15 [xR 0, xI x1] [xI (als h 38), xI x1] _ _ _
        have f31_ : 0 ≤ (als h 38) ∧ (als h 38) ≤ 1000000 := ⟨c30_.2.2.1, c30_.2.2.2.2⟩
        refine xr_icmp_lt (pc := 15) (tgt := 26) (hI := d_B_checkPart_15) (ht := by decide) (fun q9 => ?_) (fun q9 => ?_)
        · replace hyp := hyp.1 q9
          have q32_ := q9
          clear q9
          refine xr_return (S := []) (pc := 26) (hI := d_B_checkPart_26) (hr := rfl) ?_
          show xwp G m_B_foundWithout (d + 8) 9 [xR 0, xI x1] [] _ _ _
          refine xr_aload_n (pc := 9) (i := 0) (hI := d_B_foundWithout_9) (hi := rfl) (hl := rfl) ?_
          refine xg_getf (pc := 10) (ci := 0) (k := 4) (N := 7) (v9 := 2) (v := 40) (T := xF0) (hI := d_B_foundWithout_10) (hw := w_434) rfl xi0 (Or.inl rfl) (Nat.le_of_ble_eq_true rfl) (Nat.le_of_ble_eq_true rfl) rfl (ft_0 F) (fp_0_4 F) (fun f33_ => ?_)
          clear f33_
          refine xr_iload_n (pc := 13) (i := 1) (hI := d_B_foundWithout_13) (hi := rfl) (hl := rfl) ?_
          refine xr_aload_n (pc := 14) (i := 0) (hI := d_B_foundWithout_14) (hi := rfl) (hl := rfl) ?_
          refine xq_callV (pc := 15) (index := 247) (K := m_B_question) (As := []) (S := [xI x1, xR 40]) (L0 := [xR 0]) (hI := d_B_foundWithout_15) (hK := k_B_question) (hlk := w_1257) (hnoM := rfl) (hS8 := Nat.le_of_ble_eq_true rfl) (ci := 0) (N := 7) (C := "BeaconIndex") (T := xF0) (hc := rfl) (hci := Nat.le_of_ble_eq_true rfl) (htb := (ft_0 F)) (hinst := w_1259) (hsel := sel_B_question) (hlen := Nat.le_of_ble_eq_true rfl) (hst := rfl) (hL0 := rfl)  ?_
          refine xr_aload_n (pc := 0) (i := 0) (hI := d_B_question_0) (hi := rfl) (hl := rfl) ?_
          refine xg_getf (pc := 1) (ci := 0) (k := 6) (N := 7) (v9 := 2) (v := (xpl h 0 6)) (T := xF0) (hI := d_B_question_1) (hw := w_436) rfl xi0 (Or.inl rfl) (Nat.le_of_ble_eq_true rfl) (Nat.le_of_ble_eq_true rfl) rfl (ft_0 F) rfl (fun f34_ => ?_)
          clear f34_
          refine xq_callV (pc := 4) (index := 315) (K := m_ArrayList_isEmpty) (As := []) (S := []) (L0 := [xR (xpl h 0 6)]) (hI := d_B_question_4) (hK := k_ArrayList_isEmpty) (hlk := w_1229) (hnoM := rfl) (hS8 := Nat.le_of_ble_eq_true rfl) (ci := 13) (N := 3) (C := "java/util/ArrayList") (T := xF13) (hc := rfl) (hci := Nat.le_of_ble_eq_true rfl) (htb := t2_) (hinst := w_461) (hsel := w_462) (hlen := Nat.le_of_ble_eq_true rfl) (hst := rfl) (hL0 := rfl)  (p_AL_isEmpty F c3_ ?_)
          show xwp G m_B_question (d + 7) 7 [xR 0] [xI (b2i (decide (als h (xpl h 0 6) = 0)))] _ _ _
          refine xr_if_eq (pc := 7) (tgt := 20) (hI := d_B_question_7) (ht := by decide) (fun q9 => ?_) (fun q9 => ?_)
          · replace hyp := hyp.2 (b2i_0.mp q9)
            have q35_ := b2i_0.mp q9
            clear q9
            refine xr_aload_n (pc := 20) (i := 0) (hI := d_B_question_20) (hi := rfl) (hl := rfl) ?_
            refine xg_getf (pc := 21) (ci := 0) (k := 6) (N := 7) (v9 := 2) (v := (xpl h 0 6)) (T := xF0) (hI := d_B_question_21) (hw := w_436) rfl xi0 (Or.inl rfl) (Nat.le_of_ble_eq_true rfl) (Nat.le_of_ble_eq_true rfl) rfl (ft_0 F) rfl (fun f36_ => ?_)
            clear f36_
            refine xr_iconst (pc := 24) (hI := d_B_question_24) (hr := by decide) ?_
            obtain ⟨c37_, hyp⟩ := hyp
            refine xq_callV (pc := 25) (index := 184) (K := m_ArrayList_get) (As := [xI 0]) (S := []) (L0 := [xR (xpl h 0 6), xI 0]) (hI := d_B_question_25) (hK := k_ArrayList_get) (hlk := w_1261) (hnoM := rfl) (hS8 := Nat.le_of_ble_eq_true rfl) (ci := 13) (N := 3) (C := "java/util/ArrayList") (T := xF13) (hc := rfl) (hci := Nat.le_of_ble_eq_true rfl) (htb := t2_) (hinst := w_469) (hsel := w_470) (hlen := Nat.le_of_ble_eq_true rfl) (hst := rfl) (hL0 := rfl)  (p_AL_get F c3_ (by decide) c37_ ?_)
            show xwp G m_B_question (d + 7) 28 [xR 0] [xR (alg h (xpl h 0 6) 0)] _ _ _
            obtain ⟨c9, hyp⟩ := hyp
            have t38_ := c9
            clear c9
            refine xr_cast (pc := 28) (ci := 5) (T := xF5) (N := 5) (hI := d_B_question_28) w_1262 rfl (Nat.le_of_ble_eq_true rfl) t38_ ?_
            refine xr_areturn (S := []) (pc := 31) (hI := d_B_question_31) (hr := rfl) (hrt := Or.inl ⟨_, rfl⟩) ?_
            show xwp G m_B_foundWithout (d + 8) 18 [xR 0, xI x1] [xR (alg h (xpl h 0 6) 0), xI x1, xR 40] _ _ _
            refine xr_aload_n (pc := 18) (i := 0) (hI := d_B_foundWithout_18) (hi := rfl) (hl := rfl) ?_
            refine xg_getf (pc := 19) (ci := 0) (k := 1) (N := 7) (v9 := 2) (v := 5) (T := xF0) (hI := d_B_foundWithout_19) (hw := w_431) rfl xi0 (Or.inl rfl) (Nat.le_of_ble_eq_true rfl) (Nat.le_of_ble_eq_true rfl) rfl (ft_0 F) (fp_0_1 F) (fun f39_ => ?_)
            clear f39_
            refine xg_getf (pc := 22) (ci := 7) (k := 1) (N := 6) (v9 := 2) (v := 7) (T := xF7) (hI := d_B_foundWithout_22) (hw := w_151) rfl xi7 (Or.inl rfl) (Nat.le_of_ble_eq_true rfl) (Nat.le_of_ble_eq_true rfl) rfl (ft_5 F) (fp_5_1 F) (fun f40_ => ?_)
            clear f40_
            exact xq_callV (pc := 25) (index := 277) (K := m_Findings_countWithout) (As := [xI x1, xR (alg h (xpl h 0 6) 0), xR 7]) (S := []) (L0 := [xR 40, xI x1, xR (alg h (xpl h 0 6) 0), xR 7, xZ, xZ]) (hI := d_B_foundWithout_25) (hK := k_Findings_countWithout) (hlk := w_1330) (hnoM := rfl) (hS8 := Nat.le_of_ble_eq_true rfl) (ci := 1) (N := 6) (C := "BeaconIndex$Findings") (T := xF1) (hc := rfl) (hci := Nat.le_of_ble_eq_true rfl) (htb := (ft_40 F)) (hinst := w_1331) (hsel := w_1332) (hlen := Nat.le_of_ble_eq_true rfl) (hst := rfl) (hL0 := rfl)  (xwp_mono hyp (fun v9 h9 q9 => xr_drop (L9 := [xZ, xZ]) (xdrz (xdrz xdr0)) q9) (fun _ _ z9 => z9))
          · replace hyp := hyp.1 (b2i_1.mp q9)
            have q35_ := b2i_1.mp q9
            clear q9
            refine xr_aload_n (pc := 10) (i := 0) (hI := d_B_question_10) (hi := rfl) (hl := rfl) ?_
            refine xg_getf (pc := 11) (ci := 0) (k := 3) (N := 7) (v9 := 2) (v := 32) (T := xF0) (hI := d_B_question_11) (hw := w_433) rfl xi0 (Or.inl rfl) (Nat.le_of_ble_eq_true rfl) (Nat.le_of_ble_eq_true rfl) rfl (ft_0 F) (fp_0_3 F) (fun f41_ => ?_)
            clear f41_
            refine xg_getf (pc := 14) (ci := 6) (k := 4) (N := 15) (v9 := 2) (v := 37) (T := xF6) (hI := d_B_question_14) (hw := w_311) rfl xi6 (Or.inl rfl) (Nat.le_of_ble_eq_true rfl) (Nat.le_of_ble_eq_true rfl) rfl (ft_32 F) (fp_32_4 F) (fun f42_ => ?_)
            clear f42_
            refine xr_goto (pc := 17) (tgt := 31) (hI := d_B_question_17) (ht := by decide) ?_
            refine xr_areturn (S := []) (pc := 31) (hI := d_B_question_31) (hr := rfl) (hrt := Or.inl ⟨_, rfl⟩) ?_
            show xwp G m_B_foundWithout (d + 8) 18 [xR 0, xI x1] [xR 37, xI x1, xR 40] _ _ _
            refine xr_aload_n (pc := 18) (i := 0) (hI := d_B_foundWithout_18) (hi := rfl) (hl := rfl) ?_
            refine xg_getf (pc := 19) (ci := 0) (k := 1) (N := 7) (v9 := 2) (v := 5) (T := xF0) (hI := d_B_foundWithout_19) (hw := w_431) rfl xi0 (Or.inl rfl) (Nat.le_of_ble_eq_true rfl) (Nat.le_of_ble_eq_true rfl) rfl (ft_0 F) (fp_0_1 F) (fun f43_ => ?_)
            clear f43_
            refine xg_getf (pc := 22) (ci := 7) (k := 1) (N := 6) (v9 := 2) (v := 7) (T := xF7) (hI := d_B_foundWithout_22) (hw := w_151) rfl xi7 (Or.inl rfl) (Nat.le_of_ble_eq_true rfl) (Nat.le_of_ble_eq_true rfl) rfl (ft_5 F) (fp_5_1 F) (fun f44_ => ?_)
            clear f44_
            exact xq_callV (pc := 25) (index := 277) (K := m_Findings_countWithout) (As := [xI x1, xR 37, xR 7]) (S := []) (L0 := [xR 40, xI x1, xR 37, xR 7, xZ, xZ]) (hI := d_B_foundWithout_25) (hK := k_Findings_countWithout) (hlk := w_1330) (hnoM := rfl) (hS8 := Nat.le_of_ble_eq_true rfl) (ci := 1) (N := 6) (C := "BeaconIndex$Findings") (T := xF1) (hc := rfl) (hci := Nat.le_of_ble_eq_true rfl) (htb := (ft_40 F)) (hinst := w_1331) (hsel := w_1332) (hlen := Nat.le_of_ble_eq_true rfl) (hst := rfl) (hL0 := rfl)  (xwp_mono hyp (fun v9 h9 q9 => xr_drop (L9 := [xZ, xZ]) (xdrz (xdrz xdr0)) q9) (fun _ _ z9 => z9))
        · replace hyp := hyp.2 q9
          have q32_ := q9
          clear q9
          obtain ⟨c7, c8, hyp⟩ := hyp
          exact xr_throw (pc := 18) (k := 2) (ik := 204) (ic := 206) (names := ["java/lang/RuntimeException", "java/lang/Exception"]) (by decide +kernel) (by decide +kernel) (by decide) w_1101 w_32 thr_B_206.1 thr_B_206.2 d_B_checkPart_18 d_B_checkPart_21 d_B_checkPart_22 d_B_checkPart_25 rfl (Nat.le_of_ble_eq_true rfl) (Nat.le_add_left_of_le (by decide)) (Nat.le_of_ble_eq_true rfl) c7 c8 (hyp (xFix.mk F))
  · replace hyp := hyp.1 (b2i_1.mp q9)
    have q4_ := b2i_1.mp q9
    clear q9
    obtain ⟨c7, c8, hyp⟩ := hyp
    exact xr_throw (pc := 10) (k := 1) (ik := 59) (ic := 61) (names := ["java/lang/RuntimeException", "java/lang/Exception"]) (by decide +kernel) (by decide +kernel) (by decide) w_1242 w_20 thr_B_61.1 thr_B_61.2 d_B_checkQuestion_10 d_B_checkQuestion_13 d_B_checkQuestion_14 d_B_checkQuestion_17 rfl (Nat.le_of_ble_eq_true rfl) (Nat.le_add_left_of_le (by decide)) (Nat.le_of_ble_eq_true rfl) c7 c8 (hyp (xFix.mk F))
theorem d_B_foundWithout_28 : decode prog_1_method_35_code 28 = .ok (.ireturn, 1) := by decide +kernel
theorem v_B_foundWithout_28 {G : XG} {d : Nat} {h : XH} {Q : XV → XH → Prop} {X : Nat → XH → Prop} {s0 : Int} (F : xFix h) (hyp : (Q (xI s0) h)) : xwp G m_B_foundWithout (d + 8) 28 [xZ, xZ] [xI s0] h Q X := by
  have hnx9 : (93 : Int) ≤ xnx h := F.2.2
  refine xr_okS (fun hs9 => ?_)
  have r_s0 : -2147483648 ≤ s0 ∧ s0 ≤ 2147483647 := hs9 (xI s0) (.head _)
  refine xr_ireturn (S := []) (pc := 28) (hI := d_B_foundWithout_28) (hr := rfl) ?_
  exact hyp
abbrev m_B_firstFit : XM := (⟨"BeaconIndex", "firstFit", "(II)I"⟩, prog_1_method_36_code, 4, (some .int), [])
theorem d_B_firstFit_0 : decode prog_1_method_36_code 0 = .ok (.aload_n 0, 1) := by decide +kernel
theorem d_B_firstFit_1 : decode prog_1_method_36_code 1 = .ok (.invokevirtual 244, 3) := by decide +kernel
theorem d_B_firstFit_4 : decode prog_1_method_36_code 4 = .ok (.iload_n 1, 1) := by decide +kernel
theorem d_B_firstFit_5 : decode prog_1_method_36_code 5 = .ok (.invokestatic 69, 3) := by decide +kernel
theorem d_B_firstFit_8 : decode prog_1_method_36_code 8 = .ok (.iload_n 2, 1) := by decide +kernel
theorem d_B_firstFit_9 : decode prog_1_method_36_code 9 = .ok (.invokestatic 146, 3) := by decide +kernel
theorem d_B_firstFit_12 : decode prog_1_method_36_code 12 = .ok (.aload_n 0, 1) := by decide +kernel
theorem d_B_firstFit_13 : decode prog_1_method_36_code 13 = .ok (.getfield 19, 3) := by decide +kernel
theorem d_B_firstFit_16 : decode prog_1_method_36_code 16 = .ok (.iload_n 1, 1) := by decide +kernel
theorem d_B_firstFit_17 : decode prog_1_method_36_code 17 = .ok (.invokevirtual 113, 3) := by decide +kernel
theorem d_B_firstFit_20 : decode prog_1_method_36_code 20 = .ok (.istore_n 3, 1) := by decide +kernel
theorem d_B_firstFit_21 : decode prog_1_method_36_code 21 = .ok (.iload_n 3, 1) := by decide +kernel
theorem d_B_firstFit_22 : decode prog_1_method_36_code 22 = .ok (.iconst (-1), 1) := by decide +kernel
theorem d_B_firstFit_23 : decode prog_1_method_36_code 23 = .ok (.if_icmp .ne 7, 3) := by decide +kernel
theorem d_B_firstFit_30 : decode prog_1_method_36_code 30 = .ok (.aload_n 0, 1) := by decide +kernel
theorem d_B_firstFit_31 : decode prog_1_method_36_code 31 = .ok (.getfield 40, 3) := by decide +kernel
theorem d_B_firstFit_34 : decode prog_1_method_36_code 34 = .ok (.getfield 281, 3) := by decide +kernel
theorem w_407 : Cond.fieldLink "BeaconIndex" 281 "BeaconIndex$Findings" "fits" "LBeaconIndex$Fits;" ∈ lw_tbl := List.mem_append_right _ (List.mem_of_getElem? (i := 407) (by decide +kernel))
theorem d_B_firstFit_37 : decode prog_1_method_36_code 37 = .ok (.aload_n 0, 1) := by decide +kernel
theorem d_B_firstFit_38 : decode prog_1_method_36_code 38 = .ok (.getfield 51, 3) := by decide +kernel
theorem d_B_firstFit_41 : decode prog_1_method_36_code 41 = .ok (.iload_n 3, 1) := by decide +kernel
theorem d_B_firstFit_42 : decode prog_1_method_36_code 42 = .ok (.iload_n 2, 1) := by decide +kernel
theorem d_B_firstFit_43 : decode prog_1_method_36_code 43 = .ok (.invokevirtual 285, 3) := by decide +kernel
theorem k_Fits_firstOfAll : xCal m_Fits_firstOfAll 3 := ⟨List.mem_append_right _ (List.mem_of_getElem? (i := 1317) (by decide +kernel)), w_13, Nat.le_of_ble_eq_true rfl, ⟨by decide +kernel, by decide +kernel⟩, by decide +kernel, by decide +kernel, rfl⟩
theorem w_1314 : Cond.methodLink "BeaconIndex" 285 ⟨"BeaconIndex$Fits", "firstOfAll", "(Ljava/util/ArrayList;II)I"⟩ ∈ lw_tbl := List.mem_append_right _ (List.mem_of_getElem? (i := 1314) (by decide +kernel))
theorem w_1315 : Cond.instanceMethod ⟨"BeaconIndex$Fits", "firstOfAll", "(Ljava/util/ArrayList;II)I"⟩ ∈ lw_tbl := List.mem_append_right _ (List.mem_of_getElem? (i := 1315) (by decide +kernel))
theorem w_1316 : Cond.selects "BeaconIndex$Fits" ⟨"BeaconIndex$Fits", "firstOfAll", "(Ljava/util/ArrayList;II)I"⟩ ⟨"BeaconIndex$Fits", "firstOfAll", "(Ljava/util/ArrayList;II)I"⟩ ∈ lw_tbl := List.mem_append_right _ (List.mem_of_getElem? (i := 1316) (by decide +kernel))
theorem d_B_firstFit_26 : decode prog_1_method_36_code 26 = .ok (.iconst (-1), 1) := by decide +kernel
theorem d_B_firstFit_27 : decode prog_1_method_36_code 27 = .ok (.goto 19, 3) := by decide +kernel
theorem v_B_firstFit_0 {G : XG} {d : Nat} {h : XH} {Q : XV → XH → Prop} {X : Nat → XH → Prop} {x1 x2 : Int} (F : xFix h) (hyp : xtg h (xpl h 0 6) = 13 ∧ alok h (xpl h 0 6) ∧ ((((decide (als h (xpl h 0 6) = 0)) = true) → xnx h + 1 ≤ xKC ∧ xsl h + 6 ≤ xKS ∧ (xFix (xmk h 300 6 (fun _ => 0)) → X 1 (xmk h 300 6 (fun _ => 0)))) ∧ (¬ ((decide (als h (xpl h 0 6) = 0)) = true) → ((x1 < 0 → xnx h + 1 ≤ xKC ∧ xsl h + 6 ≤ xKS ∧ (xFix (xmk h 300 6 (fun _ => 0)) → X 0 (xmk h 300 6 (fun _ => 0)))) ∧ (¬ x1 < 0 → ((x1 < 100 → ((x2 < 0 → xnx h + 1 ≤ xKC ∧ xsl h + 6 ≤ xKS ∧ (xFix (xmk h 300 6 (fun _ => 0)) → X 2 (xmk h 300 6 (fun _ => 0)))) ∧ (¬ x2 < 0 → ((x2 < 2 → stok h ∧ (((sidx (filL h) x1) = (-1) → (xwp G m_B_firstFit (d + 8) 46 [xZ, xZ, xZ, xZ] [xI (-1)] h Q X)) ∧ (¬ (sidx (filL h) x1) = (-1) → (xwp G m_Fits_firstOfAll (d + 7) 0 [xR 41, xR (xpl h 0 6), xI (sidx (filL h) x1), xI x2, xZ, xZ, xZ, xZ, xZ, xZ] [] h (fun v9 h9 => xwp G m_B_firstFit (d + 8) 46 [xZ, xZ, xZ, xZ] (xpush v9 []) h9 Q X) X)))) ∧ (¬ x2 < 2 → xnx h + 1 ≤ xKC ∧ xsl h + 6 ≤ xKS ∧ (xFix (xmk h 300 6 (fun _ => 0)) → X 2 (xmk h 300 6 (fun _ => 0)))))))) ∧ (¬ x1 < 100 → xnx h + 1 ≤ xKC ∧ xsl h + 6 ≤ xKS ∧ (xFix (xmk h 300 6 (fun _ => 0)) → X 0 (xmk h 300 6 (fun _ => 0)))))))))) : xwp G m_B_firstFit (d + 8) 0 [xR 0, xI x1, xI x2, xZ] [] h Q X := by
  have hnx9 : (93 : Int) ≤ xnx h := F.2.2
  refine xr_okL (fun hl9 => ?_)
  have r_x1 : -2147483648 ≤ x1 ∧ x1 ≤ 2147483647 := hl9 (xI x1) (.tail _ (.head _)) (Nat.le_of_ble_eq_true rfl)
  have r_x2 : -2147483648 ≤ x2 ∧ x2 ≤ 2147483647 := hl9 (xI x2) (.tail _ (.tail _ (.head _))) (Nat.le_of_ble_eq_true rfl)
  refine xr_aload_n (pc := 0) (i := 0) (hI := d_B_firstFit_0) (hi := rfl) (hl := rfl) ?_
  refine xq_callV (pc := 1) (index := 244) (K := m_B_checkQuestion) (As := []) (S := []) (L0 := [xR 0]) (hI := d_B_firstFit_1) (hK := k_B_checkQuestion) (hlk := w_1238) (hnoM := rfl) (hS8 := Nat.le_of_ble_eq_true rfl) (ci := 0) (N := 7) (C := "BeaconIndex") (T := xF0) (hc := rfl) (hci := Nat.le_of_ble_eq_true rfl) (htb := (ft_0 F)) (hinst := w_1240) (hsel := sel_B_checkQuestion) (hlen := Nat.le_of_ble_eq_true rfl) (hst := rfl) (hL0 := rfl)  ?_
  refine xr_aload_n (pc := 0) (i := 0) (hI := d_B_checkQuestion_0) (hi := rfl) (hl := rfl) ?_
  refine xg_getf (pc := 1) (ci := 0) (k := 6) (N := 7) (v9 := 2) (v := (xpl h 0 6)) (T := xF0) (hI := d_B_checkQuestion_1) (hw := w_436) rfl xi0 (Or.inl rfl) (Nat.le_of_ble_eq_true rfl) (Nat.le_of_ble_eq_true rfl) rfl (ft_0 F) rfl (fun f1_ => ?_)
  clear f1_
  obtain ⟨c9, hyp⟩ := hyp
  have t2_ := c9
  clear c9
  obtain ⟨c3_, hyp⟩ := hyp
  refine xq_callV (pc := 4) (index := 315) (K := m_ArrayList_isEmpty) (As := []) (S := []) (L0 := [xR (xpl h 0 6)]) (hI := d_B_checkQuestion_4) (hK := k_ArrayList_isEmpty) (hlk := w_1229) (hnoM := rfl) (hS8 := Nat.le_of_ble_eq_true rfl) (ci := 13) (N := 3) (C := "java/util/ArrayList") (T := xF13) (hc := rfl) (hci := Nat.le_of_ble_eq_true rfl) (htb := t2_) (hinst := w_461) (hsel := w_462) (hlen := Nat.le_of_ble_eq_true rfl) (hst := rfl) (hL0 := rfl)  (p_AL_isEmpty F c3_ ?_)
  show xwp G m_B_checkQuestion (d + 7) 7 [xR 0] [xI (b2i (decide (als h (xpl h 0 6) = 0)))] _ _ _
  refine xr_if_eq (pc := 7) (tgt := 18) (hI := d_B_checkQuestion_7) (ht := by decide) (fun q9 => ?_) (fun q9 => ?_)
  · replace hyp := hyp.2 (b2i_0.mp q9)
    have q4_ := b2i_0.mp q9
    clear q9
    refine xr_return (S := []) (pc := 18) (hI := d_B_checkQuestion_18) (hr := rfl) ?_
    show xwp G m_B_firstFit (d + 8) 4 [xR 0, xI x1, xI x2, xZ] [] _ _ _
    refine xr_iload_n (pc := 4) (i := 1) (hI := d_B_firstFit_4) (hi := rfl) (hl := rfl) ?_
    refine xq_callS (pc := 5) (index := 69) (K := m_B_checkKey) (As := [xI x1]) (S := []) (L0 := [xI x1]) (hI := d_B_firstFit_5) (hK := k_B_checkKey) (hlk := w_1292) (hnoM := rfl) (hS8 := Nat.le_of_ble_eq_true rfl) (hstat := w_1293) (hlen := Nat.le_of_ble_eq_true rfl) (hst := rfl) (hL0 := rfl)  ?_
    refine xr_iload_n (pc := 0) (i := 0) (hI := d_B_checkKey_0) (hi := rfl) (hl := rfl) ?_
    refine xr_if_lt (pc := 1) (tgt := 10) (hI := d_B_checkKey_1) (ht := by decide) (fun q9 => ?_) (fun q9 => ?_)
    · replace hyp := hyp.1 q9
      have q5_ := q9
      clear q9
      obtain ⟨c7, c8, hyp⟩ := hyp
      exact xr_throw (pc := 10) (k := 0) (ik := 66) (ic := 68) (names := ["java/lang/RuntimeException", "java/lang/Exception"]) (by decide +kernel) (by decide +kernel) (by decide) w_1295 w_21 thr_B_68.1 thr_B_68.2 d_B_checkKey_10 d_B_checkKey_13 d_B_checkKey_14 d_B_checkKey_17 rfl (Nat.le_of_ble_eq_true rfl) (Nat.le_add_left_of_le (by decide)) (Nat.le_of_ble_eq_true rfl) c7 c8 (hyp (xFix.mk F))
    · replace hyp := hyp.2 q9
      have q5_ := q9
      clear q9
      refine xr_iload_n (pc := 4) (i := 0) (hI := d_B_checkKey_4) (hi := rfl) (hl := rfl) ?_
      refine xr_bipush (pc := 5) (hI := d_B_checkKey_5) (hr := by decide) (hv := by decide) ?_
      refine xr_icmp_lt (pc := 7) (tgt := 18) (hI := d_B_checkKey_7) (ht := by decide) (fun q9 => ?_) (fun q9 => ?_)
      · replace hyp := hyp.1 q9
        have q6_ := q9
        clear q9
        refine xr_return (S := []) (pc := 18) (hI := d_B_checkKey_18) (hr := rfl) ?_
        show xwp G m_B_firstFit (d + 8) 8 [xR 0, xI x1, xI x2, xZ] [] _ _ _
        refine xr_iload_n (pc := 8) (i := 2) (hI := d_B_firstFit_8) (hi := rfl) (hl := rfl) ?_
        refine xq_callS (pc := 9) (index := 146) (K := m_B_checkField) (As := [xI x2]) (S := []) (L0 := [xI x2]) (hI := d_B_firstFit_9) (hK := k_B_checkField) (hlk := w_1181) (hnoM := rfl) (hS8 := Nat.le_of_ble_eq_true rfl) (hstat := w_1182) (hlen := Nat.le_of_ble_eq_true rfl) (hst := rfl) (hL0 := rfl)  ?_
        refine xr_iload_n (pc := 0) (i := 0) (hI := d_B_checkField_0) (hi := rfl) (hl := rfl) ?_
        refine xr_if_lt (pc := 1) (tgt := 9) (hI := d_B_checkField_1) (ht := by decide) (fun q9 => ?_) (fun q9 => ?_)
        · replace hyp := hyp.1 q9
          have q7_ := q9
          clear q9
          obtain ⟨c7, c8, hyp⟩ := hyp
          exact xr_throw (pc := 9) (k := 2) (ik := 204) (ic := 206) (names := ["java/lang/RuntimeException", "java/lang/Exception"]) (by decide +kernel) (by decide +kernel) (by decide) w_1101 w_32 thr_B_206.1 thr_B_206.2 d_B_checkField_9 d_B_checkField_12 d_B_checkField_13 d_B_checkField_16 rfl (Nat.le_of_ble_eq_true rfl) (Nat.le_add_left_of_le (by decide)) (Nat.le_of_ble_eq_true rfl) c7 c8 (hyp (xFix.mk F))
        · replace hyp := hyp.2 q9
          have q7_ := q9
          clear q9
          refine xr_iload_n (pc := 4) (i := 0) (hI := d_B_checkField_4) (hi := rfl) (hl := rfl) ?_
          refine xr_iconst (pc := 5) (hI := d_B_checkField_5) (hr := by decide) ?_
          refine xr_icmp_lt (pc := 6) (tgt := 17) (hI := d_B_checkField_6) (ht := by decide) (fun q9 => ?_) (fun q9 => ?_)
          · replace hyp := hyp.1 q9
            have q8_ := q9
            clear q9
            refine xr_return (S := []) (pc := 17) (hI := d_B_checkField_17) (hr := rfl) ?_
            show xwp G m_B_firstFit (d + 8) 12 [xR 0, xI x1, xI x2, xZ] [] _ _ _
            refine xr_aload_n (pc := 12) (i := 0) (hI := d_B_firstFit_12) (hi := rfl) (hl := rfl) ?_
            refine xg_getf (pc := 13) (ci := 0) (k := 1) (N := 7) (v9 := 2) (v := 5) (T := xF0) (hI := d_B_firstFit_13) (hw := w_431) rfl xi0 (Or.inl rfl) (Nat.le_of_ble_eq_true rfl) (Nat.le_of_ble_eq_true rfl) rfl (ft_0 F) (fp_0_1 F) (fun f9_ => ?_)
            clear f9_
            refine xr_iload_n (pc := 16) (i := 1) (hI := d_B_firstFit_16) (hi := rfl) (hl := rfl) ?_
            obtain ⟨c10_, hyp⟩ := hyp
            refine xq_callV (pc := 17) (index := 113) (K := m_Store_placeInSegments) (As := [xI x1]) (S := []) (L0 := [xR 5, xI x1, xZ, xZ]) (hI := d_B_firstFit_17) (hK := k_Store_placeInSegments) (hlk := w_1310) (hnoM := rfl) (hS8 := Nat.le_of_ble_eq_true rfl) (ci := 7) (N := 6) (C := "BeaconIndex$Store") (T := xF7) (hc := rfl) (hci := Nat.le_of_ble_eq_true rfl) (htb := (ft_5 F)) (hinst := w_1311) (hsel := w_1312) (hlen := Nat.le_of_ble_eq_true rfl) (hst := rfl) (hL0 := rfl)  (p_Store_placeInSegments F c10_ ?_)
            show xwp G m_B_firstFit (d + 8) 20 [xR 0, xI x1, xI x2, xZ] [xI (sidx (filL h) x1)] _ _ _
            have f11_ : -1 ≤ (sidx (filL h) x1) := (idxI_rng _ _).1
            have f12_ : (sidx (filL h) x1) < als h 7 := sidx_lt c10_ _
            refine xr_istore_n (pc := 20) (i := 3) (L9 := [xR 0, xI x1, xI x2, xI (sidx (filL h) x1)]) (hI := d_B_firstFit_20) (hi := rfl) (hn := Nat.le_of_ble_eq_true rfl) (hL9 := rfl) ?_
            refine xr_iload_n (pc := 21) (i := 3) (hI := d_B_firstFit_21) (hi := rfl) (hl := rfl) ?_
            refine xr_iconst (pc := 22) (hI := d_B_firstFit_22) (hr := by decide) ?_
            refine xr_icmp_ne (pc := 23) (tgt := 30) (hI := d_B_firstFit_23) (ht := by decide) (fun q9 => ?_) (fun q9 => ?_)
            · replace hyp := hyp.2 q9
              have q13_ := q9
              clear q9
              refine xr_aload_n (pc := 30) (i := 0) (hI := d_B_firstFit_30) (hi := rfl) (hl := rfl) ?_
              refine xg_getf (pc := 31) (ci := 0) (k := 4) (N := 7) (v9 := 2) (v := 40) (T := xF0) (hI := d_B_firstFit_31) (hw := w_434) rfl xi0 (Or.inl rfl) (Nat.le_of_ble_eq_true rfl) (Nat.le_of_ble_eq_true rfl) rfl (ft_0 F) (fp_0_4 F) (fun f14_ => ?_)
              clear f14_
              refine xg_getf (pc := 34) (ci := 1) (k := 0) (N := 6) (v9 := 2) (v := 41) (T := xF1) (hI := d_B_firstFit_34) (hw := w_407) rfl xi1 (Or.inl rfl) (Nat.le_of_ble_eq_true rfl) (Nat.le_of_ble_eq_true rfl) rfl (ft_40 F) (fp_40_0 F) (fun f15_ => ?_)
              clear f15_
              refine xr_aload_n (pc := 37) (i := 0) (hI := d_B_firstFit_37) (hi := rfl) (hl := rfl) ?_
              refine xg_getf (pc := 38) (ci := 0) (k := 6) (N := 7) (v9 := 2) (v := (xpl h 0 6)) (T := xF0) (hI := d_B_firstFit_38) (hw := w_436) rfl xi0 (Or.inl rfl) (Nat.le_of_ble_eq_true rfl) (Nat.le_of_ble_eq_true rfl) rfl (ft_0 F) rfl (fun f16_ => ?_)
              clear f16_
              refine xr_iload_n (pc := 41) (i := 3) (hI := d_B_firstFit_41) (hi := rfl) (hl := rfl) ?_
              refine xr_iload_n (pc := 42) (i := 2) (hI := d_B_firstFit_42) (hi := rfl) (hl := rfl) ?_
              exact xq_callV (pc := 43) (index := 285) (K := m_Fits_firstOfAll) (As := [xR (xpl h 0 6), xI (sidx (filL h) x1), xI x2]) (S := []) (L0 := [xR 41, xR (xpl h 0 6), xI (sidx (filL h) x1), xI x2, xZ, xZ, xZ, xZ, xZ, xZ]) (hI := d_B_firstFit_43) (hK := k_Fits_firstOfAll) (hlk := w_1314) (hnoM := rfl) (hS8 := Nat.le_of_ble_eq_true rfl) (ci := 2) (N := 4) (C := "BeaconIndex$Fits") (T := xF2) (hc := rfl) (hci := Nat.le_of_ble_eq_true rfl) (htb := (ft_41 F)) (hinst := w_1315) (hsel := w_1316) (hlen := Nat.le_of_ble_eq_true rfl) (hst := rfl) (hL0 := rfl)  (xwp_mono hyp (fun v9 h9 q9 => xr_drop (L9 := [xZ, xZ, xZ, xZ]) (xdrz (xdrz (xdrz (xdrz xdr0)))) q9) (fun _ _ z9 => z9))
            · replace hyp := hyp.1 q9
              have q13_ := q9
              clear q9
              refine xr_iconst (pc := 26) (hI := d_B_firstFit_26) (hr := by decide) ?_
              refine xr_goto (pc := 27) (tgt := 46) (hI := d_B_firstFit_27) (ht := by decide) ?_
              exact xr_drop (L9 := [xZ, xZ, xZ, xZ]) (xdrz (xdrz (xdrz (xdrz xdr0)))) hyp
          · replace hyp := hyp.2 q9
            have q8_ := q9
            clear q9
            obtain ⟨c7, c8, hyp⟩ := hyp
            exact xr_throw (pc := 9) (k := 2) (ik := 204) (ic := 206) (names := ["java/lang/RuntimeException", "java/lang/Exception"]) (by decide +kernel) (by decide +kernel) (by decide) w_1101 w_32 thr_B_206.1 thr_B_206.2 d_B_checkField_9 d_B_checkField_12 d_B_checkField_13 d_B_checkField_16 rfl (Nat.le_of_ble_eq_true rfl) (Nat.le_add_left_of_le (by decide)) (Nat.le_of_ble_eq_true rfl) c7 c8 (hyp (xFix.mk F))
      · replace hyp := hyp.2 q9
        have q6_ := q9
        clear q9
        obtain ⟨c7, c8, hyp⟩ := hyp
        exact xr_throw (pc := 10) (k := 0) (ik := 66) (ic := 68) (names := ["java/lang/RuntimeException", "java/lang/Exception"]) (by decide +kernel) (by decide +kernel) (by decide) w_1295 w_21 thr_B_68.1 thr_B_68.2 d_B_checkKey_10 d_B_checkKey_13 d_B_checkKey_14 d_B_checkKey_17 rfl (Nat.le_of_ble_eq_true rfl) (Nat.le_add_left_of_le (by decide)) (Nat.le_of_ble_eq_true rfl) c7 c8 (hyp (xFix.mk F))
  · replace hyp := hyp.1 (b2i_1.mp q9)
    have q4_ := b2i_1.mp q9
    clear q9
    obtain ⟨c7, c8, hyp⟩ := hyp
    exact xr_throw (pc := 10) (k := 1) (ik := 59) (ic := 61) (names := ["java/lang/RuntimeException", "java/lang/Exception"]) (by decide +kernel) (by decide +kernel) (by decide) w_1242 w_20 thr_B_61.1 thr_B_61.2 d_B_checkQuestion_10 d_B_checkQuestion_13 d_B_checkQuestion_14 d_B_checkQuestion_17 rfl (Nat.le_of_ble_eq_true rfl) (Nat.le_add_left_of_le (by decide)) (Nat.le_of_ble_eq_true rfl) c7 c8 (hyp (xFix.mk F))
theorem d_B_firstFit_46 : decode prog_1_method_36_code 46 = .ok (.ireturn, 1) := by decide +kernel
theorem v_B_firstFit_46 {G : XG} {d : Nat} {h : XH} {Q : XV → XH → Prop} {X : Nat → XH → Prop} {s0 : Int} (F : xFix h) (hyp : (Q (xI s0) h)) : xwp G m_B_firstFit (d + 8) 46 [xZ, xZ, xZ, xZ] [xI s0] h Q X := by
  have hnx9 : (93 : Int) ≤ xnx h := F.2.2
  refine xr_okS (fun hs9 => ?_)
  have r_s0 : -2147483648 ≤ s0 ∧ s0 ≤ 2147483647 := hs9 (xI s0) (.head _)
  refine xr_ireturn (S := []) (pc := 46) (hI := d_B_firstFit_46) (hr := rfl) ?_
  exact hyp
abbrev m_B_meanWeight : XM := (⟨"BeaconIndex", "meanWeight", "()D"⟩, prog_1_method_37_code, 4, (some .double), [])
theorem d_B_meanWeight_0 : decode prog_1_method_37_code 0 = .ok (.aload_n 0, 1) := by decide +kernel
theorem d_B_meanWeight_1 : decode prog_1_method_37_code 1 = .ok (.invokevirtual 244, 3) := by decide +kernel
theorem d_B_meanWeight_4 : decode prog_1_method_37_code 4 = .ok (.aload_n 0, 1) := by decide +kernel
theorem d_B_meanWeight_5 : decode prog_1_method_37_code 5 = .ok (.getfield 40, 3) := by decide +kernel
theorem d_B_meanWeight_8 : decode prog_1_method_37_code 8 = .ok (.getfield 256, 3) := by decide +kernel
theorem d_B_meanWeight_11 : decode prog_1_method_37_code 11 = .ok (.ifCond .ne 5, 3) := by decide +kernel
theorem d_B_meanWeight_16 : decode prog_1_method_37_code 16 = .ok (.lconst 0, 1) := by decide +kernel
theorem d_B_meanWeight_17 : decode prog_1_method_37_code 17 = .ok (.lstore_n 1, 1) := by decide +kernel
theorem d_B_meanWeight_18 : decode prog_1_method_37_code 18 = .ok (.iconst 0, 1) := by decide +kernel
theorem d_B_meanWeight_19 : decode prog_1_method_37_code 19 = .ok (.istore_n 3, 1) := by decide +kernel
theorem d_B_meanWeight_14 : decode prog_1_method_37_code 14 = .ok (.dconst 0, 1) := by decide +kernel
theorem d_B_meanWeight_15 : decode prog_1_method_37_code 15 = .ok (.dreturn, 1) := by decide +kernel
theorem v_B_meanWeight_0 {G : XG} {d : Nat} {h : XH} {Q : XV → XH → Prop} {X : Nat → XH → Prop} (F : xFix h) (hyp : xtg h (xpl h 0 6) = 13 ∧ alok h (xpl h 0 6) ∧ ((((decide (als h (xpl h 0 6) = 0)) = true) → xnx h + 1 ≤ xKC ∧ xsl h + 6 ≤ xKS ∧ (xFix (xmk h 300 6 (fun _ => 0)) → X 1 (xmk h 300 6 (fun _ => 0)))) ∧ (¬ ((decide (als h (xpl h 0 6) = 0)) = true) → (((xpl h 40 5) = 0 → (Q (xD 0) h)) ∧ (¬ (xpl h 40 5) = 0 → (xwp G m_B_meanWeight (d + 8) 20 [xR 0, xL 0, xZ, xI 0] [] h Q X)))))) : xwp G m_B_meanWeight (d + 8) 0 [xR 0, xZ, xZ, xZ] [] h Q X := by
  have hnx9 : (93 : Int) ≤ xnx h := F.2.2
  refine xr_aload_n (pc := 0) (i := 0) (hI := d_B_meanWeight_0) (hi := rfl) (hl := rfl) ?_
  refine xq_callV (pc := 1) (index := 244) (K := m_B_checkQuestion) (As := []) (S := []) (L0 := [xR 0]) (hI := d_B_meanWeight_1) (hK := k_B_checkQuestion) (hlk := w_1238) (hnoM := rfl) (hS8 := Nat.le_of_ble_eq_true rfl) (ci := 0) (N := 7) (C := "BeaconIndex") (T := xF0) (hc := rfl) (hci := Nat.le_of_ble_eq_true rfl) (htb := (ft_0 F)) (hinst := w_1240) (hsel := sel_B_checkQuestion) (hlen := Nat.le_of_ble_eq_true rfl) (hst := rfl) (hL0 := rfl)  ?_
  refine xr_aload_n (pc := 0) (i := 0) (hI := d_B_checkQuestion_0) (hi := rfl) (hl := rfl) ?_
  refine xg_getf (pc := 1) (ci := 0) (k := 6) (N := 7) (v9 := 2) (v := (xpl h 0 6)) (T := xF0) (hI := d_B_checkQuestion_1) (hw := w_436) rfl xi0 (Or.inl rfl) (Nat.le_of_ble_eq_true rfl) (Nat.le_of_ble_eq_true rfl) rfl (ft_0 F) rfl (fun f1_ => ?_)
  clear f1_
  obtain ⟨c9, hyp⟩ := hyp
  have t2_ := c9
  clear c9
  obtain ⟨c3_, hyp⟩ := hyp
  refine xq_callV (pc := 4) (index := 315) (K := m_ArrayList_isEmpty) (As := []) (S := []) (L0 := [xR (xpl h 0 6)]) (hI := d_B_checkQuestion_4) (hK := k_ArrayList_isEmpty) (hlk := w_1229) (hnoM := rfl) (hS8 := Nat.le_of_ble_eq_true rfl) (ci := 13) (N := 3) (C := "java/util/ArrayList") (T := xF13) (hc := rfl) (hci := Nat.le_of_ble_eq_true rfl) (htb := t2_) (hinst := w_461) (hsel := w_462) (hlen := Nat.le_of_ble_eq_true rfl) (hst := rfl) (hL0 := rfl)  (p_AL_isEmpty F c3_ ?_)
  show xwp G m_B_checkQuestion (d + 7) 7 [xR 0] [xI (b2i (decide (als h (xpl h 0 6) = 0)))] _ _ _
  refine xr_if_eq (pc := 7) (tgt := 18) (hI := d_B_checkQuestion_7) (ht := by decide) (fun q9 => ?_) (fun q9 => ?_)
  · replace hyp := hyp.2 (b2i_0.mp q9)
    have q4_ := b2i_0.mp q9
    clear q9
    refine xr_return (S := []) (pc := 18) (hI := d_B_checkQuestion_18) (hr := rfl) ?_
    show xwp G m_B_meanWeight (d + 8) 4 [xR 0, xZ, xZ, xZ] [] _ _ _
    refine xr_aload_n (pc := 4) (i := 0) (hI := d_B_meanWeight_4) (hi := rfl) (hl := rfl) ?_
    refine xg_getf (pc := 5) (ci := 0) (k := 4) (N := 7) (v9 := 2) (v := 40) (T := xF0) (hI := d_B_meanWeight_5) (hw := w_434) rfl xi0 (Or.inl rfl) (Nat.le_of_ble_eq_true rfl) (Nat.le_of_ble_eq_true rfl) rfl (ft_0 F) (fp_0_4 F) (fun f5_ => ?_)
    clear f5_
    refine xg_getf (pc := 8) (ci := 1) (k := 5) (N := 6) (v9 := 0) (v := (xpl h 40 5)) (T := xF1) (hI := d_B_meanWeight_8) (hw := w_413) rfl xi1 (Or.inl rfl) (Nat.le_of_ble_eq_true rfl) (Nat.le_of_ble_eq_true rfl) rfl (ft_40 F) rfl (fun f6_ => ?_)
    replace f6_ : -2147483648 ≤ (xpl h 40 5) ∧ (xpl h 40 5) ≤ 2147483647 := f6_
    refine xr_if_ne (pc := 11) (tgt := 16) (hI := d_B_meanWeight_11) (ht := by decide) (fun q9 => ?_) (fun q9 => ?_)
    · replace hyp := hyp.2 q9
      have q7_ := q9
      clear q9
      refine xr_lconst (pc := 16) (z := 0) (hI := d_B_meanWeight_16) (hr := by decide) (hv := by decide) ?_
      refine xr_lstore_n (pc := 17) (i := 1) (L9 := [xR 0, xL 0, xZ, xZ]) (hI := d_B_meanWeight_17) (hi := rfl) (hn := Nat.le_of_ble_eq_true rfl) (hL9 := rfl) ?_
      refine xr_iconst (pc := 18) (hI := d_B_meanWeight_18) (hr := by decide) ?_
      refine xr_istore_n (pc := 19) (i := 3) (L9 := [xR 0, xL 0, xZ, xI 0]) (hI := d_B_meanWeight_19) (hi := rfl) (hn := Nat.le_of_ble_eq_true rfl) (hL9 := rfl) ?_
      exact hyp
    · replace hyp := hyp.1 q9
      have q7_ := q9
      clear q9
      refine xr_dconst0 (pc := 14) (hI := d_B_meanWeight_14) ?_
      refine xr_dreturn (S := []) (pc := 15) (hI := d_B_meanWeight_15) (hr := rfl) ?_
      exact hyp
  · replace hyp := hyp.1 (b2i_1.mp q9)
    have q4_ := b2i_1.mp q9
    clear q9
    obtain ⟨c7, c8, hyp⟩ := hyp
    exact xr_throw (pc := 10) (k := 1) (ik := 59) (ic := 61) (names := ["java/lang/RuntimeException", "java/lang/Exception"]) (by decide +kernel) (by decide +kernel) (by decide) w_1242 w_20 thr_B_61.1 thr_B_61.2 d_B_checkQuestion_10 d_B_checkQuestion_13 d_B_checkQuestion_14 d_B_checkQuestion_17 rfl (Nat.le_of_ble_eq_true rfl) (Nat.le_add_left_of_le (by decide)) (Nat.le_of_ble_eq_true rfl) c7 c8 (hyp (xFix.mk F))
theorem d_B_meanWeight_20 : decode prog_1_method_37_code 20 = .ok (.iload_n 3, 1) := by decide +kernel
theorem d_B_meanWeight_21 : decode prog_1_method_37_code 21 = .ok (.aload_n 0, 1) := by decide +kernel
theorem d_B_meanWeight_22 : decode prog_1_method_37_code 22 = .ok (.getfield 40, 3) := by decide +kernel
theorem d_B_meanWeight_25 : decode prog_1_method_37_code 25 = .ok (.getfield 256, 3) := by decide +kernel
theorem d_B_meanWeight_28 : decode prog_1_method_37_code 28 = .ok (.if_icmp .ge 21, 3) := by decide +kernel
theorem d_B_meanWeight_49 : decode prog_1_method_37_code 49 = .ok (.lload_n 1, 1) := by decide +kernel
theorem d_B_meanWeight_50 : decode prog_1_method_37_code 50 = .ok (.l2d, 1) := by decide +kernel
theorem d_B_meanWeight_51 : decode prog_1_method_37_code 51 = .ok (.aload_n 0, 1) := by decide +kernel
theorem d_B_meanWeight_52 : decode prog_1_method_37_code 52 = .ok (.getfield 40, 3) := by decide +kernel
theorem d_B_meanWeight_55 : decode prog_1_method_37_code 55 = .ok (.getfield 256, 3) := by decide +kernel
theorem d_B_meanWeight_58 : decode prog_1_method_37_code 58 = .ok (.i2d, 1) := by decide +kernel
theorem d_B_meanWeight_59 : decode prog_1_method_37_code 59 = .ok (.ddiv, 1) := by decide +kernel
theorem d_B_meanWeight_60 : decode prog_1_method_37_code 60 = .ok (.dreturn, 1) := by decide +kernel
theorem d_B_meanWeight_31 : decode prog_1_method_37_code 31 = .ok (.lload_n 1, 1) := by decide +kernel
theorem d_B_meanWeight_32 : decode prog_1_method_37_code 32 = .ok (.aload_n 0, 1) := by decide +kernel
theorem d_B_meanWeight_33 : decode prog_1_method_37_code 33 = .ok (.getfield 40, 3) := by decide +kernel
theorem d_B_meanWeight_36 : decode prog_1_method_37_code 36 = .ok (.iload_n 3, 1) := by decide +kernel
theorem d_B_meanWeight_37 : decode prog_1_method_37_code 37 = .ok (.invokevirtual 265, 3) := by decide +kernel
theorem v_B_meanWeight_20 {G : XG} {d : Nat} {h : XH} {Q : XV → XH → Prop} {X : Nat → XH → Prop} {x1 x3 : Int} (F : xFix h) (hyp : (((xpl h 40 5) ≤ x3 → vf_n64 (FP.ddiv (UInt64.ofNat (xl2d x1).toNat) (UInt64.ofNat (xi2d (xpl h 40 5)).toNat)) ∧ (Q (xD (xddiv (xl2d x1) (xi2d (xpl h 40 5)))) h)) ∧ (¬ (xpl h 40 5) ≤ x3 → (xwp G m_Findings_weightAt (d + 7) 0 [xR 40, xI x3, xZ] [] h (fun v9 h9 => xwp G m_B_meanWeight (d + 8) 40 [xR 0, xZ, xZ, xI x3] (xpush v9 [xL x1]) h9 Q X) X)))) : xwp G m_B_meanWeight (d + 8) 20 [xR 0, xL x1, xZ, xI x3] [] h Q X := by
  have hnx9 : (93 : Int) ≤ xnx h := F.2.2
  refine xr_okL (fun hl9 => ?_)
  have r_x1 : -9223372036854775808 ≤ x1 ∧ x1 ≤ 9223372036854775807 := hl9 (xL x1) (.tail _ (.head _)) (Nat.le_of_ble_eq_true rfl)
  have r_x3 : -2147483648 ≤ x3 ∧ x3 ≤ 2147483647 := hl9 (xI x3) (.tail _ (.tail _ (.tail _ (.head _)))) (Nat.le_of_ble_eq_true rfl)
  refine xr_iload_n (pc := 20) (i := 3) (hI := d_B_meanWeight_20) (hi := rfl) (hl := rfl) ?_
  refine xr_aload_n (pc := 21) (i := 0) (hI := d_B_meanWeight_21) (hi := rfl) (hl := rfl) ?_
  refine xg_getf (pc := 22) (ci := 0) (k := 4) (N := 7) (v9 := 2) (v := 40) (T := xF0) (hI := d_B_meanWeight_22) (hw := w_434) rfl xi0 (Or.inl rfl) (Nat.le_of_ble_eq_true rfl) (Nat.le_of_ble_eq_true rfl) rfl (ft_0 F) (fp_0_4 F) (fun f1_ => ?_)
  clear f1_
  refine xg_getf (pc := 25) (ci := 1) (k := 5) (N := 6) (v9 := 0) (v := (xpl h 40 5)) (T := xF1) (hI := d_B_meanWeight_25) (hw := w_413) rfl xi1 (Or.inl rfl) (Nat.le_of_ble_eq_true rfl) (Nat.le_of_ble_eq_true rfl) rfl (ft_40 F) rfl (fun f2_ => ?_)
  replace f2_ : -2147483648 ≤ (xpl h 40 5) ∧ (xpl h 40 5) ≤ 2147483647 := f2_
  refine xr_icmp_ge (pc := 28) (tgt := 49) (hI := d_B_meanWeight_28) (ht := by decide) (fun q9 => ?_) (fun q9 => ?_)
  · replace hyp := hyp.1 q9
    have q3_ := q9
    clear q9
    refine xr_lload_n (pc := 49) (i := 1) (hI := d_B_meanWeight_49) (hi := rfl) (hl := rfl) ?_
    refine xr_l2d (pc := 50) (hI := d_B_meanWeight_50) ?_
    refine xr_aload_n (pc := 51) (i := 0) (hI := d_B_meanWeight_51) (hi := rfl) (hl := rfl) ?_
    refine xg_getf (pc := 52) (ci := 0) (k := 4) (N := 7) (v9 := 2) (v := 40) (T := xF0) (hI := d_B_meanWeight_52) (hw := w_434) rfl xi0 (Or.inl rfl) (Nat.le_of_ble_eq_true rfl) (Nat.le_of_ble_eq_true rfl) rfl (ft_0 F) (fp_0_4 F) (fun f4_ => ?_)
    clear f4_
    refine xg_getf (pc := 55) (ci := 1) (k := 5) (N := 6) (v9 := 0) (v := (xpl h 40 5)) (T := xF1) (hI := d_B_meanWeight_55) (hw := w_413) rfl xi1 (Or.inl rfl) (Nat.le_of_ble_eq_true rfl) (Nat.le_of_ble_eq_true rfl) rfl (ft_40 F) rfl (fun f5_ => ?_)
    replace f5_ : -2147483648 ≤ (xpl h 40 5) ∧ (xpl h 40 5) ≤ 2147483647 := f5_
    refine xr_i2d (pc := 58) (hI := d_B_meanWeight_58) ?_
    obtain ⟨c9, hyp⟩ := hyp
    refine xr_ddiv (pc := 59) (hI := d_B_meanWeight_59) (hr := c9) ?_
    refine xr_dreturn (S := []) (pc := 60) (hI := d_B_meanWeight_60) (hr := rfl) ?_
    exact hyp
  · replace hyp := hyp.2 q9
    have q3_ := q9
    clear q9
    refine xr_lload_n (pc := 31) (i := 1) (hI := d_B_meanWeight_31) (hi := rfl) (hl := rfl) ?_
    refine xr_aload_n (pc := 32) (i := 0) (hI := d_B_meanWeight_32) (hi := rfl) (hl := rfl) ?_
    refine xg_getf (pc := 33) (ci := 0) (k := 4) (N := 7) (v9 := 2) (v := 40) (T := xF0) (hI := d_B_meanWeight_33) (hw := w_434) rfl xi0 (Or.inl rfl) (Nat.le_of_ble_eq_true rfl) (Nat.le_of_ble_eq_true rfl) rfl (ft_0 F) (fp_0_4 F) (fun f6_ => ?_)
    clear f6_
    refine xr_iload_n (pc := 36) (i := 3) (hI := d_B_meanWeight_36) (hi := rfl) (hl := rfl) ?_
    exact xq_callV (pc := 37) (index := 265) (K := m_Findings_weightAt) (As := [xI x3]) (S := [xL x1]) (L0 := [xR 40, xI x3, xZ]) (hI := d_B_meanWeight_37) (hK := k_Findings_weightAt) (hlk := w_1283) (hnoM := rfl) (hS8 := Nat.le_of_ble_eq_true rfl) (ci := 1) (N := 6) (C := "BeaconIndex$Findings") (T := xF1) (hc := rfl) (hci := Nat.le_of_ble_eq_true rfl) (htb := (ft_40 F)) (hinst := w_1284) (hsel := w_1285) (hlen := Nat.le_of_ble_eq_true rfl) (hst := rfl) (hL0 := rfl)  (xwp_mono hyp (fun v9 h9 q9 => xr_drop (L9 := [xR 0, xZ, xZ, xI x3]) (xdrs (xdrz (xdrs (xdrs xdr0)))) q9) (fun _ _ z9 => z9))
theorem d_B_meanWeight_40 : decode prog_1_method_37_code 40 = .ok (.i2l, 1) := by decide +kernel
theorem d_B_meanWeight_41 : decode prog_1_method_37_code 41 = .ok (.ladd, 1) := by decide +kernel
theorem d_B_meanWeight_42 : decode prog_1_method_37_code 42 = .ok (.lstore_n 1, 1) := by decide +kernel
theorem d_B_meanWeight_43 : decode prog_1_method_37_code 43 = .ok (.iinc 3 1, 3) := by decide +kernel
theorem d_B_meanWeight_46 : decode prog_1_method_37_code 46 = .ok (.goto (-26), 3) := by decide +kernel
theorem v_B_meanWeight_40 {G : XG} {d : Nat} {h : XH} {Q : XV → XH → Prop} {X : Nat → XH → Prop} {x3 s0 s1 : Int} (F : xFix h) (hyp : xiR (x3 + 1) ∧ (xwp G m_B_meanWeight (d + 8) 20 [xR 0, xL (xw64 (s1 + s0)), xZ, xI (x3 + 1)] [] h Q X)) : xwp G m_B_meanWeight (d + 8) 40 [xR 0, xZ, xZ, xI x3] [xI s0, xL s1] h Q X := by
  have hnx9 : (93 : Int) ≤ xnx h := F.2.2
  refine xr_okL (fun hl9 => ?_)
  have r_x3 : -2147483648 ≤ x3 ∧ x3 ≤ 2147483647 := hl9 (xI x3) (.tail _ (.tail _ (.tail _ (.head _)))) (Nat.le_of_ble_eq_true rfl)
  refine xr_okS (fun hs9 => ?_)
  have r_s0 : -2147483648 ≤ s0 ∧ s0 ≤ 2147483647 := hs9 (xI s0) (.head _)
  have r_s1 : -9223372036854775808 ≤ s1 ∧ s1 ≤ 9223372036854775807 := hs9 (xL s1) (.tail _ (.head _))
  refine xr_i2l (pc := 40) (hI := d_B_meanWeight_40) ?_
  refine xr_ladd (pc := 41) (hI := d_B_meanWeight_41) ?_
  refine xr_lstore_n (pc := 42) (i := 1) (L9 := [xR 0, xL (xw64 (s1 + s0)), xZ, xI x3]) (hI := d_B_meanWeight_42) (hi := rfl) (hn := Nat.le_of_ble_eq_true rfl) (hL9 := rfl) ?_
  obtain ⟨c9, hyp⟩ := hyp
  refine xr_iinc (pc := 43) (i := 3) (L9 := [xR 0, xL (xw64 (s1 + s0)), xZ, xI (x3 + 1)]) (hI := d_B_meanWeight_43) (hl := rfl) (hn := Nat.le_of_ble_eq_true rfl) (hr := c9) (hL9 := rfl) ?_
  refine xr_goto (pc := 46) (tgt := 20) (hI := d_B_meanWeight_46) (ht := by decide) ?_
  exact hyp

end
