/-! ===== reader ===== -/
section
abbrev m_QuestionReader_isTokenSign : XM := (⟨"BeaconIndex$QuestionReader", "isTokenSign", "(I)Z"⟩, prog_7_method_5_code, 1, (some .boolean), [])
theorem d_QuestionReader_isTokenSign_0 : decode prog_7_method_5_code 0 = .ok (.iload_n 0, 1) := by decide +kernel
theorem d_QuestionReader_isTokenSign_1 : decode prog_7_method_5_code 1 = .ok (.bipush 43, 2) := by decide +kernel
theorem d_QuestionReader_isTokenSign_3 : decode prog_7_method_5_code 3 = .ok (.if_icmp .eq 51, 3) := by decide +kernel
theorem d_QuestionReader_isTokenSign_54 : decode prog_7_method_5_code 54 = .ok (.iconst 1, 1) := by decide +kernel
theorem d_QuestionReader_isTokenSign_55 : decode prog_7_method_5_code 55 = .ok (.goto 4, 3) := by decide +kernel
theorem d_QuestionReader_isTokenSign_59 : decode prog_7_method_5_code 59 = .ok (.ireturn, 1) := by decide +kernel
theorem d_QuestionReader_isTokenSign_6 : decode prog_7_method_5_code 6 = .ok (.iload_n 0, 1) := by decide +kernel
theorem d_QuestionReader_isTokenSign_7 : decode prog_7_method_5_code 7 = .ok (.bipush 45, 2) := by decide +kernel
theorem d_QuestionReader_isTokenSign_9 : decode prog_7_method_5_code 9 = .ok (.if_icmp .eq 45, 3) := by decide +kernel
theorem d_QuestionReader_isTokenSign_12 : decode prog_7_method_5_code 12 = .ok (.iload_n 0, 1) := by decide +kernel
theorem d_QuestionReader_isTokenSign_13 : decode prog_7_method_5_code 13 = .ok (.bipush 34, 2) := by decide +kernel
theorem d_QuestionReader_isTokenSign_15 : decode prog_7_method_5_code 15 = .ok (.if_icmp .eq 39, 3) := by decide +kernel
theorem d_QuestionReader_isTokenSign_18 : decode prog_7_method_5_code 18 = .ok (.iload_n 0, 1) := by decide +kernel
theorem d_QuestionReader_isTokenSign_19 : decode prog_7_method_5_code 19 = .ok (.bipush 42, 2) := by decide +kernel
theorem d_QuestionReader_isTokenSign_21 : decode prog_7_method_5_code 21 = .ok (.if_icmp .eq 33, 3) := by decide +kernel
theorem d_QuestionReader_isTokenSign_24 : decode prog_7_method_5_code 24 = .ok (.iload_n 0, 1) := by decide +kernel
theorem d_QuestionReader_isTokenSign_25 : decode prog_7_method_5_code 25 = .ok (.bipush 126, 2) := by decide +kernel
theorem d_QuestionReader_isTokenSign_27 : decode prog_7_method_5_code 27 = .ok (.if_icmp .eq 27, 3) := by decide +kernel
theorem d_QuestionReader_isTokenSign_30 : decode prog_7_method_5_code 30 = .ok (.iload_n 0, 1) := by decide +kernel
theorem d_QuestionReader_isTokenSign_31 : decode prog_7_method_5_code 31 = .ok (.bipush 94, 2) := by decide +kernel
theorem d_QuestionReader_isTokenSign_33 : decode prog_7_method_5_code 33 = .ok (.if_icmp .eq 21, 3) := by decide +kernel
theorem d_QuestionReader_isTokenSign_36 : decode prog_7_method_5_code 36 = .ok (.iload_n 0, 1) := by decide +kernel
theorem d_QuestionReader_isTokenSign_37 : decode prog_7_method_5_code 37 = .ok (.bipush 58, 2) := by decide +kernel
theorem d_QuestionReader_isTokenSign_39 : decode prog_7_method_5_code 39 = .ok (.if_icmp .eq 15, 3) := by decide +kernel
theorem d_QuestionReader_isTokenSign_42 : decode prog_7_method_5_code 42 = .ok (.iload_n 0, 1) := by decide +kernel
theorem d_QuestionReader_isTokenSign_43 : decode prog_7_method_5_code 43 = .ok (.bipush 40, 2) := by decide +kernel
theorem d_QuestionReader_isTokenSign_45 : decode prog_7_method_5_code 45 = .ok (.if_icmp .eq 9, 3) := by decide +kernel
theorem d_QuestionReader_isTokenSign_48 : decode prog_7_method_5_code 48 = .ok (.iload_n 0, 1) := by decide +kernel
theorem d_QuestionReader_isTokenSign_49 : decode prog_7_method_5_code 49 = .ok (.bipush 41, 2) := by decide +kernel
theorem d_QuestionReader_isTokenSign_51 : decode prog_7_method_5_code 51 = .ok (.if_icmp .ne 7, 3) := by decide +kernel
theorem d_QuestionReader_isTokenSign_58 : decode prog_7_method_5_code 58 = .ok (.iconst 0, 1) := by decide +kernel
theorem v_QuestionReader_isTokenSign_0 {G : XG} {d : Nat} {h : XH} {Q : XV → XH → Prop} {X : Nat → XH → Prop} {x0 : Int} (F : xFix h) (hyp : ((x0 = 43 → (Q (xI 1) h)) ∧ (¬ x0 = 43 → ((x0 = 45 → (Q (xI 1) h)) ∧ (¬ x0 = 45 → ((x0 = 34 → (Q (xI 1) h)) ∧ (¬ x0 = 34 → ((x0 = 42 → (Q (xI 1) h)) ∧ (¬ x0 = 42 → ((x0 = 126 → (Q (xI 1) h)) ∧ (¬ x0 = 126 → ((x0 = 94 → (Q (xI 1) h)) ∧ (¬ x0 = 94 → ((x0 = 58 → (Q (xI 1) h)) ∧ (¬ x0 = 58 → ((x0 = 40 → (Q (xI 1) h)) ∧ (¬ x0 = 40 → ((x0 = 41 → (Q (xI 1) h)) ∧ (¬ x0 = 41 → (Q (xI 0) h)))))))))))))))))))) : xwp G m_QuestionReader_isTokenSign (d + 1) 0 [xI x0] [] h Q X := by
  have hnx9 : (93 : Int) ≤ xnx h := F.2.2
  refine xr_okL (fun hl9 => ?_)
  have r_x0 : -2147483648 ≤ x0 ∧ x0 ≤ 2147483647 := hl9 (xI x0) (.head _) (Nat.le_of_ble_eq_true rfl)
  refine xr_iload_n (pc := 0) (i := 0) (hI := d_QuestionReader_isTokenSign_0) (hi := rfl) (hl := rfl) ?_
  refine xr_bipush (pc := 1) (hI := d_QuestionReader_isTokenSign_1) (hr := by decide) (hv := by decide) ?_
  refine xr_icmp_eq (pc := 3) (tgt := 54) (hI := d_QuestionReader_isTokenSign_3) (ht := by decide) (fun q9 => ?_) (fun q9 => ?_)
  · replace hyp := hyp.1 q9
    have q1_ := q9
    clear q9
    refine xr_iconst (pc := 54) (hI := d_QuestionReader_isTokenSign_54) (hr := by decide) ?_
    refine xr_goto (pc := 55) (tgt := 59) (hI := d_QuestionReader_isTokenSign_55) (ht := by decide) ?_
    refine xr_ireturnT (S := []) (pc := 59) (hI := d_QuestionReader_isTokenSign_59) (hr := rfl) (xnar_z (by decide)) ?_
    exact hyp
  · replace hyp := hyp.2 q9
    have q1_ := q9
    clear q9
    refine xr_iload_n (pc := 6) (i := 0) (hI := d_QuestionReader_isTokenSign_6) (hi := rfl) (hl := rfl) ?_
    refine xr_bipush (pc := 7) (hI := d_QuestionReader_isTokenSign_7) (hr := by decide) (hv := by decide) ?_
    refine xr_icmp_eq (pc := 9) (tgt := 54) (hI := d_QuestionReader_isTokenSign_9) (ht := by decide) (fun q9 => ?_) (fun q9 => ?_)
    · replace hyp := hyp.1 q9
      have q2_ := q9
      clear q9
      refine xr_iconst (pc := 54) (hI := d_QuestionReader_isTokenSign_54) (hr := by decide) ?_
      refine xr_goto (pc := 55) (tgt := 59) (hI := d_QuestionReader_isTokenSign_55) (ht := by decide) ?_
      refine xr_ireturnT (S := []) (pc := 59) (hI := d_QuestionReader_isTokenSign_59) (hr := rfl) (xnar_z (by decide)) ?_
      exact hyp
    · replace hyp := hyp.2 q9
      have q2_ := q9
      clear q9
      refine xr_iload_n (pc := 12) (i := 0) (hI := d_QuestionReader_isTokenSign_12) (hi := rfl) (hl := rfl) ?_
      refine xr_bipush (pc := 13) (hI := d_QuestionReader_isTokenSign_13) (hr := by decide) (hv := by decide) ?_
      refine xr_icmp_eq (pc := 15) (tgt := 54) (hI := d_QuestionReader_isTokenSign_15) (ht := by decide) (fun q9 => ?_) (fun q9 => ?_)
      · replace hyp := hyp.1 q9
        have q3_ := q9
        clear q9
        refine xr_iconst (pc := 54) (hI := d_QuestionReader_isTokenSign_54) (hr := by decide) ?_
        refine xr_goto (pc := 55) (tgt := 59) (hI := d_QuestionReader_isTokenSign_55) (ht := by decide) ?_
        refine xr_ireturnT (S := []) (pc := 59) (hI := d_QuestionReader_isTokenSign_59) (hr := rfl) (xnar_z (by decide)) ?_
        exact hyp
      · replace hyp := hyp.2 q9
        have q3_ := q9
        clear q9
        refine xr_iload_n (pc := 18) (i := 0) (hI := d_QuestionReader_isTokenSign_18) (hi := rfl) (hl := rfl) ?_
        refine xr_bipush (pc := 19) (hI := d_QuestionReader_isTokenSign_19) (hr := by decide) (hv := by decide) ?_
        refine xr_icmp_eq (pc := 21) (tgt := 54) (hI := d_QuestionReader_isTokenSign_21) (ht := by decide) (fun q9 => ?_) (fun q9 => ?_)
        · replace hyp := hyp.1 q9
          have q4_ := q9
          clear q9
          refine xr_iconst (pc := 54) (hI := d_QuestionReader_isTokenSign_54) (hr := by decide) ?_
          refine xr_goto (pc := 55) (tgt := 59) (hI := d_QuestionReader_isTokenSign_55) (ht := by decide) ?_
          refine xr_ireturnT (S := []) (pc := 59) (hI := d_QuestionReader_isTokenSign_59) (hr := rfl) (xnar_z (by decide)) ?_
          exact hyp
        · replace hyp := hyp.2 q9
          have q4_ := q9
          clear q9
          refine xr_iload_n (pc := 24) (i := 0) (hI := d_QuestionReader_isTokenSign_24) (hi := rfl) (hl := rfl) ?_
          refine xr_bipush (pc := 25) (hI := d_QuestionReader_isTokenSign_25) (hr := by decide) (hv := by decide) ?_
          refine xr_icmp_eq (pc := 27) (tgt := 54) (hI := d_QuestionReader_isTokenSign_27) (ht := by decide) (fun q9 => ?_) (fun q9 => ?_)
          · replace hyp := hyp.1 q9
            have q5_ := q9
            clear q9
            refine xr_iconst (pc := 54) (hI := d_QuestionReader_isTokenSign_54) (hr := by decide) ?_
            refine xr_goto (pc := 55) (tgt := 59) (hI := d_QuestionReader_isTokenSign_55) (ht := by decide) ?_
            refine xr_ireturnT (S := []) (pc := 59) (hI := d_QuestionReader_isTokenSign_59) (hr := rfl) (xnar_z (by decide)) ?_
            exact hyp
          · replace hyp := hyp.2 q9
            have q5_ := q9
            clear q9
            refine xr_iload_n (pc := 30) (i := 0) (hI := d_QuestionReader_isTokenSign_30) (hi := rfl) (hl := rfl) ?_
            refine xr_bipush (pc := 31) (hI := d_QuestionReader_isTokenSign_31) (hr := by decide) (hv := by decide) ?_
            refine xr_icmp_eq (pc := 33) (tgt := 54) (hI := d_QuestionReader_isTokenSign_33) (ht := by decide) (fun q9 => ?_) (fun q9 => ?_)
            · replace hyp := hyp.1 q9
              have q6_ := q9
              clear q9
              refine xr_iconst (pc := 54) (hI := d_QuestionReader_isTokenSign_54) (hr := by decide) ?_
              refine xr_goto (pc := 55) (tgt := 59) (hI := d_QuestionReader_isTokenSign_55) (ht := by decide) ?_
              refine xr_ireturnT (S := []) (pc := 59) (hI := d_QuestionReader_isTokenSign_59) (hr := rfl) (xnar_z (by decide)) ?_
              exact hyp
            · replace hyp := hyp.2 q9
              have q6_ := q9
              clear q9
              refine xr_iload_n (pc := 36) (i := 0) (hI := d_QuestionReader_isTokenSign_36) (hi := rfl) (hl := rfl) ?_
              refine xr_bipush (pc := 37) (hI := d_QuestionReader_isTokenSign_37) (hr := by decide) (hv := by decide) ?_
              refine xr_icmp_eq (pc := 39) (tgt := 54) (hI := d_QuestionReader_isTokenSign_39) (ht := by decide) (fun q9 => ?_) (fun q9 => ?_)
              · replace hyp := hyp.1 q9
                have q7_ := q9
                clear q9
                refine xr_iconst (pc := 54) (hI := d_QuestionReader_isTokenSign_54) (hr := by decide) ?_
                refine xr_goto (pc := 55) (tgt := 59) (hI := d_QuestionReader_isTokenSign_55) (ht := by decide) ?_
                refine xr_ireturnT (S := []) (pc := 59) (hI := d_QuestionReader_isTokenSign_59) (hr := rfl) (xnar_z (by decide)) ?_
                exact hyp
              · replace hyp := hyp.2 q9
                have q7_ := q9
                clear q9
                refine xr_iload_n (pc := 42) (i := 0) (hI := d_QuestionReader_isTokenSign_42) (hi := rfl) (hl := rfl) ?_
                refine xr_bipush (pc := 43) (hI := d_QuestionReader_isTokenSign_43) (hr := by decide) (hv := by decide) ?_
                refine xr_icmp_eq (pc := 45) (tgt := 54) (hI := d_QuestionReader_isTokenSign_45) (ht := by decide) (fun q9 => ?_) (fun q9 => ?_)
                · replace hyp := hyp.1 q9
                  have q8_ := q9
                  clear q9
                  refine xr_iconst (pc := 54) (hI := d_QuestionReader_isTokenSign_54) (hr := by decide) ?_
                  refine xr_goto (pc := 55) (tgt := 59) (hI := d_QuestionReader_isTokenSign_55) (ht := by decide) ?_
                  refine xr_ireturnT (S := []) (pc := 59) (hI := d_QuestionReader_isTokenSign_59) (hr := rfl) (xnar_z (by decide)) ?_
                  exact hyp
                · replace hyp := hyp.2 q9
                  have q8_ := q9
                  clear q9
                  refine xr_iload_n (pc := 48) (i := 0) (hI := d_QuestionReader_isTokenSign_48) (hi := rfl) (hl := rfl) ?_
                  refine xr_bipush (pc := 49) (hI := d_QuestionReader_isTokenSign_49) (hr := by decide) (hv := by decide) ?_
                  refine xr_icmp_ne (pc := 51) (tgt := 58) (hI := d_QuestionReader_isTokenSign_51) (ht := by decide) (fun q9 => ?_) (fun q9 => ?_)
                  · replace hyp := hyp.2 q9
                    have q9_ := q9
                    clear q9
                    refine xr_iconst (pc := 58) (hI := d_QuestionReader_isTokenSign_58) (hr := by decide) ?_
                    refine xr_ireturnT (S := []) (pc := 59) (hI := d_QuestionReader_isTokenSign_59) (hr := rfl) (xnar_z (by decide)) ?_
                    exact hyp
                  · replace hyp := hyp.1 q9
                    have q9_ := q9
                    clear q9
                    refine xr_iconst (pc := 54) (hI := d_QuestionReader_isTokenSign_54) (hr := by decide) ?_
                    refine xr_goto (pc := 55) (tgt := 59) (hI := d_QuestionReader_isTokenSign_55) (ht := by decide) ?_
                    refine xr_ireturnT (S := []) (pc := 59) (hI := d_QuestionReader_isTokenSign_59) (hr := rfl) (xnar_z (by decide)) ?_
                    exact hyp
abbrev m_QuestionReader_isPartWhole : XM := (⟨"BeaconIndex$QuestionReader", "isPartWhole", "()Z"⟩, prog_7_method_8_code, 1, (some .boolean), [])
theorem d_QuestionReader_isPartWhole_0 : decode prog_7_method_8_code 0 = .ok (.aload_n 0, 1) := by decide +kernel
theorem d_QuestionReader_isPartWhole_1 : decode prog_7_method_8_code 1 = .ok (.getfield 64, 3) := by decide +kernel
theorem w_320 : Cond.fieldLink "BeaconIndex$QuestionReader" 64 "BeaconIndex$QuestionReader" "state" "I" ∈ lw_tbl := List.mem_append_right _ (List.mem_of_getElem? (i := 320) (by decide +kernel))
theorem d_QuestionReader_isPartWhole_4 : decode prog_7_method_8_code 4 = .ok (.bipush 8, 2) := by decide +kernel
theorem d_QuestionReader_isPartWhole_6 : decode prog_7_method_8_code 6 = .ok (.if_icmp .lt 7, 3) := by decide +kernel
theorem d_QuestionReader_isPartWhole_13 : decode prog_7_method_8_code 13 = .ok (.iconst 0, 1) := by decide +kernel
theorem d_QuestionReader_isPartWhole_14 : decode prog_7_method_8_code 14 = .ok (.ireturn, 1) := by decide +kernel
theorem d_QuestionReader_isPartWhole_9 : decode prog_7_method_8_code 9 = .ok (.iconst 1, 1) := by decide +kernel
theorem d_QuestionReader_isPartWhole_10 : decode prog_7_method_8_code 10 = .ok (.goto 4, 3) := by decide +kernel
theorem v_QuestionReader_isPartWhole_0 {G : XG} {d : Nat} {h : XH} {Q : XV → XH → Prop} {X : Nat → XH → Prop} (F : xFix h) (hyp : (((xpl h 32 12) < 8 → (Q (xI 0) h)) ∧ (¬ (xpl h 32 12) < 8 → (Q (xI 1) h)))) : xwp G m_QuestionReader_isPartWhole (d + 1) 0 [xR 32] [] h Q X := by
  have hnx9 : (93 : Int) ≤ xnx h := F.2.2
  refine xr_aload_n (pc := 0) (i := 0) (hI := d_QuestionReader_isPartWhole_0) (hi := rfl) (hl := rfl) ?_
  refine xg_getf (pc := 1) (ci := 6) (k := 12) (N := 15) (v9 := 0) (v := (xpl h 32 12)) (T := xF6) (hI := d_QuestionReader_isPartWhole_1) (hw := w_320) rfl xi6 (Or.inl rfl) (Nat.le_of_ble_eq_true rfl) (Nat.le_of_ble_eq_true rfl) rfl (ft_32 F) rfl (fun f1_ => ?_)
  replace f1_ : -2147483648 ≤ (xpl h 32 12) ∧ (xpl h 32 12) ≤ 2147483647 := f1_
  refine xr_bipush (pc := 4) (hI := d_QuestionReader_isPartWhole_4) (hr := by decide) (hv := by decide) ?_
  refine xr_icmp_lt (pc := 6) (tgt := 13) (hI := d_QuestionReader_isPartWhole_6) (ht := by decide) (fun q9 => ?_) (fun q9 => ?_)
  · replace hyp := hyp.1 q9
    have q2_ := q9
    clear q9
    refine xr_iconst (pc := 13) (hI := d_QuestionReader_isPartWhole_13) (hr := by decide) ?_
    refine xr_ireturnT (S := []) (pc := 14) (hI := d_QuestionReader_isPartWhole_14) (hr := rfl) (xnar_z (by decide)) ?_
    exact hyp
  · replace hyp := hyp.2 q9
    have q2_ := q9
    clear q9
    refine xr_iconst (pc := 9) (hI := d_QuestionReader_isPartWhole_9) (hr := by decide) ?_
    refine xr_goto (pc := 10) (tgt := 14) (hI := d_QuestionReader_isPartWhole_10) (ht := by decide) ?_
    refine xr_ireturnT (S := []) (pc := 14) (hI := d_QuestionReader_isPartWhole_14) (hr := rfl) (xnar_z (by decide)) ?_
    exact hyp
def tsF (b : Int) : Bool := decide (b = 43 ∨ b = 45 ∨ b = 34 ∨ b = 42 ∨ b = 126 ∨ b = 94 ∨ b = 58 ∨ b = 40 ∨ b = 41)
theorem p_QR_isTokenSign {G : XG} {d : Nat} {h : XH} {Q : XV → XH → Prop} {X : Nat → XH → Prop} {b : Int} (F : xFix h) (hq : Q (xI (b2i (tsF b))) h) : xwp G m_QuestionReader_isTokenSign (d + 1) 0 [xI b] [] h Q X := by
  unfold tsF at hq
  refine v_QuestionReader_isTokenSign_0 F ?_
  refine ⟨fun q1 => ?_, fun q1 => ?_⟩
  · rw [decide_eq_true (by omega)] at hq; exact hq
  · refine ⟨fun q2 => ?_, fun q2 => ?_⟩
    · rw [decide_eq_true (by omega)] at hq; exact hq
    · refine ⟨fun q3 => ?_, fun q3 => ?_⟩
      · rw [decide_eq_true (by omega)] at hq; exact hq
      · refine ⟨fun q4 => ?_, fun q4 => ?_⟩
        · rw [decide_eq_true (by omega)] at hq; exact hq
        · refine ⟨fun q5 => ?_, fun q5 => ?_⟩
          · rw [decide_eq_true (by omega)] at hq; exact hq
          · refine ⟨fun q6 => ?_, fun q6 => ?_⟩
            · rw [decide_eq_true (by omega)] at hq; exact hq
            · refine ⟨fun q7 => ?_, fun q7 => ?_⟩
              · rw [decide_eq_true (by omega)] at hq; exact hq
              · refine ⟨fun q8 => ?_, fun q8 => ?_⟩
                · rw [decide_eq_true (by omega)] at hq; exact hq
                · refine ⟨fun q9 => ?_, fun q9 => ?_⟩
                  · rw [decide_eq_true (by omega)] at hq; exact hq
                  · rw [decide_eq_false (by omega)] at hq; exact hq
theorem p_QR_isPartWhole {G : XG} {d : Nat} {h : XH} {Q : XV → XH → Prop} {X : Nat → XH → Prop} (F : xFix h) (hq : Q (xI (b2i (decide (8 ≤ xpl h 32 12)))) h) : xwp G m_QuestionReader_isPartWhole (d + 1) 0 [xR 32] [] h Q X := by
  refine v_QuestionReader_isPartWhole_0 F ?_
  refine ⟨fun q1 => ?_, fun q1 => ?_⟩
  · rw [decide_eq_false (by omega)] at hq; exact hq
  · rw [decide_eq_true (by omega)] at hq; exact hq
abbrev m_QuestionReader_canPartBegin : XM := (⟨"BeaconIndex$QuestionReader", "canPartBegin", "()Z"⟩, prog_7_method_9_code, 1, (some .boolean), [])
theorem d_QuestionReader_canPartBegin_0 : decode prog_7_method_9_code 0 = .ok (.aload_n 0, 1) := by decide +kernel
theorem d_QuestionReader_canPartBegin_1 : decode prog_7_method_9_code 1 = .ok (.getfield 64, 3) := by decide +kernel
theorem d_QuestionReader_canPartBegin_4 : decode prog_7_method_9_code 4 = .ok (.ifCond .eq 10, 3) := by decide +kernel
theorem d_QuestionReader_canPartBegin_14 : decode prog_7_method_9_code 14 = .ok (.iconst 1, 1) := by decide +kernel
theorem d_QuestionReader_canPartBegin_15 : decode prog_7_method_9_code 15 = .ok (.goto 4, 3) := by decide +kernel
theorem d_QuestionReader_canPartBegin_19 : decode prog_7_method_9_code 19 = .ok (.ireturn, 1) := by decide +kernel
theorem d_QuestionReader_canPartBegin_7 : decode prog_7_method_9_code 7 = .ok (.aload_n 0, 1) := by decide +kernel
theorem d_QuestionReader_canPartBegin_8 : decode prog_7_method_9_code 8 = .ok (.invokevirtual 143, 3) := by decide +kernel
theorem w_9 : Cond.initialized "BeaconIndex$QuestionReader" ∈ lw_tbl := List.mem_append_right _ (List.mem_of_getElem? (i := 9) (by decide +kernel))
theorem k_QuestionReader_isPartWhole : xCal m_QuestionReader_isPartWhole 0 := ⟨List.mem_append_right _ (List.mem_of_getElem? (i := 1020) (by decide +kernel)), w_9, Nat.le_of_ble_eq_true rfl, ⟨by decide +kernel, by decide +kernel⟩, by decide +kernel, by decide +kernel, rfl⟩
theorem w_1017 : Cond.methodLink "BeaconIndex$QuestionReader" 143 ⟨"BeaconIndex$QuestionReader", "isPartWhole", "()Z"⟩ ∈ lw_tbl := List.mem_append_right _ (List.mem_of_getElem? (i := 1017) (by decide +kernel))
theorem w_1019 : Cond.instanceMethod ⟨"BeaconIndex$QuestionReader", "isPartWhole", "()Z"⟩ ∈ lw_tbl := List.mem_append_right _ (List.mem_of_getElem? (i := 1019) (by decide +kernel))
theorem sel_QuestionReader_isPartWhole : Cond.selects "BeaconIndex$QuestionReader" ⟨"BeaconIndex$QuestionReader", "isPartWhole", "()Z"⟩ ⟨"BeaconIndex$QuestionReader", "isPartWhole", "()Z"⟩ ∈ lw_tbl := List.mem_append_left _ (by decide +kernel)
theorem v_QuestionReader_canPartBegin_0 {G : XG} {d : Nat} {h : XH} {Q : XV → XH → Prop} {X : Nat → XH → Prop} (F : xFix h) (hyp : (((xpl h 32 12) = 0 → (Q (xI 1) h)) ∧ (¬ (xpl h 32 12) = 0 → (xwp G m_QuestionReader_isPartWhole (d + 1) 0 [xR 32] [] h (fun v9 h9 => xwp G m_QuestionReader_canPartBegin (d + 2) 11 [xZ] (xpush v9 []) h9 Q X) X)))) : xwp G m_QuestionReader_canPartBegin (d + 2) 0 [xR 32] [] h Q X := by
  have hnx9 : (93 : Int) ≤ xnx h := F.2.2
  refine xr_aload_n (pc := 0) (i := 0) (hI := d_QuestionReader_canPartBegin_0) (hi := rfl) (hl := rfl) ?_
  refine xg_getf (pc := 1) (ci := 6) (k := 12) (N := 15) (v9 := 0) (v := (xpl h 32 12)) (T := xF6) (hI := d_QuestionReader_canPartBegin_1) (hw := w_320) rfl xi6 (Or.inl rfl) (Nat.le_of_ble_eq_true rfl) (Nat.le_of_ble_eq_true rfl) rfl (ft_32 F) rfl (fun f1_ => ?_)
  replace f1_ : -2147483648 ≤ (xpl h 32 12) ∧ (xpl h 32 12) ≤ 2147483647 := f1_
  refine xr_if_eq (pc := 4) (tgt := 14) (hI := d_QuestionReader_canPartBegin_4) (ht := by decide) (fun q9 => ?_) (fun q9 => ?_)
  · replace hyp := hyp.1 q9
    have q2_ := q9
    clear q9
    refine xr_iconst (pc := 14) (hI := d_QuestionReader_canPartBegin_14) (hr := by decide) ?_
    refine xr_goto (pc := 15) (tgt := 19) (hI := d_QuestionReader_canPartBegin_15) (ht := by decide) ?_
    refine xr_ireturnT (S := []) (pc := 19) (hI := d_QuestionReader_canPartBegin_19) (hr := rfl) (xnar_z (by decide)) ?_
    exact hyp
  · replace hyp := hyp.2 q9
    have q2_ := q9
    clear q9
    refine xr_aload_n (pc := 7) (i := 0) (hI := d_QuestionReader_canPartBegin_7) (hi := rfl) (hl := rfl) ?_
    exact xq_callV (pc := 8) (index := 143) (K := m_QuestionReader_isPartWhole) (As := []) (S := []) (L0 := [xR 32]) (hI := d_QuestionReader_canPartBegin_8) (hK := k_QuestionReader_isPartWhole) (hlk := w_1017) (hnoM := rfl) (hS8 := Nat.le_of_ble_eq_true rfl) (ci := 6) (N := 15) (C := "BeaconIndex$QuestionReader") (T := xF6) (hc := rfl) (hci := Nat.le_of_ble_eq_true rfl) (htb := (ft_32 F)) (hinst := w_1019) (hsel := sel_QuestionReader_isPartWhole) (hlen := Nat.le_of_ble_eq_true rfl) (hst := rfl) (hL0 := rfl)  (xwp_mono hyp (fun v9 h9 q9 => xr_drop (L9 := [xZ]) (xdrz xdr0) q9) (fun _ _ z9 => z9))
theorem d_QuestionReader_canPartBegin_11 : decode prog_7_method_9_code 11 = .ok (.ifCond .eq 7, 3) := by decide +kernel
theorem d_QuestionReader_canPartBegin_18 : decode prog_7_method_9_code 18 = .ok (.iconst 0, 1) := by decide +kernel
theorem v_QuestionReader_canPartBegin_11 {G : XG} {d : Nat} {h : XH} {Q : XV → XH → Prop} {X : Nat → XH → Prop} {s0 : Int} (F : xFix h) (hyp : ((s0 = 0 → (Q (xI 0) h)) ∧ (¬ s0 = 0 → (Q (xI 1) h)))) : xwp G m_QuestionReader_canPartBegin (d + 2) 11 [xZ] [xI s0] h Q X := by
  have hnx9 : (93 : Int) ≤ xnx h := F.2.2
  refine xr_okS (fun hs9 => ?_)
  have r_s0 : -2147483648 ≤ s0 ∧ s0 ≤ 2147483647 := hs9 (xI s0) (.head _)
  refine xr_if_eq (pc := 11) (tgt := 18) (hI := d_QuestionReader_canPartBegin_11) (ht := by decide) (fun q9 => ?_) (fun q9 => ?_)
  · replace hyp := hyp.1 q9
    have q1_ := q9
    clear q9
    refine xr_iconst (pc := 18) (hI := d_QuestionReader_canPartBegin_18) (hr := by decide) ?_
    refine xr_ireturnT (S := []) (pc := 19) (hI := d_QuestionReader_canPartBegin_19) (hr := rfl) (xnar_z (by decide)) ?_
    exact hyp
  · replace hyp := hyp.2 q9
    have q1_ := q9
    clear q9
    refine xr_iconst (pc := 14) (hI := d_QuestionReader_canPartBegin_14) (hr := by decide) ?_
    refine xr_goto (pc := 15) (tgt := 19) (hI := d_QuestionReader_canPartBegin_15) (ht := by decide) ?_
    refine xr_ireturnT (S := []) (pc := 19) (hI := d_QuestionReader_canPartBegin_19) (hr := rfl) (xnar_z (by decide)) ?_
    exact hyp
def cpb (s : Int) : Bool := decide (s = 0 ∨ 8 ≤ s)
def ccb (s : Int) : Bool := decide (s = 0 ∨ 8 ≤ s ∨ s = 1 ∨ s = 2)
theorem p_QR_canPartBegin {G : XG} {d : Nat} {h : XH} {Q : XV → XH → Prop} {X : Nat → XH → Prop} (F : xFix h) (hq : Q (xI (b2i (cpb (xpl h 32 12)))) h) : xwp G m_QuestionReader_canPartBegin (d + 2) 0 [xR 32] [] h Q X := by
  unfold cpb at hq
  refine v_QuestionReader_canPartBegin_0 F ?_
  refine ⟨fun q1 => ?_, fun q1 => ?_⟩
  · rw [decide_eq_true (by omega)] at hq; exact hq
  · refine p_QR_isPartWhole F ?_
    refine v_QuestionReader_canPartBegin_11 F ?_
    refine ⟨fun q1 => ?_, fun q1 => ?_⟩
    · have := of_decide_eq_false (bz0 q1)
      rw [decide_eq_false (by omega)] at hq; exact hq
    · have := of_decide_eq_true (bz1 q1)
      rw [decide_eq_true (by omega)] at hq; exact hq
abbrev m_QuestionReader_canCoreBegin : XM := (⟨"BeaconIndex$QuestionReader", "canCoreBegin", "()Z"⟩, prog_7_method_10_code, 1, (some .boolean), [])
theorem d_QuestionReader_canCoreBegin_0 : decode prog_7_method_10_code 0 = .ok (.aload_n 0, 1) := by decide +kernel
theorem d_QuestionReader_canCoreBegin_1 : decode prog_7_method_10_code 1 = .ok (.invokevirtual 155, 3) := by decide +kernel
theorem k_QuestionReader_canPartBegin : xCal m_QuestionReader_canPartBegin 0 := ⟨List.mem_append_right _ (List.mem_of_getElem? (i := 1016) (by decide +kernel)), w_9, Nat.le_of_ble_eq_true rfl, ⟨by decide +kernel, by decide +kernel⟩, by decide +kernel, by decide +kernel, rfl⟩
theorem w_1013 : Cond.methodLink "BeaconIndex$QuestionReader" 155 ⟨"BeaconIndex$QuestionReader", "canPartBegin", "()Z"⟩ ∈ lw_tbl := List.mem_append_right _ (List.mem_of_getElem? (i := 1013) (by decide +kernel))
theorem w_1015 : Cond.instanceMethod ⟨"BeaconIndex$QuestionReader", "canPartBegin", "()Z"⟩ ∈ lw_tbl := List.mem_append_right _ (List.mem_of_getElem? (i := 1015) (by decide +kernel))
theorem sel_QuestionReader_canPartBegin : Cond.selects "BeaconIndex$QuestionReader" ⟨"BeaconIndex$QuestionReader", "canPartBegin", "()Z"⟩ ⟨"BeaconIndex$QuestionReader", "canPartBegin", "()Z"⟩ ∈ lw_tbl := List.mem_append_left _ (by decide +kernel)
theorem v_QuestionReader_canCoreBegin_0 {G : XG} {d : Nat} {h : XH} {Q : XV → XH → Prop} {X : Nat → XH → Prop} (F : xFix h) (hyp : (xwp G m_QuestionReader_canPartBegin (d + 2) 0 [xR 32] [] h (fun v9 h9 => xwp G m_QuestionReader_canCoreBegin (d + 3) 4 [xR 32] (xpush v9 []) h9 Q X) X)) : xwp G m_QuestionReader_canCoreBegin (d + 3) 0 [xR 32] [] h Q X := by
  have hnx9 : (93 : Int) ≤ xnx h := F.2.2
  refine xr_aload_n (pc := 0) (i := 0) (hI := d_QuestionReader_canCoreBegin_0) (hi := rfl) (hl := rfl) ?_
  exact xq_callV (pc := 1) (index := 155) (K := m_QuestionReader_canPartBegin) (As := []) (S := []) (L0 := [xR 32]) (hI := d_QuestionReader_canCoreBegin_1) (hK := k_QuestionReader_canPartBegin) (hlk := w_1013) (hnoM := rfl) (hS8 := Nat.le_of_ble_eq_true rfl) (ci := 6) (N := 15) (C := "BeaconIndex$QuestionReader") (T := xF6) (hc := rfl) (hci := Nat.le_of_ble_eq_true rfl) (htb := (ft_32 F)) (hinst := w_1015) (hsel := sel_QuestionReader_canPartBegin) (hlen := Nat.le_of_ble_eq_true rfl) (hst := rfl) (hL0 := rfl)  hyp
theorem d_QuestionReader_canCoreBegin_4 : decode prog_7_method_10_code 4 = .ok (.ifCond .ne 19, 3) := by decide +kernel
theorem d_QuestionReader_canCoreBegin_23 : decode prog_7_method_10_code 23 = .ok (.iconst 1, 1) := by decide +kernel
theorem d_QuestionReader_canCoreBegin_24 : decode prog_7_method_10_code 24 = .ok (.goto 4, 3) := by decide +kernel
theorem d_QuestionReader_canCoreBegin_28 : decode prog_7_method_10_code 28 = .ok (.ireturn, 1) := by decide +kernel
theorem d_QuestionReader_canCoreBegin_7 : decode prog_7_method_10_code 7 = .ok (.aload_n 0, 1) := by decide +kernel
theorem d_QuestionReader_canCoreBegin_8 : decode prog_7_method_10_code 8 = .ok (.getfield 64, 3) := by decide +kernel
theorem d_QuestionReader_canCoreBegin_11 : decode prog_7_method_10_code 11 = .ok (.iconst 1, 1) := by decide +kernel
theorem d_QuestionReader_canCoreBegin_12 : decode prog_7_method_10_code 12 = .ok (.if_icmp .eq 11, 3) := by decide +kernel
theorem d_QuestionReader_canCoreBegin_15 : decode prog_7_method_10_code 15 = .ok (.aload_n 0, 1) := by decide +kernel
theorem d_QuestionReader_canCoreBegin_16 : decode prog_7_method_10_code 16 = .ok (.getfield 64, 3) := by decide +kernel
theorem d_QuestionReader_canCoreBegin_19 : decode prog_7_method_10_code 19 = .ok (.iconst 2, 1) := by decide +kernel
theorem d_QuestionReader_canCoreBegin_20 : decode prog_7_method_10_code 20 = .ok (.if_icmp .ne 7, 3) := by decide +kernel
theorem d_QuestionReader_canCoreBegin_27 : decode prog_7_method_10_code 27 = .ok (.iconst 0, 1) := by decide +kernel
theorem v_QuestionReader_canCoreBegin_4 {G : XG} {d : Nat} {h : XH} {Q : XV → XH → Prop} {X : Nat → XH → Prop} {s0 : Int} (F : xFix h) (hyp : ((s0 = 0 → (((xpl h 32 12) = 1 → (Q (xI 1) h)) ∧ (¬ (xpl h 32 12) = 1 → (((xpl h 32 12) = 2 → (Q (xI 1) h)) ∧ (¬ (xpl h 32 12) = 2 → (Q (xI 0) h)))))) ∧ (¬ s0 = 0 → (Q (xI 1) h)))) : xwp G m_QuestionReader_canCoreBegin (d + 3) 4 [xR 32] [xI s0] h Q X := by
  have hnx9 : (93 : Int) ≤ xnx h := F.2.2
  refine xr_okS (fun hs9 => ?_)
  have r_s0 : -2147483648 ≤ s0 ∧ s0 ≤ 2147483647 := hs9 (xI s0) (.head _)
  refine xr_if_ne (pc := 4) (tgt := 23) (hI := d_QuestionReader_canCoreBegin_4) (ht := by decide) (fun q9 => ?_) (fun q9 => ?_)
  · replace hyp := hyp.2 q9
    have q1_ := q9
    clear q9
    refine xr_iconst (pc := 23) (hI := d_QuestionReader_canCoreBegin_23) (hr := by decide) ?_
    refine xr_goto (pc := 24) (tgt := 28) (hI := d_QuestionReader_canCoreBegin_24) (ht := by decide) ?_
    refine xr_ireturnT (S := []) (pc := 28) (hI := d_QuestionReader_canCoreBegin_28) (hr := rfl) (xnar_z (by decide)) ?_
    exact hyp
  · replace hyp := hyp.1 q9
    have q1_ := q9
    clear q9
    refine xr_aload_n (pc := 7) (i := 0) (hI := d_QuestionReader_canCoreBegin_7) (hi := rfl) (hl := rfl) ?_
    refine xg_getf (pc := 8) (ci := 6) (k := 12) (N := 15) (v9 := 0) (v := (xpl h 32 12)) (T := xF6) (hI := d_QuestionReader_canCoreBegin_8) (hw := w_320) rfl xi6 (Or.inl rfl) (Nat.le_of_ble_eq_true rfl) (Nat.le_of_ble_eq_true rfl) rfl (ft_32 F) rfl (fun f2_ => ?_)
    replace f2_ : -2147483648 ≤ (xpl h 32 12) ∧ (xpl h 32 12) ≤ 2147483647 := f2_
    refine xr_iconst (pc := 11) (hI := d_QuestionReader_canCoreBegin_11) (hr := by decide) ?_
    refine xr_icmp_eq (pc := 12) (tgt := 23) (hI := d_QuestionReader_canCoreBegin_12) (ht := by decide) (fun q9 => ?_) (fun q9 => ?_)
    · replace hyp := hyp.1 q9
      have q3_ := q9
      clear q9
      refine xr_iconst (pc := 23) (hI := d_QuestionReader_canCoreBegin_23) (hr := by decide) ?_
      refine xr_goto (pc := 24) (tgt := 28) (hI := d_QuestionReader_canCoreBegin_24) (ht := by decide) ?_
      refine xr_ireturnT (S := []) (pc := 28) (hI := d_QuestionReader_canCoreBegin_28) (hr := rfl) (xnar_z (by decide)) ?_
      exact hyp
    · replace hyp := hyp.2 q9
      have q3_ := q9
      clear q9
      refine xr_aload_n (pc := 15) (i := 0) (hI := d_QuestionReader_canCoreBegin_15) (hi := rfl) (hl := rfl) ?_
      refine xg_getf (pc := 16) (ci := 6) (k := 12) (N := 15) (v9 := 0) (v := (xpl h 32 12)) (T := xF6) (hI := d_QuestionReader_canCoreBegin_16) (hw := w_320) rfl xi6 (Or.inl rfl) (Nat.le_of_ble_eq_true rfl) (Nat.le_of_ble_eq_true rfl) rfl (ft_32 F) rfl (fun f4_ => ?_)
      replace f4_ : -2147483648 ≤ (xpl h 32 12) ∧ (xpl h 32 12) ≤ 2147483647 := f4_
      refine xr_iconst (pc := 19) (hI := d_QuestionReader_canCoreBegin_19) (hr := by decide) ?_
      refine xr_icmp_ne (pc := 20) (tgt := 27) (hI := d_QuestionReader_canCoreBegin_20) (ht := by decide) (fun q9 => ?_) (fun q9 => ?_)
      · replace hyp := hyp.2 q9
        have q5_ := q9
        clear q9
        refine xr_iconst (pc := 27) (hI := d_QuestionReader_canCoreBegin_27) (hr := by decide) ?_
        refine xr_ireturnT (S := []) (pc := 28) (hI := d_QuestionReader_canCoreBegin_28) (hr := rfl) (xnar_z (by decide)) ?_
        exact hyp
      · replace hyp := hyp.1 q9
        have q5_ := q9
        clear q9
        refine xr_iconst (pc := 23) (hI := d_QuestionReader_canCoreBegin_23) (hr := by decide) ?_
        refine xr_goto (pc := 24) (tgt := 28) (hI := d_QuestionReader_canCoreBegin_24) (ht := by decide) ?_
        refine xr_ireturnT (S := []) (pc := 28) (hI := d_QuestionReader_canCoreBegin_28) (hr := rfl) (xnar_z (by decide)) ?_
        exact hyp
theorem p_QR_canCoreBegin {G : XG} {d : Nat} {h : XH} {Q : XV → XH → Prop} {X : Nat → XH → Prop} (F : xFix h) (hq : Q (xI (b2i (ccb (xpl h 32 12)))) h) : xwp G m_QuestionReader_canCoreBegin (d + 3) 0 [xR 32] [] h Q X := by
  unfold ccb at hq
  refine v_QuestionReader_canCoreBegin_0 F ?_
  refine p_QR_canPartBegin F ?_
  refine v_QuestionReader_canCoreBegin_4 F ?_
  refine ⟨fun q1 => ?_, fun q1 => ?_⟩
  · refine ⟨fun q2 => ?_, fun q2 => ?_⟩
    · rw [decide_eq_true (by omega)] at hq; exact hq
    · refine ⟨fun q3 => ?_, fun q3 => ?_⟩
      · rw [decide_eq_true (by omega)] at hq; exact hq
      · have z := bz0 q1
        unfold cpb at z
        have := of_decide_eq_false z
        rw [decide_eq_false (by omega)] at hq; exact hq
  · have z := bz1 q1
    unfold cpb at z
    have := of_decide_eq_true z
    rw [decide_eq_true (by omega)] at hq; exact hq
abbrev m_QuestionReader_moves : XM := (⟨"BeaconIndex$QuestionReader", "moves", "(ZI)Z"⟩, prog_7_method_7_code, 3, (some .boolean), [])
theorem d_QuestionReader_moves_0 : decode prog_7_method_7_code 0 = .ok (.iload_n 1, 1) := by decide +kernel
theorem d_QuestionReader_moves_1 : decode prog_7_method_7_code 1 = .ok (.ifCond .eq 8, 3) := by decide +kernel
theorem d_QuestionReader_moves_9 : decode prog_7_method_7_code 9 = .ok (.iload_n 1, 1) := by decide +kernel
theorem d_QuestionReader_moves_10 : decode prog_7_method_7_code 10 = .ok (.ireturn, 1) := by decide +kernel
theorem d_QuestionReader_moves_4 : decode prog_7_method_7_code 4 = .ok (.aload_n 0, 1) := by decide +kernel
theorem d_QuestionReader_moves_5 : decode prog_7_method_7_code 5 = .ok (.iload_n 2, 1) := by decide +kernel
theorem d_QuestionReader_moves_6 : decode prog_7_method_7_code 6 = .ok (.putfield 64, 3) := by decide +kernel
theorem xfk_32_12 : xfree 32 12 = true := by decide +kernel
theorem v_QuestionReader_moves_0 {G : XG} {d : Nat} {h : XH} {Q : XV → XH → Prop} {X : Nat → XH → Prop} {x1 x2 : Int} (F : xFix h) (hyp : ((x1 = 0 → (Q (xI x1) h)) ∧ (¬ x1 = 0 → (0 ≤ x1 ∧ x1 ≤ 1) ∧ (xFix (xst h 32 12 x2) → Q (xI x1) (xst h 32 12 x2))))) : xwp G m_QuestionReader_moves (d + 1) 0 [xR 32, xI x1, xI x2] [] h Q X := by
  have hnx9 : (93 : Int) ≤ xnx h := F.2.2
  refine xr_okL (fun hl9 => ?_)
  have r_x1 : -2147483648 ≤ x1 ∧ x1 ≤ 2147483647 := hl9 (xI x1) (.tail _ (.head _)) (Nat.le_of_ble_eq_true rfl)
  have r_x2 : -2147483648 ≤ x2 ∧ x2 ≤ 2147483647 := hl9 (xI x2) (.tail _ (.tail _ (.head _))) (Nat.le_of_ble_eq_true rfl)
  refine xr_iload_n (pc := 0) (i := 1) (hI := d_QuestionReader_moves_0) (hi := rfl) (hl := rfl) ?_
  refine xr_if_eq (pc := 1) (tgt := 9) (hI := d_QuestionReader_moves_1) (ht := by decide) (fun q9 => ?_) (fun q9 => ?_)
  · replace hyp := hyp.1 q9
    have q1_ := q9
    clear q9
    refine xr_iload_n (pc := 9) (i := 1) (hI := d_QuestionReader_moves_9) (hi := rfl) (hl := rfl) ?_
    refine xr_ireturnT (S := []) (pc := 10) (hI := d_QuestionReader_moves_10) (hr := rfl) (xnar_z ⟨(by clear hyp; omega), (by clear hyp; omega)⟩) ?_
    exact hyp
  · replace hyp := hyp.2 q9
    have q1_ := q9
    clear q9
    refine xr_aload_n (pc := 4) (i := 0) (hI := d_QuestionReader_moves_4) (hi := rfl) (hl := rfl) ?_
    refine xr_iload_n (pc := 5) (i := 2) (hI := d_QuestionReader_moves_5) (hi := rfl) (hl := rfl) ?_
    refine xr_putf (pc := 6) (ci := 6) (k := 12) (N := 15) (v9 := 0) (T := xF6) (tF := xT6) (hI := d_QuestionReader_moves_6) (hw := w_320) rfl xi6 xt6 xn6 (Or.inl rfl) (Nat.le_of_ble_eq_true rfl) (Nat.le_of_ble_eq_true rfl) rfl xfit_i rfl (ft_32 F) (by decide) (fun z => z) ?_
    have F2_ : xFix (xst h 32 12 x2) := F.stL xfk_32_12
    refine xr_iload_n (pc := 9) (i := 1) (hI := d_QuestionReader_moves_9) (hi := rfl) (hl := rfl) ?_
    obtain ⟨c9, hyp⟩ := hyp
    refine xr_ireturnT (S := []) (pc := 10) (hI := d_QuestionReader_moves_10) (hr := rfl) (xnar_z c9) ?_
    exact hyp F2_
abbrev m_QuestionReader_beginCore : XM := (⟨"BeaconIndex$QuestionReader", "beginCore", "()V"⟩, prog_7_method_12_code, 1, none, [])
theorem d_QuestionReader_beginCore_0 : decode prog_7_method_12_code 0 = .ok (.aload_n 0, 1) := by decide +kernel
theorem d_QuestionReader_beginCore_1 : decode prog_7_method_12_code 1 = .ok (.invokevirtual 155, 3) := by decide +kernel
theorem d_QuestionReader_beginCore_4 : decode prog_7_method_12_code 4 = .ok (.ifCond .eq 13, 3) := by decide +kernel
theorem d_QuestionReader_beginCore_17 : decode prog_7_method_12_code 17 = .ok (.return_, 1) := by decide +kernel
theorem d_QuestionReader_beginCore_7 : decode prog_7_method_12_code 7 = .ok (.aload_n 0, 1) := by decide +kernel
theorem d_QuestionReader_beginCore_8 : decode prog_7_method_12_code 8 = .ok (.iconst 0, 1) := by decide +kernel
theorem d_QuestionReader_beginCore_9 : decode prog_7_method_12_code 9 = .ok (.putfield 67, 3) := by decide +kernel
theorem w_321 : Cond.fieldLink "BeaconIndex$QuestionReader" 67 "BeaconIndex$QuestionReader" "sign" "I" ∈ lw_tbl := List.mem_append_right _ (List.mem_of_getElem? (i := 321) (by decide +kernel))
theorem xfk_32_13 : xfree 32 13 = true := by decide +kernel
theorem d_QuestionReader_beginCore_12 : decode prog_7_method_12_code 12 = .ok (.aload_n 0, 1) := by decide +kernel
theorem d_QuestionReader_beginCore_13 : decode prog_7_method_12_code 13 = .ok (.iconst 2, 1) := by decide +kernel
theorem d_QuestionReader_beginCore_14 : decode prog_7_method_12_code 14 = .ok (.putfield 70, 3) := by decide +kernel
theorem w_322 : Cond.fieldLink "BeaconIndex$QuestionReader" 70 "BeaconIndex$QuestionReader" "ownField" "I" ∈ lw_tbl := List.mem_append_right _ (List.mem_of_getElem? (i := 322) (by decide +kernel))
theorem xfk_32_14 : xfree 32 14 = true := by decide +kernel
theorem v_QuestionReader_beginCore_0 {G : XG} {d : Nat} {h : XH} {Q : XV → XH → Prop} {X : Nat → XH → Prop} (F : xFix h) (hyp : ((((cpb (xpl h 32 12)) = true) → (xFix (xst (xst h 32 13 0) 32 14 2) → Q xN (xst (xst h 32 13 0) 32 14 2))) ∧ (¬ ((cpb (xpl h 32 12)) = true) → (Q xN h)))) : xwp G m_QuestionReader_beginCore (d + 3) 0 [xR 32] [] h Q X := by
  have hnx9 : (93 : Int) ≤ xnx h := F.2.2
  refine xr_aload_n (pc := 0) (i := 0) (hI := d_QuestionReader_beginCore_0) (hi := rfl) (hl := rfl) ?_
  refine xq_callV (pc := 1) (index := 155) (K := m_QuestionReader_canPartBegin) (As := []) (S := []) (L0 := [xR 32]) (hI := d_QuestionReader_beginCore_1) (hK := k_QuestionReader_canPartBegin) (hlk := w_1013) (hnoM := rfl) (hS8 := Nat.le_of_ble_eq_true rfl) (ci := 6) (N := 15) (C := "BeaconIndex$QuestionReader") (T := xF6) (hc := rfl) (hci := Nat.le_of_ble_eq_true rfl) (htb := (ft_32 F)) (hinst := w_1015) (hsel := sel_QuestionReader_canPartBegin) (hlen := Nat.le_of_ble_eq_true rfl) (hst := rfl) (hL0 := rfl)  (p_QR_canPartBegin F  ?_)
  show xwp G m_QuestionReader_beginCore (d + 3) 4 [xR 32] [xI (b2i (cpb (xpl h 32 12)))] _ _ _
  refine xr_if_eq (pc := 4) (tgt := 17) (hI := d_QuestionReader_beginCore_4) (ht := by decide) (fun q9 => ?_) (fun q9 => ?_)
  · replace hyp := hyp.2 (b2i_0.mp q9)
    have q1_ := b2i_0.mp q9
    clear q9
    refine xr_return (S := []) (pc := 17) (hI := d_QuestionReader_beginCore_17) (hr := rfl) ?_
    exact hyp
  · replace hyp := hyp.1 (b2i_1.mp q9)
    have q1_ := b2i_1.mp q9
    clear q9
    refine xr_aload_n (pc := 7) (i := 0) (hI := d_QuestionReader_beginCore_7) (hi := rfl) (hl := rfl) ?_
    refine xr_iconst (pc := 8) (hI := d_QuestionReader_beginCore_8) (hr := by decide) ?_
    refine xr_putf (pc := 9) (ci := 6) (k := 13) (N := 15) (v9 := 0) (T := xF6) (tF := xT6) (hI := d_QuestionReader_beginCore_9) (hw := w_321) rfl xi6 xt6 xn6 (Or.inl rfl) (Nat.le_of_ble_eq_true rfl) (Nat.le_of_ble_eq_true rfl) rfl xfit_i rfl (ft_32 F) (by decide) (fun z => z) ?_
    have F2_ : xFix (xst h 32 13 0) := F.stL xfk_32_13
    refine xr_aload_n (pc := 12) (i := 0) (hI := d_QuestionReader_beginCore_12) (hi := rfl) (hl := rfl) ?_
    refine xr_iconst (pc := 13) (hI := d_QuestionReader_beginCore_13) (hr := by decide) ?_
    refine xr_putf (pc := 14) (ci := 6) (k := 14) (N := 15) (v9 := 0) (T := xF6) (tF := xT6) (hI := d_QuestionReader_beginCore_14) (hw := w_322) rfl xi6 xt6 xn6 (Or.inl rfl) (Nat.le_of_ble_eq_true rfl) (Nat.le_of_ble_eq_true rfl) rfl xfit_i rfl (ft_32 F2_) (by decide) (fun z => z) ?_
    have F3_ : xFix (xst (xst h 32 13 0) 32 14 2) := F2_.stL xfk_32_14
    refine xr_return (S := []) (pc := 17) (hI := d_QuestionReader_beginCore_17) (hr := rfl) ?_
    exact hyp F3_
abbrev m_QuestionReader_takesSign : XM := (⟨"BeaconIndex$QuestionReader", "takesSign", "()Z"⟩, prog_7_method_11_code, 1, (some .boolean), [])
theorem d_QuestionReader_takesSign_0 : decode prog_7_method_11_code 0 = .ok (.aload_n 0, 1) := by decide +kernel
theorem d_QuestionReader_takesSign_1 : decode prog_7_method_11_code 1 = .ok (.invokevirtual 155, 3) := by decide +kernel
theorem d_QuestionReader_takesSign_4 : decode prog_7_method_11_code 4 = .ok (.ifCond .ne 5, 3) := by decide +kernel
theorem d_QuestionReader_takesSign_9 : decode prog_7_method_11_code 9 = .ok (.aload_n 0, 1) := by decide +kernel
theorem d_QuestionReader_takesSign_10 : decode prog_7_method_11_code 10 = .ok (.aload_n 0, 1) := by decide +kernel
theorem d_QuestionReader_takesSign_11 : decode prog_7_method_11_code 11 = .ok (.getfield 57, 3) := by decide +kernel
theorem w_318 : Cond.fieldLink "BeaconIndex$QuestionReader" 57 "BeaconIndex$QuestionReader" "token" "I" ∈ lw_tbl := List.mem_append_right _ (List.mem_of_getElem? (i := 318) (by decide +kernel))
theorem d_QuestionReader_takesSign_14 : decode prog_7_method_11_code 14 = .ok (.putfield 67, 3) := by decide +kernel
theorem d_QuestionReader_takesSign_17 : decode prog_7_method_11_code 17 = .ok (.aload_n 0, 1) := by decide +kernel
theorem d_QuestionReader_takesSign_18 : decode prog_7_method_11_code 18 = .ok (.iconst 2, 1) := by decide +kernel
theorem d_QuestionReader_takesSign_19 : decode prog_7_method_11_code 19 = .ok (.putfield 70, 3) := by decide +kernel
theorem d_QuestionReader_takesSign_22 : decode prog_7_method_11_code 22 = .ok (.aload_n 0, 1) := by decide +kernel
theorem d_QuestionReader_takesSign_23 : decode prog_7_method_11_code 23 = .ok (.iconst 1, 1) := by decide +kernel
theorem d_QuestionReader_takesSign_24 : decode prog_7_method_11_code 24 = .ok (.putfield 64, 3) := by decide +kernel
theorem d_QuestionReader_takesSign_27 : decode prog_7_method_11_code 27 = .ok (.iconst 1, 1) := by decide +kernel
theorem d_QuestionReader_takesSign_28 : decode prog_7_method_11_code 28 = .ok (.ireturn, 1) := by decide +kernel
theorem d_QuestionReader_takesSign_7 : decode prog_7_method_11_code 7 = .ok (.iconst 0, 1) := by decide +kernel
theorem d_QuestionReader_takesSign_8 : decode prog_7_method_11_code 8 = .ok (.ireturn, 1) := by decide +kernel
theorem v_QuestionReader_takesSign_0 {G : XG} {d : Nat} {h : XH} {Q : XV → XH → Prop} {X : Nat → XH → Prop} (F : xFix h) (hyp : ((((cpb (xpl h 32 12)) = true) → (xFix (xst (xst (xst h 32 13 (xpl h 32 10)) 32 14 2) 32 12 1) → Q (xI 1) (xst (xst (xst h 32 13 (xpl h 32 10)) 32 14 2) 32 12 1))) ∧ (¬ ((cpb (xpl h 32 12)) = true) → (Q (xI 0) h)))) : xwp G m_QuestionReader_takesSign (d + 3) 0 [xR 32] [] h Q X := by
  have hnx9 : (93 : Int) ≤ xnx h := F.2.2
  refine xr_aload_n (pc := 0) (i := 0) (hI := d_QuestionReader_takesSign_0) (hi := rfl) (hl := rfl) ?_
  refine xq_callV (pc := 1) (index := 155) (K := m_QuestionReader_canPartBegin) (As := []) (S := []) (L0 := [xR 32]) (hI := d_QuestionReader_takesSign_1) (hK := k_QuestionReader_canPartBegin) (hlk := w_1013) (hnoM := rfl) (hS8 := Nat.le_of_ble_eq_true rfl) (ci := 6) (N := 15) (C := "BeaconIndex$QuestionReader") (T := xF6) (hc := rfl) (hci := Nat.le_of_ble_eq_true rfl) (htb := (ft_32 F)) (hinst := w_1015) (hsel := sel_QuestionReader_canPartBegin) (hlen := Nat.le_of_ble_eq_true rfl) (hst := rfl) (hL0 := rfl)  (p_QR_canPartBegin F  ?_)
  show xwp G m_QuestionReader_takesSign (d + 3) 4 [xR 32] [xI (b2i (cpb (xpl h 32 12)))] _ _ _
  refine xr_if_ne (pc := 4) (tgt := 9) (hI := d_QuestionReader_takesSign_4) (ht := by decide) (fun q9 => ?_) (fun q9 => ?_)
  · replace hyp := hyp.1 (b2i_1.mp q9)
    have q1_ := b2i_1.mp q9
    clear q9
    refine xr_aload_n (pc := 9) (i := 0) (hI := d_QuestionReader_takesSign_9) (hi := rfl) (hl := rfl) ?_
    refine xr_aload_n (pc := 10) (i := 0) (hI := d_QuestionReader_takesSign_10) (hi := rfl) (hl := rfl) ?_
    refine xg_getf (pc := 11) (ci := 6) (k := 10) (N := 15) (v9 := 0) (v := (xpl h 32 10)) (T := xF6) (hI := d_QuestionReader_takesSign_11) (hw := w_318) rfl xi6 (Or.inl rfl) (Nat.le_of_ble_eq_true rfl) (Nat.le_of_ble_eq_true rfl) rfl (ft_32 F) rfl (fun f2_ => ?_)
    replace f2_ : -2147483648 ≤ (xpl h 32 10) ∧ (xpl h 32 10) ≤ 2147483647 := f2_
    refine xr_putf (pc := 14) (ci := 6) (k := 13) (N := 15) (v9 := 0) (T := xF6) (tF := xT6) (hI := d_QuestionReader_takesSign_14) (hw := w_321) rfl xi6 xt6 xn6 (Or.inl rfl) (Nat.le_of_ble_eq_true rfl) (Nat.le_of_ble_eq_true rfl) rfl xfit_i rfl (ft_32 F) (by decide) (fun z => z) ?_
    have F3_ : xFix (xst h 32 13 (xpl h 32 10)) := F.stL xfk_32_13
    refine xr_aload_n (pc := 17) (i := 0) (hI := d_QuestionReader_takesSign_17) (hi := rfl) (hl := rfl) ?_
    refine xr_iconst (pc := 18) (hI := d_QuestionReader_takesSign_18) (hr := by decide) ?_
    refine xr_putf (pc := 19) (ci := 6) (k := 14) (N := 15) (v9 := 0) (T := xF6) (tF := xT6) (hI := d_QuestionReader_takesSign_19) (hw := w_322) rfl xi6 xt6 xn6 (Or.inl rfl) (Nat.le_of_ble_eq_true rfl) (Nat.le_of_ble_eq_true rfl) rfl xfit_i rfl (ft_32 F3_) (by decide) (fun z => z) ?_
    have F4_ : xFix (xst (xst h 32 13 (xpl h 32 10)) 32 14 2) := F3_.stL xfk_32_14
    refine xr_aload_n (pc := 22) (i := 0) (hI := d_QuestionReader_takesSign_22) (hi := rfl) (hl := rfl) ?_
    refine xr_iconst (pc := 23) (hI := d_QuestionReader_takesSign_23) (hr := by decide) ?_
    refine xr_putf (pc := 24) (ci := 6) (k := 12) (N := 15) (v9 := 0) (T := xF6) (tF := xT6) (hI := d_QuestionReader_takesSign_24) (hw := w_320) rfl xi6 xt6 xn6 (Or.inl rfl) (Nat.le_of_ble_eq_true rfl) (Nat.le_of_ble_eq_true rfl) rfl xfit_i rfl (ft_32 F4_) (by decide) (fun z => z) ?_
    have F5_ : xFix (xst (xst (xst h 32 13 (xpl h 32 10)) 32 14 2) 32 12 1) := F4_.stL xfk_32_12
    refine xr_iconst (pc := 27) (hI := d_QuestionReader_takesSign_27) (hr := by decide) ?_
    refine xr_ireturnT (S := []) (pc := 28) (hI := d_QuestionReader_takesSign_28) (hr := rfl) (xnar_z (by decide)) ?_
    exact hyp F5_
  · replace hyp := hyp.2 (b2i_0.mp q9)
    have q1_ := b2i_0.mp q9
    clear q9
    refine xr_iconst (pc := 7) (hI := d_QuestionReader_takesSign_7) (hr := by decide) ?_
    refine xr_ireturnT (S := []) (pc := 8) (hI := d_QuestionReader_takesSign_8) (hr := rfl) (xnar_z (by decide)) ?_
    exact hyp
abbrev m_QuestionReader_takesPhraseRun : XM := (⟨"BeaconIndex$QuestionReader", "takesPhraseRun", "()Z"⟩, prog_7_method_16_code, 1, (some .boolean), [])
theorem d_QuestionReader_takesPhraseRun_0 : decode prog_7_method_16_code 0 = .ok (.aload_n 0, 1) := by decide +kernel
theorem d_QuestionReader_takesPhraseRun_1 : decode prog_7_method_16_code 1 = .ok (.getfield 15, 3) := by decide +kernel
theorem w_307 : Cond.fieldLink "BeaconIndex$QuestionReader" 15 "BeaconIndex$QuestionReader" "phraseRuns" "I" ∈ lw_tbl := List.mem_append_right _ (List.mem_of_getElem? (i := 307) (by decide +kernel))
theorem d_QuestionReader_takesPhraseRun_4 : decode prog_7_method_16_code 4 = .ok (.aload_n 0, 1) := by decide +kernel
theorem d_QuestionReader_takesPhraseRun_5 : decode prog_7_method_16_code 5 = .ok (.getfield 9, 3) := by decide +kernel
theorem w_306 : Cond.fieldLink "BeaconIndex$QuestionReader" 9 "BeaconIndex$QuestionReader" "phrase" "[J" ∈ lw_tbl := List.mem_append_right _ (List.mem_of_getElem? (i := 306) (by decide +kernel))
theorem d_QuestionReader_takesPhraseRun_8 : decode prog_7_method_16_code 8 = .ok (.arraylength, 1) := by decide +kernel
theorem d_QuestionReader_takesPhraseRun_9 : decode prog_7_method_16_code 9 = .ok (.if_icmp .ge 26, 3) := by decide +kernel
theorem d_QuestionReader_takesPhraseRun_35 : decode prog_7_method_16_code 35 = .ok (.aload_n 0, 1) := by decide +kernel
theorem d_QuestionReader_takesPhraseRun_36 : decode prog_7_method_16_code 36 = .ok (.iconst 5, 1) := by decide +kernel
theorem d_QuestionReader_takesPhraseRun_37 : decode prog_7_method_16_code 37 = .ok (.putfield 64, 3) := by decide +kernel
theorem d_QuestionReader_takesPhraseRun_40 : decode prog_7_method_16_code 40 = .ok (.iconst 1, 1) := by decide +kernel
theorem d_QuestionReader_takesPhraseRun_41 : decode prog_7_method_16_code 41 = .ok (.ireturn, 1) := by decide +kernel
theorem d_QuestionReader_takesPhraseRun_12 : decode prog_7_method_16_code 12 = .ok (.aload_n 0, 1) := by decide +kernel
theorem d_QuestionReader_takesPhraseRun_13 : decode prog_7_method_16_code 13 = .ok (.getfield 9, 3) := by decide +kernel
theorem d_QuestionReader_takesPhraseRun_16 : decode prog_7_method_16_code 16 = .ok (.aload_n 0, 1) := by decide +kernel
theorem d_QuestionReader_takesPhraseRun_17 : decode prog_7_method_16_code 17 = .ok (.getfield 15, 3) := by decide +kernel
theorem d_QuestionReader_takesPhraseRun_20 : decode prog_7_method_16_code 20 = .ok (.aload_n 0, 1) := by decide +kernel
theorem d_QuestionReader_takesPhraseRun_21 : decode prog_7_method_16_code 21 = .ok (.getfield 60, 3) := by decide +kernel
theorem w_319 : Cond.fieldLink "BeaconIndex$QuestionReader" 60 "BeaconIndex$QuestionReader" "word" "J" ∈ lw_tbl := List.mem_append_right _ (List.mem_of_getElem? (i := 319) (by decide +kernel))
theorem d_QuestionReader_takesPhraseRun_24 : decode prog_7_method_16_code 24 = .ok (.lastore, 1) := by decide +kernel
theorem xfa_33 : xfreeA 33 = true := by decide +kernel
theorem d_QuestionReader_takesPhraseRun_25 : decode prog_7_method_16_code 25 = .ok (.aload_n 0, 1) := by decide +kernel
theorem d_QuestionReader_takesPhraseRun_26 : decode prog_7_method_16_code 26 = .ok (.dup, 1) := by decide +kernel
theorem d_QuestionReader_takesPhraseRun_27 : decode prog_7_method_16_code 27 = .ok (.getfield 15, 3) := by decide +kernel
theorem d_QuestionReader_takesPhraseRun_30 : decode prog_7_method_16_code 30 = .ok (.iconst 1, 1) := by decide +kernel
theorem d_QuestionReader_takesPhraseRun_31 : decode prog_7_method_16_code 31 = .ok (.iadd, 1) := by decide +kernel
theorem d_QuestionReader_takesPhraseRun_32 : decode prog_7_method_16_code 32 = .ok (.putfield 15, 3) := by decide +kernel
theorem xfk_32_1 : xfree 32 1 = true := by decide +kernel
theorem v_QuestionReader_takesPhraseRun_0 {G : XG} {d : Nat} {h : XH} {Q : XV → XH → Prop} {X : Nat → XH → Prop} (F : xFix h) (hyp : (((40 : Int) ≤ (xpl h 32 1) → (xFix (xst h 32 12 5) → Q (xI 1) (xst h 32 12 5))) ∧ (¬ (40 : Int) ≤ (xpl h 32 1) → 0 ≤ (xpl h 32 1) ∧ (xFix (xst (xst (xst h 33 (xpl h 32 1) (xpl h 32 11)) 32 1 ((xpl h 32 1) + 1)) 32 12 5) → Q (xI 1) (xst (xst (xst h 33 (xpl h 32 1) (xpl h 32 11)) 32 1 ((xpl h 32 1) + 1)) 32 12 5))))) : xwp G m_QuestionReader_takesPhraseRun (d + 1) 0 [xR 32] [] h Q X := by
  have hnx9 : (93 : Int) ≤ xnx h := F.2.2
  refine xr_aload_n (pc := 0) (i := 0) (hI := d_QuestionReader_takesPhraseRun_0) (hi := rfl) (hl := rfl) ?_
  refine xg_getf (pc := 1) (ci := 6) (k := 1) (N := 15) (v9 := 0) (v := (xpl h 32 1)) (T := xF6) (hI := d_QuestionReader_takesPhraseRun_1) (hw := w_307) rfl xi6 (Or.inl rfl) (Nat.le_of_ble_eq_true rfl) (Nat.le_of_ble_eq_true rfl) rfl (ft_32 F) rfl (fun f1_ => ?_)
  replace f1_ : -2147483648 ≤ (xpl h 32 1) ∧ (xpl h 32 1) ≤ 2147483647 := f1_
  refine xr_aload_n (pc := 4) (i := 0) (hI := d_QuestionReader_takesPhraseRun_4) (hi := rfl) (hl := rfl) ?_
  refine xg_getf (pc := 5) (ci := 6) (k := 0) (N := 15) (v9 := 2) (v := 33) (T := xF6) (hI := d_QuestionReader_takesPhraseRun_5) (hw := w_306) rfl xi6 (Or.inl rfl) (Nat.le_of_ble_eq_true rfl) (Nat.le_of_ble_eq_true rfl) rfl (ft_32 F) (fp_32_0 F) (fun f2_ => ?_)
  clear f2_
  refine xg_alen (pc := 8) (t := 101) (v := 40) (hI := d_QuestionReader_takesPhraseRun_8) (ft_33 F) (Nat.le_of_ble_eq_true rfl) (Nat.le_of_ble_eq_true rfl) rfl (fl_33 F) (fun f3_ f4_ => ?_)
  clear f3_ f4_
  refine xr_icmp_ge (pc := 9) (tgt := 35) (hI := d_QuestionReader_takesPhraseRun_9) (ht := by decide) (fun q9 => ?_) (fun q9 => ?_)
  · replace hyp := hyp.1 q9
    have q5_ := q9
    clear q9
    refine xr_aload_n (pc := 35) (i := 0) (hI := d_QuestionReader_takesPhraseRun_35) (hi := rfl) (hl := rfl) ?_
    refine xr_iconst (pc := 36) (hI := d_QuestionReader_takesPhraseRun_36) (hr := by decide) ?_
    refine xr_putf (pc := 37) (ci := 6) (k := 12) (N := 15) (v9 := 0) (T := xF6) (tF := xT6) (hI := d_QuestionReader_takesPhraseRun_37) (hw := w_320) rfl xi6 xt6 xn6 (Or.inl rfl) (Nat.le_of_ble_eq_true rfl) (Nat.le_of_ble_eq_true rfl) rfl xfit_i rfl (ft_32 F) (by decide) (fun z => z) ?_
    have F6_ : xFix (xst h 32 12 5) := F.stL xfk_32_12
    refine xr_iconst (pc := 40) (hI := d_QuestionReader_takesPhraseRun_40) (hr := by decide) ?_
    refine xr_ireturnT (S := []) (pc := 41) (hI := d_QuestionReader_takesPhraseRun_41) (hr := rfl) (xnar_z (by decide)) ?_
    exact hyp F6_
  · replace hyp := hyp.2 q9
    have q5_ := q9
    clear q9
    refine xr_aload_n (pc := 12) (i := 0) (hI := d_QuestionReader_takesPhraseRun_12) (hi := rfl) (hl := rfl) ?_
    refine xg_getf (pc := 13) (ci := 6) (k := 0) (N := 15) (v9 := 2) (v := 33) (T := xF6) (hI := d_QuestionReader_takesPhraseRun_13) (hw := w_306) rfl xi6 (Or.inl rfl) (Nat.le_of_ble_eq_true rfl) (Nat.le_of_ble_eq_true rfl) rfl (ft_32 F) (fp_32_0 F) (fun f7_ => ?_)
    clear f7_
    refine xr_aload_n (pc := 16) (i := 0) (hI := d_QuestionReader_takesPhraseRun_16) (hi := rfl) (hl := rfl) ?_
    refine xg_getf (pc := 17) (ci := 6) (k := 1) (N := 15) (v9 := 0) (v := (xpl h 32 1)) (T := xF6) (hI := d_QuestionReader_takesPhraseRun_17) (hw := w_307) rfl xi6 (Or.inl rfl) (Nat.le_of_ble_eq_true rfl) (Nat.le_of_ble_eq_true rfl) rfl (ft_32 F) rfl (fun f8_ => ?_)
    replace f8_ : -2147483648 ≤ (xpl h 32 1) ∧ (xpl h 32 1) ≤ 2147483647 := f8_
    refine xr_aload_n (pc := 20) (i := 0) (hI := d_QuestionReader_takesPhraseRun_20) (hi := rfl) (hl := rfl) ?_
    refine xg_getf (pc := 21) (ci := 6) (k := 11) (N := 15) (v9 := 1) (v := (xpl h 32 11)) (T := xF6) (hI := d_QuestionReader_takesPhraseRun_21) (hw := w_319) rfl xi6 (Or.inl rfl) (Nat.le_of_ble_eq_true rfl) (Nat.le_of_ble_eq_true rfl) rfl (ft_32 F) rfl (fun f9_ => ?_)
    replace f9_ : -9223372036854775808 ≤ (xpl h 32 11) ∧ (xpl h 32 11) ≤ 9223372036854775807 := f9_
    obtain ⟨c10_, hyp⟩ := hyp
    refine xr_lastore (pc := 24) (hI := d_QuestionReader_takesPhraseRun_24) (ft_33 F) (by decide) c10_ (xlt_of (fl_33 F) (by clear hyp; omega)) ?_
    have F11_ : xFix (xst h 33 (xpl h 32 1) (xpl h 32 11)) := F.stA xfa_33
    refine xr_aload_n (pc := 25) (i := 0) (hI := d_QuestionReader_takesPhraseRun_25) (hi := rfl) (hl := rfl) ?_
    refine xr_dup (pc := 26) (hI := d_QuestionReader_takesPhraseRun_26) (hv := rfl) ?_
    refine xg_getf (pc := 27) (ci := 6) (k := 1) (N := 15) (v9 := 0) (v := (xpl h 32 1)) (T := xF6) (hI := d_QuestionReader_takesPhraseRun_27) (hw := w_307) rfl xi6 (Or.inl rfl) (Nat.le_of_ble_eq_true rfl) (Nat.le_of_ble_eq_true rfl) rfl (ft_32 F11_) (xpl_oa (by decide)) (fun f12_ => ?_)
    replace f12_ : -2147483648 ≤ (xpl h 32 1) ∧ (xpl h 32 1) ≤ 2147483647 := f12_
    refine xr_iconst (pc := 30) (hI := d_QuestionReader_takesPhraseRun_30) (hr := by decide) ?_
    refine xr_iadd (pc := 31) (hI := d_QuestionReader_takesPhraseRun_31) (hr := ⟨by clear hyp; omega, by clear hyp; omega⟩) ?_
    refine xr_putf (pc := 32) (ci := 6) (k := 1) (N := 15) (v9 := 0) (T := xF6) (tF := xT6) (hI := d_QuestionReader_takesPhraseRun_32) (hw := w_307) rfl xi6 xt6 xn6 (Or.inl rfl) (Nat.le_of_ble_eq_true rfl) (Nat.le_of_ble_eq_true rfl) rfl xfit_i rfl (ft_32 F11_) (by decide) (fun z => z) ?_
    have F13_ : xFix (xst (xst h 33 (xpl h 32 1) (xpl h 32 11)) 32 1 ((xpl h 32 1) + 1)) := F11_.stL xfk_32_1
    refine xr_aload_n (pc := 35) (i := 0) (hI := d_QuestionReader_takesPhraseRun_35) (hi := rfl) (hl := rfl) ?_
    refine xr_iconst (pc := 36) (hI := d_QuestionReader_takesPhraseRun_36) (hr := by decide) ?_
    refine xr_putf (pc := 37) (ci := 6) (k := 12) (N := 15) (v9 := 0) (T := xF6) (tF := xT6) (hI := d_QuestionReader_takesPhraseRun_37) (hw := w_320) rfl xi6 xt6 xn6 (Or.inl rfl) (Nat.le_of_ble_eq_true rfl) (Nat.le_of_ble_eq_true rfl) rfl xfit_i rfl (ft_32 F13_) (by decide) (fun z => z) ?_
    have F14_ : xFix (xst (xst (xst h 33 (xpl h 32 1) (xpl h 32 11)) 32 1 ((xpl h 32 1) + 1)) 32 12 5) := F13_.stL xfk_32_12
    refine xr_iconst (pc := 40) (hI := d_QuestionReader_takesPhraseRun_40) (hr := by decide) ?_
    refine xr_ireturnT (S := []) (pc := 41) (hI := d_QuestionReader_takesPhraseRun_41) (hr := rfl) (xnar_z (by decide)) ?_
    exact hyp F14_
abbrev m_QuestionReader_takesStar : XM := (⟨"BeaconIndex$QuestionReader", "takesStar", "()Z"⟩, prog_7_method_20_code, 1, (some .boolean), [])
theorem d_QuestionReader_takesStar_0 : decode prog_7_method_20_code 0 = .ok (.aload_n 0, 1) := by decide +kernel
theorem d_QuestionReader_takesStar_1 : decode prog_7_method_20_code 1 = .ok (.getfield 64, 3) := by decide +kernel
theorem d_QuestionReader_takesStar_4 : decode prog_7_method_20_code 4 = .ok (.bipush 8, 2) := by decide +kernel
theorem d_QuestionReader_takesStar_6 : decode prog_7_method_20_code 6 = .ok (.if_icmp .eq 5, 3) := by decide +kernel
theorem d_QuestionReader_takesStar_11 : decode prog_7_method_20_code 11 = .ok (.aload_n 0, 1) := by decide +kernel
theorem d_QuestionReader_takesStar_12 : decode prog_7_method_20_code 12 = .ok (.getfield 48, 3) := by decide +kernel
theorem w_315 : Cond.fieldLink "BeaconIndex$QuestionReader" 48 "BeaconIndex$QuestionReader" "latest" "LBeaconIndex$Part;" ∈ lw_tbl := List.mem_append_right _ (List.mem_of_getElem? (i := 315) (by decide +kernel))
theorem d_QuestionReader_takesStar_15 : decode prog_7_method_20_code 15 = .ok (.iconst 1, 1) := by decide +kernel
theorem d_QuestionReader_takesStar_16 : decode prog_7_method_20_code 16 = .ok (.putfield 216, 3) := by decide +kernel
theorem w_231 : Cond.fieldLink "BeaconIndex$QuestionReader" 216 "BeaconIndex$Part" "kind" "I" ∈ lw_tbl := List.mem_append_right _ (List.mem_of_getElem? (i := 231) (by decide +kernel))
theorem xtk_4_5 : xfTK 4 5 = true := by decide +kernel
theorem d_QuestionReader_takesStar_19 : decode prog_7_method_20_code 19 = .ok (.aload_n 0, 1) := by decide +kernel
theorem d_QuestionReader_takesStar_20 : decode prog_7_method_20_code 20 = .ok (.bipush 10, 2) := by decide +kernel
theorem d_QuestionReader_takesStar_22 : decode prog_7_method_20_code 22 = .ok (.putfield 64, 3) := by decide +kernel
theorem d_QuestionReader_takesStar_25 : decode prog_7_method_20_code 25 = .ok (.iconst 1, 1) := by decide +kernel
theorem d_QuestionReader_takesStar_26 : decode prog_7_method_20_code 26 = .ok (.ireturn, 1) := by decide +kernel
theorem d_QuestionReader_takesStar_9 : decode prog_7_method_20_code 9 = .ok (.iconst 0, 1) := by decide +kernel
theorem d_QuestionReader_takesStar_10 : decode prog_7_method_20_code 10 = .ok (.ireturn, 1) := by decide +kernel
theorem v_QuestionReader_takesStar_0 {G : XG} {d : Nat} {h : XH} {Q : XV → XH → Prop} {X : Nat → XH → Prop} (F : xFix h) (hyp : (((xpl h 32 12) = 8 → xtg h (xpl h 32 7) = 4 ∧ 0 ≤ (xpl h 32 7) ∧ (xFix (xst (xst h (xpl h 32 7) 5 1) 32 12 10) → Q (xI 1) (xst (xst h (xpl h 32 7) 5 1) 32 12 10))) ∧ (¬ (xpl h 32 12) = 8 → (Q (xI 0) h)))) : xwp G m_QuestionReader_takesStar (d + 1) 0 [xR 32] [] h Q X := by
  have hnx9 : (93 : Int) ≤ xnx h := F.2.2
  refine xr_aload_n (pc := 0) (i := 0) (hI := d_QuestionReader_takesStar_0) (hi := rfl) (hl := rfl) ?_
  refine xg_getf (pc := 1) (ci := 6) (k := 12) (N := 15) (v9 := 0) (v := (xpl h 32 12)) (T := xF6) (hI := d_QuestionReader_takesStar_1) (hw := w_320) rfl xi6 (Or.inl rfl) (Nat.le_of_ble_eq_true rfl) (Nat.le_of_ble_eq_true rfl) rfl (ft_32 F) rfl (fun f1_ => ?_)
  replace f1_ : -2147483648 ≤ (xpl h 32 12) ∧ (xpl h 32 12) ≤ 2147483647 := f1_
  refine xr_bipush (pc := 4) (hI := d_QuestionReader_takesStar_4) (hr := by decide) (hv := by decide) ?_
  refine xr_icmp_eq (pc := 6) (tgt := 11) (hI := d_QuestionReader_takesStar_6) (ht := by decide) (fun q9 => ?_) (fun q9 => ?_)
  · replace hyp := hyp.1 q9
    have q2_ := q9
    clear q9
    refine xr_aload_n (pc := 11) (i := 0) (hI := d_QuestionReader_takesStar_11) (hi := rfl) (hl := rfl) ?_
    refine xg_getf (pc := 12) (ci := 6) (k := 7) (N := 15) (v9 := 2) (v := (xpl h 32 7)) (T := xF6) (hI := d_QuestionReader_takesStar_12) (hw := w_315) rfl xi6 (Or.inl rfl) (Nat.le_of_ble_eq_true rfl) (Nat.le_of_ble_eq_true rfl) rfl (ft_32 F) rfl (fun f3_ => ?_)
    clear f3_
    refine xr_iconst (pc := 15) (hI := d_QuestionReader_takesStar_15) (hr := by decide) ?_
    obtain ⟨c9, hyp⟩ := hyp
    have t4_ := c9
    clear c9
    obtain ⟨c5_, hyp⟩ := hyp
    refine xr_putf (pc := 16) (ci := 4) (k := 5) (N := 13) (v9 := 0) (T := xF4) (tF := xT4) (hI := d_QuestionReader_takesStar_16) (hw := w_231) rfl xi4 xt4 xn4 (Or.inl rfl) (Nat.le_of_ble_eq_true rfl) (Nat.le_of_ble_eq_true rfl) rfl xfit_i rfl t4_ c5_ (fun z => z) ?_
    have F6_ : xFix (xst h (xpl h 32 7) 5 1) := F.stT (t := 4) c5_ t4_ xtk_4_5
    refine xr_aload_n (pc := 19) (i := 0) (hI := d_QuestionReader_takesStar_19) (hi := rfl) (hl := rfl) ?_
    refine xr_bipush (pc := 20) (hI := d_QuestionReader_takesStar_20) (hr := by decide) (hv := by decide) ?_
    refine xr_putf (pc := 22) (ci := 6) (k := 12) (N := 15) (v9 := 0) (T := xF6) (tF := xT6) (hI := d_QuestionReader_takesStar_22) (hw := w_320) rfl xi6 xt6 xn6 (Or.inl rfl) (Nat.le_of_ble_eq_true rfl) (Nat.le_of_ble_eq_true rfl) rfl xfit_i rfl (ft_32 F6_) (by decide) (fun z => z) ?_
    have F7_ : xFix (xst (xst h (xpl h 32 7) 5 1) 32 12 10) := F6_.stL xfk_32_12
    refine xr_iconst (pc := 25) (hI := d_QuestionReader_takesStar_25) (hr := by decide) ?_
    refine xr_ireturnT (S := []) (pc := 26) (hI := d_QuestionReader_takesStar_26) (hr := rfl) (xnar_z (by decide)) ?_
    exact hyp F7_
  · replace hyp := hyp.2 q9
    have q2_ := q9
    clear q9
    refine xr_iconst (pc := 9) (hI := d_QuestionReader_takesStar_9) (hr := by decide) ?_
    refine xr_ireturnT (S := []) (pc := 10) (hI := d_QuestionReader_takesStar_10) (hr := rfl) (xnar_z (by decide)) ?_
    exact hyp
abbrev m_QuestionReader_skipBlanks : XM := (⟨"BeaconIndex$QuestionReader", "skipBlanks", "(LBeaconIndex$Tape;)V"⟩, prog_7_method_4_code, 2, none, [])
theorem d_QuestionReader_skipBlanks_0 : decode prog_7_method_4_code 0 = .ok (.aload_n 0, 1) := by decide +kernel
theorem d_QuestionReader_skipBlanks_1 : decode prog_7_method_4_code 1 = .ok (.getfield 51, 3) := by decide +kernel
theorem w_316 : Cond.fieldLink "BeaconIndex$QuestionReader" 51 "BeaconIndex$QuestionReader" "at" "I" ∈ lw_tbl := List.mem_append_right _ (List.mem_of_getElem? (i := 316) (by decide +kernel))
theorem d_QuestionReader_skipBlanks_4 : decode prog_7_method_4_code 4 = .ok (.aload_n 1, 1) := by decide +kernel
theorem d_QuestionReader_skipBlanks_5 : decode prog_7_method_4_code 5 = .ok (.getfield 101, 3) := by decide +kernel
theorem w_59 : Cond.fieldLink "BeaconIndex$QuestionReader" 101 "BeaconIndex$Tape" "length" "I" ∈ lw_tbl := List.mem_append_right _ (List.mem_of_getElem? (i := 59) (by decide +kernel))
theorem d_QuestionReader_skipBlanks_8 : decode prog_7_method_4_code 8 = .ok (.if_icmp .ge 29, 3) := by decide +kernel
theorem d_QuestionReader_skipBlanks_37 : decode prog_7_method_4_code 37 = .ok (.return_, 1) := by decide +kernel
theorem d_QuestionReader_skipBlanks_11 : decode prog_7_method_4_code 11 = .ok (.aload_n 1, 1) := by decide +kernel
theorem d_QuestionReader_skipBlanks_12 : decode prog_7_method_4_code 12 = .ok (.aload_n 0, 1) := by decide +kernel
theorem d_QuestionReader_skipBlanks_13 : decode prog_7_method_4_code 13 = .ok (.getfield 51, 3) := by decide +kernel
theorem d_QuestionReader_skipBlanks_16 : decode prog_7_method_4_code 16 = .ok (.invokevirtual 91, 3) := by decide +kernel
theorem w_966 : Cond.methodLink "BeaconIndex$QuestionReader" 91 ⟨"BeaconIndex$Tape", "at", "(I)I"⟩ ∈ lw_tbl := List.mem_append_right _ (List.mem_of_getElem? (i := 966) (by decide +kernel))
theorem d_QuestionReader_skipBlanks_19 : decode prog_7_method_4_code 19 = .ok (.bipush 32, 2) := by decide +kernel
theorem d_QuestionReader_skipBlanks_21 : decode prog_7_method_4_code 21 = .ok (.if_icmp .ne 16, 3) := by decide +kernel
theorem d_QuestionReader_skipBlanks_24 : decode prog_7_method_4_code 24 = .ok (.aload_n 0, 1) := by decide +kernel
theorem d_QuestionReader_skipBlanks_25 : decode prog_7_method_4_code 25 = .ok (.dup, 1) := by decide +kernel
theorem d_QuestionReader_skipBlanks_26 : decode prog_7_method_4_code 26 = .ok (.getfield 51, 3) := by decide +kernel
theorem d_QuestionReader_skipBlanks_29 : decode prog_7_method_4_code 29 = .ok (.iconst 1, 1) := by decide +kernel
theorem d_QuestionReader_skipBlanks_30 : decode prog_7_method_4_code 30 = .ok (.iadd, 1) := by decide +kernel
theorem d_QuestionReader_skipBlanks_31 : decode prog_7_method_4_code 31 = .ok (.putfield 51, 3) := by decide +kernel
theorem xfk_32_8 : xfree 32 8 = true := by decide +kernel
theorem d_QuestionReader_skipBlanks_34 : decode prog_7_method_4_code 34 = .ok (.goto (-34), 3) := by decide +kernel
theorem v_QuestionReader_skipBlanks_0 {G : XG} {d : Nat} {h : XH} {Q : XV → XH → Prop} {X : Nat → XH → Prop} (F : xFix h) (hyp : (((xpl h 1 3) ≤ (xpl h 32 8) → (Q xN h)) ∧ (¬ (xpl h 1 3) ≤ (xpl h 32 8) → (((tpa h (xpl h 32 8)) = 32 → (xFix (xst h 32 8 ((xpl h 32 8) + 1)) → xwp G m_QuestionReader_skipBlanks (d + 2) 0 [xR 32, xR 1] [] (xst h 32 8 ((xpl h 32 8) + 1)) Q X)) ∧ (¬ (tpa h (xpl h 32 8)) = 32 → (Q xN h)))))) : xwp G m_QuestionReader_skipBlanks (d + 2) 0 [xR 32, xR 1] [] h Q X := by
  have hnx9 : (93 : Int) ≤ xnx h := F.2.2
  refine xr_aload_n (pc := 0) (i := 0) (hI := d_QuestionReader_skipBlanks_0) (hi := rfl) (hl := rfl) ?_
  refine xg_getf (pc := 1) (ci := 6) (k := 8) (N := 15) (v9 := 0) (v := (xpl h 32 8)) (T := xF6) (hI := d_QuestionReader_skipBlanks_1) (hw := w_316) rfl xi6 (Or.inl rfl) (Nat.le_of_ble_eq_true rfl) (Nat.le_of_ble_eq_true rfl) rfl (ft_32 F) rfl (fun f1_ => ?_)
  replace f1_ : -2147483648 ≤ (xpl h 32 8) ∧ (xpl h 32 8) ≤ 2147483647 := f1_
  refine xr_aload_n (pc := 4) (i := 1) (hI := d_QuestionReader_skipBlanks_4) (hi := rfl) (hl := rfl) ?_
  refine xg_getf (pc := 5) (ci := 8) (k := 3) (N := 7) (v9 := 0) (v := (xpl h 1 3)) (T := xF8) (hI := d_QuestionReader_skipBlanks_5) (hw := w_59) rfl xi8 (Or.inl rfl) (Nat.le_of_ble_eq_true rfl) (Nat.le_of_ble_eq_true rfl) rfl (ft_1 F) rfl (fun f2_ => ?_)
  replace f2_ : -2147483648 ≤ (xpl h 1 3) ∧ (xpl h 1 3) ≤ 2147483647 := f2_
  refine xr_icmp_ge (pc := 8) (tgt := 37) (hI := d_QuestionReader_skipBlanks_8) (ht := by decide) (fun q9 => ?_) (fun q9 => ?_)
  · replace hyp := hyp.1 q9
    have q3_ := q9
    clear q9
    refine xr_return (S := []) (pc := 37) (hI := d_QuestionReader_skipBlanks_37) (hr := rfl) ?_
    exact hyp
  · replace hyp := hyp.2 q9
    have q3_ := q9
    clear q9
    refine xr_aload_n (pc := 11) (i := 1) (hI := d_QuestionReader_skipBlanks_11) (hi := rfl) (hl := rfl) ?_
    refine xr_aload_n (pc := 12) (i := 0) (hI := d_QuestionReader_skipBlanks_12) (hi := rfl) (hl := rfl) ?_
    refine xg_getf (pc := 13) (ci := 6) (k := 8) (N := 15) (v9 := 0) (v := (xpl h 32 8)) (T := xF6) (hI := d_QuestionReader_skipBlanks_13) (hw := w_316) rfl xi6 (Or.inl rfl) (Nat.le_of_ble_eq_true rfl) (Nat.le_of_ble_eq_true rfl) rfl (ft_32 F) rfl (fun f4_ => ?_)
    replace f4_ : -2147483648 ≤ (xpl h 32 8) ∧ (xpl h 32 8) ≤ 2147483647 := f4_
    refine xq_callV (pc := 16) (index := 91) (K := m_Tape_at) (As := [xI (xpl h 32 8)]) (S := []) (L0 := [xR 1, xI (xpl h 32 8)]) (hI := d_QuestionReader_skipBlanks_16) (hK := k_Tape_at) (hlk := w_966) (hnoM := rfl) (hS8 := Nat.le_of_ble_eq_true rfl) (ci := 8) (N := 7) (C := "BeaconIndex$Tape") (T := xF8) (hc := rfl) (hci := Nat.le_of_ble_eq_true rfl) (htb := (ft_1 F)) (hinst := w_792) (hsel := w_793) (hlen := Nat.le_of_ble_eq_true rfl) (hst := rfl) (hL0 := rfl)  (p_Tape_at F  ?_)
    show xwp G m_QuestionReader_skipBlanks (d + 2) 19 [xR 32, xR 1] [xI (tpa h (xpl h 32 8))] _ _ _
    refine xr_bipush (pc := 19) (hI := d_QuestionReader_skipBlanks_19) (hr := by decide) (hv := by decide) ?_
    refine xr_icmp_ne (pc := 21) (tgt := 37) (hI := d_QuestionReader_skipBlanks_21) (ht := by decide) (fun q9 => ?_) (fun q9 => ?_)
    · replace hyp := hyp.2 q9
      have q5_ := q9
      clear q9
      refine xr_return (S := []) (pc := 37) (hI := d_QuestionReader_skipBlanks_37) (hr := rfl) ?_
      exact hyp
    · replace hyp := hyp.1 q9
      have q5_ := q9
      clear q9
      refine xr_aload_n (pc := 24) (i := 0) (hI := d_QuestionReader_skipBlanks_24) (hi := rfl) (hl := rfl) ?_
      refine xr_dup (pc := 25) (hI := d_QuestionReader_skipBlanks_25) (hv := rfl) ?_
      refine xg_getf (pc := 26) (ci := 6) (k := 8) (N := 15) (v9 := 0) (v := (xpl h 32 8)) (T := xF6) (hI := d_QuestionReader_skipBlanks_26) (hw := w_316) rfl xi6 (Or.inl rfl) (Nat.le_of_ble_eq_true rfl) (Nat.le_of_ble_eq_true rfl) rfl (ft_32 F) rfl (fun f6_ => ?_)
      replace f6_ : -2147483648 ≤ (xpl h 32 8) ∧ (xpl h 32 8) ≤ 2147483647 := f6_
      refine xr_iconst (pc := 29) (hI := d_QuestionReader_skipBlanks_29) (hr := by decide) ?_
      refine xr_iadd (pc := 30) (hI := d_QuestionReader_skipBlanks_30) (hr := ⟨by clear hyp; omega, by clear hyp; omega⟩) ?_
      refine xr_putf (pc := 31) (ci := 6) (k := 8) (N := 15) (v9 := 0) (T := xF6) (tF := xT6) (hI := d_QuestionReader_skipBlanks_31) (hw := w_316) rfl xi6 xt6 xn6 (Or.inl rfl) (Nat.le_of_ble_eq_true rfl) (Nat.le_of_ble_eq_true rfl) rfl xfit_i rfl (ft_32 F) (by decide) (fun z => z) ?_
      have F7_ : xFix (xst h 32 8 ((xpl h 32 8) + 1)) := F.stL xfk_32_8
      refine xr_goto (pc := 34) (tgt := 0) (hI := d_QuestionReader_skipBlanks_34) (ht := by decide) ?_
      exact (hyp F7_)
abbrev m_QuestionReader_isColonNext : XM := (⟨"BeaconIndex$QuestionReader", "isColonNext", "(LBeaconIndex$Tape;)Z"⟩, prog_7_method_15_code, 2, (some .boolean), [])
theorem d_QuestionReader_isColonNext_0 : decode prog_7_method_15_code 0 = .ok (.aload_n 0, 1) := by decide +kernel
theorem d_QuestionReader_isColonNext_1 : decode prog_7_method_15_code 1 = .ok (.aload_n 1, 1) := by decide +kernel
theorem d_QuestionReader_isColonNext_2 : decode prog_7_method_15_code 2 = .ok (.invokevirtual 88, 3) := by decide +kernel
theorem k_QuestionReader_skipBlanks : xCal m_QuestionReader_skipBlanks 1 := ⟨List.mem_append_right _ (List.mem_of_getElem? (i := 965) (by decide +kernel)), w_9, Nat.le_of_ble_eq_true rfl, ⟨by decide +kernel, by decide +kernel⟩, by decide +kernel, by decide +kernel, rfl⟩
theorem w_962 : Cond.methodLink "BeaconIndex$QuestionReader" 88 ⟨"BeaconIndex$QuestionReader", "skipBlanks", "(LBeaconIndex$Tape;)V"⟩ ∈ lw_tbl := List.mem_append_right _ (List.mem_of_getElem? (i := 962) (by decide +kernel))
theorem w_964 : Cond.instanceMethod ⟨"BeaconIndex$QuestionReader", "skipBlanks", "(LBeaconIndex$Tape;)V"⟩ ∈ lw_tbl := List.mem_append_right _ (List.mem_of_getElem? (i := 964) (by decide +kernel))
theorem sel_QuestionReader_skipBlanks : Cond.selects "BeaconIndex$QuestionReader" ⟨"BeaconIndex$QuestionReader", "skipBlanks", "(LBeaconIndex$Tape;)V"⟩ ⟨"BeaconIndex$QuestionReader", "skipBlanks", "(LBeaconIndex$Tape;)V"⟩ ∈ lw_tbl := List.mem_append_left _ (by decide +kernel)
theorem v_QuestionReader_isColonNext_0 {G : XG} {d : Nat} {h : XH} {Q : XV → XH → Prop} {X : Nat → XH → Prop} (F : xFix h) (hyp : (xwp G m_QuestionReader_skipBlanks (d + 2) 0 [xR 32, xR 1] [] h (fun v9 h9 => xwp G m_QuestionReader_isColonNext (d + 3) 5 [xR 32, xR 1] (xpush v9 []) h9 Q X) X)) : xwp G m_QuestionReader_isColonNext (d + 3) 0 [xR 32, xR 1] [] h Q X := by
  have hnx9 : (93 : Int) ≤ xnx h := F.2.2
  refine xr_aload_n (pc := 0) (i := 0) (hI := d_QuestionReader_isColonNext_0) (hi := rfl) (hl := rfl) ?_
  refine xr_aload_n (pc := 1) (i := 1) (hI := d_QuestionReader_isColonNext_1) (hi := rfl) (hl := rfl) ?_
  exact xq_callV (pc := 2) (index := 88) (K := m_QuestionReader_skipBlanks) (As := [xR 1]) (S := []) (L0 := [xR 32, xR 1]) (hI := d_QuestionReader_isColonNext_2) (hK := k_QuestionReader_skipBlanks) (hlk := w_962) (hnoM := rfl) (hS8 := Nat.le_of_ble_eq_true rfl) (ci := 6) (N := 15) (C := "BeaconIndex$QuestionReader") (T := xF6) (hc := rfl) (hci := Nat.le_of_ble_eq_true rfl) (htb := (ft_32 F)) (hinst := w_964) (hsel := sel_QuestionReader_skipBlanks) (hlen := Nat.le_of_ble_eq_true rfl) (hst := rfl) (hL0 := rfl)  hyp
theorem d_QuestionReader_isColonNext_5 : decode prog_7_method_15_code 5 = .ok (.aload_n 1, 1) := by decide +kernel
theorem d_QuestionReader_isColonNext_6 : decode prog_7_method_15_code 6 = .ok (.aload_n 0, 1) := by decide +kernel
theorem d_QuestionReader_isColonNext_7 : decode prog_7_method_15_code 7 = .ok (.getfield 51, 3) := by decide +kernel
theorem d_QuestionReader_isColonNext_10 : decode prog_7_method_15_code 10 = .ok (.invokevirtual 91, 3) := by decide +kernel
theorem d_QuestionReader_isColonNext_13 : decode prog_7_method_15_code 13 = .ok (.bipush 58, 2) := by decide +kernel
theorem d_QuestionReader_isColonNext_15 : decode prog_7_method_15_code 15 = .ok (.if_icmp .ne 7, 3) := by decide +kernel
theorem d_QuestionReader_isColonNext_22 : decode prog_7_method_15_code 22 = .ok (.iconst 0, 1) := by decide +kernel
theorem d_QuestionReader_isColonNext_23 : decode prog_7_method_15_code 23 = .ok (.ireturn, 1) := by decide +kernel
theorem d_QuestionReader_isColonNext_18 : decode prog_7_method_15_code 18 = .ok (.iconst 1, 1) := by decide +kernel
theorem d_QuestionReader_isColonNext_19 : decode prog_7_method_15_code 19 = .ok (.goto 4, 3) := by decide +kernel
theorem v_QuestionReader_isColonNext_5 {G : XG} {d : Nat} {h : XH} {Q : XV → XH → Prop} {X : Nat → XH → Prop} (F : xFix h) (hyp : (((tpa h (xpl h 32 8)) = 58 → (Q (xI 1) h)) ∧ (¬ (tpa h (xpl h 32 8)) = 58 → (Q (xI 0) h)))) : xwp G m_QuestionReader_isColonNext (d + 3) 5 [xR 32, xR 1] [] h Q X := by
  have hnx9 : (93 : Int) ≤ xnx h := F.2.2
  refine xr_aload_n (pc := 5) (i := 1) (hI := d_QuestionReader_isColonNext_5) (hi := rfl) (hl := rfl) ?_
  refine xr_aload_n (pc := 6) (i := 0) (hI := d_QuestionReader_isColonNext_6) (hi := rfl) (hl := rfl) ?_
  refine xg_getf (pc := 7) (ci := 6) (k := 8) (N := 15) (v9 := 0) (v := (xpl h 32 8)) (T := xF6) (hI := d_QuestionReader_isColonNext_7) (hw := w_316) rfl xi6 (Or.inl rfl) (Nat.le_of_ble_eq_true rfl) (Nat.le_of_ble_eq_true rfl) rfl (ft_32 F) rfl (fun f1_ => ?_)
  replace f1_ : -2147483648 ≤ (xpl h 32 8) ∧ (xpl h 32 8) ≤ 2147483647 := f1_
  refine xq_callV (pc := 10) (index := 91) (K := m_Tape_at) (As := [xI (xpl h 32 8)]) (S := []) (L0 := [xR 1, xI (xpl h 32 8)]) (hI := d_QuestionReader_isColonNext_10) (hK := k_Tape_at) (hlk := w_966) (hnoM := rfl) (hS8 := Nat.le_of_ble_eq_true rfl) (ci := 8) (N := 7) (C := "BeaconIndex$Tape") (T := xF8) (hc := rfl) (hci := Nat.le_of_ble_eq_true rfl) (htb := (ft_1 F)) (hinst := w_792) (hsel := w_793) (hlen := Nat.le_of_ble_eq_true rfl) (hst := rfl) (hL0 := rfl)  (p_Tape_at F  ?_)
  show xwp G m_QuestionReader_isColonNext (d + 3) 13 [xR 32, xR 1] [xI (tpa h (xpl h 32 8))] _ _ _
  refine xr_bipush (pc := 13) (hI := d_QuestionReader_isColonNext_13) (hr := by decide) (hv := by decide) ?_
  refine xr_icmp_ne (pc := 15) (tgt := 22) (hI := d_QuestionReader_isColonNext_15) (ht := by decide) (fun q9 => ?_) (fun q9 => ?_)
  · replace hyp := hyp.2 q9
    have q2_ := q9
    clear q9
    refine xr_iconst (pc := 22) (hI := d_QuestionReader_isColonNext_22) (hr := by decide) ?_
    refine xr_ireturnT (S := []) (pc := 23) (hI := d_QuestionReader_isColonNext_23) (hr := rfl) (xnar_z (by decide)) ?_
    exact hyp
  · replace hyp := hyp.1 q9
    have q2_ := q9
    clear q9
    refine xr_iconst (pc := 18) (hI := d_QuestionReader_isColonNext_18) (hr := by decide) ?_
    refine xr_goto (pc := 19) (tgt := 23) (hI := d_QuestionReader_isColonNext_19) (ht := by decide) ?_
    refine xr_ireturnT (S := []) (pc := 23) (hI := d_QuestionReader_isColonNext_23) (hr := rfl) (xnar_z (by decide)) ?_
    exact hyp
abbrev m_QuestionReader_takesNumber : XM := (⟨"BeaconIndex$QuestionReader", "takesNumber", "(LBeaconIndex$Tape;)Z"⟩, prog_7_method_17_code, 6, (some .boolean), [])
theorem d_QuestionReader_takesNumber_0 : decode prog_7_method_17_code 0 = .ok (.iconst 0, 1) := by decide +kernel
theorem d_QuestionReader_takesNumber_1 : decode prog_7_method_17_code 1 = .ok (.istore_n 2, 1) := by decide +kernel
theorem d_QuestionReader_takesNumber_2 : decode prog_7_method_17_code 2 = .ok (.aload_n 0, 1) := by decide +kernel
theorem d_QuestionReader_takesNumber_3 : decode prog_7_method_17_code 3 = .ok (.getfield 51, 3) := by decide +kernel
theorem d_QuestionReader_takesNumber_6 : decode prog_7_method_17_code 6 = .ok (.aload_n 0, 1) := by decide +kernel
theorem d_QuestionReader_takesNumber_7 : decode prog_7_method_17_code 7 = .ok (.getfield 54, 3) := by decide +kernel
theorem w_317 : Cond.fieldLink "BeaconIndex$QuestionReader" 54 "BeaconIndex$QuestionReader" "start" "I" ∈ lw_tbl := List.mem_append_right _ (List.mem_of_getElem? (i := 317) (by decide +kernel))
theorem d_QuestionReader_takesNumber_10 : decode prog_7_method_17_code 10 = .ok (.isub, 1) := by decide +kernel
theorem d_QuestionReader_takesNumber_11 : decode prog_7_method_17_code 11 = .ok (.istore_n 3, 1) := by decide +kernel
theorem d_QuestionReader_takesNumber_12 : decode prog_7_method_17_code 12 = .ok (.iconst 0, 1) := by decide +kernel
theorem d_QuestionReader_takesNumber_13 : decode prog_7_method_17_code 13 = .ok (.istore 4, 2) := by decide +kernel
theorem v_QuestionReader_takesNumber_0 {G : XG} {d : Nat} {h : XH} {Q : XV → XH → Prop} {X : Nat → XH → Prop} (F : xFix h) (hyp : xiR ((xpl h 32 8) - (xpl h 32 9)) ∧ (xwp G m_QuestionReader_takesNumber (d + 2) 15 [xR 32, xR 1, xI 0, xI ((xpl h 32 8) - (xpl h 32 9)), xI 0, xZ] [] h Q X)) : xwp G m_QuestionReader_takesNumber (d + 2) 0 [xR 32, xR 1, xZ, xZ, xZ, xZ] [] h Q X := by
  have hnx9 : (93 : Int) ≤ xnx h := F.2.2
  refine xr_iconst (pc := 0) (hI := d_QuestionReader_takesNumber_0) (hr := by decide) ?_
  refine xr_istore_n (pc := 1) (i := 2) (L9 := [xR 32, xR 1, xI 0, xZ, xZ, xZ]) (hI := d_QuestionReader_takesNumber_1) (hi := rfl) (hn := Nat.le_of_ble_eq_true rfl) (hL9 := rfl) ?_
  refine xr_aload_n (pc := 2) (i := 0) (hI := d_QuestionReader_takesNumber_2) (hi := rfl) (hl := rfl) ?_
  refine xg_getf (pc := 3) (ci := 6) (k := 8) (N := 15) (v9 := 0) (v := (xpl h 32 8)) (T := xF6) (hI := d_QuestionReader_takesNumber_3) (hw := w_316) rfl xi6 (Or.inl rfl) (Nat.le_of_ble_eq_true rfl) (Nat.le_of_ble_eq_true rfl) rfl (ft_32 F) rfl (fun f1_ => ?_)
  replace f1_ : -2147483648 ≤ (xpl h 32 8) ∧ (xpl h 32 8) ≤ 2147483647 := f1_
  refine xr_aload_n (pc := 6) (i := 0) (hI := d_QuestionReader_takesNumber_6) (hi := rfl) (hl := rfl) ?_
  refine xg_getf (pc := 7) (ci := 6) (k := 9) (N := 15) (v9 := 0) (v := (xpl h 32 9)) (T := xF6) (hI := d_QuestionReader_takesNumber_7) (hw := w_317) rfl xi6 (Or.inl rfl) (Nat.le_of_ble_eq_true rfl) (Nat.le_of_ble_eq_true rfl) rfl (ft_32 F) rfl (fun f2_ => ?_)
  replace f2_ : -2147483648 ≤ (xpl h 32 9) ∧ (xpl h 32 9) ≤ 2147483647 := f2_
  obtain ⟨c9, hyp⟩ := hyp
  refine xr_isub (pc := 10) (hI := d_QuestionReader_takesNumber_10) (hr := c9) ?_
  refine xr_istore_n (pc := 11) (i := 3) (L9 := [xR 32, xR 1, xI 0, xI ((xpl h 32 8) - (xpl h 32 9)), xZ, xZ]) (hI := d_QuestionReader_takesNumber_11) (hi := rfl) (hn := Nat.le_of_ble_eq_true rfl) (hL9 := rfl) ?_
  refine xr_iconst (pc := 12) (hI := d_QuestionReader_takesNumber_12) (hr := by decide) ?_
  refine xr_istore (pc := 13) (i := 4) (L9 := [xR 32, xR 1, xI 0, xI ((xpl h 32 8) - (xpl h 32 9)), xI 0, xZ]) (hI := d_QuestionReader_takesNumber_13) (hn := Nat.le_of_ble_eq_true rfl) (hL9 := rfl) ?_
  exact hyp
theorem d_QuestionReader_takesNumber_15 : decode prog_7_method_17_code 15 = .ok (.iload 4, 2) := by decide +kernel
theorem d_QuestionReader_takesNumber_17 : decode prog_7_method_17_code 17 = .ok (.iload_n 3, 1) := by decide +kernel
theorem d_QuestionReader_takesNumber_18 : decode prog_7_method_17_code 18 = .ok (.if_icmp .ge 52, 3) := by decide +kernel
theorem d_QuestionReader_takesNumber_70 : decode prog_7_method_17_code 70 = .ok (.aload_n 0, 1) := by decide +kernel
theorem d_QuestionReader_takesNumber_71 : decode prog_7_method_17_code 71 = .ok (.getfield 64, 3) := by decide +kernel
theorem d_QuestionReader_takesNumber_74 : decode prog_7_method_17_code 74 = .ok (.bipush 6, 2) := by decide +kernel
theorem d_QuestionReader_takesNumber_76 : decode prog_7_method_17_code 76 = .ok (.if_icmp .ne 20, 3) := by decide +kernel
theorem d_QuestionReader_takesNumber_96 : decode prog_7_method_17_code 96 = .ok (.aload_n 0, 1) := by decide +kernel
theorem d_QuestionReader_takesNumber_97 : decode prog_7_method_17_code 97 = .ok (.getfield 48, 3) := by decide +kernel
theorem d_QuestionReader_takesNumber_100 : decode prog_7_method_17_code 100 = .ok (.iload_n 2, 1) := by decide +kernel
theorem d_QuestionReader_takesNumber_101 : decode prog_7_method_17_code 101 = .ok (.putfield 201, 3) := by decide +kernel
theorem w_234 : Cond.fieldLink "BeaconIndex$QuestionReader" 201 "BeaconIndex$Part" "factor" "I" ∈ lw_tbl := List.mem_append_right _ (List.mem_of_getElem? (i := 234) (by decide +kernel))
theorem xtk_4_6 : xfTK 4 6 = true := by decide +kernel
theorem d_QuestionReader_takesNumber_104 : decode prog_7_method_17_code 104 = .ok (.aload_n 0, 1) := by decide +kernel
theorem d_QuestionReader_takesNumber_105 : decode prog_7_method_17_code 105 = .ok (.bipush 11, 2) := by decide +kernel
theorem d_QuestionReader_takesNumber_107 : decode prog_7_method_17_code 107 = .ok (.putfield 64, 3) := by decide +kernel
theorem d_QuestionReader_takesNumber_110 : decode prog_7_method_17_code 110 = .ok (.iconst 1, 1) := by decide +kernel
theorem d_QuestionReader_takesNumber_111 : decode prog_7_method_17_code 111 = .ok (.ireturn, 1) := by decide +kernel
theorem d_QuestionReader_takesNumber_79 : decode prog_7_method_17_code 79 = .ok (.aload_n 0, 1) := by decide +kernel
theorem d_QuestionReader_takesNumber_80 : decode prog_7_method_17_code 80 = .ok (.getfield 48, 3) := by decide +kernel
theorem d_QuestionReader_takesNumber_83 : decode prog_7_method_17_code 83 = .ok (.iload_n 2, 1) := by decide +kernel
theorem d_QuestionReader_takesNumber_84 : decode prog_7_method_17_code 84 = .ok (.putfield 198, 3) := by decide +kernel
theorem w_237 : Cond.fieldLink "BeaconIndex$QuestionReader" 198 "BeaconIndex$Part" "looseness" "I" ∈ lw_tbl := List.mem_append_right _ (List.mem_of_getElem? (i := 237) (by decide +kernel))
theorem xtk_4_7 : xfTK 4 7 = true := by decide +kernel
theorem d_QuestionReader_takesNumber_87 : decode prog_7_method_17_code 87 = .ok (.aload_n 0, 1) := by decide +kernel
theorem d_QuestionReader_takesNumber_88 : decode prog_7_method_17_code 88 = .ok (.bipush 10, 2) := by decide +kernel
theorem d_QuestionReader_takesNumber_90 : decode prog_7_method_17_code 90 = .ok (.putfield 64, 3) := by decide +kernel
theorem d_QuestionReader_takesNumber_93 : decode prog_7_method_17_code 93 = .ok (.goto 17, 3) := by decide +kernel
theorem d_QuestionReader_takesNumber_21 : decode prog_7_method_17_code 21 = .ok (.aload_n 1, 1) := by decide +kernel
theorem d_QuestionReader_takesNumber_22 : decode prog_7_method_17_code 22 = .ok (.aload_n 0, 1) := by decide +kernel
theorem d_QuestionReader_takesNumber_23 : decode prog_7_method_17_code 23 = .ok (.getfield 54, 3) := by decide +kernel
theorem d_QuestionReader_takesNumber_26 : decode prog_7_method_17_code 26 = .ok (.iload 4, 2) := by decide +kernel
theorem d_QuestionReader_takesNumber_28 : decode prog_7_method_17_code 28 = .ok (.iadd, 1) := by decide +kernel
theorem d_QuestionReader_takesNumber_29 : decode prog_7_method_17_code 29 = .ok (.invokevirtual 91, 3) := by decide +kernel
theorem d_QuestionReader_takesNumber_32 : decode prog_7_method_17_code 32 = .ok (.bipush 48, 2) := by decide +kernel
theorem d_QuestionReader_takesNumber_34 : decode prog_7_method_17_code 34 = .ok (.isub, 1) := by decide +kernel
theorem d_QuestionReader_takesNumber_35 : decode prog_7_method_17_code 35 = .ok (.istore 5, 2) := by decide +kernel
theorem d_QuestionReader_takesNumber_37 : decode prog_7_method_17_code 37 = .ok (.iload_n 3, 1) := by decide +kernel
theorem d_QuestionReader_takesNumber_38 : decode prog_7_method_17_code 38 = .ok (.iconst 2, 1) := by decide +kernel
theorem d_QuestionReader_takesNumber_39 : decode prog_7_method_17_code 39 = .ok (.if_icmp .gt 15, 3) := by decide +kernel
theorem d_QuestionReader_takesNumber_54 : decode prog_7_method_17_code 54 = .ok (.iconst 0, 1) := by decide +kernel
theorem d_QuestionReader_takesNumber_55 : decode prog_7_method_17_code 55 = .ok (.ireturn, 1) := by decide +kernel
theorem d_QuestionReader_takesNumber_42 : decode prog_7_method_17_code 42 = .ok (.iload 5, 2) := by decide +kernel
theorem d_QuestionReader_takesNumber_44 : decode prog_7_method_17_code 44 = .ok (.ifCond .lt 10, 3) := by decide +kernel
theorem d_QuestionReader_takesNumber_47 : decode prog_7_method_17_code 47 = .ok (.iload 5, 2) := by decide +kernel
theorem d_QuestionReader_takesNumber_49 : decode prog_7_method_17_code 49 = .ok (.bipush 9, 2) := by decide +kernel
theorem d_QuestionReader_takesNumber_51 : decode prog_7_method_17_code 51 = .ok (.if_icmp .le 5, 3) := by decide +kernel
theorem d_QuestionReader_takesNumber_56 : decode prog_7_method_17_code 56 = .ok (.iload_n 2, 1) := by decide +kernel
theorem d_QuestionReader_takesNumber_57 : decode prog_7_method_17_code 57 = .ok (.bipush 10, 2) := by decide +kernel
theorem d_QuestionReader_takesNumber_59 : decode prog_7_method_17_code 59 = .ok (.imul, 1) := by decide +kernel
theorem d_QuestionReader_takesNumber_60 : decode prog_7_method_17_code 60 = .ok (.iload 5, 2) := by decide +kernel
theorem d_QuestionReader_takesNumber_62 : decode prog_7_method_17_code 62 = .ok (.iadd, 1) := by decide +kernel
theorem d_QuestionReader_takesNumber_63 : decode prog_7_method_17_code 63 = .ok (.istore_n 2, 1) := by decide +kernel
theorem d_QuestionReader_takesNumber_64 : decode prog_7_method_17_code 64 = .ok (.iinc 4 1, 3) := by decide +kernel
theorem d_QuestionReader_takesNumber_67 : decode prog_7_method_17_code 67 = .ok (.goto (-52), 3) := by decide +kernel
theorem v_QuestionReader_takesNumber_15 {G : XG} {d : Nat} {h : XH} {Q : XV → XH → Prop} {X : Nat → XH → Prop} {x2 x3 x4 : Int} (F : xFix h) (hyp : ((x3 ≤ x4 → (((xpl h 32 12) = 6 → xtg h (xpl h 32 7) = 4 ∧ 0 ≤ (xpl h 32 7) ∧ (xFix (xst (xst h (xpl h 32 7) 7 x2) 32 12 10) → Q (xI 1) (xst (xst h (xpl h 32 7) 7 x2) 32 12 10))) ∧ (¬ (xpl h 32 12) = 6 → xtg h (xpl h 32 7) = 4 ∧ 0 ≤ (xpl h 32 7) ∧ (xFix (xst (xst h (xpl h 32 7) 6 x2) 32 12 11) → Q (xI 1) (xst (xst h (xpl h 32 7) 6 x2) 32 12 11))))) ∧ (¬ x3 ≤ x4 → xiR ((xpl h 32 9) + x4) ∧ xiR ((tpa h ((xpl h 32 9) + x4)) - 48) ∧ (((2 : Int) < x3 → (Q (xI 0) h)) ∧ (¬ (2 : Int) < x3 → ((((tpa h ((xpl h 32 9) + x4)) - 48) < 0 → (Q (xI 0) h)) ∧ (¬ ((tpa h ((xpl h 32 9) + x4)) - 48) < 0 → ((((tpa h ((xpl h 32 9) + x4)) - 48) ≤ 9 → xiR (x2 * 10) ∧ xiR ((x2 * 10) + ((tpa h ((xpl h 32 9) + x4)) - 48)) ∧ (xwp G m_QuestionReader_takesNumber (d + 2) 15 [xR 32, xR 1, xI ((x2 * 10) + ((tpa h ((xpl h 32 9) + x4)) - 48)), xI x3, xI (x4 + 1), xZ] [] h Q X)) ∧ (¬ ((tpa h ((xpl h 32 9) + x4)) - 48) ≤ 9 → (Q (xI 0) h)))))))))) : xwp G m_QuestionReader_takesNumber (d + 2) 15 [xR 32, xR 1, xI x2, xI x3, xI x4, xZ] [] h Q X := by
  have hnx9 : (93 : Int) ≤ xnx h := F.2.2
  refine xr_okL (fun hl9 => ?_)
  have r_x2 : -2147483648 ≤ x2 ∧ x2 ≤ 2147483647 := hl9 (xI x2) (.tail _ (.tail _ (.head _))) (Nat.le_of_ble_eq_true rfl)
  have r_x3 : -2147483648 ≤ x3 ∧ x3 ≤ 2147483647 := hl9 (xI x3) (.tail _ (.tail _ (.tail _ (.head _)))) (Nat.le_of_ble_eq_true rfl)
  have r_x4 : -2147483648 ≤ x4 ∧ x4 ≤ 2147483647 := hl9 (xI x4) (.tail _ (.tail _ (.tail _ (.tail _ (.head _))))) (Nat.le_of_ble_eq_true rfl)
  refine xr_iload (pc := 15) (i := 4) (hI := d_QuestionReader_takesNumber_15) (hl := rfl) ?_
  refine xr_iload_n (pc := 17) (i := 3) (hI := d_QuestionReader_takesNumber_17) (hi := rfl) (hl := rfl) ?_
  refine xr_icmp_ge (pc := 18) (tgt := 70) (hI := d_QuestionReader_takesNumber_18) (ht := by decide) (fun q9 => ?_) (fun q9 => ?_)
  · replace hyp := hyp.1 q9
    have q1_ := q9
    clear q9
    refine xr_aload_n (pc := 70) (i := 0) (hI := d_QuestionReader_takesNumber_70) (hi := rfl) (hl := rfl) ?_
    refine xg_getf (pc := 71) (ci := 6) (k := 12) (N := 15) (v9 := 0) (v := (xpl h 32 12)) (T := xF6) (hI := d_QuestionReader_takesNumber_71) (hw := w_320) rfl xi6 (Or.inl rfl) (Nat.le_of_ble_eq_true rfl) (Nat.le_of_ble_eq_true rfl) rfl (ft_32 F) rfl (fun f2_ => ?_)
    replace f2_ : -2147483648 ≤ (xpl h 32 12) ∧ (xpl h 32 12) ≤ 2147483647 := f2_
    refine xr_bipush (pc := 74) (hI := d_QuestionReader_takesNumber_74) (hr := by decide) (hv := by decide) ?_
    refine xr_icmp_ne (pc := 76) (tgt := 96) (hI := d_QuestionReader_takesNumber_76) (ht := by decide) (fun q9 => ?_) (fun q9 => ?_)
    · replace hyp := hyp.2 q9
      have q3_ := q9
      clear q9
      refine xr_aload_n (pc := 96) (i := 0) (hI := d_QuestionReader_takesNumber_96) (hi := rfl) (hl := rfl) ?_
      refine xg_getf (pc := 97) (ci := 6) (k := 7) (N := 15) (v9 := 2) (v := (xpl h 32 7)) (T := xF6) (hI := d_QuestionReader_takesNumber_97) (hw := w_315) rfl xi6 (Or.inl rfl) (Nat.le_of_ble_eq_true rfl) (Nat.le_of_ble_eq_true rfl) rfl (ft_32 F) rfl (fun f4_ => ?_)
      clear f4_
      refine xr_iload_n (pc := 100) (i := 2) (hI := d_QuestionReader_takesNumber_100) (hi := rfl) (hl := rfl) ?_
      obtain ⟨c9, hyp⟩ := hyp
      have t5_ := c9
      clear c9
      obtain ⟨c6_, hyp⟩ := hyp
      refine xr_putf (pc := 101) (ci := 4) (k := 6) (N := 13) (v9 := 0) (T := xF4) (tF := xT4) (hI := d_QuestionReader_takesNumber_101) (hw := w_234) rfl xi4 xt4 xn4 (Or.inl rfl) (Nat.le_of_ble_eq_true rfl) (Nat.le_of_ble_eq_true rfl) rfl xfit_i rfl t5_ c6_ (fun z => z) ?_
      have F7_ : xFix (xst h (xpl h 32 7) 6 x2) := F.stT (t := 4) c6_ t5_ xtk_4_6
      refine xr_aload_n (pc := 104) (i := 0) (hI := d_QuestionReader_takesNumber_104) (hi := rfl) (hl := rfl) ?_
      refine xr_bipush (pc := 105) (hI := d_QuestionReader_takesNumber_105) (hr := by decide) (hv := by decide) ?_
      refine xr_putf (pc := 107) (ci := 6) (k := 12) (N := 15) (v9 := 0) (T := xF6) (tF := xT6) (hI := d_QuestionReader_takesNumber_107) (hw := w_320) rfl xi6 xt6 xn6 (Or.inl rfl) (Nat.le_of_ble_eq_true rfl) (Nat.le_of_ble_eq_true rfl) rfl xfit_i rfl (ft_32 F7_) (by decide) (fun z => z) ?_
      have F8_ : xFix (xst (xst h (xpl h 32 7) 6 x2) 32 12 11) := F7_.stL xfk_32_12
      refine xr_iconst (pc := 110) (hI := d_QuestionReader_takesNumber_110) (hr := by decide) ?_
      refine xr_ireturnT (S := []) (pc := 111) (hI := d_QuestionReader_takesNumber_111) (hr := rfl) (xnar_z (by decide)) ?_
      exact hyp F8_
    · replace hyp := hyp.1 q9
      have q3_ := q9
      clear q9
      refine xr_aload_n (pc := 79) (i := 0) (hI := d_QuestionReader_takesNumber_79) (hi := rfl) (hl := rfl) ?_
      refine xg_getf (pc := 80) (ci := 6) (k := 7) (N := 15) (v9 := 2) (v := (xpl h 32 7)) (T := xF6) (hI := d_QuestionReader_takesNumber_80) (hw := w_315) rfl xi6 (Or.inl rfl) (Nat.le_of_ble_eq_true rfl) (Nat.le_of_ble_eq_true rfl) rfl (ft_32 F) rfl (fun f9_ => ?_)
      clear f9_
      refine xr_iload_n (pc := 83) (i := 2) (hI := d_QuestionReader_takesNumber_83) (hi := rfl) (hl := rfl) ?_
      obtain ⟨c9, hyp⟩ := hyp
      have t10_ := c9
      clear c9
      obtain ⟨c11_, hyp⟩ := hyp
      refine xr_putf (pc := 84) (ci := 4) (k := 7) (N := 13) (v9 := 0) (T := xF4) (tF := xT4) (hI := d_QuestionReader_takesNumber_84) (hw := w_237) rfl xi4 xt4 xn4 (Or.inl rfl) (Nat.le_of_ble_eq_true rfl) (Nat.le_of_ble_eq_true rfl) rfl xfit_i rfl t10_ c11_ (fun z => z) ?_
      have F12_ : xFix (xst h (xpl h 32 7) 7 x2) := F.stT (t := 4) c11_ t10_ xtk_4_7
      refine xr_aload_n (pc := 87) (i := 0) (hI := d_QuestionReader_takesNumber_87) (hi := rfl) (hl := rfl) ?_
      refine xr_bipush (pc := 88) (hI := d_QuestionReader_takesNumber_88) (hr := by decide) (hv := by decide) ?_
      refine xr_putf (pc := 90) (ci := 6) (k := 12) (N := 15) (v9 := 0) (T := xF6) (tF := xT6) (hI := d_QuestionReader_takesNumber_90) (hw := w_320) rfl xi6 xt6 xn6 (Or.inl rfl) (Nat.le_of_ble_eq_true rfl) (Nat.le_of_ble_eq_true rfl) rfl xfit_i rfl (ft_32 F12_) (by decide) (fun z => z) ?_
      have F13_ : xFix (xst (xst h (xpl h 32 7) 7 x2) 32 12 10) := F12_.stL xfk_32_12
      refine xr_goto (pc := 93) (tgt := 110) (hI := d_QuestionReader_takesNumber_93) (ht := by decide) ?_
      refine xr_iconst (pc := 110) (hI := d_QuestionReader_takesNumber_110) (hr := by decide) ?_
      refine xr_ireturnT (S := []) (pc := 111) (hI := d_QuestionReader_takesNumber_111) (hr := rfl) (xnar_z (by decide)) ?_
      exact hyp F13_
  · replace hyp := hyp.2 q9
    have q1_ := q9
    clear q9
    refine xr_aload_n (pc := 21) (i := 1) (hI := d_QuestionReader_takesNumber_21) (hi := rfl) (hl := rfl) ?_
    refine xr_aload_n (pc := 22) (i := 0) (hI := d_QuestionReader_takesNumber_22) (hi := rfl) (hl := rfl) ?_
    refine xg_getf (pc := 23) (ci := 6) (k := 9) (N := 15) (v9 := 0) (v := (xpl h 32 9)) (T := xF6) (hI := d_QuestionReader_takesNumber_23) (hw := w_317) rfl xi6 (Or.inl rfl) (Nat.le_of_ble_eq_true rfl) (Nat.le_of_ble_eq_true rfl) rfl (ft_32 F) rfl (fun f14_ => ?_)
    replace f14_ : -2147483648 ≤ (xpl h 32 9) ∧ (xpl h 32 9) ≤ 2147483647 := f14_
    refine xr_iload (pc := 26) (i := 4) (hI := d_QuestionReader_takesNumber_26) (hl := rfl) ?_
    obtain ⟨c9, hyp⟩ := hyp
    refine xr_iadd (pc := 28) (hI := d_QuestionReader_takesNumber_28) (hr := c9) ?_
    refine xq_callV (pc := 29) (index := 91) (K := m_Tape_at) (As := [xI ((xpl h 32 9) + x4)]) (S := []) (L0 := [xR 1, xI ((xpl h 32 9) + x4)]) (hI := d_QuestionReader_takesNumber_29) (hK := k_Tape_at) (hlk := w_966) (hnoM := rfl) (hS8 := Nat.le_of_ble_eq_true rfl) (ci := 8) (N := 7) (C := "BeaconIndex$Tape") (T := xF8) (hc := rfl) (hci := Nat.le_of_ble_eq_true rfl) (htb := (ft_1 F)) (hinst := w_792) (hsel := w_793) (hlen := Nat.le_of_ble_eq_true rfl) (hst := rfl) (hL0 := rfl)  (p_Tape_at F  ?_)
    show xwp G m_QuestionReader_takesNumber (d + 2) 32 [xR 32, xR 1, xI x2, xI x3, xI x4, xZ] [xI (tpa h ((xpl h 32 9) + x4))] _ _ _
    refine xr_bipush (pc := 32) (hI := d_QuestionReader_takesNumber_32) (hr := by decide) (hv := by decide) ?_
    obtain ⟨c9, hyp⟩ := hyp
    refine xr_isub (pc := 34) (hI := d_QuestionReader_takesNumber_34) (hr := c9) ?_
    refine xr_istore (pc := 35) (i := 5) (L9 := [xR 32, xR 1, xI x2, xI x3, xI x4, xI ((tpa h ((xpl h 32 9) + x4)) - 48)]) (hI := d_QuestionReader_takesNumber_35) (hn := Nat.le_of_ble_eq_true rfl) (hL9 := rfl) ?_
    refine xr_iload_n (pc := 37) (i := 3) (hI := d_QuestionReader_takesNumber_37) (hi := rfl) (hl := rfl) ?_
    refine xr_iconst (pc := 38) (hI := d_QuestionReader_takesNumber_38) (hr := by decide) ?_
    refine xr_icmp_gt (pc := 39) (tgt := 54) (hI := d_QuestionReader_takesNumber_39) (ht := by decide) (fun q9 => ?_) (fun q9 => ?_)
    · replace hyp := hyp.1 q9
      have q15_ := q9
      clear q9
      refine xr_iconst (pc := 54) (hI := d_QuestionReader_takesNumber_54) (hr := by decide) ?_
      refine xr_ireturnT (S := []) (pc := 55) (hI := d_QuestionReader_takesNumber_55) (hr := rfl) (xnar_z (by decide)) ?_
      exact hyp
    · replace hyp := hyp.2 q9
      have q15_ := q9
      clear q9
      refine xr_iload (pc := 42) (i := 5) (hI := d_QuestionReader_takesNumber_42) (hl := rfl) ?_
      refine xr_if_lt (pc := 44) (tgt := 54) (hI := d_QuestionReader_takesNumber_44) (ht := by decide) (fun q9 => ?_) (fun q9 => ?_)
      · replace hyp := hyp.1 q9
        have q16_ := q9
        clear q9
        refine xr_iconst (pc := 54) (hI := d_QuestionReader_takesNumber_54) (hr := by decide) ?_
        refine xr_ireturnT (S := []) (pc := 55) (hI := d_QuestionReader_takesNumber_55) (hr := rfl) (xnar_z (by decide)) ?_
        exact hyp
      · replace hyp := hyp.2 q9
        have q16_ := q9
        clear q9
        refine xr_iload (pc := 47) (i := 5) (hI := d_QuestionReader_takesNumber_47) (hl := rfl) ?_
        refine xr_bipush (pc := 49) (hI := d_QuestionReader_takesNumber_49) (hr := by decide) (hv := by decide) ?_
        refine xr_icmp_le (pc := 51) (tgt := 56) (hI := d_QuestionReader_takesNumber_51) (ht := by decide) (fun q9 => ?_) (fun q9 => ?_)
        · replace hyp := hyp.1 q9
          have q17_ := q9
          clear q9
          refine xr_iload_n (pc := 56) (i := 2) (hI := d_QuestionReader_takesNumber_56) (hi := rfl) (hl := rfl) ?_
          refine xr_bipush (pc := 57) (hI := d_QuestionReader_takesNumber_57) (hr := by decide) (hv := by decide) ?_
          obtain ⟨c9, hyp⟩ := hyp
          refine xr_imul (pc := 59) (hI := d_QuestionReader_takesNumber_59) (hr := c9) ?_
          refine xr_iload (pc := 60) (i := 5) (hI := d_QuestionReader_takesNumber_60) (hl := rfl) ?_
          obtain ⟨c9, hyp⟩ := hyp
          refine xr_iadd (pc := 62) (hI := d_QuestionReader_takesNumber_62) (hr := c9) ?_
          refine xr_istore_n (pc := 63) (i := 2) (L9 := [xR 32, xR 1, xI ((x2 * 10) + ((tpa h ((xpl h 32 9) + x4)) - 48)), xI x3, xI x4, xI ((tpa h ((xpl h 32 9) + x4)) - 48)]) (hI := d_QuestionReader_takesNumber_63) (hi := rfl) (hn := Nat.le_of_ble_eq_true rfl) (hL9 := rfl) ?_
          refine xr_iinc (pc := 64) (i := 4) (L9 := [xR 32, xR 1, xI ((x2 * 10) + ((tpa h ((xpl h 32 9) + x4)) - 48)), xI x3, xI (x4 + 1), xI ((tpa h ((xpl h 32 9) + x4)) - 48)]) (hI := d_QuestionReader_takesNumber_64) (hl := rfl) (hn := Nat.le_of_ble_eq_true rfl) (hr := ⟨by clear hyp; omega, by clear hyp; omega⟩) (hL9 := rfl) ?_
          refine xr_goto (pc := 67) (tgt := 15) (hI := d_QuestionReader_takesNumber_67) (ht := by decide) ?_
          exact xr_drop (L9 := [xR 32, xR 1, xI ((x2 * 10) + ((tpa h ((xpl h 32 9) + x4)) - 48)), xI x3, xI (x4 + 1), xZ]) (xdrs (xdrs (xdrs (xdrs (xdrs (xdrz xdr0)))))) hyp
        · replace hyp := hyp.2 q9
          have q17_ := q9
          clear q9
          refine xr_iconst (pc := 54) (hI := d_QuestionReader_takesNumber_54) (hr := by decide) ?_
          refine xr_ireturnT (S := []) (pc := 55) (hI := d_QuestionReader_takesNumber_55) (hr := rfl) (xnar_z (by decide)) ?_
          exact hyp
abbrev m_QuestionReader_namedField : XM := (⟨"BeaconIndex$QuestionReader", "namedField", "(LBeaconIndex$Tape;)I"⟩, prog_7_method_14_code, 1, (some .int), [])
theorem d_QuestionReader_namedField_0 : decode prog_7_method_14_code 0 = .ok (.aload_n 0, 1) := by decide +kernel
theorem d_QuestionReader_namedField_1 : decode prog_7_method_14_code 1 = .ok (.ldc 190, 2) := by decide +kernel
theorem d_QuestionReader_namedField_3 : decode prog_7_method_14_code 3 = .ok (.invokevirtual 192, 3) := by decide +kernel
theorem w_1029 : Cond.methodLink "BeaconIndex$QuestionReader" 192 ⟨"BeaconIndex$Tape", "isRun", "(Ljava/lang/String;)Z"⟩ ∈ lw_tbl := List.mem_append_right _ (List.mem_of_getElem? (i := 1029) (by decide +kernel))
theorem d_QuestionReader_namedField_6 : decode prog_7_method_14_code 6 = .ok (.ifCond .eq 5, 3) := by decide +kernel
theorem d_QuestionReader_namedField_11 : decode prog_7_method_14_code 11 = .ok (.aload_n 0, 1) := by decide +kernel
theorem d_QuestionReader_namedField_12 : decode prog_7_method_14_code 12 = .ok (.ldc 196, 2) := by decide +kernel
theorem d_QuestionReader_namedField_14 : decode prog_7_method_14_code 14 = .ok (.invokevirtual 192, 3) := by decide +kernel
theorem d_QuestionReader_namedField_17 : decode prog_7_method_14_code 17 = .ok (.ifCond .eq 7, 3) := by decide +kernel
theorem d_QuestionReader_namedField_24 : decode prog_7_method_14_code 24 = .ok (.iconst 2, 1) := by decide +kernel
theorem d_QuestionReader_namedField_25 : decode prog_7_method_14_code 25 = .ok (.ireturn, 1) := by decide +kernel
theorem d_QuestionReader_namedField_20 : decode prog_7_method_14_code 20 = .ok (.iconst 1, 1) := by decide +kernel
theorem d_QuestionReader_namedField_21 : decode prog_7_method_14_code 21 = .ok (.goto 4, 3) := by decide +kernel
theorem d_QuestionReader_namedField_9 : decode prog_7_method_14_code 9 = .ok (.iconst 0, 1) := by decide +kernel
theorem d_QuestionReader_namedField_10 : decode prog_7_method_14_code 10 = .ok (.ireturn, 1) := by decide +kernel
theorem v_QuestionReader_namedField_0 {G : XG} {d : Nat} {h : XH} {Q : XV → XH → Prop} {X : Nat → XH → Prop} (F : xFix h) (hyp : kpt h ∧ ((((isrH h (-32)) = true) → (Q (xI 0) h)) ∧ (¬ ((isrH h (-32)) = true) → ((((isrH h (-34)) = true) → (Q (xI 1) h)) ∧ (¬ ((isrH h (-34)) = true) → (Q (xI 2) h)))))) : xwp G m_QuestionReader_namedField (d + 8) 0 [xR 1] [] h Q X := by
  have hnx9 : (93 : Int) ≤ xnx h := F.2.2
  refine xr_aload_n (pc := 0) (i := 0) (hI := d_QuestionReader_namedField_0) (hi := rfl) (hl := rfl) ?_
  refine xr_ldcS (pc := 1) (z := (-32)) (tx := "title") (k0 := 30) (hI := d_QuestionReader_namedField_1) (hm := by decide +kernel) (hz0 := by decide) ?_
  obtain ⟨c1_, hyp⟩ := hyp
  refine xq_callV (pc := 3) (index := 192) (K := m_Tape_isRun) (As := [xR (-32)]) (S := []) (L0 := [xR 1, xR (-32)]) (hI := d_QuestionReader_namedField_3) (hK := k_Tape_isRun) (hlk := w_1029) (hnoM := rfl) (hS8 := Nat.le_of_ble_eq_true rfl) (ci := 8) (N := 7) (C := "BeaconIndex$Tape") (T := xF8) (hc := rfl) (hci := Nat.le_of_ble_eq_true rfl) (htb := (ft_1 F)) (hinst := w_979) (hsel := w_980) (hlen := Nat.le_of_ble_eq_true rfl) (hst := rfl) (hL0 := rfl)  (p_Tape_isRun F (str_32 F).1 c1_ ?_)
  show xwp G m_QuestionReader_namedField (d + 8) 6 [xR 1] [xI (b2i (isrH h (-32)))] _ _ _
  refine xr_if_eq (pc := 6) (tgt := 11) (hI := d_QuestionReader_namedField_6) (ht := by decide) (fun q9 => ?_) (fun q9 => ?_)
  · replace hyp := hyp.2 (b2i_0.mp q9)
    have q2_ := b2i_0.mp q9
    clear q9
    refine xr_aload_n (pc := 11) (i := 0) (hI := d_QuestionReader_namedField_11) (hi := rfl) (hl := rfl) ?_
    refine xr_ldcS (pc := 12) (z := (-34)) (tx := "body") (k0 := 32) (hI := d_QuestionReader_namedField_12) (hm := by decide +kernel) (hz0 := by decide) ?_
    refine xq_callV (pc := 14) (index := 192) (K := m_Tape_isRun) (As := [xR (-34)]) (S := []) (L0 := [xR 1, xR (-34)]) (hI := d_QuestionReader_namedField_14) (hK := k_Tape_isRun) (hlk := w_1029) (hnoM := rfl) (hS8 := Nat.le_of_ble_eq_true rfl) (ci := 8) (N := 7) (C := "BeaconIndex$Tape") (T := xF8) (hc := rfl) (hci := Nat.le_of_ble_eq_true rfl) (htb := (ft_1 F)) (hinst := w_979) (hsel := w_980) (hlen := Nat.le_of_ble_eq_true rfl) (hst := rfl) (hL0 := rfl)  (p_Tape_isRun F (str_34 F).1 c1_ ?_)
    show xwp G m_QuestionReader_namedField (d + 8) 17 [xR 1] [xI (b2i (isrH h (-34)))] _ _ _
    refine xr_if_eq (pc := 17) (tgt := 24) (hI := d_QuestionReader_namedField_17) (ht := by decide) (fun q9 => ?_) (fun q9 => ?_)
    · replace hyp := hyp.2 (b2i_0.mp q9)
      have q3_ := b2i_0.mp q9
      clear q9
      refine xr_iconst (pc := 24) (hI := d_QuestionReader_namedField_24) (hr := by decide) ?_
      refine xr_ireturn (S := []) (pc := 25) (hI := d_QuestionReader_namedField_25) (hr := rfl) ?_
      exact hyp
    · replace hyp := hyp.1 (b2i_1.mp q9)
      have q3_ := b2i_1.mp q9
      clear q9
      refine xr_iconst (pc := 20) (hI := d_QuestionReader_namedField_20) (hr := by decide) ?_
      refine xr_goto (pc := 21) (tgt := 25) (hI := d_QuestionReader_namedField_21) (ht := by decide) ?_
      refine xr_ireturn (S := []) (pc := 25) (hI := d_QuestionReader_namedField_25) (hr := rfl) ?_
      exact hyp
  · replace hyp := hyp.1 (b2i_1.mp q9)
    have q2_ := b2i_1.mp q9
    clear q9
    refine xr_iconst (pc := 9) (hI := d_QuestionReader_namedField_9) (hr := by decide) ?_
    refine xr_ireturn (S := []) (pc := 10) (hI := d_QuestionReader_namedField_10) (hr := rfl) ?_
    exact hyp
abbrev m_QuestionReader_nextToken : XM := (⟨"BeaconIndex$QuestionReader", "nextToken", "(LBeaconIndex$Tape;)V"⟩, prog_7_method_3_code, 3, none, [])
theorem d_QuestionReader_nextToken_0 : decode prog_7_method_3_code 0 = .ok (.aload_n 0, 1) := by decide +kernel
theorem d_QuestionReader_nextToken_1 : decode prog_7_method_3_code 1 = .ok (.aload_n 1, 1) := by decide +kernel
theorem d_QuestionReader_nextToken_2 : decode prog_7_method_3_code 2 = .ok (.invokevirtual 88, 3) := by decide +kernel
theorem v_QuestionReader_nextToken_0 {G : XG} {d : Nat} {h : XH} {Q : XV → XH → Prop} {X : Nat → XH → Prop} (F : xFix h) (hyp : (xwp G m_QuestionReader_skipBlanks (d + 8) 0 [xR 32, xR 1] [] h (fun v9 h9 => xwp G m_QuestionReader_nextToken (d + 9) 5 [xR 32, xR 1, xZ] (xpush v9 []) h9 Q X) X)) : xwp G m_QuestionReader_nextToken (d + 9) 0 [xR 32, xR 1, xZ] [] h Q X := by
  have hnx9 : (93 : Int) ≤ xnx h := F.2.2
  refine xr_aload_n (pc := 0) (i := 0) (hI := d_QuestionReader_nextToken_0) (hi := rfl) (hl := rfl) ?_
  refine xr_aload_n (pc := 1) (i := 1) (hI := d_QuestionReader_nextToken_1) (hi := rfl) (hl := rfl) ?_
  exact xq_callV (pc := 2) (index := 88) (K := m_QuestionReader_skipBlanks) (As := [xR 1]) (S := []) (L0 := [xR 32, xR 1]) (hI := d_QuestionReader_nextToken_2) (hK := k_QuestionReader_skipBlanks) (hlk := w_962) (hnoM := rfl) (hS8 := Nat.le_of_ble_eq_true rfl) (ci := 6) (N := 15) (C := "BeaconIndex$QuestionReader") (T := xF6) (hc := rfl) (hci := Nat.le_of_ble_eq_true rfl) (htb := (ft_32 F)) (hinst := w_964) (hsel := sel_QuestionReader_skipBlanks) (hlen := Nat.le_of_ble_eq_true rfl) (hst := rfl) (hL0 := rfl)  hyp
theorem d_QuestionReader_nextToken_5 : decode prog_7_method_3_code 5 = .ok (.aload_n 0, 1) := by decide +kernel
theorem d_QuestionReader_nextToken_6 : decode prog_7_method_3_code 6 = .ok (.aload_n 0, 1) := by decide +kernel
theorem d_QuestionReader_nextToken_7 : decode prog_7_method_3_code 7 = .ok (.getfield 51, 3) := by decide +kernel
theorem d_QuestionReader_nextToken_10 : decode prog_7_method_3_code 10 = .ok (.putfield 54, 3) := by decide +kernel
theorem xfk_32_9 : xfree 32 9 = true := by decide +kernel
theorem d_QuestionReader_nextToken_13 : decode prog_7_method_3_code 13 = .ok (.aload_n 1, 1) := by decide +kernel
theorem d_QuestionReader_nextToken_14 : decode prog_7_method_3_code 14 = .ok (.aload_n 0, 1) := by decide +kernel
theorem d_QuestionReader_nextToken_15 : decode prog_7_method_3_code 15 = .ok (.getfield 54, 3) := by decide +kernel
theorem d_QuestionReader_nextToken_18 : decode prog_7_method_3_code 18 = .ok (.invokevirtual 91, 3) := by decide +kernel
theorem d_QuestionReader_nextToken_21 : decode prog_7_method_3_code 21 = .ok (.istore_n 2, 1) := by decide +kernel
theorem d_QuestionReader_nextToken_22 : decode prog_7_method_3_code 22 = .ok (.iload_n 2, 1) := by decide +kernel
theorem d_QuestionReader_nextToken_23 : decode prog_7_method_3_code 23 = .ok (.iconst (-1), 1) := by decide +kernel
theorem d_QuestionReader_nextToken_24 : decode prog_7_method_3_code 24 = .ok (.if_icmp .ne 11, 3) := by decide +kernel
theorem d_QuestionReader_nextToken_35 : decode prog_7_method_3_code 35 = .ok (.iload_n 2, 1) := by decide +kernel
theorem d_QuestionReader_nextToken_36 : decode prog_7_method_3_code 36 = .ok (.invokestatic 96, 3) := by decide +kernel
theorem w_967 : Cond.methodLink "BeaconIndex$QuestionReader" 96 ⟨"BeaconIndex$Words", "signOf", "(I)I"⟩ ∈ lw_tbl := List.mem_append_right _ (List.mem_of_getElem? (i := 967) (by decide +kernel))
theorem d_QuestionReader_nextToken_39 : decode prog_7_method_3_code 39 = .ok (.ifCond .eq 64, 3) := by decide +kernel
theorem d_QuestionReader_nextToken_103 : decode prog_7_method_3_code 103 = .ok (.aload_n 0, 1) := by decide +kernel
theorem d_QuestionReader_nextToken_104 : decode prog_7_method_3_code 104 = .ok (.aload_n 0, 1) := by decide +kernel
theorem d_QuestionReader_nextToken_105 : decode prog_7_method_3_code 105 = .ok (.getfield 54, 3) := by decide +kernel
theorem d_QuestionReader_nextToken_108 : decode prog_7_method_3_code 108 = .ok (.iconst 1, 1) := by decide +kernel
theorem d_QuestionReader_nextToken_109 : decode prog_7_method_3_code 109 = .ok (.iadd, 1) := by decide +kernel
theorem d_QuestionReader_nextToken_110 : decode prog_7_method_3_code 110 = .ok (.putfield 51, 3) := by decide +kernel
theorem d_QuestionReader_nextToken_113 : decode prog_7_method_3_code 113 = .ok (.aload_n 0, 1) := by decide +kernel
theorem d_QuestionReader_nextToken_114 : decode prog_7_method_3_code 114 = .ok (.iload_n 2, 1) := by decide +kernel
theorem d_QuestionReader_nextToken_115 : decode prog_7_method_3_code 115 = .ok (.invokestatic 123, 3) := by decide +kernel
theorem k_QuestionReader_isTokenSign : xCal m_QuestionReader_isTokenSign 1 := ⟨List.mem_append_right _ (List.mem_of_getElem? (i := 992) (by decide +kernel)), w_9, Nat.le_of_ble_eq_true rfl, ⟨by decide +kernel, by decide +kernel⟩, by decide +kernel, by decide +kernel, rfl⟩
theorem w_990 : Cond.methodLink "BeaconIndex$QuestionReader" 123 ⟨"BeaconIndex$QuestionReader", "isTokenSign", "(I)Z"⟩ ∈ lw_tbl := List.mem_append_right _ (List.mem_of_getElem? (i := 990) (by decide +kernel))
theorem w_991 : Cond.static ⟨"BeaconIndex$QuestionReader", "isTokenSign", "(I)Z"⟩ ∈ lw_tbl := List.mem_append_right _ (List.mem_of_getElem? (i := 991) (by decide +kernel))
theorem d_QuestionReader_nextToken_118 : decode prog_7_method_3_code 118 = .ok (.ifCond .eq 7, 3) := by decide +kernel
theorem d_QuestionReader_nextToken_125 : decode prog_7_method_3_code 125 = .ok (.iconst 2, 1) := by decide +kernel
theorem d_QuestionReader_nextToken_126 : decode prog_7_method_3_code 126 = .ok (.putfield 57, 3) := by decide +kernel
theorem xfk_32_10 : xfree 32 10 = true := by decide +kernel
theorem d_QuestionReader_nextToken_129 : decode prog_7_method_3_code 129 = .ok (.return_, 1) := by decide +kernel
theorem d_QuestionReader_nextToken_121 : decode prog_7_method_3_code 121 = .ok (.iload_n 2, 1) := by decide +kernel
theorem d_QuestionReader_nextToken_122 : decode prog_7_method_3_code 122 = .ok (.goto 4, 3) := by decide +kernel
theorem d_QuestionReader_nextToken_42 : decode prog_7_method_3_code 42 = .ok (.aload_n 1, 1) := by decide +kernel
theorem d_QuestionReader_nextToken_43 : decode prog_7_method_3_code 43 = .ok (.aload_n 0, 1) := by decide +kernel
theorem d_QuestionReader_nextToken_44 : decode prog_7_method_3_code 44 = .ok (.getfield 54, 3) := by decide +kernel
theorem d_QuestionReader_nextToken_47 : decode prog_7_method_3_code 47 = .ok (.aload_n 1, 1) := by decide +kernel
theorem d_QuestionReader_nextToken_48 : decode prog_7_method_3_code 48 = .ok (.getfield 101, 3) := by decide +kernel
theorem d_QuestionReader_nextToken_51 : decode prog_7_method_3_code 51 = .ok (.invokevirtual 104, 3) := by decide +kernel
theorem w_968 : Cond.methodLink "BeaconIndex$QuestionReader" 104 ⟨"BeaconIndex$Tape", "seekRun", "(II)Z"⟩ ∈ lw_tbl := List.mem_append_right _ (List.mem_of_getElem? (i := 968) (by decide +kernel))
theorem d_QuestionReader_nextToken_27 : decode prog_7_method_3_code 27 = .ok (.aload_n 0, 1) := by decide +kernel
theorem d_QuestionReader_nextToken_28 : decode prog_7_method_3_code 28 = .ok (.iconst 0, 1) := by decide +kernel
theorem d_QuestionReader_nextToken_29 : decode prog_7_method_3_code 29 = .ok (.putfield 57, 3) := by decide +kernel
theorem d_QuestionReader_nextToken_32 : decode prog_7_method_3_code 32 = .ok (.goto 97, 3) := by decide +kernel
theorem v_QuestionReader_nextToken_5 {G : XG} {d : Nat} {h : XH} {Q : XV → XH → Prop} {X : Nat → XH → Prop} (F : xFix h) (hyp : (((tpa (xst h 32 9 (xpl h 32 8)) (xpl h 32 8)) = (-1) → (xFix (xst (xst h 32 9 (xpl h 32 8)) 32 10 0) → Q xN (xst (xst h 32 9 (xpl h 32 8)) 32 10 0))) ∧ (¬ (tpa (xst h 32 9 (xpl h 32 8)) (xpl h 32 8)) = (-1) → (((sgn (tpa (xst h 32 9 (xpl h 32 8)) (xpl h 32 8))) = 0 → xiR ((xpl h 32 8) + 1) ∧ ((((tsF (tpa (xst h 32 9 (xpl h 32 8)) (xpl h 32 8))) = true) → (xFix (xst (xst (xst h 32 9 (xpl h 32 8)) 32 8 ((xpl h 32 8) + 1)) 32 10 (tpa (xst h 32 9 (xpl h 32 8)) (xpl h 32 8))) → Q xN (xst (xst (xst h 32 9 (xpl h 32 8)) 32 8 ((xpl h 32 8) + 1)) 32 10 (tpa (xst h 32 9 (xpl h 32 8)) (xpl h 32 8))))) ∧ (¬ ((tsF (tpa (xst h 32 9 (xpl h 32 8)) (xpl h 32 8))) = true) → (xFix (xst (xst (xst h 32 9 (xpl h 32 8)) 32 8 ((xpl h 32 8) + 1)) 32 10 2) → Q xN (xst (xst (xst h 32 9 (xpl h 32 8)) 32 8 ((xpl h 32 8) + 1)) 32 10 2))))) ∧ (¬ (sgn (tpa (xst h 32 9 (xpl h 32 8)) (xpl h 32 8))) = 0 → (xFix (xst h 32 9 (xpl h 32 8)) → xwp G m_Tape_seekRun (d + 8) 0 [xR 1, xI (xpl h 32 8), xI (xpl h 1 3), xZ, xZ] [] (xst h 32 9 (xpl h 32 8)) (fun v9 h9 => xwp G m_QuestionReader_nextToken (d + 9) 54 [xR 32, xR 1, xZ] (xpush v9 []) h9 Q X) X)))))) : xwp G m_QuestionReader_nextToken (d + 9) 5 [xR 32, xR 1, xZ] [] h Q X := by
  have hnx9 : (93 : Int) ≤ xnx h := F.2.2
  refine xr_aload_n (pc := 5) (i := 0) (hI := d_QuestionReader_nextToken_5) (hi := rfl) (hl := rfl) ?_
  refine xr_aload_n (pc := 6) (i := 0) (hI := d_QuestionReader_nextToken_6) (hi := rfl) (hl := rfl) ?_
  refine xg_getf (pc := 7) (ci := 6) (k := 8) (N := 15) (v9 := 0) (v := (xpl h 32 8)) (T := xF6) (hI := d_QuestionReader_nextToken_7) (hw := w_316) rfl xi6 (Or.inl rfl) (Nat.le_of_ble_eq_true rfl) (Nat.le_of_ble_eq_true rfl) rfl (ft_32 F) rfl (fun f1_ => ?_)
  replace f1_ : -2147483648 ≤ (xpl h 32 8) ∧ (xpl h 32 8) ≤ 2147483647 := f1_
  refine xr_putf (pc := 10) (ci := 6) (k := 9) (N := 15) (v9 := 0) (T := xF6) (tF := xT6) (hI := d_QuestionReader_nextToken_10) (hw := w_317) rfl xi6 xt6 xn6 (Or.inl rfl) (Nat.le_of_ble_eq_true rfl) (Nat.le_of_ble_eq_true rfl) rfl xfit_i rfl (ft_32 F) (by decide) (fun z => z) ?_
  have F2_ : xFix (xst h 32 9 (xpl h 32 8)) := F.stL xfk_32_9
  refine xr_aload_n (pc := 13) (i := 1) (hI := d_QuestionReader_nextToken_13) (hi := rfl) (hl := rfl) ?_
  refine xr_aload_n (pc := 14) (i := 0) (hI := d_QuestionReader_nextToken_14) (hi := rfl) (hl := rfl) ?_
  refine xg_getf (pc := 15) (ci := 6) (k := 9) (N := 15) (v9 := 0) (v := (xpl h 32 8)) (T := xF6) (hI := d_QuestionReader_nextToken_15) (hw := w_317) rfl xi6 (Or.inl rfl) (Nat.le_of_ble_eq_true rfl) (Nat.le_of_ble_eq_true rfl) rfl (ft_32 F2_) (xpl_hit _ _ _ _) (fun f3_ => ?_)
  replace f3_ : -2147483648 ≤ (xpl h 32 8) ∧ (xpl h 32 8) ≤ 2147483647 := f3_
  refine xq_callV (pc := 18) (index := 91) (K := m_Tape_at) (As := [xI (xpl h 32 8)]) (S := []) (L0 := [xR 1, xI (xpl h 32 8)]) (hI := d_QuestionReader_nextToken_18) (hK := k_Tape_at) (hlk := w_966) (hnoM := rfl) (hS8 := Nat.le_of_ble_eq_true rfl) (ci := 8) (N := 7) (C := "BeaconIndex$Tape") (T := xF8) (hc := rfl) (hci := Nat.le_of_ble_eq_true rfl) (htb := (ft_1 F2_)) (hinst := w_792) (hsel := w_793) (hlen := Nat.le_of_ble_eq_true rfl) (hst := rfl) (hL0 := rfl)  (p_Tape_at F2_  ?_)
  show xwp G m_QuestionReader_nextToken (d + 9) 21 [xR 32, xR 1, xZ] [xI (tpa (xst h 32 9 (xpl h 32 8)) (xpl h 32 8))] _ _ _
  refine xr_istore_n (pc := 21) (i := 2) (L9 := [xR 32, xR 1, xI (tpa (xst h 32 9 (xpl h 32 8)) (xpl h 32 8))]) (hI := d_QuestionReader_nextToken_21) (hi := rfl) (hn := Nat.le_of_ble_eq_true rfl) (hL9 := rfl) ?_
  refine xr_iload_n (pc := 22) (i := 2) (hI := d_QuestionReader_nextToken_22) (hi := rfl) (hl := rfl) ?_
  refine xr_iconst (pc := 23) (hI := d_QuestionReader_nextToken_23) (hr := by decide) ?_
  refine xr_icmp_ne (pc := 24) (tgt := 35) (hI := d_QuestionReader_nextToken_24) (ht := by decide) (fun q9 => ?_) (fun q9 => ?_)
  · replace hyp := hyp.2 q9
    have q4_ := q9
    clear q9
    refine xr_iload_n (pc := 35) (i := 2) (hI := d_QuestionReader_nextToken_35) (hi := rfl) (hl := rfl) ?_
    refine xq_callS (pc := 36) (index := 96) (K := m_Words_signOf) (As := [xI (tpa (xst h 32 9 (xpl h 32 8)) (xpl h 32 8))]) (S := []) (L0 := [xI (tpa (xst h 32 9 (xpl h 32 8)) (xpl h 32 8))]) (hI := d_QuestionReader_nextToken_36) (hK := k_Words_signOf) (hlk := w_967) (hnoM := rfl) (hS8 := Nat.le_of_ble_eq_true rfl) (hstat := w_796) (hlen := Nat.le_of_ble_eq_true rfl) (hst := rfl) (hL0 := rfl)  (p_Words_signOf F2_  ?_)
    show xwp G m_QuestionReader_nextToken (d + 9) 39 [xR 32, xR 1, xI (tpa (xst h 32 9 (xpl h 32 8)) (xpl h 32 8))] [xI (sgn (tpa (xst h 32 9 (xpl h 32 8)) (xpl h 32 8)))] _ _ _
    have f5_ : 0 ≤ (sgn (tpa (xst h 32 9 (xpl h 32 8)) (xpl h 32 8))) ∧ (sgn (tpa (xst h 32 9 (xpl h 32 8)) (xpl h 32 8))) ≤ 36 := sgn_rng _
    refine xr_if_eq (pc := 39) (tgt := 103) (hI := d_QuestionReader_nextToken_39) (ht := by decide) (fun q9 => ?_) (fun q9 => ?_)
    · replace hyp := hyp.1 q9
      have q6_ := q9
      clear q9
      refine xr_aload_n (pc := 103) (i := 0) (hI := d_QuestionReader_nextToken_103) (hi := rfl) (hl := rfl) ?_
      refine xr_aload_n (pc := 104) (i := 0) (hI := d_QuestionReader_nextToken_104) (hi := rfl) (hl := rfl) ?_
      refine xg_getf (pc := 105) (ci := 6) (k := 9) (N := 15) (v9 := 0) (v := (xpl h 32 8)) (T := xF6) (hI := d_QuestionReader_nextToken_105) (hw := w_317) rfl xi6 (Or.inl rfl) (Nat.le_of_ble_eq_true rfl) (Nat.le_of_ble_eq_true rfl) rfl (ft_32 F2_) (xpl_hit _ _ _ _) (fun f7_ => ?_)
      replace f7_ : -2147483648 ≤ (xpl h 32 8) ∧ (xpl h 32 8) ≤ 2147483647 := f7_
      refine xr_iconst (pc := 108) (hI := d_QuestionReader_nextToken_108) (hr := by decide) ?_
      obtain ⟨c9, hyp⟩ := hyp
      refine xr_iadd (pc := 109) (hI := d_QuestionReader_nextToken_109) (hr := c9) ?_
      refine xr_putf (pc := 110) (ci := 6) (k := 8) (N := 15) (v9 := 0) (T := xF6) (tF := xT6) (hI := d_QuestionReader_nextToken_110) (hw := w_316) rfl xi6 xt6 xn6 (Or.inl rfl) (Nat.le_of_ble_eq_true rfl) (Nat.le_of_ble_eq_true rfl) rfl xfit_i rfl (ft_32 F2_) (by decide) (fun z => z) ?_
      have F8_ : xFix (xst (xst h 32 9 (xpl h 32 8)) 32 8 ((xpl h 32 8) + 1)) := F2_.stL xfk_32_8
      refine xr_aload_n (pc := 113) (i := 0) (hI := d_QuestionReader_nextToken_113) (hi := rfl) (hl := rfl) ?_
      refine xr_iload_n (pc := 114) (i := 2) (hI := d_QuestionReader_nextToken_114) (hi := rfl) (hl := rfl) ?_
      refine xq_callS (pc := 115) (index := 123) (K := m_QuestionReader_isTokenSign) (As := [xI (tpa (xst h 32 9 (xpl h 32 8)) (xpl h 32 8))]) (S := [xR 32]) (L0 := [xI (tpa (xst h 32 9 (xpl h 32 8)) (xpl h 32 8))]) (hI := d_QuestionReader_nextToken_115) (hK := k_QuestionReader_isTokenSign) (hlk := w_990) (hnoM := rfl) (hS8 := Nat.le_of_ble_eq_true rfl) (hstat := w_991) (hlen := Nat.le_of_ble_eq_true rfl) (hst := rfl) (hL0 := rfl)  (p_QR_isTokenSign F8_  ?_)
      show xwp G m_QuestionReader_nextToken (d + 9) 118 [xR 32, xR 1, xI (tpa (xst h 32 9 (xpl h 32 8)) (xpl h 32 8))] [xI (b2i (tsF (tpa (xst h 32 9 (xpl h 32 8)) (xpl h 32 8)))), xR 32] _ _ _
      refine xr_if_eq (pc := 118) (tgt := 125) (hI := d_QuestionReader_nextToken_118) (ht := by decide) (fun q9 => ?_) (fun q9 => ?_)
      · replace hyp := hyp.2 (b2i_0.mp q9)
        have q9_ := b2i_0.mp q9
        clear q9
        refine xr_iconst (pc := 125) (hI := d_QuestionReader_nextToken_125) (hr := by decide) ?_
        refine xr_putf (pc := 126) (ci := 6) (k := 10) (N := 15) (v9 := 0) (T := xF6) (tF := xT6) (hI := d_QuestionReader_nextToken_126) (hw := w_318) rfl xi6 xt6 xn6 (Or.inl rfl) (Nat.le_of_ble_eq_true rfl) (Nat.le_of_ble_eq_true rfl) rfl xfit_i rfl (ft_32 F8_) (by decide) (fun z => z) ?_
        have F10_ : xFix (xst (xst (xst h 32 9 (xpl h 32 8)) 32 8 ((xpl h 32 8) + 1)) 32 10 2) := F8_.stL xfk_32_10
        refine xr_return (S := []) (pc := 129) (hI := d_QuestionReader_nextToken_129) (hr := rfl) ?_
        exact hyp F10_
      · replace hyp := hyp.1 (b2i_1.mp q9)
        have q9_ := b2i_1.mp q9
        clear q9
        refine xr_iload_n (pc := 121) (i := 2) (hI := d_QuestionReader_nextToken_121) (hi := rfl) (hl := rfl) ?_
        refine xr_goto (pc := 122) (tgt := 126) (hI := d_QuestionReader_nextToken_122) (ht := by decide) ?_
        refine xr_putf (pc := 126) (ci := 6) (k := 10) (N := 15) (v9 := 0) (T := xF6) (tF := xT6) (hI := d_QuestionReader_nextToken_126) (hw := w_318) rfl xi6 xt6 xn6 (Or.inl rfl) (Nat.le_of_ble_eq_true rfl) (Nat.le_of_ble_eq_true rfl) rfl xfit_i rfl (ft_32 F8_) (by decide) (fun z => z) ?_
        have F11_ : xFix (xst (xst (xst h 32 9 (xpl h 32 8)) 32 8 ((xpl h 32 8) + 1)) 32 10 (tpa (xst h 32 9 (xpl h 32 8)) (xpl h 32 8))) := F8_.stL xfk_32_10
        refine xr_return (S := []) (pc := 129) (hI := d_QuestionReader_nextToken_129) (hr := rfl) ?_
        exact hyp F11_
    · replace hyp := hyp.2 q9
      have q6_ := q9
      clear q9
      refine xr_aload_n (pc := 42) (i := 1) (hI := d_QuestionReader_nextToken_42) (hi := rfl) (hl := rfl) ?_
      refine xr_aload_n (pc := 43) (i := 0) (hI := d_QuestionReader_nextToken_43) (hi := rfl) (hl := rfl) ?_
      refine xg_getf (pc := 44) (ci := 6) (k := 9) (N := 15) (v9 := 0) (v := (xpl h 32 8)) (T := xF6) (hI := d_QuestionReader_nextToken_44) (hw := w_317) rfl xi6 (Or.inl rfl) (Nat.le_of_ble_eq_true rfl) (Nat.le_of_ble_eq_true rfl) rfl (ft_32 F2_) (xpl_hit _ _ _ _) (fun f12_ => ?_)
      replace f12_ : -2147483648 ≤ (xpl h 32 8) ∧ (xpl h 32 8) ≤ 2147483647 := f12_
      refine xr_aload_n (pc := 47) (i := 1) (hI := d_QuestionReader_nextToken_47) (hi := rfl) (hl := rfl) ?_
      refine xg_getf (pc := 48) (ci := 8) (k := 3) (N := 7) (v9 := 0) (v := (xpl h 1 3)) (T := xF8) (hI := d_QuestionReader_nextToken_48) (hw := w_59) rfl xi8 (Or.inl rfl) (Nat.le_of_ble_eq_true rfl) (Nat.le_of_ble_eq_true rfl) rfl (ft_1 F2_) (xpl_oa (by decide)) (fun f13_ => ?_)
      replace f13_ : -2147483648 ≤ (xpl h 1 3) ∧ (xpl h 1 3) ≤ 2147483647 := f13_
      exact xq_callV (pc := 51) (index := 104) (K := m_Tape_seekRun) (As := [xI (xpl h 32 8), xI (xpl h 1 3)]) (S := []) (L0 := [xR 1, xI (xpl h 32 8), xI (xpl h 1 3), xZ, xZ]) (hI := d_QuestionReader_nextToken_51) (hK := k_Tape_seekRun) (hlk := w_968) (hnoM := rfl) (hS8 := Nat.le_of_ble_eq_true rfl) (ci := 8) (N := 7) (C := "BeaconIndex$Tape") (T := xF8) (hc := rfl) (hci := Nat.le_of_ble_eq_true rfl) (htb := (ft_1 F2_)) (hinst := w_788) (hsel := w_789) (hlen := Nat.le_of_ble_eq_true rfl) (hst := rfl) (hL0 := rfl)  (xwp_mono (hyp F2_) (fun v9 h9 q9 => xr_drop (L9 := [xR 32, xR 1, xZ]) (xdrs (xdrs (xdrz xdr0))) q9) (fun _ _ z9 => z9))
  · replace hyp := hyp.1 q9
    have q4_ := q9
    clear q9
    refine xr_aload_n (pc := 27) (i := 0) (hI := d_QuestionReader_nextToken_27) (hi := rfl) (hl := rfl) ?_
    refine xr_iconst (pc := 28) (hI := d_QuestionReader_nextToken_28) (hr := by decide) ?_
    refine xr_putf (pc := 29) (ci := 6) (k := 10) (N := 15) (v9 := 0) (T := xF6) (tF := xT6) (hI := d_QuestionReader_nextToken_29) (hw := w_318) rfl xi6 xt6 xn6 (Or.inl rfl) (Nat.le_of_ble_eq_true rfl) (Nat.le_of_ble_eq_true rfl) rfl xfit_i rfl (ft_32 F2_) (by decide) (fun z => z) ?_
    have F14_ : xFix (xst (xst h 32 9 (xpl h 32 8)) 32 10 0) := F2_.stL xfk_32_10
    refine xr_goto (pc := 32) (tgt := 129) (hI := d_QuestionReader_nextToken_32) (ht := by decide) ?_
    refine xr_return (S := []) (pc := 129) (hI := d_QuestionReader_nextToken_129) (hr := rfl) ?_
    exact hyp F14_
theorem d_QuestionReader_nextToken_54 : decode prog_7_method_3_code 54 = .ok (.pop, 1) := by decide +kernel
theorem d_QuestionReader_nextToken_55 : decode prog_7_method_3_code 55 = .ok (.aload_n 0, 1) := by decide +kernel
theorem d_QuestionReader_nextToken_56 : decode prog_7_method_3_code 56 = .ok (.aload_n 1, 1) := by decide +kernel
theorem d_QuestionReader_nextToken_57 : decode prog_7_method_3_code 57 = .ok (.getfield 108, 3) := by decide +kernel
theorem w_62 : Cond.fieldLink "BeaconIndex$QuestionReader" 108 "BeaconIndex$Tape" "runEnd" "I" ∈ lw_tbl := List.mem_append_right _ (List.mem_of_getElem? (i := 62) (by decide +kernel))
theorem d_QuestionReader_nextToken_60 : decode prog_7_method_3_code 60 = .ok (.putfield 51, 3) := by decide +kernel
theorem d_QuestionReader_nextToken_63 : decode prog_7_method_3_code 63 = .ok (.aload_n 0, 1) := by decide +kernel
theorem d_QuestionReader_nextToken_64 : decode prog_7_method_3_code 64 = .ok (.aload_n 1, 1) := by decide +kernel
theorem d_QuestionReader_nextToken_65 : decode prog_7_method_3_code 65 = .ok (.invokevirtual 111, 3) := by decide +kernel
abbrev m_Tape_runBytes : XM := (⟨"BeaconIndex$Tape", "runBytes", "()I"⟩, prog_9_method_7_code, 1, (some .int), [])
theorem k_Tape_runBytes : xCal m_Tape_runBytes 0 := ⟨List.mem_append_right _ (List.mem_of_getElem? (i := 972) (by decide +kernel)), w_2, Nat.le_of_ble_eq_true rfl, ⟨by decide +kernel, by decide +kernel⟩, by decide +kernel, by decide +kernel, rfl⟩
theorem w_969 : Cond.methodLink "BeaconIndex$QuestionReader" 111 ⟨"BeaconIndex$Tape", "runBytes", "()I"⟩ ∈ lw_tbl := List.mem_append_right _ (List.mem_of_getElem? (i := 969) (by decide +kernel))
theorem w_970 : Cond.instanceMethod ⟨"BeaconIndex$Tape", "runBytes", "()I"⟩ ∈ lw_tbl := List.mem_append_right _ (List.mem_of_getElem? (i := 970) (by decide +kernel))
theorem w_971 : Cond.selects "BeaconIndex$Tape" ⟨"BeaconIndex$Tape", "runBytes", "()I"⟩ ⟨"BeaconIndex$Tape", "runBytes", "()I"⟩ ∈ lw_tbl := List.mem_append_right _ (List.mem_of_getElem? (i := 971) (by decide +kernel))
theorem v_QuestionReader_nextToken_54 {G : XG} {d : Nat} {h : XH} {Q : XV → XH → Prop} {X : Nat → XH → Prop} {s0 : Int} (F : xFix h) (hyp : (xFix (xst h 32 8 (xpl h 1 5)) → xwp G m_Tape_runBytes (d + 8) 0 [xR 1] [] (xst h 32 8 (xpl h 1 5)) (fun v9 h9 => xwp G m_QuestionReader_nextToken (d + 9) 68 [xR 32, xR 1, xZ] (xpush v9 [xR 32]) h9 Q X) X)) : xwp G m_QuestionReader_nextToken (d + 9) 54 [xR 32, xR 1, xZ] [xI s0] h Q X := by
  have hnx9 : (93 : Int) ≤ xnx h := F.2.2
  refine xr_okS (fun hs9 => ?_)
  have r_s0 : -2147483648 ≤ s0 ∧ s0 ≤ 2147483647 := hs9 (xI s0) (.head _)
  refine xr_pop (pc := 54) (hI := d_QuestionReader_nextToken_54) (hv := rfl) ?_
  refine xr_aload_n (pc := 55) (i := 0) (hI := d_QuestionReader_nextToken_55) (hi := rfl) (hl := rfl) ?_
  refine xr_aload_n (pc := 56) (i := 1) (hI := d_QuestionReader_nextToken_56) (hi := rfl) (hl := rfl) ?_
  refine xg_getf (pc := 57) (ci := 8) (k := 5) (N := 7) (v9 := 0) (v := (xpl h 1 5)) (T := xF8) (hI := d_QuestionReader_nextToken_57) (hw := w_62) rfl xi8 (Or.inl rfl) (Nat.le_of_ble_eq_true rfl) (Nat.le_of_ble_eq_true rfl) rfl (ft_1 F) rfl (fun f1_ => ?_)
  replace f1_ : -2147483648 ≤ (xpl h 1 5) ∧ (xpl h 1 5) ≤ 2147483647 := f1_
  refine xr_putf (pc := 60) (ci := 6) (k := 8) (N := 15) (v9 := 0) (T := xF6) (tF := xT6) (hI := d_QuestionReader_nextToken_60) (hw := w_316) rfl xi6 xt6 xn6 (Or.inl rfl) (Nat.le_of_ble_eq_true rfl) (Nat.le_of_ble_eq_true rfl) rfl xfit_i rfl (ft_32 F) (by decide) (fun z => z) ?_
  have F2_ : xFix (xst h 32 8 (xpl h 1 5)) := F.stL xfk_32_8
  refine xr_aload_n (pc := 63) (i := 0) (hI := d_QuestionReader_nextToken_63) (hi := rfl) (hl := rfl) ?_
  refine xr_aload_n (pc := 64) (i := 1) (hI := d_QuestionReader_nextToken_64) (hi := rfl) (hl := rfl) ?_
  exact xq_callV (pc := 65) (index := 111) (K := m_Tape_runBytes) (As := []) (S := [xR 32]) (L0 := [xR 1]) (hI := d_QuestionReader_nextToken_65) (hK := k_Tape_runBytes) (hlk := w_969) (hnoM := rfl) (hS8 := Nat.le_of_ble_eq_true rfl) (ci := 8) (N := 7) (C := "BeaconIndex$Tape") (T := xF8) (hc := rfl) (hci := Nat.le_of_ble_eq_true rfl) (htb := (ft_1 F2_)) (hinst := w_970) (hsel := w_971) (hlen := Nat.le_of_ble_eq_true rfl) (hst := rfl) (hL0 := rfl)  (hyp F2_)
theorem d_QuestionReader_nextToken_68 : decode prog_7_method_3_code 68 = .ok (.bipush 20, 2) := by decide +kernel
theorem d_QuestionReader_nextToken_70 : decode prog_7_method_3_code 70 = .ok (.if_icmp .le 7, 3) := by decide +kernel
theorem d_QuestionReader_nextToken_77 : decode prog_7_method_3_code 77 = .ok (.iconst 1, 1) := by decide +kernel
theorem d_QuestionReader_nextToken_73 : decode prog_7_method_3_code 73 = .ok (.iconst 2, 1) := by decide +kernel
theorem d_QuestionReader_nextToken_74 : decode prog_7_method_3_code 74 = .ok (.goto 4, 3) := by decide +kernel
theorem v_QuestionReader_nextToken_68 {G : XG} {d : Nat} {h : XH} {Q : XV → XH → Prop} {X : Nat → XH → Prop} {s0 : Int} (F : xFix h) (hyp : ((s0 ≤ 20 → (xwp G m_QuestionReader_nextToken (d + 9) 78 [xR 32, xR 1, xZ] [xI 1, xR 32] h Q X)) ∧ (¬ s0 ≤ 20 → (xwp G m_QuestionReader_nextToken (d + 9) 78 [xR 32, xR 1, xZ] [xI 2, xR 32] h Q X)))) : xwp G m_QuestionReader_nextToken (d + 9) 68 [xR 32, xR 1, xZ] [xI s0, xR 32] h Q X := by
  have hnx9 : (93 : Int) ≤ xnx h := F.2.2
  refine xr_okS (fun hs9 => ?_)
  have r_s0 : -2147483648 ≤ s0 ∧ s0 ≤ 2147483647 := hs9 (xI s0) (.head _)
  refine xr_bipush (pc := 68) (hI := d_QuestionReader_nextToken_68) (hr := by decide) (hv := by decide) ?_
  refine xr_icmp_le (pc := 70) (tgt := 77) (hI := d_QuestionReader_nextToken_70) (ht := by decide) (fun q9 => ?_) (fun q9 => ?_)
  · replace hyp := hyp.1 q9
    have q1_ := q9
    clear q9
    refine xr_iconst (pc := 77) (hI := d_QuestionReader_nextToken_77) (hr := by decide) ?_
    exact hyp
  · replace hyp := hyp.2 q9
    have q1_ := q9
    clear q9
    refine xr_iconst (pc := 73) (hI := d_QuestionReader_nextToken_73) (hr := by decide) ?_
    refine xr_goto (pc := 74) (tgt := 78) (hI := d_QuestionReader_nextToken_74) (ht := by decide) ?_
    exact hyp
theorem d_QuestionReader_nextToken_78 : decode prog_7_method_3_code 78 = .ok (.putfield 57, 3) := by decide +kernel
theorem d_QuestionReader_nextToken_81 : decode prog_7_method_3_code 81 = .ok (.aload_n 0, 1) := by decide +kernel
theorem d_QuestionReader_nextToken_82 : decode prog_7_method_3_code 82 = .ok (.aload_n 1, 1) := by decide +kernel
theorem d_QuestionReader_nextToken_83 : decode prog_7_method_3_code 83 = .ok (.invokevirtual 115, 3) := by decide +kernel
theorem w_973 : Cond.methodLink "BeaconIndex$QuestionReader" 115 ⟨"BeaconIndex$Tape", "isRunSmall", "()Z"⟩ ∈ lw_tbl := List.mem_append_right _ (List.mem_of_getElem? (i := 973) (by decide +kernel))
theorem d_QuestionReader_nextToken_86 : decode prog_7_method_3_code 86 = .ok (.ifCond .eq 7, 3) := by decide +kernel
theorem d_QuestionReader_nextToken_93 : decode prog_7_method_3_code 93 = .ok (.aload_n 1, 1) := by decide +kernel
theorem d_QuestionReader_nextToken_94 : decode prog_7_method_3_code 94 = .ok (.invokevirtual 119, 3) := by decide +kernel
theorem w_989 : Cond.methodLink "BeaconIndex$QuestionReader" 119 ⟨"BeaconIndex$Tape", "runWord", "()J"⟩ ∈ lw_tbl := List.mem_append_right _ (List.mem_of_getElem? (i := 989) (by decide +kernel))
theorem d_QuestionReader_nextToken_97 : decode prog_7_method_3_code 97 = .ok (.putfield 60, 3) := by decide +kernel
theorem xfk_32_11 : xfree 32 11 = true := by decide +kernel
theorem d_QuestionReader_nextToken_100 : decode prog_7_method_3_code 100 = .ok (.goto 29, 3) := by decide +kernel
theorem d_QuestionReader_nextToken_89 : decode prog_7_method_3_code 89 = .ok (.lconst 0, 1) := by decide +kernel
theorem d_QuestionReader_nextToken_90 : decode prog_7_method_3_code 90 = .ok (.goto 7, 3) := by decide +kernel
theorem v_QuestionReader_nextToken_78 {G : XG} {d : Nat} {h : XH} {Q : XV → XH → Prop} {X : Nat → XH → Prop} {s0 : Int} (F : xFix h) (hyp : kpt (xst h 32 10 s0) ∧ ((((smallH (xst h 32 10 s0)) = true) → (xFix (xst (xst h 32 10 s0) 32 11 0) → Q xN (xst (xst h 32 10 s0) 32 11 0))) ∧ (¬ ((smallH (xst h 32 10 s0)) = true) → (xFix (xst (xst h 32 10 s0) 32 11 (rwH (xst h 32 10 s0))) → Q xN (xst (xst h 32 10 s0) 32 11 (rwH (xst h 32 10 s0))))))) : xwp G m_QuestionReader_nextToken (d + 9) 78 [xR 32, xR 1, xZ] [xI s0, xR 32] h Q X := by
  have hnx9 : (93 : Int) ≤ xnx h := F.2.2
  refine xr_okS (fun hs9 => ?_)
  have r_s0 : -2147483648 ≤ s0 ∧ s0 ≤ 2147483647 := hs9 (xI s0) (.head _)
  refine xr_putf (pc := 78) (ci := 6) (k := 10) (N := 15) (v9 := 0) (T := xF6) (tF := xT6) (hI := d_QuestionReader_nextToken_78) (hw := w_318) rfl xi6 xt6 xn6 (Or.inl rfl) (Nat.le_of_ble_eq_true rfl) (Nat.le_of_ble_eq_true rfl) rfl xfit_i rfl (ft_32 F) (by decide) (fun z => z) ?_
  have F1_ : xFix (xst h 32 10 s0) := F.stL xfk_32_10
  refine xr_aload_n (pc := 81) (i := 0) (hI := d_QuestionReader_nextToken_81) (hi := rfl) (hl := rfl) ?_
  refine xr_aload_n (pc := 82) (i := 1) (hI := d_QuestionReader_nextToken_82) (hi := rfl) (hl := rfl) ?_
  obtain ⟨c2_, hyp⟩ := hyp
  refine xq_callV (pc := 83) (index := 115) (K := m_Tape_isRunSmall) (As := []) (S := [xR 32]) (L0 := [xR 1]) (hI := d_QuestionReader_nextToken_83) (hK := k_Tape_isRunSmall) (hlk := w_973) (hnoM := rfl) (hS8 := Nat.le_of_ble_eq_true rfl) (ci := 8) (N := 7) (C := "BeaconIndex$Tape") (T := xF8) (hc := rfl) (hci := Nat.le_of_ble_eq_true rfl) (htb := (ft_1 F1_)) (hinst := w_974) (hsel := w_975) (hlen := Nat.le_of_ble_eq_true rfl) (hst := rfl) (hL0 := rfl)  (p_Tape_isRunSmall F1_ c2_ ?_)
  show xwp G m_QuestionReader_nextToken (d + 9) 86 [xR 32, xR 1, xZ] [xI (b2i (smallH (xst h 32 10 s0))), xR 32] _ _ _
  refine xr_if_eq (pc := 86) (tgt := 93) (hI := d_QuestionReader_nextToken_86) (ht := by decide) (fun q9 => ?_) (fun q9 => ?_)
  · replace hyp := hyp.2 (b2i_0.mp q9)
    have q3_ := b2i_0.mp q9
    clear q9
    refine xr_aload_n (pc := 93) (i := 1) (hI := d_QuestionReader_nextToken_93) (hi := rfl) (hl := rfl) ?_
    refine xq_callV (pc := 94) (index := 119) (K := m_Tape_runWord) (As := []) (S := [xR 32]) (L0 := [xR 1]) (hI := d_QuestionReader_nextToken_94) (hK := k_Tape_runWord) (hlk := w_989) (hnoM := rfl) (hS8 := Nat.le_of_ble_eq_true rfl) (ci := 8) (N := 7) (C := "BeaconIndex$Tape") (T := xF8) (hc := rfl) (hci := Nat.le_of_ble_eq_true rfl) (htb := (ft_1 F1_)) (hinst := w_803) (hsel := w_804) (hlen := Nat.le_of_ble_eq_true rfl) (hst := rfl) (hL0 := rfl)  (p_Tape_runWord F1_ c2_ ?_)
    show xwp G m_QuestionReader_nextToken (d + 9) 97 [xR 32, xR 1, xZ] [xL (rwH (xst h 32 10 s0)), xR 32] _ _ _
    refine xr_putf (pc := 97) (ci := 6) (k := 11) (N := 15) (v9 := 1) (T := xF6) (tF := xT6) (hI := d_QuestionReader_nextToken_97) (hw := w_319) rfl xi6 xt6 xn6 (Or.inl rfl) (Nat.le_of_ble_eq_true rfl) (Nat.le_of_ble_eq_true rfl) rfl xfit_l rfl (ft_32 F1_) (by decide) (fun z => z) ?_
    have F4_ : xFix (xst (xst h 32 10 s0) 32 11 (rwH (xst h 32 10 s0))) := F1_.stL xfk_32_11
    refine xr_goto (pc := 100) (tgt := 129) (hI := d_QuestionReader_nextToken_100) (ht := by decide) ?_
    refine xr_return (S := []) (pc := 129) (hI := d_QuestionReader_nextToken_129) (hr := rfl) ?_
    exact hyp F4_
  · replace hyp := hyp.1 (b2i_1.mp q9)
    have q3_ := b2i_1.mp q9
    clear q9
    refine xr_lconst (pc := 89) (z := 0) (hI := d_QuestionReader_nextToken_89) (hr := by decide) (hv := by decide) ?_
    refine xr_goto (pc := 90) (tgt := 97) (hI := d_QuestionReader_nextToken_90) (ht := by decide) ?_
    refine xr_putf (pc := 97) (ci := 6) (k := 11) (N := 15) (v9 := 1) (T := xF6) (tF := xT6) (hI := d_QuestionReader_nextToken_97) (hw := w_319) rfl xi6 xt6 xn6 (Or.inl rfl) (Nat.le_of_ble_eq_true rfl) (Nat.le_of_ble_eq_true rfl) rfl xfit_l rfl (ft_32 F1_) (by decide) (fun z => z) ?_
    have F5_ : xFix (xst (xst h 32 10 s0) 32 11 0) := F1_.stL xfk_32_11
    refine xr_goto (pc := 100) (tgt := 129) (hI := d_QuestionReader_nextToken_100) (ht := by decide) ?_
    refine xr_return (S := []) (pc := 129) (hI := d_QuestionReader_nextToken_129) (hr := rfl) ?_
    exact hyp F5_

end
