/-! ===== voc ===== -/
section
abbrev m_Vocabulary_wordAt : XM := (⟨"BeaconIndex$Vocabulary", "wordAt", "(I)J"⟩, prog_11_method_2_code, 2, (some .long), [])
theorem d_Vocabulary_wordAt_0 : decode prog_11_method_2_code 0 = .ok (.iload_n 1, 1) := by decide +kernel
theorem d_Vocabulary_wordAt_1 : decode prog_11_method_2_code 1 = .ok (.ifCond .lt 29, 3) := by decide +kernel
theorem d_Vocabulary_wordAt_30 : decode prog_11_method_2_code 30 = .ok (.lconst 0, 1) := by decide +kernel
theorem d_Vocabulary_wordAt_31 : decode prog_11_method_2_code 31 = .ok (.lreturn, 1) := by decide +kernel
theorem d_Vocabulary_wordAt_4 : decode prog_11_method_2_code 4 = .ok (.iload_n 1, 1) := by decide +kernel
theorem d_Vocabulary_wordAt_5 : decode prog_11_method_2_code 5 = .ok (.aload_n 0, 1) := by decide +kernel
theorem d_Vocabulary_wordAt_6 : decode prog_11_method_2_code 6 = .ok (.getfield 22, 3) := by decide +kernel
theorem w_182 : Cond.fieldLink "BeaconIndex$Vocabulary" 22 "BeaconIndex$Vocabulary" "size" "I" ∈ lw_tbl := List.mem_append_right _ (List.mem_of_getElem? (i := 182) (by decide +kernel))
theorem d_Vocabulary_wordAt_9 : decode prog_11_method_2_code 9 = .ok (.if_icmp .ge 21, 3) := by decide +kernel
theorem d_Vocabulary_wordAt_12 : decode prog_11_method_2_code 12 = .ok (.iload_n 1, 1) := by decide +kernel
theorem d_Vocabulary_wordAt_13 : decode prog_11_method_2_code 13 = .ok (.aload_n 0, 1) := by decide +kernel
theorem d_Vocabulary_wordAt_14 : decode prog_11_method_2_code 14 = .ok (.getfield 9, 3) := by decide +kernel
theorem w_179 : Cond.fieldLink "BeaconIndex$Vocabulary" 9 "BeaconIndex$Vocabulary" "words" "[J" ∈ lw_tbl := List.mem_append_right _ (List.mem_of_getElem? (i := 179) (by decide +kernel))
theorem d_Vocabulary_wordAt_17 : decode prog_11_method_2_code 17 = .ok (.arraylength, 1) := by decide +kernel
theorem d_Vocabulary_wordAt_18 : decode prog_11_method_2_code 18 = .ok (.if_icmp .ge 12, 3) := by decide +kernel
theorem d_Vocabulary_wordAt_21 : decode prog_11_method_2_code 21 = .ok (.aload_n 0, 1) := by decide +kernel
theorem d_Vocabulary_wordAt_22 : decode prog_11_method_2_code 22 = .ok (.getfield 9, 3) := by decide +kernel
theorem d_Vocabulary_wordAt_25 : decode prog_11_method_2_code 25 = .ok (.iload_n 1, 1) := by decide +kernel
theorem d_Vocabulary_wordAt_26 : decode prog_11_method_2_code 26 = .ok (.laload, 1) := by decide +kernel
theorem d_Vocabulary_wordAt_27 : decode prog_11_method_2_code 27 = .ok (.goto 4, 3) := by decide +kernel
theorem v_Vocabulary_wordAt_0 {G : XG} {d : Nat} {h : XH} {Q : XV → XH → Prop} {X : Nat → XH → Prop} {x1 : Int} (F : xFix h) (hyp : ((x1 < 0 → (Q (xL 0) h)) ∧ (¬ x1 < 0 → (((xpl h 12 3) ≤ x1 → (Q (xL 0) h)) ∧ (¬ (xpl h 12 3) ≤ x1 → xtg h (xpl h 12 0) = 101 ∧ (((xln h (xpl h 12 0)) ≤ x1 → (Q (xL 0) h)) ∧ (¬ (xln h (xpl h 12 0)) ≤ x1 → (Q (xL (xpl h (xpl h 12 0) x1)) h)))))))) : xwp G m_Vocabulary_wordAt (d + 1) 0 [xR 12, xI x1] [] h Q X := by
  have hnx9 : (93 : Int) ≤ xnx h := F.2.2
  refine xr_okL (fun hl9 => ?_)
  have r_x1 : -2147483648 ≤ x1 ∧ x1 ≤ 2147483647 := hl9 (xI x1) (.tail _ (.head _)) (Nat.le_of_ble_eq_true rfl)
  refine xr_iload_n (pc := 0) (i := 1) (hI := d_Vocabulary_wordAt_0) (hi := rfl) (hl := rfl) ?_
  refine xr_if_lt (pc := 1) (tgt := 30) (hI := d_Vocabulary_wordAt_1) (ht := by decide) (fun q9 => ?_) (fun q9 => ?_)
  · replace hyp := hyp.1 q9
    have q1_ := q9
    clear q9
    refine xr_lconst (pc := 30) (z := 0) (hI := d_Vocabulary_wordAt_30) (hr := by decide) (hv := by decide) ?_
    refine xr_lreturn (S := []) (pc := 31) (hI := d_Vocabulary_wordAt_31) (hr := rfl) ?_
    exact hyp
  · replace hyp := hyp.2 q9
    have q1_ := q9
    clear q9
    refine xr_iload_n (pc := 4) (i := 1) (hI := d_Vocabulary_wordAt_4) (hi := rfl) (hl := rfl) ?_
    refine xr_aload_n (pc := 5) (i := 0) (hI := d_Vocabulary_wordAt_5) (hi := rfl) (hl := rfl) ?_
    refine xg_getf (pc := 6) (ci := 10) (k := 3) (N := 7) (v9 := 0) (v := (xpl h 12 3)) (T := xF10) (hI := d_Vocabulary_wordAt_6) (hw := w_182) rfl xi10 (Or.inl rfl) (Nat.le_of_ble_eq_true rfl) (Nat.le_of_ble_eq_true rfl) rfl (ft_12 F) rfl (fun f2_ => ?_)
    replace f2_ : -2147483648 ≤ (xpl h 12 3) ∧ (xpl h 12 3) ≤ 2147483647 := f2_
    refine xr_icmp_ge (pc := 9) (tgt := 30) (hI := d_Vocabulary_wordAt_9) (ht := by decide) (fun q9 => ?_) (fun q9 => ?_)
    · replace hyp := hyp.1 q9
      have q3_ := q9
      clear q9
      refine xr_lconst (pc := 30) (z := 0) (hI := d_Vocabulary_wordAt_30) (hr := by decide) (hv := by decide) ?_
      refine xr_lreturn (S := []) (pc := 31) (hI := d_Vocabulary_wordAt_31) (hr := rfl) ?_
      exact hyp
    · replace hyp := hyp.2 q9
      have q3_ := q9
      clear q9
      refine xr_iload_n (pc := 12) (i := 1) (hI := d_Vocabulary_wordAt_12) (hi := rfl) (hl := rfl) ?_
      refine xr_aload_n (pc := 13) (i := 0) (hI := d_Vocabulary_wordAt_13) (hi := rfl) (hl := rfl) ?_
      refine xg_getf (pc := 14) (ci := 10) (k := 0) (N := 7) (v9 := 2) (v := (xpl h 12 0)) (T := xF10) (hI := d_Vocabulary_wordAt_14) (hw := w_179) rfl xi10 (Or.inl rfl) (Nat.le_of_ble_eq_true rfl) (Nat.le_of_ble_eq_true rfl) rfl (ft_12 F) rfl (fun f4_ => ?_)
      clear f4_
      obtain ⟨c9, hyp⟩ := hyp
      have t5_ := c9
      clear c9
      refine xg_alen (pc := 17) (t := 101) (v := (xln h (xpl h 12 0))) (hI := d_Vocabulary_wordAt_17) t5_ (Nat.le_of_ble_eq_true rfl) (Nat.le_of_ble_eq_true rfl) rfl rfl (fun f6_ f7_ => ?_)
      refine xr_icmp_ge (pc := 18) (tgt := 30) (hI := d_Vocabulary_wordAt_18) (ht := by decide) (fun q9 => ?_) (fun q9 => ?_)
      · replace hyp := hyp.1 q9
        have q8_ := q9
        clear q9
        refine xr_lconst (pc := 30) (z := 0) (hI := d_Vocabulary_wordAt_30) (hr := by decide) (hv := by decide) ?_
        refine xr_lreturn (S := []) (pc := 31) (hI := d_Vocabulary_wordAt_31) (hr := rfl) ?_
        exact hyp
      · replace hyp := hyp.2 q9
        have q8_ := q9
        clear q9
        refine xr_aload_n (pc := 21) (i := 0) (hI := d_Vocabulary_wordAt_21) (hi := rfl) (hl := rfl) ?_
        refine xg_getf (pc := 22) (ci := 10) (k := 0) (N := 7) (v9 := 2) (v := (xpl h 12 0)) (T := xF10) (hI := d_Vocabulary_wordAt_22) (hw := w_179) rfl xi10 (Or.inl rfl) (Nat.le_of_ble_eq_true rfl) (Nat.le_of_ble_eq_true rfl) rfl (ft_12 F) rfl (fun f9_ => ?_)
        clear f9_
        refine xr_iload_n (pc := 25) (i := 1) (hI := d_Vocabulary_wordAt_25) (hi := rfl) (hl := rfl) ?_
        refine xg_laload (pc := 26) (v := (xpl h (xpl h 12 0) x1)) (hI := d_Vocabulary_wordAt_26) t5_ (by clear hyp; omega) (xlt_of rfl (by clear hyp; omega)) rfl (fun f10_ => ?_)
        replace f10_ : -9223372036854775808 ≤ (xpl h (xpl h 12 0) x1) ∧ (xpl h (xpl h 12 0) x1) ≤ 9223372036854775807 := f10_
        refine xr_goto (pc := 27) (tgt := 31) (hI := d_Vocabulary_wordAt_27) (ht := by decide) ?_
        refine xr_lreturn (S := []) (pc := 31) (hI := d_Vocabulary_wordAt_31) (hr := rfl) ?_
        exact hyp
abbrev m_Vocabulary_textCountAt : XM := (⟨"BeaconIndex$Vocabulary", "textCountAt", "(I)I"⟩, prog_11_method_3_code, 2, (some .int), [])
theorem d_Vocabulary_textCountAt_0 : decode prog_11_method_3_code 0 = .ok (.iload_n 1, 1) := by decide +kernel
theorem d_Vocabulary_textCountAt_1 : decode prog_11_method_3_code 1 = .ok (.ifCond .lt 29, 3) := by decide +kernel
theorem d_Vocabulary_textCountAt_30 : decode prog_11_method_3_code 30 = .ok (.iconst 0, 1) := by decide +kernel
theorem d_Vocabulary_textCountAt_31 : decode prog_11_method_3_code 31 = .ok (.ireturn, 1) := by decide +kernel
theorem d_Vocabulary_textCountAt_4 : decode prog_11_method_3_code 4 = .ok (.iload_n 1, 1) := by decide +kernel
theorem d_Vocabulary_textCountAt_5 : decode prog_11_method_3_code 5 = .ok (.aload_n 0, 1) := by decide +kernel
theorem d_Vocabulary_textCountAt_6 : decode prog_11_method_3_code 6 = .ok (.getfield 22, 3) := by decide +kernel
theorem d_Vocabulary_textCountAt_9 : decode prog_11_method_3_code 9 = .ok (.if_icmp .ge 21, 3) := by decide +kernel
theorem d_Vocabulary_textCountAt_12 : decode prog_11_method_3_code 12 = .ok (.iload_n 1, 1) := by decide +kernel
theorem d_Vocabulary_textCountAt_13 : decode prog_11_method_3_code 13 = .ok (.aload_n 0, 1) := by decide +kernel
theorem d_Vocabulary_textCountAt_14 : decode prog_11_method_3_code 14 = .ok (.getfield 15, 3) := by decide +kernel
theorem w_180 : Cond.fieldLink "BeaconIndex$Vocabulary" 15 "BeaconIndex$Vocabulary" "textCounts" "[I" ∈ lw_tbl := List.mem_append_right _ (List.mem_of_getElem? (i := 180) (by decide +kernel))
theorem d_Vocabulary_textCountAt_17 : decode prog_11_method_3_code 17 = .ok (.arraylength, 1) := by decide +kernel
theorem d_Vocabulary_textCountAt_18 : decode prog_11_method_3_code 18 = .ok (.if_icmp .ge 12, 3) := by decide +kernel
theorem d_Vocabulary_textCountAt_21 : decode prog_11_method_3_code 21 = .ok (.aload_n 0, 1) := by decide +kernel
theorem d_Vocabulary_textCountAt_22 : decode prog_11_method_3_code 22 = .ok (.getfield 15, 3) := by decide +kernel
theorem d_Vocabulary_textCountAt_25 : decode prog_11_method_3_code 25 = .ok (.iload_n 1, 1) := by decide +kernel
theorem d_Vocabulary_textCountAt_26 : decode prog_11_method_3_code 26 = .ok (.iaload, 1) := by decide +kernel
theorem d_Vocabulary_textCountAt_27 : decode prog_11_method_3_code 27 = .ok (.goto 4, 3) := by decide +kernel
theorem v_Vocabulary_textCountAt_0 {G : XG} {d : Nat} {h : XH} {Q : XV → XH → Prop} {X : Nat → XH → Prop} {x1 : Int} (F : xFix h) (hyp : ((x1 < 0 → (Q (xI 0) h)) ∧ (¬ x1 < 0 → (((xpl h 12 3) ≤ x1 → (Q (xI 0) h)) ∧ (¬ (xpl h 12 3) ≤ x1 → xtg h (xpl h 12 1) = 100 ∧ (((xln h (xpl h 12 1)) ≤ x1 → (Q (xI 0) h)) ∧ (¬ (xln h (xpl h 12 1)) ≤ x1 → (Q (xI (xpl h (xpl h 12 1) x1)) h)))))))) : xwp G m_Vocabulary_textCountAt (d + 1) 0 [xR 12, xI x1] [] h Q X := by
  have hnx9 : (93 : Int) ≤ xnx h := F.2.2
  refine xr_okL (fun hl9 => ?_)
  have r_x1 : -2147483648 ≤ x1 ∧ x1 ≤ 2147483647 := hl9 (xI x1) (.tail _ (.head _)) (Nat.le_of_ble_eq_true rfl)
  refine xr_iload_n (pc := 0) (i := 1) (hI := d_Vocabulary_textCountAt_0) (hi := rfl) (hl := rfl) ?_
  refine xr_if_lt (pc := 1) (tgt := 30) (hI := d_Vocabulary_textCountAt_1) (ht := by decide) (fun q9 => ?_) (fun q9 => ?_)
  · replace hyp := hyp.1 q9
    have q1_ := q9
    clear q9
    refine xr_iconst (pc := 30) (hI := d_Vocabulary_textCountAt_30) (hr := by decide) ?_
    refine xr_ireturn (S := []) (pc := 31) (hI := d_Vocabulary_textCountAt_31) (hr := rfl) ?_
    exact hyp
  · replace hyp := hyp.2 q9
    have q1_ := q9
    clear q9
    refine xr_iload_n (pc := 4) (i := 1) (hI := d_Vocabulary_textCountAt_4) (hi := rfl) (hl := rfl) ?_
    refine xr_aload_n (pc := 5) (i := 0) (hI := d_Vocabulary_textCountAt_5) (hi := rfl) (hl := rfl) ?_
    refine xg_getf (pc := 6) (ci := 10) (k := 3) (N := 7) (v9 := 0) (v := (xpl h 12 3)) (T := xF10) (hI := d_Vocabulary_textCountAt_6) (hw := w_182) rfl xi10 (Or.inl rfl) (Nat.le_of_ble_eq_true rfl) (Nat.le_of_ble_eq_true rfl) rfl (ft_12 F) rfl (fun f2_ => ?_)
    replace f2_ : -2147483648 ≤ (xpl h 12 3) ∧ (xpl h 12 3) ≤ 2147483647 := f2_
    refine xr_icmp_ge (pc := 9) (tgt := 30) (hI := d_Vocabulary_textCountAt_9) (ht := by decide) (fun q9 => ?_) (fun q9 => ?_)
    · replace hyp := hyp.1 q9
      have q3_ := q9
      clear q9
      refine xr_iconst (pc := 30) (hI := d_Vocabulary_textCountAt_30) (hr := by decide) ?_
      refine xr_ireturn (S := []) (pc := 31) (hI := d_Vocabulary_textCountAt_31) (hr := rfl) ?_
      exact hyp
    · replace hyp := hyp.2 q9
      have q3_ := q9
      clear q9
      refine xr_iload_n (pc := 12) (i := 1) (hI := d_Vocabulary_textCountAt_12) (hi := rfl) (hl := rfl) ?_
      refine xr_aload_n (pc := 13) (i := 0) (hI := d_Vocabulary_textCountAt_13) (hi := rfl) (hl := rfl) ?_
      refine xg_getf (pc := 14) (ci := 10) (k := 1) (N := 7) (v9 := 2) (v := (xpl h 12 1)) (T := xF10) (hI := d_Vocabulary_textCountAt_14) (hw := w_180) rfl xi10 (Or.inl rfl) (Nat.le_of_ble_eq_true rfl) (Nat.le_of_ble_eq_true rfl) rfl (ft_12 F) rfl (fun f4_ => ?_)
      clear f4_
      obtain ⟨c9, hyp⟩ := hyp
      have t5_ := c9
      clear c9
      refine xg_alen (pc := 17) (t := 100) (v := (xln h (xpl h 12 1))) (hI := d_Vocabulary_textCountAt_17) t5_ (Nat.le_of_ble_eq_true rfl) (Nat.le_of_ble_eq_true rfl) rfl rfl (fun f6_ f7_ => ?_)
      refine xr_icmp_ge (pc := 18) (tgt := 30) (hI := d_Vocabulary_textCountAt_18) (ht := by decide) (fun q9 => ?_) (fun q9 => ?_)
      · replace hyp := hyp.1 q9
        have q8_ := q9
        clear q9
        refine xr_iconst (pc := 30) (hI := d_Vocabulary_textCountAt_30) (hr := by decide) ?_
        refine xr_ireturn (S := []) (pc := 31) (hI := d_Vocabulary_textCountAt_31) (hr := rfl) ?_
        exact hyp
      · replace hyp := hyp.2 q9
        have q8_ := q9
        clear q9
        refine xr_aload_n (pc := 21) (i := 0) (hI := d_Vocabulary_textCountAt_21) (hi := rfl) (hl := rfl) ?_
        refine xg_getf (pc := 22) (ci := 10) (k := 1) (N := 7) (v9 := 2) (v := (xpl h 12 1)) (T := xF10) (hI := d_Vocabulary_textCountAt_22) (hw := w_180) rfl xi10 (Or.inl rfl) (Nat.le_of_ble_eq_true rfl) (Nat.le_of_ble_eq_true rfl) rfl (ft_12 F) rfl (fun f9_ => ?_)
        clear f9_
        refine xr_iload_n (pc := 25) (i := 1) (hI := d_Vocabulary_textCountAt_25) (hi := rfl) (hl := rfl) ?_
        refine xg_iaload (pc := 26) (v := (xpl h (xpl h 12 1) x1)) (hI := d_Vocabulary_textCountAt_26) t5_ (by clear hyp; omega) (xlt_of rfl (by clear hyp; omega)) rfl (fun f10_ => ?_)
        replace f10_ : -2147483648 ≤ (xpl h (xpl h 12 1) x1) ∧ (xpl h (xpl h 12 1) x1) ≤ 2147483647 := f10_
        refine xr_goto (pc := 27) (tgt := 31) (hI := d_Vocabulary_textCountAt_27) (ht := by decide) ?_
        refine xr_ireturn (S := []) (pc := 31) (hI := d_Vocabulary_textCountAt_31) (hr := rfl) ?_
        exact hyp
/-- the words' table can be read and written -/
def vok (h : XH) : Prop := (xtg h (xpl h 12 0) = 101 ∧ xtg h (xpl h 12 1) = 100 ∧ xtg h (xpl h 12 2) = 100) ∧ (xpl h (xpl h 12 0) (-1) = -11 ∧ xpl h (xpl h 12 1) (-1) = -12 ∧ xpl h (xpl h 12 2) (-1) = -13) ∧ (13 ≤ xpl h 12 0 ∧ xpl h 12 0 < xnx h) ∧ (13 ≤ xpl h 12 1 ∧ xpl h 12 1 < xnx h) ∧ (13 ≤ xpl h 12 2 ∧ xpl h 12 2 < xnx h) ∧ (xln h (xpl h 12 1) = xln h (xpl h 12 0) ∧ xln h (xpl h 12 2) = xln h (xpl h 12 0)) ∧ (0 ≤ xpl h 12 3 ∧ xpl h 12 3 ≤ xln h (xpl h 12 0)) ∧ 64 ≤ xln h (xpl h 12 0) ∧ xln h (xpl h 12 0) ≤ 32768
theorem vok_cl {h : XH} (p0 : vok h) : xpl h 12 1 ≠ xpl h 12 2 := fun e => by
  have h1 := p0.2.1.2.1
  have h2 := p0.2.1.2.2
  rw [e, h2] at h1
  cases h1
def vwa (h : XH) (k : Int) : Int := if 0 ≤ k ∧ k < xpl h 12 3 then xpl h (xpl h 12 0) k else 0
def vca (h : XH) (k : Int) : Int := if 0 ≤ k ∧ k < xpl h 12 3 then xpl h (xpl h 12 1) k else 0
theorem p_Voc_wordAt {G : XG} {d : Nat} {h : XH} {Q : XV → XH → Prop} {X : Nat → XH → Prop} {k : Int} (F : xFix h) (p0 : vok h) (hq : Q (xL (vwa h k)) h) : xwp G m_Vocabulary_wordAt (d + 1) 0 [xR 12, xI k] [] h Q X := by
  have hs := p0.2.2.2.2.2.2.1
  unfold vwa at hq
  refine v_Vocabulary_wordAt_0 F ?_
  refine ⟨fun q1 => ?_, fun q1 => ?_⟩
  · rw [if_neg (by omega)] at hq; exact hq
  · refine ⟨fun q2 => ?_, fun q2 => ?_⟩
    · rw [if_neg (by omega)] at hq; exact hq
    · refine ⟨?_, ?_⟩
      · exact p0.1.1
      · refine ⟨fun q3 => ?_, fun q3 => ?_⟩
        · omega
        · rw [if_pos (by omega)] at hq; exact hq
theorem p_Voc_textCountAt {G : XG} {d : Nat} {h : XH} {Q : XV → XH → Prop} {X : Nat → XH → Prop} {k : Int} (F : xFix h) (p0 : vok h) (hq : Q (xI (vca h k)) h) : xwp G m_Vocabulary_textCountAt (d + 1) 0 [xR 12, xI k] [] h Q X := by
  have hs := p0.2.2.2.2.2.2.1
  have hl := p0.2.2.2.2.2.1
  unfold vca at hq
  refine v_Vocabulary_textCountAt_0 F ?_
  refine ⟨fun q1 => ?_, fun q1 => ?_⟩
  · rw [if_neg (by omega)] at hq; exact hq
  · refine ⟨fun q2 => ?_, fun q2 => ?_⟩
    · rw [if_neg (by omega)] at hq; exact hq
    · refine ⟨?_, ?_⟩
      · exact p0.1.2.1
      · refine ⟨fun q3 => ?_, fun q3 => ?_⟩
        · omega
        · rw [if_pos (by omega)] at hq; exact hq
abbrev m_Vocabulary_placeFor : XM := (⟨"BeaconIndex$Vocabulary", "placeFor", "(J)I"⟩, prog_11_method_6_code, 7, (some .int), [])
theorem d_Vocabulary_placeFor_0 : decode prog_11_method_6_code 0 = .ok (.iconst 0, 1) := by decide +kernel
theorem d_Vocabulary_placeFor_1 : decode prog_11_method_6_code 1 = .ok (.istore_n 3, 1) := by decide +kernel
theorem d_Vocabulary_placeFor_2 : decode prog_11_method_6_code 2 = .ok (.aload_n 0, 1) := by decide +kernel
theorem d_Vocabulary_placeFor_3 : decode prog_11_method_6_code 3 = .ok (.getfield 22, 3) := by decide +kernel
theorem d_Vocabulary_placeFor_6 : decode prog_11_method_6_code 6 = .ok (.istore 4, 2) := by decide +kernel
theorem d_Vocabulary_placeFor_8 : decode prog_11_method_6_code 8 = .ok (.iconst 0, 1) := by decide +kernel
theorem d_Vocabulary_placeFor_9 : decode prog_11_method_6_code 9 = .ok (.istore 5, 2) := by decide +kernel
theorem v_Vocabulary_placeFor_0 {G : XG} {d : Nat} {h : XH} {Q : XV → XH → Prop} {X : Nat → XH → Prop} {x1 : Int} (F : xFix h) (hyp : (xwp G m_Vocabulary_placeFor (d + 2) 11 [xR 12, xL x1, xZ, xI 0, xI (xpl h 12 3), xI 0, xZ] [] h Q X)) : xwp G m_Vocabulary_placeFor (d + 2) 0 [xR 12, xL x1, xZ, xZ, xZ, xZ, xZ] [] h Q X := by
  have hnx9 : (93 : Int) ≤ xnx h := F.2.2
  refine xr_okL (fun hl9 => ?_)
  have r_x1 : -9223372036854775808 ≤ x1 ∧ x1 ≤ 9223372036854775807 := hl9 (xL x1) (.tail _ (.head _)) (Nat.le_of_ble_eq_true rfl)
  refine xr_iconst (pc := 0) (hI := d_Vocabulary_placeFor_0) (hr := by decide) ?_
  refine xr_istore_n (pc := 1) (i := 3) (L9 := [xR 12, xL x1, xZ, xI 0, xZ, xZ, xZ]) (hI := d_Vocabulary_placeFor_1) (hi := rfl) (hn := Nat.le_of_ble_eq_true rfl) (hL9 := rfl) ?_
  refine xr_aload_n (pc := 2) (i := 0) (hI := d_Vocabulary_placeFor_2) (hi := rfl) (hl := rfl) ?_
  refine xg_getf (pc := 3) (ci := 10) (k := 3) (N := 7) (v9 := 0) (v := (xpl h 12 3)) (T := xF10) (hI := d_Vocabulary_placeFor_3) (hw := w_182) rfl xi10 (Or.inl rfl) (Nat.le_of_ble_eq_true rfl) (Nat.le_of_ble_eq_true rfl) rfl (ft_12 F) rfl (fun f1_ => ?_)
  replace f1_ : -2147483648 ≤ (xpl h 12 3) ∧ (xpl h 12 3) ≤ 2147483647 := f1_
  refine xr_istore (pc := 6) (i := 4) (L9 := [xR 12, xL x1, xZ, xI 0, xI (xpl h 12 3), xZ, xZ]) (hI := d_Vocabulary_placeFor_6) (hn := Nat.le_of_ble_eq_true rfl) (hL9 := rfl) ?_
  refine xr_iconst (pc := 8) (hI := d_Vocabulary_placeFor_8) (hr := by decide) ?_
  refine xr_istore (pc := 9) (i := 5) (L9 := [xR 12, xL x1, xZ, xI 0, xI (xpl h 12 3), xI 0, xZ]) (hI := d_Vocabulary_placeFor_9) (hn := Nat.le_of_ble_eq_true rfl) (hL9 := rfl) ?_
  exact hyp
theorem d_Vocabulary_placeFor_11 : decode prog_11_method_6_code 11 = .ok (.iload 5, 2) := by decide +kernel
theorem d_Vocabulary_placeFor_13 : decode prog_11_method_6_code 13 = .ok (.bipush 32, 2) := by decide +kernel
theorem d_Vocabulary_placeFor_15 : decode prog_11_method_6_code 15 = .ok (.if_icmp .ge 46, 3) := by decide +kernel
theorem d_Vocabulary_placeFor_61 : decode prog_11_method_6_code 61 = .ok (.iload_n 3, 1) := by decide +kernel
theorem d_Vocabulary_placeFor_62 : decode prog_11_method_6_code 62 = .ok (.ireturn, 1) := by decide +kernel
theorem d_Vocabulary_placeFor_18 : decode prog_11_method_6_code 18 = .ok (.iload_n 3, 1) := by decide +kernel
theorem d_Vocabulary_placeFor_19 : decode prog_11_method_6_code 19 = .ok (.iload 4, 2) := by decide +kernel
theorem d_Vocabulary_placeFor_21 : decode prog_11_method_6_code 21 = .ok (.if_icmp .ge 40, 3) := by decide +kernel
theorem d_Vocabulary_placeFor_24 : decode prog_11_method_6_code 24 = .ok (.iload_n 3, 1) := by decide +kernel
theorem d_Vocabulary_placeFor_25 : decode prog_11_method_6_code 25 = .ok (.iload 4, 2) := by decide +kernel
theorem d_Vocabulary_placeFor_27 : decode prog_11_method_6_code 27 = .ok (.iadd, 1) := by decide +kernel
theorem d_Vocabulary_placeFor_28 : decode prog_11_method_6_code 28 = .ok (.iconst 2, 1) := by decide +kernel
theorem d_Vocabulary_placeFor_29 : decode prog_11_method_6_code 29 = .ok (.idiv, 1) := by decide +kernel
theorem d_Vocabulary_placeFor_30 : decode prog_11_method_6_code 30 = .ok (.istore 6, 2) := by decide +kernel
theorem d_Vocabulary_placeFor_32 : decode prog_11_method_6_code 32 = .ok (.aload_n 0, 1) := by decide +kernel
theorem d_Vocabulary_placeFor_33 : decode prog_11_method_6_code 33 = .ok (.iload 6, 2) := by decide +kernel
theorem d_Vocabulary_placeFor_35 : decode prog_11_method_6_code 35 = .ok (.invokevirtual 47, 3) := by decide +kernel
theorem w_8 : Cond.initialized "BeaconIndex$Vocabulary" ∈ lw_tbl := List.mem_append_right _ (List.mem_of_getElem? (i := 8) (by decide +kernel))
theorem k_Vocabulary_wordAt : xCal m_Vocabulary_wordAt 1 := ⟨List.mem_append_right _ (List.mem_of_getElem? (i := 900) (by decide +kernel)), w_8, Nat.le_of_ble_eq_true rfl, ⟨by decide +kernel, by decide +kernel⟩, by decide +kernel, by decide +kernel, rfl⟩
theorem w_897 : Cond.methodLink "BeaconIndex$Vocabulary" 47 ⟨"BeaconIndex$Vocabulary", "wordAt", "(I)J"⟩ ∈ lw_tbl := List.mem_append_right _ (List.mem_of_getElem? (i := 897) (by decide +kernel))
theorem w_898 : Cond.instanceMethod ⟨"BeaconIndex$Vocabulary", "wordAt", "(I)J"⟩ ∈ lw_tbl := List.mem_append_right _ (List.mem_of_getElem? (i := 898) (by decide +kernel))
theorem w_899 : Cond.selects "BeaconIndex$Vocabulary" ⟨"BeaconIndex$Vocabulary", "wordAt", "(I)J"⟩ ⟨"BeaconIndex$Vocabulary", "wordAt", "(I)J"⟩ ∈ lw_tbl := List.mem_append_right _ (List.mem_of_getElem? (i := 899) (by decide +kernel))
theorem d_Vocabulary_placeFor_38 : decode prog_11_method_6_code 38 = .ok (.lload_n 1, 1) := by decide +kernel
theorem d_Vocabulary_placeFor_39 : decode prog_11_method_6_code 39 = .ok (.lcmp, 1) := by decide +kernel
theorem d_Vocabulary_placeFor_40 : decode prog_11_method_6_code 40 = .ok (.ifCond .ge 11, 3) := by decide +kernel
theorem d_Vocabulary_placeFor_51 : decode prog_11_method_6_code 51 = .ok (.iload 6, 2) := by decide +kernel
theorem d_Vocabulary_placeFor_53 : decode prog_11_method_6_code 53 = .ok (.istore 4, 2) := by decide +kernel
theorem d_Vocabulary_placeFor_55 : decode prog_11_method_6_code 55 = .ok (.iinc 5 1, 3) := by decide +kernel
theorem d_Vocabulary_placeFor_58 : decode prog_11_method_6_code 58 = .ok (.goto (-47), 3) := by decide +kernel
theorem d_Vocabulary_placeFor_43 : decode prog_11_method_6_code 43 = .ok (.iload 6, 2) := by decide +kernel
theorem d_Vocabulary_placeFor_45 : decode prog_11_method_6_code 45 = .ok (.iconst 1, 1) := by decide +kernel
theorem d_Vocabulary_placeFor_46 : decode prog_11_method_6_code 46 = .ok (.iadd, 1) := by decide +kernel
theorem d_Vocabulary_placeFor_47 : decode prog_11_method_6_code 47 = .ok (.istore_n 3, 1) := by decide +kernel
theorem d_Vocabulary_placeFor_48 : decode prog_11_method_6_code 48 = .ok (.goto 7, 3) := by decide +kernel
theorem v_Vocabulary_placeFor_11 {G : XG} {d : Nat} {h : XH} {Q : XV → XH → Prop} {X : Nat → XH → Prop} {x1 x3 x4 x5 : Int} (F : xFix h) (p0 : vok h) (pa : 13 ≤ xpl h 12 0) (pb : 13 ≤ xpl h 12 1) (pc : 13 ≤ xpl h 12 2) (pd : 0 ≤ xpl h 12 3) (pe : xpl h 12 3 ≤ xln h (xpl h 12 0)) (pf : 64 ≤ xln h (xpl h 12 0)) (pg : xln h (xpl h 12 0) ≤ 32768) (hyp : (((32 : Int) ≤ x5 → (Q (xI x3) h)) ∧ (¬ (32 : Int) ≤ x5 → ((x4 ≤ x3 → (Q (xI x3) h)) ∧ (¬ x4 ≤ x3 → xiR (x3 + x4) ∧ ((x1 ≤ (vwa h (Int.tdiv (x3 + x4) 2)) → (xwp G m_Vocabulary_placeFor (d + 2) 11 [xR 12, xL x1, xZ, xI x3, xI (Int.tdiv (x3 + x4) 2), xI (x5 + 1), xZ] [] h Q X)) ∧ (¬ x1 ≤ (vwa h (Int.tdiv (x3 + x4) 2)) → xiR ((Int.tdiv (x3 + x4) 2) + 1) ∧ (xwp G m_Vocabulary_placeFor (d + 2) 11 [xR 12, xL x1, xZ, xI ((Int.tdiv (x3 + x4) 2) + 1), xI x4, xI (x5 + 1), xZ] [] h Q X)))))))) : xwp G m_Vocabulary_placeFor (d + 2) 11 [xR 12, xL x1, xZ, xI x3, xI x4, xI x5, xZ] [] h Q X := by
  have hnx9 : (93 : Int) ≤ xnx h := F.2.2
  refine xr_okL (fun hl9 => ?_)
  have r_x1 : -9223372036854775808 ≤ x1 ∧ x1 ≤ 9223372036854775807 := hl9 (xL x1) (.tail _ (.head _)) (Nat.le_of_ble_eq_true rfl)
  have r_x3 : -2147483648 ≤ x3 ∧ x3 ≤ 2147483647 := hl9 (xI x3) (.tail _ (.tail _ (.tail _ (.head _)))) (Nat.le_of_ble_eq_true rfl)
  have r_x4 : -2147483648 ≤ x4 ∧ x4 ≤ 2147483647 := hl9 (xI x4) (.tail _ (.tail _ (.tail _ (.tail _ (.head _))))) (Nat.le_of_ble_eq_true rfl)
  have r_x5 : -2147483648 ≤ x5 ∧ x5 ≤ 2147483647 := hl9 (xI x5) (.tail _ (.tail _ (.tail _ (.tail _ (.tail _ (.head _)))))) (Nat.le_of_ble_eq_true rfl)
  refine xr_iload (pc := 11) (i := 5) (hI := d_Vocabulary_placeFor_11) (hl := rfl) ?_
  refine xr_bipush (pc := 13) (hI := d_Vocabulary_placeFor_13) (hr := by decide) (hv := by decide) ?_
  refine xr_icmp_ge (pc := 15) (tgt := 61) (hI := d_Vocabulary_placeFor_15) (ht := by decide) (fun q9 => ?_) (fun q9 => ?_)
  · replace hyp := hyp.1 q9
    have q1_ := q9
    clear q9
    refine xr_iload_n (pc := 61) (i := 3) (hI := d_Vocabulary_placeFor_61) (hi := rfl) (hl := rfl) ?_
    refine xr_ireturn (S := []) (pc := 62) (hI := d_Vocabulary_placeFor_62) (hr := rfl) ?_
    exact hyp
  · replace hyp := hyp.2 q9
    have q1_ := q9
    clear q9
    refine xr_iload_n (pc := 18) (i := 3) (hI := d_Vocabulary_placeFor_18) (hi := rfl) (hl := rfl) ?_
    refine xr_iload (pc := 19) (i := 4) (hI := d_Vocabulary_placeFor_19) (hl := rfl) ?_
    refine xr_icmp_ge (pc := 21) (tgt := 61) (hI := d_Vocabulary_placeFor_21) (ht := by decide) (fun q9 => ?_) (fun q9 => ?_)
    · replace hyp := hyp.1 q9
      have q2_ := q9
      clear q9
      refine xr_iload_n (pc := 61) (i := 3) (hI := d_Vocabulary_placeFor_61) (hi := rfl) (hl := rfl) ?_
      refine xr_ireturn (S := []) (pc := 62) (hI := d_Vocabulary_placeFor_62) (hr := rfl) ?_
      exact hyp
    · replace hyp := hyp.2 q9
      have q2_ := q9
      clear q9
      refine xr_iload_n (pc := 24) (i := 3) (hI := d_Vocabulary_placeFor_24) (hi := rfl) (hl := rfl) ?_
      refine xr_iload (pc := 25) (i := 4) (hI := d_Vocabulary_placeFor_25) (hl := rfl) ?_
      obtain ⟨c9, hyp⟩ := hyp
      refine xr_iadd (pc := 27) (hI := d_Vocabulary_placeFor_27) (hr := c9) ?_
      refine xr_iconst (pc := 28) (hI := d_Vocabulary_placeFor_28) (hr := by decide) ?_
      refine xr_idiv (pc := 29) (hI := d_Vocabulary_placeFor_29) (h0 := (by decide)) ?_
      refine xr_istore (pc := 30) (i := 6) (L9 := [xR 12, xL x1, xZ, xI x3, xI x4, xI x5, xI (Int.tdiv (x3 + x4) 2)]) (hI := d_Vocabulary_placeFor_30) (hn := Nat.le_of_ble_eq_true rfl) (hL9 := rfl) ?_
      refine xr_aload_n (pc := 32) (i := 0) (hI := d_Vocabulary_placeFor_32) (hi := rfl) (hl := rfl) ?_
      refine xr_iload (pc := 33) (i := 6) (hI := d_Vocabulary_placeFor_33) (hl := rfl) ?_
      refine xq_callV (pc := 35) (index := 47) (K := m_Vocabulary_wordAt) (As := [xI (Int.tdiv (x3 + x4) 2)]) (S := []) (L0 := [xR 12, xI (Int.tdiv (x3 + x4) 2)]) (hI := d_Vocabulary_placeFor_35) (hK := k_Vocabulary_wordAt) (hlk := w_897) (hnoM := rfl) (hS8 := Nat.le_of_ble_eq_true rfl) (ci := 10) (N := 7) (C := "BeaconIndex$Vocabulary") (T := xF10) (hc := rfl) (hci := Nat.le_of_ble_eq_true rfl) (htb := (ft_12 F)) (hinst := w_898) (hsel := w_899) (hlen := Nat.le_of_ble_eq_true rfl) (hst := rfl) (hL0 := rfl)  (p_Voc_wordAt F p0 ?_)
      show xwp G m_Vocabulary_placeFor (d + 2) 38 [xR 12, xL x1, xZ, xI x3, xI x4, xI x5, xI (Int.tdiv (x3 + x4) 2)] [xL (vwa h (Int.tdiv (x3 + x4) 2))] _ _ _
      refine xr_lload_n (pc := 38) (i := 1) (hI := d_Vocabulary_placeFor_38) (hi := rfl) (hl := rfl) ?_
      refine xr_lcmp (pc := 39) (hI := d_Vocabulary_placeFor_39) ?_
      refine xg_lif_ge (pc := 40) (tgt := 51) (hI := d_Vocabulary_placeFor_40) (ht := by decide) (fun q9 => ?_) (fun q9 => ?_)
      · replace hyp := hyp.1 q9
        have q3_ := q9
        clear q9
        refine xr_iload (pc := 51) (i := 6) (hI := d_Vocabulary_placeFor_51) (hl := rfl) ?_
        refine xr_istore (pc := 53) (i := 4) (L9 := [xR 12, xL x1, xZ, xI x3, xI (Int.tdiv (x3 + x4) 2), xI x5, xI (Int.tdiv (x3 + x4) 2)]) (hI := d_Vocabulary_placeFor_53) (hn := Nat.le_of_ble_eq_true rfl) (hL9 := rfl) ?_
        refine xr_iinc (pc := 55) (i := 5) (L9 := [xR 12, xL x1, xZ, xI x3, xI (Int.tdiv (x3 + x4) 2), xI (x5 + 1), xI (Int.tdiv (x3 + x4) 2)]) (hI := d_Vocabulary_placeFor_55) (hl := rfl) (hn := Nat.le_of_ble_eq_true rfl) (hr := ⟨by clear hyp; omega, by clear hyp; omega⟩) (hL9 := rfl) ?_
        refine xr_goto (pc := 58) (tgt := 11) (hI := d_Vocabulary_placeFor_58) (ht := by decide) ?_
        exact xr_drop (L9 := [xR 12, xL x1, xZ, xI x3, xI (Int.tdiv (x3 + x4) 2), xI (x5 + 1), xZ]) (xdrs (xdrs (xdrs (xdrs (xdrs (xdrs (xdrz xdr0))))))) hyp
      · replace hyp := hyp.2 q9
        have q3_ := q9
        clear q9
        refine xr_iload (pc := 43) (i := 6) (hI := d_Vocabulary_placeFor_43) (hl := rfl) ?_
        refine xr_iconst (pc := 45) (hI := d_Vocabulary_placeFor_45) (hr := by decide) ?_
        obtain ⟨c9, hyp⟩ := hyp
        refine xr_iadd (pc := 46) (hI := d_Vocabulary_placeFor_46) (hr := c9) ?_
        refine xr_istore_n (pc := 47) (i := 3) (L9 := [xR 12, xL x1, xZ, xI ((Int.tdiv (x3 + x4) 2) + 1), xI x4, xI x5, xI (Int.tdiv (x3 + x4) 2)]) (hI := d_Vocabulary_placeFor_47) (hi := rfl) (hn := Nat.le_of_ble_eq_true rfl) (hL9 := rfl) ?_
        refine xr_goto (pc := 48) (tgt := 55) (hI := d_Vocabulary_placeFor_48) (ht := by decide) ?_
        refine xr_iinc (pc := 55) (i := 5) (L9 := [xR 12, xL x1, xZ, xI ((Int.tdiv (x3 + x4) 2) + 1), xI x4, xI (x5 + 1), xI (Int.tdiv (x3 + x4) 2)]) (hI := d_Vocabulary_placeFor_55) (hl := rfl) (hn := Nat.le_of_ble_eq_true rfl) (hr := ⟨by clear hyp; omega, by clear hyp; omega⟩) (hL9 := rfl) ?_
        refine xr_goto (pc := 58) (tgt := 11) (hI := d_Vocabulary_placeFor_58) (ht := by decide) ?_
        exact xr_drop (L9 := [xR 12, xL x1, xZ, xI ((Int.tdiv (x3 + x4) 2) + 1), xI x4, xI (x5 + 1), xZ]) (xdrs (xdrs (xdrs (xdrs (xdrs (xdrs (xdrz xdr0))))))) hyp
abbrev m_Vocabulary_makeRoomAt : XM := (⟨"BeaconIndex$Vocabulary", "makeRoomAt", "(I)V"⟩, prog_11_method_7_code, 2, none, [])
theorem d_Vocabulary_makeRoomAt_0 : decode prog_11_method_7_code 0 = .ok (.aload_n 0, 1) := by decide +kernel
theorem d_Vocabulary_makeRoomAt_1 : decode prog_11_method_7_code 1 = .ok (.getfield 22, 3) := by decide +kernel
theorem d_Vocabulary_makeRoomAt_4 : decode prog_11_method_7_code 4 = .ok (.aload_n 0, 1) := by decide +kernel
theorem d_Vocabulary_makeRoomAt_5 : decode prog_11_method_7_code 5 = .ok (.getfield 9, 3) := by decide +kernel
theorem d_Vocabulary_makeRoomAt_8 : decode prog_11_method_7_code 8 = .ok (.arraylength, 1) := by decide +kernel
theorem d_Vocabulary_makeRoomAt_9 : decode prog_11_method_7_code 9 = .ok (.if_icmp .lt 54, 3) := by decide +kernel
theorem d_Vocabulary_makeRoomAt_12 : decode prog_11_method_7_code 12 = .ok (.aload_n 0, 1) := by decide +kernel
theorem d_Vocabulary_makeRoomAt_13 : decode prog_11_method_7_code 13 = .ok (.aload_n 0, 1) := by decide +kernel
theorem d_Vocabulary_makeRoomAt_14 : decode prog_11_method_7_code 14 = .ok (.getfield 9, 3) := by decide +kernel
theorem d_Vocabulary_makeRoomAt_17 : decode prog_11_method_7_code 17 = .ok (.aload_n 0, 1) := by decide +kernel
theorem d_Vocabulary_makeRoomAt_18 : decode prog_11_method_7_code 18 = .ok (.getfield 22, 3) := by decide +kernel
theorem d_Vocabulary_makeRoomAt_21 : decode prog_11_method_7_code 21 = .ok (.iconst 2, 1) := by decide +kernel
theorem d_Vocabulary_makeRoomAt_22 : decode prog_11_method_7_code 22 = .ok (.imul, 1) := by decide +kernel
theorem d_Vocabulary_makeRoomAt_23 : decode prog_11_method_7_code 23 = .ok (.invokestatic 55, 3) := by decide +kernel
theorem w_905 : Cond.methodLink "BeaconIndex$Vocabulary" 55 ⟨"java/util/Arrays", "copyOf", "([JI)[J"⟩ ∈ lw_tbl := List.mem_append_right _ (List.mem_of_getElem? (i := 905) (by decide +kernel))
theorem v_Vocabulary_makeRoomAt_0 {G : XG} {d : Nat} {h : XH} {Q : XV → XH → Prop} {X : Nat → XH → Prop} {x1 : Int} (F : xFix h) (p0 : vok h) (pa : 13 ≤ xpl h 12 0) (pb : 13 ≤ xpl h 12 1) (pc : 13 ≤ xpl h 12 2) (pd : 0 ≤ xpl h 12 3) (pe : xpl h 12 3 ≤ xln h (xpl h 12 0)) (pf : 64 ≤ xln h (xpl h 12 0)) (pg : xln h (xpl h 12 0) ≤ 32768) (hyp : (((xpl h 12 3) < (xln h (xpl h 12 0)) → (xwp G m_Vocabulary_makeRoomAt (d + 3) 63 [xR 12, xI x1] [] h Q X)) ∧ (¬ (xpl h 12 3) < (xln h (xpl h 12 0)) → (xwp G m_Arrays_copyOf_aJI (d + 2) 0 [xR (xpl h 12 0), xI ((xpl h 12 3) * 2), xZ] [] h (fun v9 h9 => xwp G m_Vocabulary_makeRoomAt (d + 3) 26 [xR 12, xI x1] (xpush v9 [xR 12]) h9 Q X) X)))) : xwp G m_Vocabulary_makeRoomAt (d + 3) 0 [xR 12, xI x1] [] h Q X := by
  have hnx9 : (93 : Int) ≤ xnx h := F.2.2
  refine xr_okL (fun hl9 => ?_)
  have r_x1 : -2147483648 ≤ x1 ∧ x1 ≤ 2147483647 := hl9 (xI x1) (.tail _ (.head _)) (Nat.le_of_ble_eq_true rfl)
  refine xr_aload_n (pc := 0) (i := 0) (hI := d_Vocabulary_makeRoomAt_0) (hi := rfl) (hl := rfl) ?_
  refine xg_getf (pc := 1) (ci := 10) (k := 3) (N := 7) (v9 := 0) (v := (xpl h 12 3)) (T := xF10) (hI := d_Vocabulary_makeRoomAt_1) (hw := w_182) rfl xi10 (Or.inl rfl) (Nat.le_of_ble_eq_true rfl) (Nat.le_of_ble_eq_true rfl) rfl (ft_12 F) rfl (fun f1_ => ?_)
  replace f1_ : -2147483648 ≤ (xpl h 12 3) ∧ (xpl h 12 3) ≤ 2147483647 := f1_
  refine xr_aload_n (pc := 4) (i := 0) (hI := d_Vocabulary_makeRoomAt_4) (hi := rfl) (hl := rfl) ?_
  refine xg_getf (pc := 5) (ci := 10) (k := 0) (N := 7) (v9 := 2) (v := (xpl h 12 0)) (T := xF10) (hI := d_Vocabulary_makeRoomAt_5) (hw := w_179) rfl xi10 (Or.inl rfl) (Nat.le_of_ble_eq_true rfl) (Nat.le_of_ble_eq_true rfl) rfl (ft_12 F) rfl (fun f2_ => ?_)
  clear f2_
  refine xg_alen (pc := 8) (t := 101) (v := (xln h (xpl h 12 0))) (hI := d_Vocabulary_makeRoomAt_8) p0.1.1 (Nat.le_of_ble_eq_true rfl) (Nat.le_of_ble_eq_true rfl) rfl rfl (fun f3_ f4_ => ?_)
  refine xr_icmp_lt (pc := 9) (tgt := 63) (hI := d_Vocabulary_makeRoomAt_9) (ht := by decide) (fun q9 => ?_) (fun q9 => ?_)
  · replace hyp := hyp.1 q9
    have q5_ := q9
    clear q9
    exact hyp
  · replace hyp := hyp.2 q9
    have q5_ := q9
    clear q9
    refine xr_aload_n (pc := 12) (i := 0) (hI := d_Vocabulary_makeRoomAt_12) (hi := rfl) (hl := rfl) ?_
    refine xr_aload_n (pc := 13) (i := 0) (hI := d_Vocabulary_makeRoomAt_13) (hi := rfl) (hl := rfl) ?_
    refine xg_getf (pc := 14) (ci := 10) (k := 0) (N := 7) (v9 := 2) (v := (xpl h 12 0)) (T := xF10) (hI := d_Vocabulary_makeRoomAt_14) (hw := w_179) rfl xi10 (Or.inl rfl) (Nat.le_of_ble_eq_true rfl) (Nat.le_of_ble_eq_true rfl) rfl (ft_12 F) rfl (fun f6_ => ?_)
    clear f6_
    refine xr_aload_n (pc := 17) (i := 0) (hI := d_Vocabulary_makeRoomAt_17) (hi := rfl) (hl := rfl) ?_
    refine xg_getf (pc := 18) (ci := 10) (k := 3) (N := 7) (v9 := 0) (v := (xpl h 12 3)) (T := xF10) (hI := d_Vocabulary_makeRoomAt_18) (hw := w_182) rfl xi10 (Or.inl rfl) (Nat.le_of_ble_eq_true rfl) (Nat.le_of_ble_eq_true rfl) rfl (ft_12 F) rfl (fun f7_ => ?_)
    replace f7_ : -2147483648 ≤ (xpl h 12 3) ∧ (xpl h 12 3) ≤ 2147483647 := f7_
    refine xr_iconst (pc := 21) (hI := d_Vocabulary_makeRoomAt_21) (hr := by decide) ?_
    refine xr_imul (pc := 22) (hI := d_Vocabulary_makeRoomAt_22) (hr := ⟨by clear hyp; omega, by clear hyp; omega⟩) ?_
    exact xq_callS (pc := 23) (index := 55) (K := m_Arrays_copyOf_aJI) (As := [xR (xpl h 12 0), xI ((xpl h 12 3) * 2)]) (S := [xR 12]) (L0 := [xR (xpl h 12 0), xI ((xpl h 12 3) * 2), xZ]) (hI := d_Vocabulary_makeRoomAt_23) (hK := k_Arrays_copyOf_aJI) (hlk := w_905) (hnoM := rfl) (hS8 := Nat.le_of_ble_eq_true rfl) (hstat := w_906) (hlen := Nat.le_of_ble_eq_true rfl) (hst := rfl) (hL0 := rfl)  hyp
theorem d_Vocabulary_makeRoomAt_26 : decode prog_11_method_7_code 26 = .ok (.putfield 9, 3) := by decide +kernel
theorem xtk_10_0 : xfTK 10 0 = true := by decide +kernel
theorem d_Vocabulary_makeRoomAt_29 : decode prog_11_method_7_code 29 = .ok (.aload_n 0, 1) := by decide +kernel
theorem d_Vocabulary_makeRoomAt_30 : decode prog_11_method_7_code 30 = .ok (.aload_n 0, 1) := by decide +kernel
theorem d_Vocabulary_makeRoomAt_31 : decode prog_11_method_7_code 31 = .ok (.getfield 15, 3) := by decide +kernel
theorem d_Vocabulary_makeRoomAt_34 : decode prog_11_method_7_code 34 = .ok (.aload_n 0, 1) := by decide +kernel
theorem d_Vocabulary_makeRoomAt_35 : decode prog_11_method_7_code 35 = .ok (.getfield 22, 3) := by decide +kernel
theorem d_Vocabulary_makeRoomAt_38 : decode prog_11_method_7_code 38 = .ok (.iconst 2, 1) := by decide +kernel
theorem d_Vocabulary_makeRoomAt_39 : decode prog_11_method_7_code 39 = .ok (.imul, 1) := by decide +kernel
theorem d_Vocabulary_makeRoomAt_40 : decode prog_11_method_7_code 40 = .ok (.invokestatic 61, 3) := by decide +kernel
theorem k_Arrays_copyOf_aII : xCal m_Arrays_copyOf_aII 2 := ⟨List.mem_append_right _ (List.mem_of_getElem? (i := 917) (by decide +kernel)), w_29, Nat.le_of_ble_eq_true rfl, ⟨by decide +kernel, by decide +kernel⟩, by decide +kernel, by decide +kernel, rfl⟩
theorem w_915 : Cond.methodLink "BeaconIndex$Vocabulary" 61 ⟨"java/util/Arrays", "copyOf", "([II)[I"⟩ ∈ lw_tbl := List.mem_append_right _ (List.mem_of_getElem? (i := 915) (by decide +kernel))
theorem w_916 : Cond.static ⟨"java/util/Arrays", "copyOf", "([II)[I"⟩ ∈ lw_tbl := List.mem_append_right _ (List.mem_of_getElem? (i := 916) (by decide +kernel))
theorem v_Vocabulary_makeRoomAt_26 {G : XG} {d : Nat} {h : XH} {Q : XV → XH → Prop} {X : Nat → XH → Prop} {x1 s0 s1 : Int} (F : xFix h) (hyp : xtg h s1 = 10 ∧ 0 ≤ s1 ∧ xiR ((xpl h 12 3) * 2) ∧ (xFix (xst h s1 0 s0) → xwp G m_Arrays_copyOf_aII (d + 2) 0 [xR (xpl h 12 1), xI ((xpl h 12 3) * 2), xZ] [] (xst h s1 0 s0) (fun v9 h9 => xwp G m_Vocabulary_makeRoomAt (d + 3) 43 [xR 12, xI x1] (xpush v9 [xR 12]) h9 Q X) X)) : xwp G m_Vocabulary_makeRoomAt (d + 3) 26 [xR 12, xI x1] [xR s0, xR s1] h Q X := by
  have hnx9 : (93 : Int) ≤ xnx h := F.2.2
  refine xr_okL (fun hl9 => ?_)
  have r_x1 : -2147483648 ≤ x1 ∧ x1 ≤ 2147483647 := hl9 (xI x1) (.tail _ (.head _)) (Nat.le_of_ble_eq_true rfl)
  obtain ⟨c9, hyp⟩ := hyp
  have t1_ := c9
  clear c9
  obtain ⟨c2_, hyp⟩ := hyp
  refine xr_putf (pc := 26) (ci := 10) (k := 0) (N := 7) (v9 := 2) (T := xF10) (tF := xT10) (hI := d_Vocabulary_makeRoomAt_26) (hw := w_179) rfl xi10 xt10 xn10 (Or.inl rfl) (Nat.le_of_ble_eq_true rfl) (Nat.le_of_ble_eq_true rfl) rfl (xfit_a _) rfl t1_ c2_ (fun z => z) ?_
  have F3_ : xFix (xst h s1 0 s0) := F.stT (t := 10) c2_ t1_ xtk_10_0
  refine xr_aload_n (pc := 29) (i := 0) (hI := d_Vocabulary_makeRoomAt_29) (hi := rfl) (hl := rfl) ?_
  refine xr_aload_n (pc := 30) (i := 0) (hI := d_Vocabulary_makeRoomAt_30) (hi := rfl) (hl := rfl) ?_
  refine xg_getf (pc := 31) (ci := 10) (k := 1) (N := 7) (v9 := 2) (v := (xpl h 12 1)) (T := xF10) (hI := d_Vocabulary_makeRoomAt_31) (hw := w_180) rfl xi10 (Or.inl rfl) (Nat.le_of_ble_eq_true rfl) (Nat.le_of_ble_eq_true rfl) rfl (ft_12 F3_) (xpl_ok (by decide)) (fun f4_ => ?_)
  clear f4_
  refine xr_aload_n (pc := 34) (i := 0) (hI := d_Vocabulary_makeRoomAt_34) (hi := rfl) (hl := rfl) ?_
  refine xg_getf (pc := 35) (ci := 10) (k := 3) (N := 7) (v9 := 0) (v := (xpl h 12 3)) (T := xF10) (hI := d_Vocabulary_makeRoomAt_35) (hw := w_182) rfl xi10 (Or.inl rfl) (Nat.le_of_ble_eq_true rfl) (Nat.le_of_ble_eq_true rfl) rfl (ft_12 F3_) (xpl_ok (by decide)) (fun f5_ => ?_)
  replace f5_ : -2147483648 ≤ (xpl h 12 3) ∧ (xpl h 12 3) ≤ 2147483647 := f5_
  refine xr_iconst (pc := 38) (hI := d_Vocabulary_makeRoomAt_38) (hr := by decide) ?_
  obtain ⟨c9, hyp⟩ := hyp
  refine xr_imul (pc := 39) (hI := d_Vocabulary_makeRoomAt_39) (hr := c9) ?_
  exact xq_callS (pc := 40) (index := 61) (K := m_Arrays_copyOf_aII) (As := [xR (xpl h 12 1), xI ((xpl h 12 3) * 2)]) (S := [xR 12]) (L0 := [xR (xpl h 12 1), xI ((xpl h 12 3) * 2), xZ]) (hI := d_Vocabulary_makeRoomAt_40) (hK := k_Arrays_copyOf_aII) (hlk := w_915) (hnoM := rfl) (hS8 := Nat.le_of_ble_eq_true rfl) (hstat := w_916) (hlen := Nat.le_of_ble_eq_true rfl) (hst := rfl) (hL0 := rfl)  (hyp F3_)
theorem d_Vocabulary_makeRoomAt_43 : decode prog_11_method_7_code 43 = .ok (.putfield 15, 3) := by decide +kernel
theorem xtk_10_1 : xfTK 10 1 = true := by decide +kernel
theorem d_Vocabulary_makeRoomAt_46 : decode prog_11_method_7_code 46 = .ok (.aload_n 0, 1) := by decide +kernel
theorem d_Vocabulary_makeRoomAt_47 : decode prog_11_method_7_code 47 = .ok (.aload_n 0, 1) := by decide +kernel
theorem d_Vocabulary_makeRoomAt_48 : decode prog_11_method_7_code 48 = .ok (.getfield 19, 3) := by decide +kernel
theorem w_181 : Cond.fieldLink "BeaconIndex$Vocabulary" 19 "BeaconIndex$Vocabulary" "latestTexts" "[I" ∈ lw_tbl := List.mem_append_right _ (List.mem_of_getElem? (i := 181) (by decide +kernel))
theorem d_Vocabulary_makeRoomAt_51 : decode prog_11_method_7_code 51 = .ok (.aload_n 0, 1) := by decide +kernel
theorem d_Vocabulary_makeRoomAt_52 : decode prog_11_method_7_code 52 = .ok (.getfield 22, 3) := by decide +kernel
theorem d_Vocabulary_makeRoomAt_55 : decode prog_11_method_7_code 55 = .ok (.iconst 2, 1) := by decide +kernel
theorem d_Vocabulary_makeRoomAt_56 : decode prog_11_method_7_code 56 = .ok (.imul, 1) := by decide +kernel
theorem d_Vocabulary_makeRoomAt_57 : decode prog_11_method_7_code 57 = .ok (.invokestatic 61, 3) := by decide +kernel
theorem v_Vocabulary_makeRoomAt_43 {G : XG} {d : Nat} {h : XH} {Q : XV → XH → Prop} {X : Nat → XH → Prop} {x1 s0 s1 : Int} (F : xFix h) (hyp : xtg h s1 = 10 ∧ 0 ≤ s1 ∧ xiR ((xpl h 12 3) * 2) ∧ (xFix (xst h s1 1 s0) → xwp G m_Arrays_copyOf_aII (d + 2) 0 [xR (xpl h 12 2), xI ((xpl h 12 3) * 2), xZ] [] (xst h s1 1 s0) (fun v9 h9 => xwp G m_Vocabulary_makeRoomAt (d + 3) 60 [xR 12, xI x1] (xpush v9 [xR 12]) h9 Q X) X)) : xwp G m_Vocabulary_makeRoomAt (d + 3) 43 [xR 12, xI x1] [xR s0, xR s1] h Q X := by
  have hnx9 : (93 : Int) ≤ xnx h := F.2.2
  refine xr_okL (fun hl9 => ?_)
  have r_x1 : -2147483648 ≤ x1 ∧ x1 ≤ 2147483647 := hl9 (xI x1) (.tail _ (.head _)) (Nat.le_of_ble_eq_true rfl)
  obtain ⟨c9, hyp⟩ := hyp
  have t1_ := c9
  clear c9
  obtain ⟨c2_, hyp⟩ := hyp
  refine xr_putf (pc := 43) (ci := 10) (k := 1) (N := 7) (v9 := 2) (T := xF10) (tF := xT10) (hI := d_Vocabulary_makeRoomAt_43) (hw := w_180) rfl xi10 xt10 xn10 (Or.inl rfl) (Nat.le_of_ble_eq_true rfl) (Nat.le_of_ble_eq_true rfl) rfl (xfit_a _) rfl t1_ c2_ (fun z => z) ?_
  have F3_ : xFix (xst h s1 1 s0) := F.stT (t := 10) c2_ t1_ xtk_10_1
  refine xr_aload_n (pc := 46) (i := 0) (hI := d_Vocabulary_makeRoomAt_46) (hi := rfl) (hl := rfl) ?_
  refine xr_aload_n (pc := 47) (i := 0) (hI := d_Vocabulary_makeRoomAt_47) (hi := rfl) (hl := rfl) ?_
  refine xg_getf (pc := 48) (ci := 10) (k := 2) (N := 7) (v9 := 2) (v := (xpl h 12 2)) (T := xF10) (hI := d_Vocabulary_makeRoomAt_48) (hw := w_181) rfl xi10 (Or.inl rfl) (Nat.le_of_ble_eq_true rfl) (Nat.le_of_ble_eq_true rfl) rfl (ft_12 F3_) (xpl_ok (by decide)) (fun f4_ => ?_)
  clear f4_
  refine xr_aload_n (pc := 51) (i := 0) (hI := d_Vocabulary_makeRoomAt_51) (hi := rfl) (hl := rfl) ?_
  refine xg_getf (pc := 52) (ci := 10) (k := 3) (N := 7) (v9 := 0) (v := (xpl h 12 3)) (T := xF10) (hI := d_Vocabulary_makeRoomAt_52) (hw := w_182) rfl xi10 (Or.inl rfl) (Nat.le_of_ble_eq_true rfl) (Nat.le_of_ble_eq_true rfl) rfl (ft_12 F3_) (xpl_ok (by decide)) (fun f5_ => ?_)
  replace f5_ : -2147483648 ≤ (xpl h 12 3) ∧ (xpl h 12 3) ≤ 2147483647 := f5_
  refine xr_iconst (pc := 55) (hI := d_Vocabulary_makeRoomAt_55) (hr := by decide) ?_
  obtain ⟨c9, hyp⟩ := hyp
  refine xr_imul (pc := 56) (hI := d_Vocabulary_makeRoomAt_56) (hr := c9) ?_
  exact xq_callS (pc := 57) (index := 61) (K := m_Arrays_copyOf_aII) (As := [xR (xpl h 12 2), xI ((xpl h 12 3) * 2)]) (S := [xR 12]) (L0 := [xR (xpl h 12 2), xI ((xpl h 12 3) * 2), xZ]) (hI := d_Vocabulary_makeRoomAt_57) (hK := k_Arrays_copyOf_aII) (hlk := w_915) (hnoM := rfl) (hS8 := Nat.le_of_ble_eq_true rfl) (hstat := w_916) (hlen := Nat.le_of_ble_eq_true rfl) (hst := rfl) (hL0 := rfl)  (hyp F3_)
theorem d_Vocabulary_makeRoomAt_60 : decode prog_11_method_7_code 60 = .ok (.putfield 19, 3) := by decide +kernel
theorem xtk_10_2 : xfTK 10 2 = true := by decide +kernel
theorem v_Vocabulary_makeRoomAt_60 {G : XG} {d : Nat} {h : XH} {Q : XV → XH → Prop} {X : Nat → XH → Prop} {x1 s0 s1 : Int} (F : xFix h) (hyp : xtg h s1 = 10 ∧ 0 ≤ s1 ∧ (xFix (xst h s1 2 s0) → xwp G m_Vocabulary_makeRoomAt (d + 3) 63 [xR 12, xI x1] [] (xst h s1 2 s0) Q X)) : xwp G m_Vocabulary_makeRoomAt (d + 3) 60 [xR 12, xI x1] [xR s0, xR s1] h Q X := by
  have hnx9 : (93 : Int) ≤ xnx h := F.2.2
  refine xr_okL (fun hl9 => ?_)
  have r_x1 : -2147483648 ≤ x1 ∧ x1 ≤ 2147483647 := hl9 (xI x1) (.tail _ (.head _)) (Nat.le_of_ble_eq_true rfl)
  obtain ⟨c9, hyp⟩ := hyp
  have t1_ := c9
  clear c9
  obtain ⟨c2_, hyp⟩ := hyp
  refine xr_putf (pc := 60) (ci := 10) (k := 2) (N := 7) (v9 := 2) (T := xF10) (tF := xT10) (hI := d_Vocabulary_makeRoomAt_60) (hw := w_181) rfl xi10 xt10 xn10 (Or.inl rfl) (Nat.le_of_ble_eq_true rfl) (Nat.le_of_ble_eq_true rfl) rfl (xfit_a _) rfl t1_ c2_ (fun z => z) ?_
  have F3_ : xFix (xst h s1 2 s0) := F.stT (t := 10) c2_ t1_ xtk_10_2
  exact (hyp F3_)
theorem d_Vocabulary_makeRoomAt_63 : decode prog_11_method_7_code 63 = .ok (.aload_n 0, 1) := by decide +kernel
theorem d_Vocabulary_makeRoomAt_64 : decode prog_11_method_7_code 64 = .ok (.getfield 9, 3) := by decide +kernel
theorem d_Vocabulary_makeRoomAt_67 : decode prog_11_method_7_code 67 = .ok (.iload_n 1, 1) := by decide +kernel
theorem d_Vocabulary_makeRoomAt_68 : decode prog_11_method_7_code 68 = .ok (.aload_n 0, 1) := by decide +kernel
theorem d_Vocabulary_makeRoomAt_69 : decode prog_11_method_7_code 69 = .ok (.getfield 9, 3) := by decide +kernel
theorem d_Vocabulary_makeRoomAt_72 : decode prog_11_method_7_code 72 = .ok (.iload_n 1, 1) := by decide +kernel
theorem d_Vocabulary_makeRoomAt_73 : decode prog_11_method_7_code 73 = .ok (.iconst 1, 1) := by decide +kernel
theorem d_Vocabulary_makeRoomAt_74 : decode prog_11_method_7_code 74 = .ok (.iadd, 1) := by decide +kernel
theorem d_Vocabulary_makeRoomAt_75 : decode prog_11_method_7_code 75 = .ok (.aload_n 0, 1) := by decide +kernel
theorem d_Vocabulary_makeRoomAt_76 : decode prog_11_method_7_code 76 = .ok (.getfield 22, 3) := by decide +kernel
theorem d_Vocabulary_makeRoomAt_79 : decode prog_11_method_7_code 79 = .ok (.iload_n 1, 1) := by decide +kernel
theorem d_Vocabulary_makeRoomAt_80 : decode prog_11_method_7_code 80 = .ok (.isub, 1) := by decide +kernel
theorem d_Vocabulary_makeRoomAt_81 : decode prog_11_method_7_code 81 = .ok (.invokestatic 64, 3) := by decide +kernel
theorem w_923 : Cond.methodLink "BeaconIndex$Vocabulary" 64 ⟨"java/lang/System", "arraycopy", "(Ljava/lang/Object;ILjava/lang/Object;II)V"⟩ ∈ lw_tbl := List.mem_append_right _ (List.mem_of_getElem? (i := 923) (by decide +kernel))
theorem xta_101 : xfTA 101 = true := by decide +kernel
theorem d_Vocabulary_makeRoomAt_84 : decode prog_11_method_7_code 84 = .ok (.aload_n 0, 1) := by decide +kernel
theorem d_Vocabulary_makeRoomAt_85 : decode prog_11_method_7_code 85 = .ok (.getfield 15, 3) := by decide +kernel
theorem d_Vocabulary_makeRoomAt_88 : decode prog_11_method_7_code 88 = .ok (.iload_n 1, 1) := by decide +kernel
theorem d_Vocabulary_makeRoomAt_89 : decode prog_11_method_7_code 89 = .ok (.aload_n 0, 1) := by decide +kernel
theorem d_Vocabulary_makeRoomAt_90 : decode prog_11_method_7_code 90 = .ok (.getfield 15, 3) := by decide +kernel
theorem d_Vocabulary_makeRoomAt_93 : decode prog_11_method_7_code 93 = .ok (.iload_n 1, 1) := by decide +kernel
theorem d_Vocabulary_makeRoomAt_94 : decode prog_11_method_7_code 94 = .ok (.iconst 1, 1) := by decide +kernel
theorem d_Vocabulary_makeRoomAt_95 : decode prog_11_method_7_code 95 = .ok (.iadd, 1) := by decide +kernel
theorem d_Vocabulary_makeRoomAt_96 : decode prog_11_method_7_code 96 = .ok (.aload_n 0, 1) := by decide +kernel
theorem d_Vocabulary_makeRoomAt_97 : decode prog_11_method_7_code 97 = .ok (.getfield 22, 3) := by decide +kernel
theorem d_Vocabulary_makeRoomAt_100 : decode prog_11_method_7_code 100 = .ok (.iload_n 1, 1) := by decide +kernel
theorem d_Vocabulary_makeRoomAt_101 : decode prog_11_method_7_code 101 = .ok (.isub, 1) := by decide +kernel
theorem d_Vocabulary_makeRoomAt_102 : decode prog_11_method_7_code 102 = .ok (.invokestatic 64, 3) := by decide +kernel
theorem xta_100 : xfTA 100 = true := by decide +kernel
theorem d_Vocabulary_makeRoomAt_105 : decode prog_11_method_7_code 105 = .ok (.aload_n 0, 1) := by decide +kernel
theorem d_Vocabulary_makeRoomAt_106 : decode prog_11_method_7_code 106 = .ok (.getfield 19, 3) := by decide +kernel
theorem d_Vocabulary_makeRoomAt_109 : decode prog_11_method_7_code 109 = .ok (.iload_n 1, 1) := by decide +kernel
theorem d_Vocabulary_makeRoomAt_110 : decode prog_11_method_7_code 110 = .ok (.aload_n 0, 1) := by decide +kernel
theorem d_Vocabulary_makeRoomAt_111 : decode prog_11_method_7_code 111 = .ok (.getfield 19, 3) := by decide +kernel
theorem d_Vocabulary_makeRoomAt_114 : decode prog_11_method_7_code 114 = .ok (.iload_n 1, 1) := by decide +kernel
theorem d_Vocabulary_makeRoomAt_115 : decode prog_11_method_7_code 115 = .ok (.iconst 1, 1) := by decide +kernel
theorem d_Vocabulary_makeRoomAt_116 : decode prog_11_method_7_code 116 = .ok (.iadd, 1) := by decide +kernel
theorem d_Vocabulary_makeRoomAt_117 : decode prog_11_method_7_code 117 = .ok (.aload_n 0, 1) := by decide +kernel
theorem d_Vocabulary_makeRoomAt_118 : decode prog_11_method_7_code 118 = .ok (.getfield 22, 3) := by decide +kernel
theorem d_Vocabulary_makeRoomAt_121 : decode prog_11_method_7_code 121 = .ok (.iload_n 1, 1) := by decide +kernel
theorem d_Vocabulary_makeRoomAt_122 : decode prog_11_method_7_code 122 = .ok (.isub, 1) := by decide +kernel
theorem d_Vocabulary_makeRoomAt_123 : decode prog_11_method_7_code 123 = .ok (.invokestatic 64, 3) := by decide +kernel
theorem d_Vocabulary_makeRoomAt_126 : decode prog_11_method_7_code 126 = .ok (.aload_n 0, 1) := by decide +kernel
theorem d_Vocabulary_makeRoomAt_127 : decode prog_11_method_7_code 127 = .ok (.dup, 1) := by decide +kernel
theorem d_Vocabulary_makeRoomAt_128 : decode prog_11_method_7_code 128 = .ok (.getfield 22, 3) := by decide +kernel
theorem d_Vocabulary_makeRoomAt_131 : decode prog_11_method_7_code 131 = .ok (.iconst 1, 1) := by decide +kernel
theorem d_Vocabulary_makeRoomAt_132 : decode prog_11_method_7_code 132 = .ok (.iadd, 1) := by decide +kernel
theorem d_Vocabulary_makeRoomAt_133 : decode prog_11_method_7_code 133 = .ok (.putfield 22, 3) := by decide +kernel
theorem xfk_12_3 : xfree 12 3 = true := by decide +kernel
theorem d_Vocabulary_makeRoomAt_136 : decode prog_11_method_7_code 136 = .ok (.return_, 1) := by decide +kernel
theorem v_Vocabulary_makeRoomAt_63 {G : XG} {d : Nat} {h : XH} {Q : XV → XH → Prop} {X : Nat → XH → Prop} {x1 : Int} (F : xFix h) (p0 : vok h) (pa : 13 ≤ xpl h 12 0) (pb : 13 ≤ xpl h 12 1) (pc : 13 ≤ xpl h 12 2) (pd : 0 ≤ xpl h 12 3) (pe : xpl h 12 3 ≤ xln h (xpl h 12 0)) (pf : 64 ≤ xln h (xpl h 12 0)) (pg : xln h (xpl h 12 0) ≤ 32768) (ph : 0 ≤ x1) (pi : x1 ≤ xpl h 12 3) (pj : xpl h 12 3 < xln h (xpl h 12 0)) (hyp : (xFix (xst (xup (xup (xup h (xpl h 12 0) (xcpf (xpl h (xpl h 12 0)) (xpl h (xpl h 12 0)) x1 (x1 + 1) ((xpl h 12 3) - x1))) (xpl h 12 1) (xcpf (xpl (xup h (xpl h 12 0) (xcpf (xpl h (xpl h 12 0)) (xpl h (xpl h 12 0)) x1 (x1 + 1) ((xpl h 12 3) - x1))) (xpl h 12 1)) (xpl (xup h (xpl h 12 0) (xcpf (xpl h (xpl h 12 0)) (xpl h (xpl h 12 0)) x1 (x1 + 1) ((xpl h 12 3) - x1))) (xpl h 12 1)) x1 (x1 + 1) ((xpl h 12 3) - x1))) (xpl h 12 2) (xcpf (xpl (xup (xup h (xpl h 12 0) (xcpf (xpl h (xpl h 12 0)) (xpl h (xpl h 12 0)) x1 (x1 + 1) ((xpl h 12 3) - x1))) (xpl h 12 1) (xcpf (xpl (xup h (xpl h 12 0) (xcpf (xpl h (xpl h 12 0)) (xpl h (xpl h 12 0)) x1 (x1 + 1) ((xpl h 12 3) - x1))) (xpl h 12 1)) (xpl (xup h (xpl h 12 0) (xcpf (xpl h (xpl h 12 0)) (xpl h (xpl h 12 0)) x1 (x1 + 1) ((xpl h 12 3) - x1))) (xpl h 12 1)) x1 (x1 + 1) ((xpl h 12 3) - x1))) (xpl h 12 2)) (xpl (xup (xup h (xpl h 12 0) (xcpf (xpl h (xpl h 12 0)) (xpl h (xpl h 12 0)) x1 (x1 + 1) ((xpl h 12 3) - x1))) (xpl h 12 1) (xcpf (xpl (xup h (xpl h 12 0) (xcpf (xpl h (xpl h 12 0)) (xpl h (xpl h 12 0)) x1 (x1 + 1) ((xpl h 12 3) - x1))) (xpl h 12 1)) (xpl (xup h (xpl h 12 0) (xcpf (xpl h (xpl h 12 0)) (xpl h (xpl h 12 0)) x1 (x1 + 1) ((xpl h 12 3) - x1))) (xpl h 12 1)) x1 (x1 + 1) ((xpl h 12 3) - x1))) (xpl h 12 2)) x1 (x1 + 1) ((xpl h 12 3) - x1))) 12 3 ((xpl h 12 3) + 1)) → Q xN (xst (xup (xup (xup h (xpl h 12 0) (xcpf (xpl h (xpl h 12 0)) (xpl h (xpl h 12 0)) x1 (x1 + 1) ((xpl h 12 3) - x1))) (xpl h 12 1) (xcpf (xpl (xup h (xpl h 12 0) (xcpf (xpl h (xpl h 12 0)) (xpl h (xpl h 12 0)) x1 (x1 + 1) ((xpl h 12 3) - x1))) (xpl h 12 1)) (xpl (xup h (xpl h 12 0) (xcpf (xpl h (xpl h 12 0)) (xpl h (xpl h 12 0)) x1 (x1 + 1) ((xpl h 12 3) - x1))) (xpl h 12 1)) x1 (x1 + 1) ((xpl h 12 3) - x1))) (xpl h 12 2) (xcpf (xpl (xup (xup h (xpl h 12 0) (xcpf (xpl h (xpl h 12 0)) (xpl h (xpl h 12 0)) x1 (x1 + 1) ((xpl h 12 3) - x1))) (xpl h 12 1) (xcpf (xpl (xup h (xpl h 12 0) (xcpf (xpl h (xpl h 12 0)) (xpl h (xpl h 12 0)) x1 (x1 + 1) ((xpl h 12 3) - x1))) (xpl h 12 1)) (xpl (xup h (xpl h 12 0) (xcpf (xpl h (xpl h 12 0)) (xpl h (xpl h 12 0)) x1 (x1 + 1) ((xpl h 12 3) - x1))) (xpl h 12 1)) x1 (x1 + 1) ((xpl h 12 3) - x1))) (xpl h 12 2)) (xpl (xup (xup h (xpl h 12 0) (xcpf (xpl h (xpl h 12 0)) (xpl h (xpl h 12 0)) x1 (x1 + 1) ((xpl h 12 3) - x1))) (xpl h 12 1) (xcpf (xpl (xup h (xpl h 12 0) (xcpf (xpl h (xpl h 12 0)) (xpl h (xpl h 12 0)) x1 (x1 + 1) ((xpl h 12 3) - x1))) (xpl h 12 1)) (xpl (xup h (xpl h 12 0) (xcpf (xpl h (xpl h 12 0)) (xpl h (xpl h 12 0)) x1 (x1 + 1) ((xpl h 12 3) - x1))) (xpl h 12 1)) x1 (x1 + 1) ((xpl h 12 3) - x1))) (xpl h 12 2)) x1 (x1 + 1) ((xpl h 12 3) - x1))) 12 3 ((xpl h 12 3) + 1)))) : xwp G m_Vocabulary_makeRoomAt (d + 3) 63 [xR 12, xI x1] [] h Q X := by
  have hnx9 : (93 : Int) ≤ xnx h := F.2.2
  refine xr_okL (fun hl9 => ?_)
  have r_x1 : -2147483648 ≤ x1 ∧ x1 ≤ 2147483647 := hl9 (xI x1) (.tail _ (.head _)) (Nat.le_of_ble_eq_true rfl)
  refine xr_aload_n (pc := 63) (i := 0) (hI := d_Vocabulary_makeRoomAt_63) (hi := rfl) (hl := rfl) ?_
  refine xg_getf (pc := 64) (ci := 10) (k := 0) (N := 7) (v9 := 2) (v := (xpl h 12 0)) (T := xF10) (hI := d_Vocabulary_makeRoomAt_64) (hw := w_179) rfl xi10 (Or.inl rfl) (Nat.le_of_ble_eq_true rfl) (Nat.le_of_ble_eq_true rfl) rfl (ft_12 F) rfl (fun f1_ => ?_)
  clear f1_
  refine xr_iload_n (pc := 67) (i := 1) (hI := d_Vocabulary_makeRoomAt_67) (hi := rfl) (hl := rfl) ?_
  refine xr_aload_n (pc := 68) (i := 0) (hI := d_Vocabulary_makeRoomAt_68) (hi := rfl) (hl := rfl) ?_
  refine xg_getf (pc := 69) (ci := 10) (k := 0) (N := 7) (v9 := 2) (v := (xpl h 12 0)) (T := xF10) (hI := d_Vocabulary_makeRoomAt_69) (hw := w_179) rfl xi10 (Or.inl rfl) (Nat.le_of_ble_eq_true rfl) (Nat.le_of_ble_eq_true rfl) rfl (ft_12 F) rfl (fun f2_ => ?_)
  clear f2_
  refine xr_iload_n (pc := 72) (i := 1) (hI := d_Vocabulary_makeRoomAt_72) (hi := rfl) (hl := rfl) ?_
  refine xr_iconst (pc := 73) (hI := d_Vocabulary_makeRoomAt_73) (hr := by decide) ?_
  refine xr_iadd (pc := 74) (hI := d_Vocabulary_makeRoomAt_74) (hr := ⟨by clear hyp; omega, by clear hyp; omega⟩) ?_
  refine xr_aload_n (pc := 75) (i := 0) (hI := d_Vocabulary_makeRoomAt_75) (hi := rfl) (hl := rfl) ?_
  refine xg_getf (pc := 76) (ci := 10) (k := 3) (N := 7) (v9 := 0) (v := (xpl h 12 3)) (T := xF10) (hI := d_Vocabulary_makeRoomAt_76) (hw := w_182) rfl xi10 (Or.inl rfl) (Nat.le_of_ble_eq_true rfl) (Nat.le_of_ble_eq_true rfl) rfl (ft_12 F) rfl (fun f3_ => ?_)
  replace f3_ : -2147483648 ≤ (xpl h 12 3) ∧ (xpl h 12 3) ≤ 2147483647 := f3_
  refine xr_iload_n (pc := 79) (i := 1) (hI := d_Vocabulary_makeRoomAt_79) (hi := rfl) (hl := rfl) ?_
  refine xr_isub (pc := 80) (hI := d_Vocabulary_makeRoomAt_80) (hr := ⟨by clear hyp; omega, by clear hyp; omega⟩) ?_
  refine xr_arraycopy (pc := 81) (t := 101) (index := 64) (hI := d_Vocabulary_makeRoomAt_81) w_923 w_546 w_545 w_30 rfl p0.1.1 p0.1.1 (by clear hyp; omega) (by clear hyp; omega) (by clear hyp; omega) (by clear hyp; omega) (xle_of rfl (by clear hyp; omega)) (xle_of rfl (by clear hyp; omega)) (fun z9 => by cases z9) (Nat.le_add_left_of_le (by decide)) (Nat.le_of_ble_eq_true rfl) ?_
  have F4_ : xFix (xup h (xpl h 12 0) (xcpf (xpl h (xpl h 12 0)) (xpl h (xpl h 12 0)) x1 (x1 + 1) ((xpl h 12 3) - x1))) := F.upTA (t := 101) (by clear hyp; omega) p0.1.1 xta_101
  refine xr_aload_n (pc := 84) (i := 0) (hI := d_Vocabulary_makeRoomAt_84) (hi := rfl) (hl := rfl) ?_
  refine xg_getf (pc := 85) (ci := 10) (k := 1) (N := 7) (v9 := 2) (v := (xpl h 12 1)) (T := xF10) (hI := d_Vocabulary_makeRoomAt_85) (hw := w_180) rfl xi10 (Or.inl rfl) (Nat.le_of_ble_eq_true rfl) (Nat.le_of_ble_eq_true rfl) rfl (ft_12 F4_) (xpl_up2 (by clear hyp; omega)) (fun f5_ => ?_)
  clear f5_
  refine xr_iload_n (pc := 88) (i := 1) (hI := d_Vocabulary_makeRoomAt_88) (hi := rfl) (hl := rfl) ?_
  refine xr_aload_n (pc := 89) (i := 0) (hI := d_Vocabulary_makeRoomAt_89) (hi := rfl) (hl := rfl) ?_
  refine xg_getf (pc := 90) (ci := 10) (k := 1) (N := 7) (v9 := 2) (v := (xpl h 12 1)) (T := xF10) (hI := d_Vocabulary_makeRoomAt_90) (hw := w_180) rfl xi10 (Or.inl rfl) (Nat.le_of_ble_eq_true rfl) (Nat.le_of_ble_eq_true rfl) rfl (ft_12 F4_) (xpl_up2 (by clear hyp; omega)) (fun f6_ => ?_)
  clear f6_
  refine xr_iload_n (pc := 93) (i := 1) (hI := d_Vocabulary_makeRoomAt_93) (hi := rfl) (hl := rfl) ?_
  refine xr_iconst (pc := 94) (hI := d_Vocabulary_makeRoomAt_94) (hr := by decide) ?_
  refine xr_iadd (pc := 95) (hI := d_Vocabulary_makeRoomAt_95) (hr := ⟨by clear hyp; omega, by clear hyp; omega⟩) ?_
  refine xr_aload_n (pc := 96) (i := 0) (hI := d_Vocabulary_makeRoomAt_96) (hi := rfl) (hl := rfl) ?_
  refine xg_getf (pc := 97) (ci := 10) (k := 3) (N := 7) (v9 := 0) (v := (xpl h 12 3)) (T := xF10) (hI := d_Vocabulary_makeRoomAt_97) (hw := w_182) rfl xi10 (Or.inl rfl) (Nat.le_of_ble_eq_true rfl) (Nat.le_of_ble_eq_true rfl) rfl (ft_12 F4_) (xpl_up2 (by clear hyp; omega)) (fun f7_ => ?_)
  replace f7_ : -2147483648 ≤ (xpl h 12 3) ∧ (xpl h 12 3) ≤ 2147483647 := f7_
  refine xr_iload_n (pc := 100) (i := 1) (hI := d_Vocabulary_makeRoomAt_100) (hi := rfl) (hl := rfl) ?_
  refine xr_isub (pc := 101) (hI := d_Vocabulary_makeRoomAt_101) (hr := ⟨by clear hyp; omega, by clear hyp; omega⟩) ?_
  refine xr_arraycopy (pc := 102) (t := 100) (index := 64) (hI := d_Vocabulary_makeRoomAt_102) w_923 w_546 w_545 w_30 rfl p0.1.2.1 p0.1.2.1 (by clear hyp; omega) (by clear hyp; omega) (by clear hyp; omega) (by clear hyp; omega) (xle_of p0.2.2.2.2.2.1.1 (by clear hyp; omega)) (xle_of p0.2.2.2.2.2.1.1 (by clear hyp; omega)) (fun z9 => by cases z9) (Nat.le_add_left_of_le (by decide)) (Nat.le_of_ble_eq_true rfl) ?_
  have F8_ : xFix (xup (xup h (xpl h 12 0) (xcpf (xpl h (xpl h 12 0)) (xpl h (xpl h 12 0)) x1 (x1 + 1) ((xpl h 12 3) - x1))) (xpl h 12 1) (xcpf (xpl (xup h (xpl h 12 0) (xcpf (xpl h (xpl h 12 0)) (xpl h (xpl h 12 0)) x1 (x1 + 1) ((xpl h 12 3) - x1))) (xpl h 12 1)) (xpl (xup h (xpl h 12 0) (xcpf (xpl h (xpl h 12 0)) (xpl h (xpl h 12 0)) x1 (x1 + 1) ((xpl h 12 3) - x1))) (xpl h 12 1)) x1 (x1 + 1) ((xpl h 12 3) - x1))) := F4_.upTA (t := 100) (by clear hyp; omega) p0.1.2.1 xta_100
  refine xr_aload_n (pc := 105) (i := 0) (hI := d_Vocabulary_makeRoomAt_105) (hi := rfl) (hl := rfl) ?_
  refine xg_getf (pc := 106) (ci := 10) (k := 2) (N := 7) (v9 := 2) (v := (xpl h 12 2)) (T := xF10) (hI := d_Vocabulary_makeRoomAt_106) (hw := w_181) rfl xi10 (Or.inl rfl) (Nat.le_of_ble_eq_true rfl) (Nat.le_of_ble_eq_true rfl) rfl (ft_12 F8_) (Eq.trans (xpl_up2 (by clear hyp; omega)) (xpl_up2 (by clear hyp; omega))) (fun f9_ => ?_)
  clear f9_
  refine xr_iload_n (pc := 109) (i := 1) (hI := d_Vocabulary_makeRoomAt_109) (hi := rfl) (hl := rfl) ?_
  refine xr_aload_n (pc := 110) (i := 0) (hI := d_Vocabulary_makeRoomAt_110) (hi := rfl) (hl := rfl) ?_
  refine xg_getf (pc := 111) (ci := 10) (k := 2) (N := 7) (v9 := 2) (v := (xpl h 12 2)) (T := xF10) (hI := d_Vocabulary_makeRoomAt_111) (hw := w_181) rfl xi10 (Or.inl rfl) (Nat.le_of_ble_eq_true rfl) (Nat.le_of_ble_eq_true rfl) rfl (ft_12 F8_) (Eq.trans (xpl_up2 (by clear hyp; omega)) (xpl_up2 (by clear hyp; omega))) (fun f10_ => ?_)
  clear f10_
  refine xr_iload_n (pc := 114) (i := 1) (hI := d_Vocabulary_makeRoomAt_114) (hi := rfl) (hl := rfl) ?_
  refine xr_iconst (pc := 115) (hI := d_Vocabulary_makeRoomAt_115) (hr := by decide) ?_
  refine xr_iadd (pc := 116) (hI := d_Vocabulary_makeRoomAt_116) (hr := ⟨by clear hyp; omega, by clear hyp; omega⟩) ?_
  refine xr_aload_n (pc := 117) (i := 0) (hI := d_Vocabulary_makeRoomAt_117) (hi := rfl) (hl := rfl) ?_
  refine xg_getf (pc := 118) (ci := 10) (k := 3) (N := 7) (v9 := 0) (v := (xpl h 12 3)) (T := xF10) (hI := d_Vocabulary_makeRoomAt_118) (hw := w_182) rfl xi10 (Or.inl rfl) (Nat.le_of_ble_eq_true rfl) (Nat.le_of_ble_eq_true rfl) rfl (ft_12 F8_) (Eq.trans (xpl_up2 (by clear hyp; omega)) (xpl_up2 (by clear hyp; omega))) (fun f11_ => ?_)
  replace f11_ : -2147483648 ≤ (xpl h 12 3) ∧ (xpl h 12 3) ≤ 2147483647 := f11_
  refine xr_iload_n (pc := 121) (i := 1) (hI := d_Vocabulary_makeRoomAt_121) (hi := rfl) (hl := rfl) ?_
  refine xr_isub (pc := 122) (hI := d_Vocabulary_makeRoomAt_122) (hr := ⟨by clear hyp; omega, by clear hyp; omega⟩) ?_
  refine xr_arraycopy (pc := 123) (t := 100) (index := 64) (hI := d_Vocabulary_makeRoomAt_123) w_923 w_546 w_545 w_30 rfl p0.1.2.2 p0.1.2.2 (by clear hyp; omega) (by clear hyp; omega) (by clear hyp; omega) (by clear hyp; omega) (xle_of p0.2.2.2.2.2.1.2 (by clear hyp; omega)) (xle_of p0.2.2.2.2.2.1.2 (by clear hyp; omega)) (fun z9 => by cases z9) (Nat.le_add_left_of_le (by decide)) (Nat.le_of_ble_eq_true rfl) ?_
  have F12_ : xFix (xup (xup (xup h (xpl h 12 0) (xcpf (xpl h (xpl h 12 0)) (xpl h (xpl h 12 0)) x1 (x1 + 1) ((xpl h 12 3) - x1))) (xpl h 12 1) (xcpf (xpl (xup h (xpl h 12 0) (xcpf (xpl h (xpl h 12 0)) (xpl h (xpl h 12 0)) x1 (x1 + 1) ((xpl h 12 3) - x1))) (xpl h 12 1)) (xpl (xup h (xpl h 12 0) (xcpf (xpl h (xpl h 12 0)) (xpl h (xpl h 12 0)) x1 (x1 + 1) ((xpl h 12 3) - x1))) (xpl h 12 1)) x1 (x1 + 1) ((xpl h 12 3) - x1))) (xpl h 12 2) (xcpf (xpl (xup (xup h (xpl h 12 0) (xcpf (xpl h (xpl h 12 0)) (xpl h (xpl h 12 0)) x1 (x1 + 1) ((xpl h 12 3) - x1))) (xpl h 12 1) (xcpf (xpl (xup h (xpl h 12 0) (xcpf (xpl h (xpl h 12 0)) (xpl h (xpl h 12 0)) x1 (x1 + 1) ((xpl h 12 3) - x1))) (xpl h 12 1)) (xpl (xup h (xpl h 12 0) (xcpf (xpl h (xpl h 12 0)) (xpl h (xpl h 12 0)) x1 (x1 + 1) ((xpl h 12 3) - x1))) (xpl h 12 1)) x1 (x1 + 1) ((xpl h 12 3) - x1))) (xpl h 12 2)) (xpl (xup (xup h (xpl h 12 0) (xcpf (xpl h (xpl h 12 0)) (xpl h (xpl h 12 0)) x1 (x1 + 1) ((xpl h 12 3) - x1))) (xpl h 12 1) (xcpf (xpl (xup h (xpl h 12 0) (xcpf (xpl h (xpl h 12 0)) (xpl h (xpl h 12 0)) x1 (x1 + 1) ((xpl h 12 3) - x1))) (xpl h 12 1)) (xpl (xup h (xpl h 12 0) (xcpf (xpl h (xpl h 12 0)) (xpl h (xpl h 12 0)) x1 (x1 + 1) ((xpl h 12 3) - x1))) (xpl h 12 1)) x1 (x1 + 1) ((xpl h 12 3) - x1))) (xpl h 12 2)) x1 (x1 + 1) ((xpl h 12 3) - x1))) := F8_.upTA (t := 100) (by clear hyp; omega) p0.1.2.2 xta_100
  refine xr_aload_n (pc := 126) (i := 0) (hI := d_Vocabulary_makeRoomAt_126) (hi := rfl) (hl := rfl) ?_
  refine xr_dup (pc := 127) (hI := d_Vocabulary_makeRoomAt_127) (hv := rfl) ?_
  refine xg_getf (pc := 128) (ci := 10) (k := 3) (N := 7) (v9 := 0) (v := (xpl h 12 3)) (T := xF10) (hI := d_Vocabulary_makeRoomAt_128) (hw := w_182) rfl xi10 (Or.inl rfl) (Nat.le_of_ble_eq_true rfl) (Nat.le_of_ble_eq_true rfl) rfl (ft_12 F12_) (Eq.trans (xpl_up2 (by clear hyp; omega)) (Eq.trans (xpl_up2 (by clear hyp; omega)) (xpl_up2 (by clear hyp; omega)))) (fun f13_ => ?_)
  replace f13_ : -2147483648 ≤ (xpl h 12 3) ∧ (xpl h 12 3) ≤ 2147483647 := f13_
  refine xr_iconst (pc := 131) (hI := d_Vocabulary_makeRoomAt_131) (hr := by decide) ?_
  refine xr_iadd (pc := 132) (hI := d_Vocabulary_makeRoomAt_132) (hr := ⟨by clear hyp; omega, by clear hyp; omega⟩) ?_
  refine xr_putf (pc := 133) (ci := 10) (k := 3) (N := 7) (v9 := 0) (T := xF10) (tF := xT10) (hI := d_Vocabulary_makeRoomAt_133) (hw := w_182) rfl xi10 xt10 xn10 (Or.inl rfl) (Nat.le_of_ble_eq_true rfl) (Nat.le_of_ble_eq_true rfl) rfl xfit_i rfl (ft_12 F12_) (by decide) (fun z => z) ?_
  have F14_ : xFix (xst (xup (xup (xup h (xpl h 12 0) (xcpf (xpl h (xpl h 12 0)) (xpl h (xpl h 12 0)) x1 (x1 + 1) ((xpl h 12 3) - x1))) (xpl h 12 1) (xcpf (xpl (xup h (xpl h 12 0) (xcpf (xpl h (xpl h 12 0)) (xpl h (xpl h 12 0)) x1 (x1 + 1) ((xpl h 12 3) - x1))) (xpl h 12 1)) (xpl (xup h (xpl h 12 0) (xcpf (xpl h (xpl h 12 0)) (xpl h (xpl h 12 0)) x1 (x1 + 1) ((xpl h 12 3) - x1))) (xpl h 12 1)) x1 (x1 + 1) ((xpl h 12 3) - x1))) (xpl h 12 2) (xcpf (xpl (xup (xup h (xpl h 12 0) (xcpf (xpl h (xpl h 12 0)) (xpl h (xpl h 12 0)) x1 (x1 + 1) ((xpl h 12 3) - x1))) (xpl h 12 1) (xcpf (xpl (xup h (xpl h 12 0) (xcpf (xpl h (xpl h 12 0)) (xpl h (xpl h 12 0)) x1 (x1 + 1) ((xpl h 12 3) - x1))) (xpl h 12 1)) (xpl (xup h (xpl h 12 0) (xcpf (xpl h (xpl h 12 0)) (xpl h (xpl h 12 0)) x1 (x1 + 1) ((xpl h 12 3) - x1))) (xpl h 12 1)) x1 (x1 + 1) ((xpl h 12 3) - x1))) (xpl h 12 2)) (xpl (xup (xup h (xpl h 12 0) (xcpf (xpl h (xpl h 12 0)) (xpl h (xpl h 12 0)) x1 (x1 + 1) ((xpl h 12 3) - x1))) (xpl h 12 1) (xcpf (xpl (xup h (xpl h 12 0) (xcpf (xpl h (xpl h 12 0)) (xpl h (xpl h 12 0)) x1 (x1 + 1) ((xpl h 12 3) - x1))) (xpl h 12 1)) (xpl (xup h (xpl h 12 0) (xcpf (xpl h (xpl h 12 0)) (xpl h (xpl h 12 0)) x1 (x1 + 1) ((xpl h 12 3) - x1))) (xpl h 12 1)) x1 (x1 + 1) ((xpl h 12 3) - x1))) (xpl h 12 2)) x1 (x1 + 1) ((xpl h 12 3) - x1))) 12 3 ((xpl h 12 3) + 1)) := F12_.stL xfk_12_3
  refine xr_return (S := []) (pc := 136) (hI := d_Vocabulary_makeRoomAt_136) (hr := rfl) ?_
  exact hyp F14_
abbrev m_Vocabulary_note : XM := (⟨"BeaconIndex$Vocabulary", "note", "(JI)V"⟩, prog_11_method_5_code, 5, none, [])
theorem d_Vocabulary_note_0 : decode prog_11_method_5_code 0 = .ok (.aload_n 0, 1) := by decide +kernel
theorem d_Vocabulary_note_1 : decode prog_11_method_5_code 1 = .ok (.lload_n 1, 1) := by decide +kernel
theorem d_Vocabulary_note_2 : decode prog_11_method_5_code 2 = .ok (.invokevirtual 43, 3) := by decide +kernel
theorem k_Vocabulary_placeFor : xCal m_Vocabulary_placeFor 1 := ⟨List.mem_append_right _ (List.mem_of_getElem? (i := 896) (by decide +kernel)), w_8, Nat.le_of_ble_eq_true rfl, ⟨by decide +kernel, by decide +kernel⟩, by decide +kernel, by decide +kernel, rfl⟩
theorem w_893 : Cond.methodLink "BeaconIndex$Vocabulary" 43 ⟨"BeaconIndex$Vocabulary", "placeFor", "(J)I"⟩ ∈ lw_tbl := List.mem_append_right _ (List.mem_of_getElem? (i := 893) (by decide +kernel))
theorem w_895 : Cond.instanceMethod ⟨"BeaconIndex$Vocabulary", "placeFor", "(J)I"⟩ ∈ lw_tbl := List.mem_append_right _ (List.mem_of_getElem? (i := 895) (by decide +kernel))
theorem sel_Vocabulary_placeFor : Cond.selects "BeaconIndex$Vocabulary" ⟨"BeaconIndex$Vocabulary", "placeFor", "(J)I"⟩ ⟨"BeaconIndex$Vocabulary", "placeFor", "(J)I"⟩ ∈ lw_tbl := List.mem_append_left _ (by decide +kernel)
theorem v_Vocabulary_note_0 {G : XG} {d : Nat} {h : XH} {Q : XV → XH → Prop} {X : Nat → XH → Prop} {x1 x3 : Int} (F : xFix h) (hyp : (xwp G m_Vocabulary_placeFor (d + 3) 0 [xR 12, xL x1, xZ, xZ, xZ, xZ, xZ] [] h (fun v9 h9 => xwp G m_Vocabulary_note (d + 4) 5 [xR 12, xL x1, xZ, xI x3, xZ] (xpush v9 []) h9 Q X) X)) : xwp G m_Vocabulary_note (d + 4) 0 [xR 12, xL x1, xZ, xI x3, xZ] [] h Q X := by
  have hnx9 : (93 : Int) ≤ xnx h := F.2.2
  refine xr_okL (fun hl9 => ?_)
  have r_x1 : -9223372036854775808 ≤ x1 ∧ x1 ≤ 9223372036854775807 := hl9 (xL x1) (.tail _ (.head _)) (Nat.le_of_ble_eq_true rfl)
  have r_x3 : -2147483648 ≤ x3 ∧ x3 ≤ 2147483647 := hl9 (xI x3) (.tail _ (.tail _ (.tail _ (.head _)))) (Nat.le_of_ble_eq_true rfl)
  refine xr_aload_n (pc := 0) (i := 0) (hI := d_Vocabulary_note_0) (hi := rfl) (hl := rfl) ?_
  refine xr_lload_n (pc := 1) (i := 1) (hI := d_Vocabulary_note_1) (hi := rfl) (hl := rfl) ?_
  exact xq_callV (pc := 2) (index := 43) (K := m_Vocabulary_placeFor) (As := [xL x1]) (S := []) (L0 := [xR 12, xL x1, xZ, xZ, xZ, xZ, xZ]) (hI := d_Vocabulary_note_2) (hK := k_Vocabulary_placeFor) (hlk := w_893) (hnoM := rfl) (hS8 := Nat.le_of_ble_eq_true rfl) (ci := 10) (N := 7) (C := "BeaconIndex$Vocabulary") (T := xF10) (hc := rfl) (hci := Nat.le_of_ble_eq_true rfl) (htb := (ft_12 F)) (hinst := w_895) (hsel := sel_Vocabulary_placeFor) (hlen := Nat.le_of_ble_eq_true rfl) (hst := rfl) (hL0 := rfl)  hyp
theorem d_Vocabulary_note_5 : decode prog_11_method_5_code 5 = .ok (.istore 4, 2) := by decide +kernel
theorem d_Vocabulary_note_7 : decode prog_11_method_5_code 7 = .ok (.iload 4, 2) := by decide +kernel
theorem d_Vocabulary_note_9 : decode prog_11_method_5_code 9 = .ok (.aload_n 0, 1) := by decide +kernel
theorem d_Vocabulary_note_10 : decode prog_11_method_5_code 10 = .ok (.getfield 22, 3) := by decide +kernel
theorem d_Vocabulary_note_13 : decode prog_11_method_5_code 13 = .ok (.if_icmp .ge 14, 3) := by decide +kernel
theorem d_Vocabulary_note_27 : decode prog_11_method_5_code 27 = .ok (.aload_n 0, 1) := by decide +kernel
theorem d_Vocabulary_note_28 : decode prog_11_method_5_code 28 = .ok (.iload 4, 2) := by decide +kernel
theorem d_Vocabulary_note_30 : decode prog_11_method_5_code 30 = .ok (.invokevirtual 51, 3) := by decide +kernel
theorem k_Vocabulary_makeRoomAt : xCal m_Vocabulary_makeRoomAt 1 := ⟨List.mem_append_right _ (List.mem_of_getElem? (i := 904) (by decide +kernel)), w_8, Nat.le_of_ble_eq_true rfl, ⟨by decide +kernel, by decide +kernel⟩, by decide +kernel, by decide +kernel, rfl⟩
theorem w_901 : Cond.methodLink "BeaconIndex$Vocabulary" 51 ⟨"BeaconIndex$Vocabulary", "makeRoomAt", "(I)V"⟩ ∈ lw_tbl := List.mem_append_right _ (List.mem_of_getElem? (i := 901) (by decide +kernel))
theorem w_903 : Cond.instanceMethod ⟨"BeaconIndex$Vocabulary", "makeRoomAt", "(I)V"⟩ ∈ lw_tbl := List.mem_append_right _ (List.mem_of_getElem? (i := 903) (by decide +kernel))
theorem sel_Vocabulary_makeRoomAt : Cond.selects "BeaconIndex$Vocabulary" ⟨"BeaconIndex$Vocabulary", "makeRoomAt", "(I)V"⟩ ⟨"BeaconIndex$Vocabulary", "makeRoomAt", "(I)V"⟩ ∈ lw_tbl := List.mem_append_left _ (by decide +kernel)
theorem d_Vocabulary_note_16 : decode prog_11_method_5_code 16 = .ok (.aload_n 0, 1) := by decide +kernel
theorem d_Vocabulary_note_17 : decode prog_11_method_5_code 17 = .ok (.iload 4, 2) := by decide +kernel
theorem d_Vocabulary_note_19 : decode prog_11_method_5_code 19 = .ok (.invokevirtual 47, 3) := by decide +kernel
theorem d_Vocabulary_note_22 : decode prog_11_method_5_code 22 = .ok (.lload_n 1, 1) := by decide +kernel
theorem d_Vocabulary_note_23 : decode prog_11_method_5_code 23 = .ok (.lcmp, 1) := by decide +kernel
theorem d_Vocabulary_note_24 : decode prog_11_method_5_code 24 = .ok (.ifCond .eq 36, 3) := by decide +kernel
theorem d_Vocabulary_note_60 : decode prog_11_method_5_code 60 = .ok (.aload_n 0, 1) := by decide +kernel
theorem d_Vocabulary_note_61 : decode prog_11_method_5_code 61 = .ok (.getfield 19, 3) := by decide +kernel
theorem d_Vocabulary_note_64 : decode prog_11_method_5_code 64 = .ok (.iload 4, 2) := by decide +kernel
theorem d_Vocabulary_note_66 : decode prog_11_method_5_code 66 = .ok (.iaload, 1) := by decide +kernel
theorem d_Vocabulary_note_67 : decode prog_11_method_5_code 67 = .ok (.iload_n 3, 1) := by decide +kernel
theorem d_Vocabulary_note_68 : decode prog_11_method_5_code 68 = .ok (.if_icmp .eq 22, 3) := by decide +kernel
theorem d_Vocabulary_note_90 : decode prog_11_method_5_code 90 = .ok (.return_, 1) := by decide +kernel
theorem d_Vocabulary_note_71 : decode prog_11_method_5_code 71 = .ok (.aload_n 0, 1) := by decide +kernel
theorem d_Vocabulary_note_72 : decode prog_11_method_5_code 72 = .ok (.getfield 15, 3) := by decide +kernel
theorem d_Vocabulary_note_75 : decode prog_11_method_5_code 75 = .ok (.iload 4, 2) := by decide +kernel
theorem d_Vocabulary_note_77 : decode prog_11_method_5_code 77 = .ok (.dup2, 1) := by decide +kernel
theorem d_Vocabulary_note_78 : decode prog_11_method_5_code 78 = .ok (.iaload, 1) := by decide +kernel
theorem d_Vocabulary_note_79 : decode prog_11_method_5_code 79 = .ok (.iconst 1, 1) := by decide +kernel
theorem d_Vocabulary_note_80 : decode prog_11_method_5_code 80 = .ok (.iadd, 1) := by decide +kernel
theorem d_Vocabulary_note_81 : decode prog_11_method_5_code 81 = .ok (.iastore, 1) := by decide +kernel
theorem d_Vocabulary_note_82 : decode prog_11_method_5_code 82 = .ok (.aload_n 0, 1) := by decide +kernel
theorem d_Vocabulary_note_83 : decode prog_11_method_5_code 83 = .ok (.getfield 19, 3) := by decide +kernel
theorem d_Vocabulary_note_86 : decode prog_11_method_5_code 86 = .ok (.iload 4, 2) := by decide +kernel
theorem d_Vocabulary_note_88 : decode prog_11_method_5_code 88 = .ok (.iload_n 3, 1) := by decide +kernel
theorem d_Vocabulary_note_89 : decode prog_11_method_5_code 89 = .ok (.iastore, 1) := by decide +kernel
theorem v_Vocabulary_note_5 {G : XG} {d : Nat} {h : XH} {Q : XV → XH → Prop} {X : Nat → XH → Prop} {x1 x3 s0 : Int} (F : xFix h) (p0 : vok h) (pa : 13 ≤ xpl h 12 0) (pb : 13 ≤ xpl h 12 1) (pc : 13 ≤ xpl h 12 2) (pd : 0 ≤ xpl h 12 3) (pe : xpl h 12 3 ≤ xln h (xpl h 12 0)) (pf : 64 ≤ xln h (xpl h 12 0)) (pg : xln h (xpl h 12 0) ≤ 32768) (ph : 0 ≤ s0) (pi : s0 ≤ xpl h 12 3) (hyp : (((xpl h 12 3) ≤ s0 → (xwp G m_Vocabulary_makeRoomAt (d + 3) 0 [xR 12, xI s0] [] h (fun v9 h9 => xwp G m_Vocabulary_note (d + 4) 33 [xR 12, xL x1, xZ, xI x3, xI s0] (xpush v9 []) h9 Q X) X)) ∧ (¬ (xpl h 12 3) ≤ s0 → (((vwa h s0) = x1 → (((xpl h (xpl h 12 2) s0) = x3 → (Q xN h)) ∧ (¬ (xpl h (xpl h 12 2) s0) = x3 → xiR ((xpl h (xpl h 12 1) s0) + 1) ∧ (xFix (xst (xst h (xpl h 12 1) s0 ((xpl h (xpl h 12 1) s0) + 1)) (xpl h 12 2) s0 x3) → Q xN (xst (xst h (xpl h 12 1) s0 ((xpl h (xpl h 12 1) s0) + 1)) (xpl h 12 2) s0 x3))))) ∧ (¬ (vwa h s0) = x1 → (xwp G m_Vocabulary_makeRoomAt (d + 3) 0 [xR 12, xI s0] [] h (fun v9 h9 => xwp G m_Vocabulary_note (d + 4) 33 [xR 12, xL x1, xZ, xI x3, xI s0] (xpush v9 []) h9 Q X) X)))))) : xwp G m_Vocabulary_note (d + 4) 5 [xR 12, xL x1, xZ, xI x3, xZ] [xI s0] h Q X := by
  have hnx9 : (93 : Int) ≤ xnx h := F.2.2
  refine xr_okL (fun hl9 => ?_)
  have r_x1 : -9223372036854775808 ≤ x1 ∧ x1 ≤ 9223372036854775807 := hl9 (xL x1) (.tail _ (.head _)) (Nat.le_of_ble_eq_true rfl)
  have r_x3 : -2147483648 ≤ x3 ∧ x3 ≤ 2147483647 := hl9 (xI x3) (.tail _ (.tail _ (.tail _ (.head _)))) (Nat.le_of_ble_eq_true rfl)
  refine xr_okS (fun hs9 => ?_)
  have r_s0 : -2147483648 ≤ s0 ∧ s0 ≤ 2147483647 := hs9 (xI s0) (.head _)
  refine xr_istore (pc := 5) (i := 4) (L9 := [xR 12, xL x1, xZ, xI x3, xI s0]) (hI := d_Vocabulary_note_5) (hn := Nat.le_of_ble_eq_true rfl) (hL9 := rfl) ?_
  refine xr_iload (pc := 7) (i := 4) (hI := d_Vocabulary_note_7) (hl := rfl) ?_
  refine xr_aload_n (pc := 9) (i := 0) (hI := d_Vocabulary_note_9) (hi := rfl) (hl := rfl) ?_
  refine xg_getf (pc := 10) (ci := 10) (k := 3) (N := 7) (v9 := 0) (v := (xpl h 12 3)) (T := xF10) (hI := d_Vocabulary_note_10) (hw := w_182) rfl xi10 (Or.inl rfl) (Nat.le_of_ble_eq_true rfl) (Nat.le_of_ble_eq_true rfl) rfl (ft_12 F) rfl (fun f1_ => ?_)
  replace f1_ : -2147483648 ≤ (xpl h 12 3) ∧ (xpl h 12 3) ≤ 2147483647 := f1_
  refine xr_icmp_ge (pc := 13) (tgt := 27) (hI := d_Vocabulary_note_13) (ht := by decide) (fun q9 => ?_) (fun q9 => ?_)
  · replace hyp := hyp.1 q9
    have q2_ := q9
    clear q9
    refine xr_aload_n (pc := 27) (i := 0) (hI := d_Vocabulary_note_27) (hi := rfl) (hl := rfl) ?_
    refine xr_iload (pc := 28) (i := 4) (hI := d_Vocabulary_note_28) (hl := rfl) ?_
    exact xq_callV (pc := 30) (index := 51) (K := m_Vocabulary_makeRoomAt) (As := [xI s0]) (S := []) (L0 := [xR 12, xI s0]) (hI := d_Vocabulary_note_30) (hK := k_Vocabulary_makeRoomAt) (hlk := w_901) (hnoM := rfl) (hS8 := Nat.le_of_ble_eq_true rfl) (ci := 10) (N := 7) (C := "BeaconIndex$Vocabulary") (T := xF10) (hc := rfl) (hci := Nat.le_of_ble_eq_true rfl) (htb := (ft_12 F)) (hinst := w_903) (hsel := sel_Vocabulary_makeRoomAt) (hlen := Nat.le_of_ble_eq_true rfl) (hst := rfl) (hL0 := rfl)  hyp
  · replace hyp := hyp.2 q9
    have q2_ := q9
    clear q9
    refine xr_aload_n (pc := 16) (i := 0) (hI := d_Vocabulary_note_16) (hi := rfl) (hl := rfl) ?_
    refine xr_iload (pc := 17) (i := 4) (hI := d_Vocabulary_note_17) (hl := rfl) ?_
    refine xq_callV (pc := 19) (index := 47) (K := m_Vocabulary_wordAt) (As := [xI s0]) (S := []) (L0 := [xR 12, xI s0]) (hI := d_Vocabulary_note_19) (hK := k_Vocabulary_wordAt) (hlk := w_897) (hnoM := rfl) (hS8 := Nat.le_of_ble_eq_true rfl) (ci := 10) (N := 7) (C := "BeaconIndex$Vocabulary") (T := xF10) (hc := rfl) (hci := Nat.le_of_ble_eq_true rfl) (htb := (ft_12 F)) (hinst := w_898) (hsel := w_899) (hlen := Nat.le_of_ble_eq_true rfl) (hst := rfl) (hL0 := rfl)  (p_Voc_wordAt F p0 ?_)
    show xwp G m_Vocabulary_note (d + 4) 22 [xR 12, xL x1, xZ, xI x3, xI s0] [xL (vwa h s0)] _ _ _
    refine xr_lload_n (pc := 22) (i := 1) (hI := d_Vocabulary_note_22) (hi := rfl) (hl := rfl) ?_
    refine xr_lcmp (pc := 23) (hI := d_Vocabulary_note_23) ?_
    refine xg_lif_eq (pc := 24) (tgt := 60) (hI := d_Vocabulary_note_24) (ht := by decide) (fun q9 => ?_) (fun q9 => ?_)
    · replace hyp := hyp.1 q9
      have q3_ := q9
      clear q9
      refine xr_aload_n (pc := 60) (i := 0) (hI := d_Vocabulary_note_60) (hi := rfl) (hl := rfl) ?_
      refine xg_getf (pc := 61) (ci := 10) (k := 2) (N := 7) (v9 := 2) (v := (xpl h 12 2)) (T := xF10) (hI := d_Vocabulary_note_61) (hw := w_181) rfl xi10 (Or.inl rfl) (Nat.le_of_ble_eq_true rfl) (Nat.le_of_ble_eq_true rfl) rfl (ft_12 F) rfl (fun f4_ => ?_)
      clear f4_
      refine xr_iload (pc := 64) (i := 4) (hI := d_Vocabulary_note_64) (hl := rfl) ?_
      refine xg_iaload (pc := 66) (v := (xpl h (xpl h 12 2) s0)) (hI := d_Vocabulary_note_66) p0.1.2.2 (by clear hyp; omega) (xlt_of p0.2.2.2.2.2.1.2 (by clear hyp; omega)) rfl (fun f5_ => ?_)
      replace f5_ : -2147483648 ≤ (xpl h (xpl h 12 2) s0) ∧ (xpl h (xpl h 12 2) s0) ≤ 2147483647 := f5_
      refine xr_iload_n (pc := 67) (i := 3) (hI := d_Vocabulary_note_67) (hi := rfl) (hl := rfl) ?_
      refine xr_icmp_eq (pc := 68) (tgt := 90) (hI := d_Vocabulary_note_68) (ht := by decide) (fun q9 => ?_) (fun q9 => ?_)
      · replace hyp := hyp.1 q9
        have q6_ := q9
        clear q9
        refine xr_return (S := []) (pc := 90) (hI := d_Vocabulary_note_90) (hr := rfl) ?_
        exact hyp
      · replace hyp := hyp.2 q9
        have q6_ := q9
        clear q9
        refine xr_aload_n (pc := 71) (i := 0) (hI := d_Vocabulary_note_71) (hi := rfl) (hl := rfl) ?_
        refine xg_getf (pc := 72) (ci := 10) (k := 1) (N := 7) (v9 := 2) (v := (xpl h 12 1)) (T := xF10) (hI := d_Vocabulary_note_72) (hw := w_180) rfl xi10 (Or.inl rfl) (Nat.le_of_ble_eq_true rfl) (Nat.le_of_ble_eq_true rfl) rfl (ft_12 F) rfl (fun f7_ => ?_)
        clear f7_
        refine xr_iload (pc := 75) (i := 4) (hI := d_Vocabulary_note_75) (hl := rfl) ?_
        refine xr_dup2 (pc := 77) (hI := d_Vocabulary_note_77) (hv := rfl) (hw := rfl) ?_
        refine xg_iaload (pc := 78) (v := (xpl h (xpl h 12 1) s0)) (hI := d_Vocabulary_note_78) p0.1.2.1 (by clear hyp; omega) (xlt_of p0.2.2.2.2.2.1.1 (by clear hyp; omega)) rfl (fun f8_ => ?_)
        replace f8_ : -2147483648 ≤ (xpl h (xpl h 12 1) s0) ∧ (xpl h (xpl h 12 1) s0) ≤ 2147483647 := f8_
        refine xr_iconst (pc := 79) (hI := d_Vocabulary_note_79) (hr := by decide) ?_
        obtain ⟨c9, hyp⟩ := hyp
        refine xr_iadd (pc := 80) (hI := d_Vocabulary_note_80) (hr := c9) ?_
        refine xr_iastore (pc := 81) (hI := d_Vocabulary_note_81) p0.1.2.1 (by clear hyp; omega) (by clear hyp; omega) (xlt_of p0.2.2.2.2.2.1.1 (by clear hyp; omega)) ?_
        have F9_ : xFix (xst h (xpl h 12 1) s0 ((xpl h (xpl h 12 1) s0) + 1)) := F.stTA (t := 100) (by clear hyp; omega) p0.1.2.1 xta_100
        refine xr_aload_n (pc := 82) (i := 0) (hI := d_Vocabulary_note_82) (hi := rfl) (hl := rfl) ?_
        refine xg_getf (pc := 83) (ci := 10) (k := 2) (N := 7) (v9 := 2) (v := (xpl h 12 2)) (T := xF10) (hI := d_Vocabulary_note_83) (hw := w_181) rfl xi10 (Or.inl rfl) (Nat.le_of_ble_eq_true rfl) (Nat.le_of_ble_eq_true rfl) rfl (ft_12 F9_) (xpl_oa (by clear hyp; omega)) (fun f10_ => ?_)
        clear f10_
        refine xr_iload (pc := 86) (i := 4) (hI := d_Vocabulary_note_86) (hl := rfl) ?_
        refine xr_iload_n (pc := 88) (i := 3) (hI := d_Vocabulary_note_88) (hi := rfl) (hl := rfl) ?_
        refine xr_iastore (pc := 89) (hI := d_Vocabulary_note_89) p0.1.2.2 (by clear hyp; omega) (by clear hyp; omega) (xlt_of p0.2.2.2.2.2.1.2 (by clear hyp; omega)) ?_
        have F11_ : xFix (xst (xst h (xpl h 12 1) s0 ((xpl h (xpl h 12 1) s0) + 1)) (xpl h 12 2) s0 x3) := F9_.stTA (t := 100) (by clear hyp; omega) p0.1.2.2 xta_100
        refine xr_return (S := []) (pc := 90) (hI := d_Vocabulary_note_90) (hr := rfl) ?_
        exact hyp F11_
    · replace hyp := hyp.2 q9
      have q3_ := q9
      clear q9
      refine xr_aload_n (pc := 27) (i := 0) (hI := d_Vocabulary_note_27) (hi := rfl) (hl := rfl) ?_
      refine xr_iload (pc := 28) (i := 4) (hI := d_Vocabulary_note_28) (hl := rfl) ?_
      exact xq_callV (pc := 30) (index := 51) (K := m_Vocabulary_makeRoomAt) (As := [xI s0]) (S := []) (L0 := [xR 12, xI s0]) (hI := d_Vocabulary_note_30) (hK := k_Vocabulary_makeRoomAt) (hlk := w_901) (hnoM := rfl) (hS8 := Nat.le_of_ble_eq_true rfl) (ci := 10) (N := 7) (C := "BeaconIndex$Vocabulary") (T := xF10) (hc := rfl) (hci := Nat.le_of_ble_eq_true rfl) (htb := (ft_12 F)) (hinst := w_903) (hsel := sel_Vocabulary_makeRoomAt) (hlen := Nat.le_of_ble_eq_true rfl) (hst := rfl) (hL0 := rfl)  hyp
theorem d_Vocabulary_note_33 : decode prog_11_method_5_code 33 = .ok (.aload_n 0, 1) := by decide +kernel
theorem d_Vocabulary_note_34 : decode prog_11_method_5_code 34 = .ok (.getfield 9, 3) := by decide +kernel
theorem d_Vocabulary_note_37 : decode prog_11_method_5_code 37 = .ok (.iload 4, 2) := by decide +kernel
theorem d_Vocabulary_note_39 : decode prog_11_method_5_code 39 = .ok (.lload_n 1, 1) := by decide +kernel
theorem d_Vocabulary_note_40 : decode prog_11_method_5_code 40 = .ok (.lastore, 1) := by decide +kernel
theorem d_Vocabulary_note_41 : decode prog_11_method_5_code 41 = .ok (.aload_n 0, 1) := by decide +kernel
theorem d_Vocabulary_note_42 : decode prog_11_method_5_code 42 = .ok (.getfield 15, 3) := by decide +kernel
theorem d_Vocabulary_note_45 : decode prog_11_method_5_code 45 = .ok (.iload 4, 2) := by decide +kernel
theorem d_Vocabulary_note_47 : decode prog_11_method_5_code 47 = .ok (.iconst 1, 1) := by decide +kernel
theorem d_Vocabulary_note_48 : decode prog_11_method_5_code 48 = .ok (.iastore, 1) := by decide +kernel
theorem d_Vocabulary_note_49 : decode prog_11_method_5_code 49 = .ok (.aload_n 0, 1) := by decide +kernel
theorem d_Vocabulary_note_50 : decode prog_11_method_5_code 50 = .ok (.getfield 19, 3) := by decide +kernel
theorem d_Vocabulary_note_53 : decode prog_11_method_5_code 53 = .ok (.iload 4, 2) := by decide +kernel
theorem d_Vocabulary_note_55 : decode prog_11_method_5_code 55 = .ok (.iload_n 3, 1) := by decide +kernel
theorem d_Vocabulary_note_56 : decode prog_11_method_5_code 56 = .ok (.iastore, 1) := by decide +kernel
theorem d_Vocabulary_note_57 : decode prog_11_method_5_code 57 = .ok (.goto 33, 3) := by decide +kernel
theorem v_Vocabulary_note_33 {G : XG} {d : Nat} {h : XH} {Q : XV → XH → Prop} {X : Nat → XH → Prop} {x1 x3 x4 : Int} (F : xFix h) (p0 : vok h) (pa : 13 ≤ xpl h 12 0) (pb : 13 ≤ xpl h 12 1) (pc : 13 ≤ xpl h 12 2) (pd : 0 ≤ xpl h 12 3) (pe : xpl h 12 3 ≤ xln h (xpl h 12 0)) (pf : 64 ≤ xln h (xpl h 12 0)) (pg : xln h (xpl h 12 0) ≤ 32768) (ph : 0 ≤ x4) (pi : x4 < xpl h 12 3) (hyp : (xFix (xst (xst (xst h (xpl h 12 0) x4 x1) (xpl h 12 1) x4 1) (xpl h 12 2) x4 x3) → Q xN (xst (xst (xst h (xpl h 12 0) x4 x1) (xpl h 12 1) x4 1) (xpl h 12 2) x4 x3))) : xwp G m_Vocabulary_note (d + 4) 33 [xR 12, xL x1, xZ, xI x3, xI x4] [] h Q X := by
  have hnx9 : (93 : Int) ≤ xnx h := F.2.2
  refine xr_okL (fun hl9 => ?_)
  have r_x1 : -9223372036854775808 ≤ x1 ∧ x1 ≤ 9223372036854775807 := hl9 (xL x1) (.tail _ (.head _)) (Nat.le_of_ble_eq_true rfl)
  have r_x3 : -2147483648 ≤ x3 ∧ x3 ≤ 2147483647 := hl9 (xI x3) (.tail _ (.tail _ (.tail _ (.head _)))) (Nat.le_of_ble_eq_true rfl)
  have r_x4 : -2147483648 ≤ x4 ∧ x4 ≤ 2147483647 := hl9 (xI x4) (.tail _ (.tail _ (.tail _ (.tail _ (.head _))))) (Nat.le_of_ble_eq_true rfl)
  refine xr_aload_n (pc := 33) (i := 0) (hI := d_Vocabulary_note_33) (hi := rfl) (hl := rfl) ?_
  refine xg_getf (pc := 34) (ci := 10) (k := 0) (N := 7) (v9 := 2) (v := (xpl h 12 0)) (T := xF10) (hI := d_Vocabulary_note_34) (hw := w_179) rfl xi10 (Or.inl rfl) (Nat.le_of_ble_eq_true rfl) (Nat.le_of_ble_eq_true rfl) rfl (ft_12 F) rfl (fun f1_ => ?_)
  clear f1_
  refine xr_iload (pc := 37) (i := 4) (hI := d_Vocabulary_note_37) (hl := rfl) ?_
  refine xr_lload_n (pc := 39) (i := 1) (hI := d_Vocabulary_note_39) (hi := rfl) (hl := rfl) ?_
  refine xr_lastore (pc := 40) (hI := d_Vocabulary_note_40) p0.1.1 (by clear hyp; omega) (by clear hyp; omega) (xlt_of rfl (by clear hyp; omega)) ?_
  have F2_ : xFix (xst h (xpl h 12 0) x4 x1) := F.stTA (t := 101) (by clear hyp; omega) p0.1.1 xta_101
  refine xr_aload_n (pc := 41) (i := 0) (hI := d_Vocabulary_note_41) (hi := rfl) (hl := rfl) ?_
  refine xg_getf (pc := 42) (ci := 10) (k := 1) (N := 7) (v9 := 2) (v := (xpl h 12 1)) (T := xF10) (hI := d_Vocabulary_note_42) (hw := w_180) rfl xi10 (Or.inl rfl) (Nat.le_of_ble_eq_true rfl) (Nat.le_of_ble_eq_true rfl) rfl (ft_12 F2_) (xpl_oa (by clear hyp; omega)) (fun f3_ => ?_)
  clear f3_
  refine xr_iload (pc := 45) (i := 4) (hI := d_Vocabulary_note_45) (hl := rfl) ?_
  refine xr_iconst (pc := 47) (hI := d_Vocabulary_note_47) (hr := by decide) ?_
  refine xr_iastore (pc := 48) (hI := d_Vocabulary_note_48) p0.1.2.1 (by clear hyp; omega) (by clear hyp; omega) (xlt_of p0.2.2.2.2.2.1.1 (by clear hyp; omega)) ?_
  have F4_ : xFix (xst (xst h (xpl h 12 0) x4 x1) (xpl h 12 1) x4 1) := F2_.stTA (t := 100) (by clear hyp; omega) p0.1.2.1 xta_100
  refine xr_aload_n (pc := 49) (i := 0) (hI := d_Vocabulary_note_49) (hi := rfl) (hl := rfl) ?_
  refine xg_getf (pc := 50) (ci := 10) (k := 2) (N := 7) (v9 := 2) (v := (xpl h 12 2)) (T := xF10) (hI := d_Vocabulary_note_50) (hw := w_181) rfl xi10 (Or.inl rfl) (Nat.le_of_ble_eq_true rfl) (Nat.le_of_ble_eq_true rfl) rfl (ft_12 F4_) (Eq.trans (xpl_oa (by clear hyp; omega)) (xpl_oa (by clear hyp; omega))) (fun f5_ => ?_)
  clear f5_
  refine xr_iload (pc := 53) (i := 4) (hI := d_Vocabulary_note_53) (hl := rfl) ?_
  refine xr_iload_n (pc := 55) (i := 3) (hI := d_Vocabulary_note_55) (hi := rfl) (hl := rfl) ?_
  refine xr_iastore (pc := 56) (hI := d_Vocabulary_note_56) p0.1.2.2 (by clear hyp; omega) (by clear hyp; omega) (xlt_of p0.2.2.2.2.2.1.2 (by clear hyp; omega)) ?_
  have F6_ : xFix (xst (xst (xst h (xpl h 12 0) x4 x1) (xpl h 12 1) x4 1) (xpl h 12 2) x4 x3) := F4_.stTA (t := 100) (by clear hyp; omega) p0.1.2.2 xta_100
  refine xr_goto (pc := 57) (tgt := 90) (hI := d_Vocabulary_note_57) (ht := by decide) ?_
  refine xr_return (S := []) (pc := 90) (hI := d_Vocabulary_note_90) (hr := rfl) ?_
  exact hyp F6_
abbrev m_Vocabulary_noteRow : XM := (⟨"BeaconIndex$Vocabulary", "noteRow", "([JI)V"⟩, prog_11_method_4_code, 4, none, [])
theorem d_Vocabulary_noteRow_0 : decode prog_11_method_4_code 0 = .ok (.iconst 0, 1) := by decide +kernel
theorem d_Vocabulary_noteRow_1 : decode prog_11_method_4_code 1 = .ok (.istore_n 3, 1) := by decide +kernel
theorem v_Vocabulary_noteRow_0 {G : XG} {d : Nat} {h : XH} {Q : XV → XH → Prop} {X : Nat → XH → Prop} {x1 x2 : Int} (F : xFix h) (hyp : (xwp G m_Vocabulary_noteRow (d + 5) 2 [xR 12, xR x1, xI x2, xI 0] [] h Q X)) : xwp G m_Vocabulary_noteRow (d + 5) 0 [xR 12, xR x1, xI x2, xZ] [] h Q X := by
  have hnx9 : (93 : Int) ≤ xnx h := F.2.2
  refine xr_okL (fun hl9 => ?_)
  have r_x2 : -2147483648 ≤ x2 ∧ x2 ≤ 2147483647 := hl9 (xI x2) (.tail _ (.tail _ (.head _))) (Nat.le_of_ble_eq_true rfl)
  refine xr_iconst (pc := 0) (hI := d_Vocabulary_noteRow_0) (hr := by decide) ?_
  refine xr_istore_n (pc := 1) (i := 3) (L9 := [xR 12, xR x1, xI x2, xI 0]) (hI := d_Vocabulary_noteRow_1) (hi := rfl) (hn := Nat.le_of_ble_eq_true rfl) (hL9 := rfl) ?_
  exact hyp
theorem d_Vocabulary_noteRow_2 : decode prog_11_method_4_code 2 = .ok (.iload_n 3, 1) := by decide +kernel
theorem d_Vocabulary_noteRow_3 : decode prog_11_method_4_code 3 = .ok (.aload_n 1, 1) := by decide +kernel
theorem d_Vocabulary_noteRow_4 : decode prog_11_method_4_code 4 = .ok (.arraylength, 1) := by decide +kernel
theorem d_Vocabulary_noteRow_5 : decode prog_11_method_4_code 5 = .ok (.if_icmp .ge 27, 3) := by decide +kernel
theorem d_Vocabulary_noteRow_32 : decode prog_11_method_4_code 32 = .ok (.return_, 1) := by decide +kernel
theorem d_Vocabulary_noteRow_8 : decode prog_11_method_4_code 8 = .ok (.aload_n 1, 1) := by decide +kernel
theorem d_Vocabulary_noteRow_9 : decode prog_11_method_4_code 9 = .ok (.iload_n 3, 1) := by decide +kernel
theorem d_Vocabulary_noteRow_10 : decode prog_11_method_4_code 10 = .ok (.laload, 1) := by decide +kernel
theorem d_Vocabulary_noteRow_11 : decode prog_11_method_4_code 11 = .ok (.ldc2_w 37, 3) := by decide +kernel
theorem w_888 : Cond.constantLong "BeaconIndex$Vocabulary" 37 (-1 : Int64) ∈ lw_tbl := List.mem_append_right _ (List.mem_of_getElem? (i := 888) (by decide +kernel))
theorem d_Vocabulary_noteRow_14 : decode prog_11_method_4_code 14 = .ok (.lcmp, 1) := by decide +kernel
theorem d_Vocabulary_noteRow_15 : decode prog_11_method_4_code 15 = .ok (.ifCond .eq 11, 3) := by decide +kernel
theorem d_Vocabulary_noteRow_18 : decode prog_11_method_4_code 18 = .ok (.aload_n 0, 1) := by decide +kernel
theorem d_Vocabulary_noteRow_19 : decode prog_11_method_4_code 19 = .ok (.aload_n 1, 1) := by decide +kernel
theorem d_Vocabulary_noteRow_20 : decode prog_11_method_4_code 20 = .ok (.iload_n 3, 1) := by decide +kernel
theorem d_Vocabulary_noteRow_21 : decode prog_11_method_4_code 21 = .ok (.laload, 1) := by decide +kernel
theorem d_Vocabulary_noteRow_22 : decode prog_11_method_4_code 22 = .ok (.iload_n 2, 1) := by decide +kernel
theorem d_Vocabulary_noteRow_23 : decode prog_11_method_4_code 23 = .ok (.invokevirtual 39, 3) := by decide +kernel
theorem k_Vocabulary_note : xCal m_Vocabulary_note 2 := ⟨List.mem_append_right _ (List.mem_of_getElem? (i := 892) (by decide +kernel)), w_8, Nat.le_of_ble_eq_true rfl, ⟨by decide +kernel, by decide +kernel⟩, by decide +kernel, by decide +kernel, rfl⟩
theorem w_889 : Cond.methodLink "BeaconIndex$Vocabulary" 39 ⟨"BeaconIndex$Vocabulary", "note", "(JI)V"⟩ ∈ lw_tbl := List.mem_append_right _ (List.mem_of_getElem? (i := 889) (by decide +kernel))
theorem w_891 : Cond.instanceMethod ⟨"BeaconIndex$Vocabulary", "note", "(JI)V"⟩ ∈ lw_tbl := List.mem_append_right _ (List.mem_of_getElem? (i := 891) (by decide +kernel))
theorem sel_Vocabulary_note : Cond.selects "BeaconIndex$Vocabulary" ⟨"BeaconIndex$Vocabulary", "note", "(JI)V"⟩ ⟨"BeaconIndex$Vocabulary", "note", "(JI)V"⟩ ∈ lw_tbl := List.mem_append_left _ (by decide +kernel)
theorem v_Vocabulary_noteRow_2 {G : XG} {d : Nat} {h : XH} {Q : XV → XH → Prop} {X : Nat → XH → Prop} {x1 x2 x3 : Int} (F : xFix h) (hyp : xtg h x1 = 101 ∧ (((xln h x1) ≤ x3 → (Q xN h)) ∧ (¬ (xln h x1) ≤ x3 → 0 ≤ x3 ∧ (((xpl h x1 x3) = (-1) → (xwp G m_Vocabulary_noteRow (d + 5) 26 [xR 12, xR x1, xI x2, xI x3] [] h Q X)) ∧ (¬ (xpl h x1 x3) = (-1) → (xwp G m_Vocabulary_note (d + 4) 0 [xR 12, xL (xpl h x1 x3), xZ, xI x2, xZ] [] h (fun v9 h9 => xwp G m_Vocabulary_noteRow (d + 5) 26 [xR 12, xR x1, xI x2, xI x3] (xpush v9 []) h9 Q X) X)))))) : xwp G m_Vocabulary_noteRow (d + 5) 2 [xR 12, xR x1, xI x2, xI x3] [] h Q X := by
  have hnx9 : (93 : Int) ≤ xnx h := F.2.2
  refine xr_okL (fun hl9 => ?_)
  have r_x2 : -2147483648 ≤ x2 ∧ x2 ≤ 2147483647 := hl9 (xI x2) (.tail _ (.tail _ (.head _))) (Nat.le_of_ble_eq_true rfl)
  have r_x3 : -2147483648 ≤ x3 ∧ x3 ≤ 2147483647 := hl9 (xI x3) (.tail _ (.tail _ (.tail _ (.head _)))) (Nat.le_of_ble_eq_true rfl)
  refine xr_iload_n (pc := 2) (i := 3) (hI := d_Vocabulary_noteRow_2) (hi := rfl) (hl := rfl) ?_
  refine xr_aload_n (pc := 3) (i := 1) (hI := d_Vocabulary_noteRow_3) (hi := rfl) (hl := rfl) ?_
  obtain ⟨c9, hyp⟩ := hyp
  have t1_ := c9
  clear c9
  refine xg_alen (pc := 4) (t := 101) (v := (xln h x1)) (hI := d_Vocabulary_noteRow_4) t1_ (Nat.le_of_ble_eq_true rfl) (Nat.le_of_ble_eq_true rfl) rfl rfl (fun f2_ f3_ => ?_)
  refine xr_icmp_ge (pc := 5) (tgt := 32) (hI := d_Vocabulary_noteRow_5) (ht := by decide) (fun q9 => ?_) (fun q9 => ?_)
  · replace hyp := hyp.1 q9
    have q4_ := q9
    clear q9
    refine xr_return (S := []) (pc := 32) (hI := d_Vocabulary_noteRow_32) (hr := rfl) ?_
    exact hyp
  · replace hyp := hyp.2 q9
    have q4_ := q9
    clear q9
    refine xr_aload_n (pc := 8) (i := 1) (hI := d_Vocabulary_noteRow_8) (hi := rfl) (hl := rfl) ?_
    refine xr_iload_n (pc := 9) (i := 3) (hI := d_Vocabulary_noteRow_9) (hi := rfl) (hl := rfl) ?_
    obtain ⟨c5_, hyp⟩ := hyp
    refine xg_laload (pc := 10) (v := (xpl h x1 x3)) (hI := d_Vocabulary_noteRow_10) t1_ c5_ (xlt_of rfl (by clear hyp; omega)) rfl (fun f6_ => ?_)
    replace f6_ : -9223372036854775808 ≤ (xpl h x1 x3) ∧ (xpl h x1 x3) ≤ 9223372036854775807 := f6_
    refine xr_ldc2 (pc := 11) (z := (-1)) (hI := d_Vocabulary_noteRow_11) (hw := w_888) (hr := by decide) (hv := by decide) ?_
    refine xr_lcmp (pc := 14) (hI := d_Vocabulary_noteRow_14) ?_
    refine xg_lif_eq (pc := 15) (tgt := 26) (hI := d_Vocabulary_noteRow_15) (ht := by decide) (fun q9 => ?_) (fun q9 => ?_)
    · replace hyp := hyp.1 q9
      have q7_ := q9
      clear q9
      exact hyp
    · replace hyp := hyp.2 q9
      have q7_ := q9
      clear q9
      refine xr_aload_n (pc := 18) (i := 0) (hI := d_Vocabulary_noteRow_18) (hi := rfl) (hl := rfl) ?_
      refine xr_aload_n (pc := 19) (i := 1) (hI := d_Vocabulary_noteRow_19) (hi := rfl) (hl := rfl) ?_
      refine xr_iload_n (pc := 20) (i := 3) (hI := d_Vocabulary_noteRow_20) (hi := rfl) (hl := rfl) ?_
      refine xg_laload (pc := 21) (v := (xpl h x1 x3)) (hI := d_Vocabulary_noteRow_21) t1_ (by clear hyp; omega) (xlt_of rfl (by clear hyp; omega)) rfl (fun f8_ => ?_)
      replace f8_ : -9223372036854775808 ≤ (xpl h x1 x3) ∧ (xpl h x1 x3) ≤ 9223372036854775807 := f8_
      refine xr_iload_n (pc := 22) (i := 2) (hI := d_Vocabulary_noteRow_22) (hi := rfl) (hl := rfl) ?_
      exact xq_callV (pc := 23) (index := 39) (K := m_Vocabulary_note) (As := [xL (xpl h x1 x3), xI x2]) (S := []) (L0 := [xR 12, xL (xpl h x1 x3), xZ, xI x2, xZ]) (hI := d_Vocabulary_noteRow_23) (hK := k_Vocabulary_note) (hlk := w_889) (hnoM := rfl) (hS8 := Nat.le_of_ble_eq_true rfl) (ci := 10) (N := 7) (C := "BeaconIndex$Vocabulary") (T := xF10) (hc := rfl) (hci := Nat.le_of_ble_eq_true rfl) (htb := (ft_12 F)) (hinst := w_891) (hsel := sel_Vocabulary_note) (hlen := Nat.le_of_ble_eq_true rfl) (hst := rfl) (hL0 := rfl)  hyp
theorem d_Vocabulary_noteRow_26 : decode prog_11_method_4_code 26 = .ok (.iinc 3 1, 3) := by decide +kernel
theorem d_Vocabulary_noteRow_29 : decode prog_11_method_4_code 29 = .ok (.goto (-27), 3) := by decide +kernel
theorem v_Vocabulary_noteRow_26 {G : XG} {d : Nat} {h : XH} {Q : XV → XH → Prop} {X : Nat → XH → Prop} {x1 x2 x3 : Int} (F : xFix h) (hyp : xiR (x3 + 1) ∧ (xwp G m_Vocabulary_noteRow (d + 5) 2 [xR 12, xR x1, xI x2, xI (x3 + 1)] [] h Q X)) : xwp G m_Vocabulary_noteRow (d + 5) 26 [xR 12, xR x1, xI x2, xI x3] [] h Q X := by
  have hnx9 : (93 : Int) ≤ xnx h := F.2.2
  refine xr_okL (fun hl9 => ?_)
  have r_x2 : -2147483648 ≤ x2 ∧ x2 ≤ 2147483647 := hl9 (xI x2) (.tail _ (.tail _ (.head _))) (Nat.le_of_ble_eq_true rfl)
  have r_x3 : -2147483648 ≤ x3 ∧ x3 ≤ 2147483647 := hl9 (xI x3) (.tail _ (.tail _ (.tail _ (.head _)))) (Nat.le_of_ble_eq_true rfl)
  obtain ⟨c9, hyp⟩ := hyp
  refine xr_iinc (pc := 26) (i := 3) (L9 := [xR 12, xR x1, xI x2, xI (x3 + 1)]) (hI := d_Vocabulary_noteRow_26) (hl := rfl) (hn := Nat.le_of_ble_eq_true rfl) (hr := c9) (hL9 := rfl) ?_
  refine xr_goto (pc := 29) (tgt := 2) (hI := d_Vocabulary_noteRow_29) (ht := by decide) ?_
  exact hyp
abbrev VE : Type := Int × Int × Int
def vlen (h : XH) : Int := xln h (xpl h 12 0)
def VocR (h : XH) (V : List VE) : Prop := vok h ∧ xpl h 12 3 = V.length ∧ ∀ (i : Nat) e, V[i]? = some e → xpl h (xpl h 12 0) i = e.1 ∧ xpl h (xpl h 12 1) i = e.2.1 ∧ xpl h (xpl h 12 2) i = e.2.2
/-- what the words' table writes -/
def VOW (h : XH) : Int → Prop := fun c => c = 12 ∨ (xtg h c = 101 ∧ xpl h c (-1) = -11) ∨ (xtg h c = 100 ∧ xpl h c (-1) = -12) ∨ (xtg h c = 100 ∧ xpl h c (-1) = -13)
theorem VOW.back {C : Int → Prop} {h h1 : XH} {c : Int} (a : xsm C h h1) (hc : c < xnx h) (w : VOW h1 c) : VOW h c := by
  unfold VOW at *
  rwa [a.tg hc, a.mkd hc] at w
theorem vok.w0 {h : XH} (p0 : vok h) : VOW h (xpl h 12 0) ∧ VOW h (xpl h 12 1) ∧ VOW h (xpl h 12 2) := ⟨Or.inr (Or.inl ⟨p0.1.1, p0.2.1.1⟩), Or.inr (Or.inr (Or.inl ⟨p0.1.2.1, p0.2.1.2.1⟩)), Or.inr (Or.inr (Or.inr ⟨p0.1.2.2, p0.2.1.2.2⟩))⟩
theorem vok.ne {h : XH} (p0 : vok h) : xpl h 12 0 ≠ xpl h 12 1 ∧ xpl h 12 0 ≠ xpl h 12 2 ∧ xpl h 12 1 ≠ xpl h 12 2 ∧ xpl h 12 0 ≠ 12 ∧ xpl h 12 1 ≠ 12 ∧ xpl h 12 2 ≠ 12 :=
  ⟨xne_tag p0.1.1 p0.1.2.1 (by decide), xne_tag p0.1.1 p0.1.2.2 (by decide), vok_cl p0, by have := p0.2.2.1.1; omega, by have := p0.2.2.2.1.1; omega, by have := p0.2.2.2.2.1.1; omega⟩
/-- vok reads the cell 12, tags, lengths, marks -/
theorem vok.keep {h h' : XH} (p0 : vok h) (hn : xnx h ≤ xnx h') (hp : ∀ k, k ≠ 3 → xpl h' 12 k = xpl h 12 k) (ht : ∀ k, k = 0 ∨ k = 1 ∨ k = 2 → xtg h' (xpl h 12 k) = xtg h (xpl h 12 k) ∧ xln h' (xpl h 12 k) = xln h (xpl h 12 k) ∧ xpl h' (xpl h 12 k) (-1) = xpl h (xpl h 12 k) (-1)) (hs : 0 ≤ xpl h' 12 3 ∧ xpl h' 12 3 ≤ xln h (xpl h 12 0)) : vok h' := by
  obtain ⟨⟨a1, a2, a3⟩, ⟨b1, b2, b3⟩, c1, c2, c3, ⟨d1, d2⟩, e, f⟩ := p0
  obtain ⟨t0, l0, m0⟩ := ht 0 (by decide)
  obtain ⟨t1, l1, m1⟩ := ht 1 (by decide)
  obtain ⟨t2, l2, m2⟩ := ht 2 (by decide)
  unfold vok
  rw [hp 0 (by decide), hp 1 (by decide), hp 2 (by decide), t0, t1, t2, l0, l1, l2, m0, m1, m2]
  exact ⟨⟨a1, a2, a3⟩, ⟨b1, b2, b3⟩, ⟨c1.1, by omega⟩, ⟨c2.1, by omega⟩, ⟨c3.1, by omega⟩, ⟨d1, d2⟩, hs, f⟩
def ins9 (k : Int) (i : Nat) : Int := if (i : Int) < k then i else i + 1
/-- room made at k -/
theorem s_Voc_shift {G : XG} {d : Nat} {h : XH} {Q : XV → XH → Prop} {X : Nat → XH → Prop} {k : Int} {V : List VE} (F : xFix h) (R : VocR h V) (k0 : 0 ≤ k) (k1 : k ≤ V.length) (hlt : (V.length : Int) < vlen h)
    (hq : ∀ h', xFix h' → xsm (VOW h) h h' → xnx h' = xnx h → xsl h' = xsl h → vok h' → vlen h' = vlen h → xpl h' 12 3 = V.length + 1 → (∀ (i : Nat) e, V[i]? = some e → xpl h' (xpl h' 12 0) (ins9 k i) = e.1 ∧ xpl h' (xpl h' 12 1) (ins9 k i) = e.2.1 ∧ xpl h' (xpl h' 12 2) (ins9 k i) = e.2.2) → Q xN h') : xwp G m_Vocabulary_makeRoomAt (d + 3) 63 [xR 12, xI k] [] h Q X := by
  obtain ⟨p0, hsz, hV⟩ := R
  obtain ⟨n1, n2, n3, n4, n5, n6⟩ := p0.ne
  have hnx := F.nx
  obtain ⟨w1, w2, w3⟩ := p0.w0
  obtain ⟨-, -, c1, c2, c3, ⟨d1, d2⟩, e, f⟩ := id p0
  unfold vlen at hlt hq
  refine v_Vocabulary_makeRoomAt_63 F p0 c1.1 c2.1 c3.1 e.1 e.2 f.1 f.2 k0 (by omega) (by omega) ?_
  intro F9
  obtain ⟨H1, hH1⟩ : ∃ H1, H1 = xup h (xpl h 12 0) (xcpf (xpl h (xpl h 12 0)) (xpl h (xpl h 12 0)) k (k + 1) ((xpl h 12 3) - k)) := ⟨_, rfl⟩
  rw [← hH1] at F9 ⊢
  obtain ⟨H2, hH2⟩ : ∃ H2, H2 = xup H1 (xpl h 12 1) (xcpf (xpl H1 (xpl h 12 1)) (xpl H1 (xpl h 12 1)) k (k + 1) ((xpl h 12 3) - k)) := ⟨_, rfl⟩
  rw [← hH2] at F9 ⊢
  obtain ⟨H3, hH3⟩ : ∃ H3, H3 = xup H2 (xpl h 12 2) (xcpf (xpl H2 (xpl h 12 2)) (xpl H2 (xpl h 12 2)) k (k + 1) ((xpl h 12 3) - k)) := ⟨_, rfl⟩
  rw [← hH3] at F9 ⊢
  have g1 : ∀ a j, a ≠ xpl h 12 0 → xpl H1 a j = xpl h a j := fun a j ha => by rw [hH1]; exact xpl_up2 ha
  have g2 : ∀ a j, a ≠ xpl h 12 1 → xpl H2 a j = xpl H1 a j := fun a j ha => by rw [hH2]; exact xpl_up2 ha
  have g3 : ∀ a j, a ≠ xpl h 12 2 → xpl H3 a j = xpl H2 a j := fun a j ha => by rw [hH3]; exact xpl_up2 ha
  have x0 : ∀ j, xpl H3 (xpl h 12 0) j = xcpf (xpl h (xpl h 12 0)) (xpl h (xpl h 12 0)) k (k + 1) ((xpl h 12 3) - k) j := fun j => by rw [g3 _ _ n2, g2 _ _ n1, hH1, xpl_up1]
  have x1 : ∀ j, xpl H3 (xpl h 12 1) j = xcpf (xpl h (xpl h 12 1)) (xpl h (xpl h 12 1)) k (k + 1) ((xpl h 12 3) - k) j := fun j => by
    rw [g3 _ _ n3, hH2, xpl_up1]
    unfold xcpf
    rw [g1 _ _ n1.symm, g1 _ _ n1.symm]
  have x2 : ∀ j, xpl H3 (xpl h 12 2) j = xcpf (xpl h (xpl h 12 2)) (xpl h (xpl h 12 2)) k (k + 1) ((xpl h 12 3) - k) j := fun j => by
    rw [hH3, xpl_up1]
    unfold xcpf
    rw [g2 _ _ n3.symm, g2 _ _ n3.symm, g1 _ _ n2.symm, g1 _ _ n2.symm]
  have x12 : ∀ j, xpl H3 12 j = xpl h 12 j := fun j => by rw [g3 _ _ n6.symm, g2 _ _ n5.symm, g1 _ _ n4.symm]
  have t9 : ∀ a, xtg H3 a = xtg h a := fun a => by rw [hH3, hH2, hH1]; rfl
  have l9 : ∀ a, xln H3 a = xln h a := fun a => by rw [hH3, hH2, hH1]; rfl
  have nx9 : xnx H3 = xnx h := by rw [hH3, hH2, hH1]; rfl
  have sl9 : xsl H3 = xsl h := by rw [hH3, hH2, hH1]; rfl
  have m0 : ∀ f9 : Int → Int, xcpf f9 f9 k (k + 1) ((xpl h 12 3) - k) (-1) = f9 (-1) := fun f9 => by unfold xcpf; rw [if_neg (by omega)]
  have e1 : xsm (VOW h) h H1 := by rw [hH1]; exact (xsm.refl h).up (m0 _) (Or.inl w1)
  have e2 : xsm (VOW h) h H2 := by
    rw [hH2]
    exact e1.up (m0 _) (Or.inl w2)
  have e3 : xsm (VOW h) h H3 := by
    rw [hH3]
    exact e2.up (m0 _) (Or.inl w3)
  have y : ∀ a j, a ≠ 12 → xpl (xst H3 12 3 ((xpl h 12 3) + 1)) a j = xpl H3 a j := fun a j ha => xpl_oa ha
  have y12 : ∀ j, j ≠ 3 → xpl (xst H3 12 3 ((xpl h 12 3) + 1)) 12 j = xpl h 12 j := fun j hj => by rw [xpl_ok hj]; exact x12 j
  refine hq _ F9 (e3.st (by decide) (Or.inl (Or.inl rfl))) nx9 sl9 ?_ ?_ (by rw [xpl_hit]; omega) (fun i en hi => ?_)
  · refine p0.keep (by show xnx h ≤ xnx H3; omega) y12 (fun j hj => ?_) (by rw [xpl_hit]; omega)
    rcases hj with rfl | rfl | rfl
    · exact ⟨t9 _, l9 _, by rw [y _ _ n4, x0, m0]⟩
    · exact ⟨t9 _, l9 _, by rw [y _ _ n5, x1, m0]⟩
    · exact ⟨t9 _, l9 _, by rw [y _ _ n6, x2, m0]⟩
  · rw [y12 0 (by decide)]; exact l9 _
  · have hil : i < V.length := (List.getElem?_eq_some_iff.mp hi).1
    obtain ⟨v1, v2, v3⟩ := hV i en hi
    have key : ∀ f9 : Int → Int, xcpf f9 f9 k (k + 1) ((xpl h 12 3) - k) (ins9 k i) = f9 i := fun f9 => by
      unfold xcpf ins9
      by_cases z : (i : Int) < k
      · rw [if_pos z, if_neg (by omega)]
      · rw [if_neg z, if_pos (by omega)]
        exact congrArg f9 (by omega)
    rw [y12 0 (by decide), y12 1 (by decide), y12 2 (by decide), y _ _ n4, y _ _ n5, y _ _ n6, x0, x1, x2, key, key, key]
    exact ⟨v1, v2, v3⟩

end
