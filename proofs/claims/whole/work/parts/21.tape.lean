/-! ===== tape ===== -/
section
/-- a list's place; -1 outside -/
def lat (l : List Int) (i : Int) : Int := if i < 0 then -1 else (l[i.toNat]?).getD (-1)
theorem lat_in {l : List Int} {i : Int} (h0 : 0 ≤ i) (h1 : i < l.length) : l[i.toNat]? = some (lat l i) := by
  unfold lat
  rw [if_neg (by omega)]
  have : i.toNat < l.length := by omega
  simp [this]
theorem lat_out {l : List Int} {i : Int} (h : i < 0 ∨ l.length ≤ i) : lat l i = -1 := by
  unfold lat
  split
  · rfl
  · rw [List.getElem?_eq_none (by omega)]; rfl
/-- the bytes on the tape -/
def TapeR (h : XH) (bs : List Int) : Prop := xpl h 1 3 = bs.length ∧ bs.length ≤ 400 ∧ (∀ i : Nat, i < bs.length → bs[i]? = some (xpl h 2 i)) ∧ ∀ b ∈ bs, 0 ≤ b ∧ b ≤ 255
def tpa (h : XH) (x : Int) : Int := if x < 0 then -1 else if xpl h 1 3 ≤ x then -1 else if 400 ≤ x then -1 else xpl h 2 x
theorem TapeR.at {h : XH} {bs : List Int} (R : TapeR h bs) (x : Int) : tpa h x = lat bs x := by
  obtain ⟨h1, h2, h3, h4⟩ := R
  unfold tpa
  by_cases z : 0 ≤ x ∧ x < bs.length
  · rw [if_neg (by omega), if_neg (by omega), if_neg (by omega)]
    have e1 := lat_in z.1 z.2
    have e2 := h3 x.toNat (by omega)
    rw [e1, show ((x.toNat : Nat) : Int) = x by omega] at e2
    exact (Option.some.inj e2).symm
  · rw [lat_out (by omega)]
    split
    · rfl
    · rw [if_pos (by omega)]
abbrev m_Tape_at : XM := (⟨"BeaconIndex$Tape", "at", "(I)I"⟩, prog_9_method_3_code, 2, (some .int), [])
theorem d_Tape_at_0 : decode prog_9_method_3_code 0 = .ok (.iload_n 1, 1) := by decide +kernel
theorem d_Tape_at_1 : decode prog_9_method_3_code 1 = .ok (.ifCond .lt 29, 3) := by decide +kernel
theorem d_Tape_at_30 : decode prog_9_method_3_code 30 = .ok (.iconst (-1), 1) := by decide +kernel
theorem d_Tape_at_31 : decode prog_9_method_3_code 31 = .ok (.ireturn, 1) := by decide +kernel
theorem d_Tape_at_4 : decode prog_9_method_3_code 4 = .ok (.iload_n 1, 1) := by decide +kernel
theorem d_Tape_at_5 : decode prog_9_method_3_code 5 = .ok (.aload_n 0, 1) := by decide +kernel
theorem d_Tape_at_6 : decode prog_9_method_3_code 6 = .ok (.getfield 22, 3) := by decide +kernel
theorem w_57 : Cond.fieldLink "BeaconIndex$Tape" 22 "BeaconIndex$Tape" "length" "I" ∈ lw_tbl := List.mem_append_right _ (List.mem_of_getElem? (i := 57) (by decide +kernel))
theorem d_Tape_at_9 : decode prog_9_method_3_code 9 = .ok (.if_icmp .ge 21, 3) := by decide +kernel
theorem d_Tape_at_12 : decode prog_9_method_3_code 12 = .ok (.iload_n 1, 1) := by decide +kernel
theorem d_Tape_at_13 : decode prog_9_method_3_code 13 = .ok (.aload_n 0, 1) := by decide +kernel
theorem d_Tape_at_14 : decode prog_9_method_3_code 14 = .ok (.getfield 9, 3) := by decide +kernel
theorem w_54 : Cond.fieldLink "BeaconIndex$Tape" 9 "BeaconIndex$Tape" "bytes" "[I" ∈ lw_tbl := List.mem_append_right _ (List.mem_of_getElem? (i := 54) (by decide +kernel))
theorem d_Tape_at_17 : decode prog_9_method_3_code 17 = .ok (.arraylength, 1) := by decide +kernel
theorem d_Tape_at_18 : decode prog_9_method_3_code 18 = .ok (.if_icmp .ge 12, 3) := by decide +kernel
theorem d_Tape_at_21 : decode prog_9_method_3_code 21 = .ok (.aload_n 0, 1) := by decide +kernel
theorem d_Tape_at_22 : decode prog_9_method_3_code 22 = .ok (.getfield 9, 3) := by decide +kernel
theorem d_Tape_at_25 : decode prog_9_method_3_code 25 = .ok (.iload_n 1, 1) := by decide +kernel
theorem d_Tape_at_26 : decode prog_9_method_3_code 26 = .ok (.iaload, 1) := by decide +kernel
theorem d_Tape_at_27 : decode prog_9_method_3_code 27 = .ok (.goto 4, 3) := by decide +kernel
theorem v_Tape_at_0 {G : XG} {d : Nat} {h : XH} {Q : XV → XH → Prop} {X : Nat → XH → Prop} {x1 : Int} (F : xFix h) (hyp : ((x1 < 0 → (Q (xI (-1)) h)) ∧ (¬ x1 < 0 → (((xpl h 1 3) ≤ x1 → (Q (xI (-1)) h)) ∧ (¬ (xpl h 1 3) ≤ x1 → (((400 : Int) ≤ x1 → (Q (xI (-1)) h)) ∧ (¬ (400 : Int) ≤ x1 → (Q (xI (xpl h 2 x1)) h)))))))) : xwp G m_Tape_at (d + 1) 0 [xR 1, xI x1] [] h Q X := by
  have hnx9 : (93 : Int) ≤ xnx h := F.2.2
  refine xr_okL (fun hl9 => ?_)
  have r_x1 : -2147483648 ≤ x1 ∧ x1 ≤ 2147483647 := hl9 (xI x1) (.tail _ (.head _)) (Nat.le_of_ble_eq_true rfl)
  refine xr_iload_n (pc := 0) (i := 1) (hI := d_Tape_at_0) (hi := rfl) (hl := rfl) ?_
  refine xr_if_lt (pc := 1) (tgt := 30) (hI := d_Tape_at_1) (ht := by decide) (fun q9 => ?_) (fun q9 => ?_)
  · replace hyp := hyp.1 q9
    have q1_ := q9
    clear q9
    refine xr_iconst (pc := 30) (hI := d_Tape_at_30) (hr := by decide) ?_
    refine xr_ireturn (S := []) (pc := 31) (hI := d_Tape_at_31) (hr := rfl) ?_
    exact hyp
  · replace hyp := hyp.2 q9
    have q1_ := q9
    clear q9
    refine xr_iload_n (pc := 4) (i := 1) (hI := d_Tape_at_4) (hi := rfl) (hl := rfl) ?_
    refine xr_aload_n (pc := 5) (i := 0) (hI := d_Tape_at_5) (hi := rfl) (hl := rfl) ?_
    refine xg_getf (pc := 6) (ci := 8) (k := 3) (N := 7) (v9 := 0) (v := (xpl h 1 3)) (T := xF8) (hI := d_Tape_at_6) (hw := w_57) rfl xi8 (Or.inl rfl) (Nat.le_of_ble_eq_true rfl) (Nat.le_of_ble_eq_true rfl) rfl (ft_1 F) rfl (fun f2_ => ?_)
    replace f2_ : -2147483648 ≤ (xpl h 1 3) ∧ (xpl h 1 3) ≤ 2147483647 := f2_
    refine xr_icmp_ge (pc := 9) (tgt := 30) (hI := d_Tape_at_9) (ht := by decide) (fun q9 => ?_) (fun q9 => ?_)
    · replace hyp := hyp.1 q9
      have q3_ := q9
      clear q9
      refine xr_iconst (pc := 30) (hI := d_Tape_at_30) (hr := by decide) ?_
      refine xr_ireturn (S := []) (pc := 31) (hI := d_Tape_at_31) (hr := rfl) ?_
      exact hyp
    · replace hyp := hyp.2 q9
      have q3_ := q9
      clear q9
      refine xr_iload_n (pc := 12) (i := 1) (hI := d_Tape_at_12) (hi := rfl) (hl := rfl) ?_
      refine xr_aload_n (pc := 13) (i := 0) (hI := d_Tape_at_13) (hi := rfl) (hl := rfl) ?_
      refine xg_getf (pc := 14) (ci := 8) (k := 0) (N := 7) (v9 := 2) (v := 2) (T := xF8) (hI := d_Tape_at_14) (hw := w_54) rfl xi8 (Or.inl rfl) (Nat.le_of_ble_eq_true rfl) (Nat.le_of_ble_eq_true rfl) rfl (ft_1 F) (fp_1_0 F) (fun f4_ => ?_)
      clear f4_
      refine xg_alen (pc := 17) (t := 100) (v := 400) (hI := d_Tape_at_17) (ft_2 F) (Nat.le_of_ble_eq_true rfl) (Nat.le_of_ble_eq_true rfl) rfl (fl_2 F) (fun f5_ f6_ => ?_)
      clear f5_ f6_
      refine xr_icmp_ge (pc := 18) (tgt := 30) (hI := d_Tape_at_18) (ht := by decide) (fun q9 => ?_) (fun q9 => ?_)
      · replace hyp := hyp.1 q9
        have q7_ := q9
        clear q9
        refine xr_iconst (pc := 30) (hI := d_Tape_at_30) (hr := by decide) ?_
        refine xr_ireturn (S := []) (pc := 31) (hI := d_Tape_at_31) (hr := rfl) ?_
        exact hyp
      · replace hyp := hyp.2 q9
        have q7_ := q9
        clear q9
        refine xr_aload_n (pc := 21) (i := 0) (hI := d_Tape_at_21) (hi := rfl) (hl := rfl) ?_
        refine xg_getf (pc := 22) (ci := 8) (k := 0) (N := 7) (v9 := 2) (v := 2) (T := xF8) (hI := d_Tape_at_22) (hw := w_54) rfl xi8 (Or.inl rfl) (Nat.le_of_ble_eq_true rfl) (Nat.le_of_ble_eq_true rfl) rfl (ft_1 F) (fp_1_0 F) (fun f8_ => ?_)
        clear f8_
        refine xr_iload_n (pc := 25) (i := 1) (hI := d_Tape_at_25) (hi := rfl) (hl := rfl) ?_
        refine xg_iaload (pc := 26) (v := (xpl h 2 x1)) (hI := d_Tape_at_26) (ft_2 F) (by clear hyp; omega) (xlt_of (fl_2 F) (by clear hyp; omega)) rfl (fun f9_ => ?_)
        replace f9_ : -2147483648 ≤ (xpl h 2 x1) ∧ (xpl h 2 x1) ≤ 2147483647 := f9_
        refine xr_goto (pc := 27) (tgt := 31) (hI := d_Tape_at_27) (ht := by decide) ?_
        refine xr_ireturn (S := []) (pc := 31) (hI := d_Tape_at_31) (hr := rfl) ?_
        exact hyp
theorem p_Tape_at {G : XG} {d : Nat} {h : XH} {Q : XV → XH → Prop} {X : Nat → XH → Prop} {x : Int} (F : xFix h) (hq : Q (xI (tpa h x)) h) : xwp G m_Tape_at (d + 1) 0 [xR 1, xI x] [] h Q X := by
  unfold tpa at hq
  refine v_Tape_at_0 F ?_
  refine ⟨fun q1 => ?_, fun q1 => ?_⟩
  · rw [if_pos q1] at hq; exact hq
  · refine ⟨fun q2 => ?_, fun q2 => ?_⟩
    · rw [if_neg q1, if_pos q2] at hq; exact hq
    · refine ⟨fun q3 => ?_, fun q3 => ?_⟩
      · rw [if_neg q1, if_neg q2, if_pos q3] at hq; exact hq
      · rw [if_neg q1, if_neg q2, if_neg q3] at hq; exact hq
abbrev m_Tape_append : XM := (⟨"BeaconIndex$Tape", "append", "(I)V"⟩, prog_9_method_2_code, 3, none, [])
theorem d_Tape_append_0 : decode prog_9_method_2_code 0 = .ok (.bipush 24, 2) := by decide +kernel
theorem d_Tape_append_2 : decode prog_9_method_2_code 2 = .ok (.istore_n 2, 1) := by decide +kernel
theorem v_Tape_append_0 {G : XG} {d : Nat} {h : XH} {Q : XV → XH → Prop} {X : Nat → XH → Prop} {x1 : Int} (F : xFix h) (hyp : (xwp G m_Tape_append (d + 1) 3 [xR 1, xI x1, xI 24] [] h Q X)) : xwp G m_Tape_append (d + 1) 0 [xR 1, xI x1, xZ] [] h Q X := by
  have hnx9 : (93 : Int) ≤ xnx h := F.2.2
  refine xr_okL (fun hl9 => ?_)
  have r_x1 : -2147483648 ≤ x1 ∧ x1 ≤ 2147483647 := hl9 (xI x1) (.tail _ (.head _)) (Nat.le_of_ble_eq_true rfl)
  refine xr_bipush (pc := 0) (hI := d_Tape_append_0) (hr := by decide) (hv := by decide) ?_
  refine xr_istore_n (pc := 2) (i := 2) (L9 := [xR 1, xI x1, xI 24]) (hI := d_Tape_append_2) (hi := rfl) (hn := Nat.le_of_ble_eq_true rfl) (hL9 := rfl) ?_
  exact hyp
theorem d_Tape_append_3 : decode prog_9_method_2_code 3 = .ok (.iload_n 2, 1) := by decide +kernel
theorem d_Tape_append_4 : decode prog_9_method_2_code 4 = .ok (.ifCond .lt 54, 3) := by decide +kernel
theorem d_Tape_append_58 : decode prog_9_method_2_code 58 = .ok (.return_, 1) := by decide +kernel
theorem d_Tape_append_7 : decode prog_9_method_2_code 7 = .ok (.aload_n 0, 1) := by decide +kernel
theorem d_Tape_append_8 : decode prog_9_method_2_code 8 = .ok (.getfield 22, 3) := by decide +kernel
theorem d_Tape_append_11 : decode prog_9_method_2_code 11 = .ok (.ifCond .lt 41, 3) := by decide +kernel
theorem d_Tape_append_52 : decode prog_9_method_2_code 52 = .ok (.iinc 2 (-8), 3) := by decide +kernel
theorem d_Tape_append_55 : decode prog_9_method_2_code 55 = .ok (.goto (-52), 3) := by decide +kernel
theorem d_Tape_append_14 : decode prog_9_method_2_code 14 = .ok (.aload_n 0, 1) := by decide +kernel
theorem d_Tape_append_15 : decode prog_9_method_2_code 15 = .ok (.getfield 22, 3) := by decide +kernel
theorem d_Tape_append_18 : decode prog_9_method_2_code 18 = .ok (.aload_n 0, 1) := by decide +kernel
theorem d_Tape_append_19 : decode prog_9_method_2_code 19 = .ok (.getfield 9, 3) := by decide +kernel
theorem d_Tape_append_22 : decode prog_9_method_2_code 22 = .ok (.arraylength, 1) := by decide +kernel
theorem d_Tape_append_23 : decode prog_9_method_2_code 23 = .ok (.if_icmp .ge 29, 3) := by decide +kernel
theorem d_Tape_append_26 : decode prog_9_method_2_code 26 = .ok (.aload_n 0, 1) := by decide +kernel
theorem d_Tape_append_27 : decode prog_9_method_2_code 27 = .ok (.getfield 9, 3) := by decide +kernel
theorem d_Tape_append_30 : decode prog_9_method_2_code 30 = .ok (.aload_n 0, 1) := by decide +kernel
theorem d_Tape_append_31 : decode prog_9_method_2_code 31 = .ok (.getfield 22, 3) := by decide +kernel
theorem d_Tape_append_34 : decode prog_9_method_2_code 34 = .ok (.iload_n 1, 1) := by decide +kernel
theorem d_Tape_append_35 : decode prog_9_method_2_code 35 = .ok (.iload_n 2, 1) := by decide +kernel
theorem d_Tape_append_36 : decode prog_9_method_2_code 36 = .ok (.iushr, 1) := by decide +kernel
theorem d_Tape_append_37 : decode prog_9_method_2_code 37 = .ok (.sipush 255, 3) := by decide +kernel
theorem d_Tape_append_40 : decode prog_9_method_2_code 40 = .ok (.iand, 1) := by decide +kernel
theorem d_Tape_append_41 : decode prog_9_method_2_code 41 = .ok (.iastore, 1) := by decide +kernel
theorem xfa_2 : xfreeA 2 = true := by decide +kernel
theorem d_Tape_append_42 : decode prog_9_method_2_code 42 = .ok (.aload_n 0, 1) := by decide +kernel
theorem d_Tape_append_43 : decode prog_9_method_2_code 43 = .ok (.dup, 1) := by decide +kernel
theorem d_Tape_append_44 : decode prog_9_method_2_code 44 = .ok (.getfield 22, 3) := by decide +kernel
theorem d_Tape_append_47 : decode prog_9_method_2_code 47 = .ok (.iconst 1, 1) := by decide +kernel
theorem d_Tape_append_48 : decode prog_9_method_2_code 48 = .ok (.iadd, 1) := by decide +kernel
theorem d_Tape_append_49 : decode prog_9_method_2_code 49 = .ok (.putfield 22, 3) := by decide +kernel
theorem xfk_1_3 : xfree 1 3 = true := by decide +kernel
theorem v_Tape_append_3 {G : XG} {d : Nat} {h : XH} {Q : XV → XH → Prop} {X : Nat → XH → Prop} {x1 x2 : Int} (F : xFix h) (hyp : ((x2 < 0 → (Q xN h)) ∧ (¬ x2 < 0 → (((xpl h 1 3) < 0 → (xwp G m_Tape_append (d + 1) 3 [xR 1, xI x1, xI (x2 + (-8))] [] h Q X)) ∧ (¬ (xpl h 1 3) < 0 → (((400 : Int) ≤ (xpl h 1 3) → (xwp G m_Tape_append (d + 1) 3 [xR 1, xI x1, xI (x2 + (-8))] [] h Q X)) ∧ (¬ (400 : Int) ≤ (xpl h 1 3) → (xFix (xst (xst h 2 (xpl h 1 3) (xand (xushr x1 x2) 255)) 1 3 ((xpl h 1 3) + 1)) → xwp G m_Tape_append (d + 1) 3 [xR 1, xI x1, xI (x2 + (-8))] [] (xst (xst h 2 (xpl h 1 3) (xand (xushr x1 x2) 255)) 1 3 ((xpl h 1 3) + 1)) Q X)))))))) : xwp G m_Tape_append (d + 1) 3 [xR 1, xI x1, xI x2] [] h Q X := by
  have hnx9 : (93 : Int) ≤ xnx h := F.2.2
  refine xr_okL (fun hl9 => ?_)
  have r_x1 : -2147483648 ≤ x1 ∧ x1 ≤ 2147483647 := hl9 (xI x1) (.tail _ (.head _)) (Nat.le_of_ble_eq_true rfl)
  have r_x2 : -2147483648 ≤ x2 ∧ x2 ≤ 2147483647 := hl9 (xI x2) (.tail _ (.tail _ (.head _))) (Nat.le_of_ble_eq_true rfl)
  refine xr_iload_n (pc := 3) (i := 2) (hI := d_Tape_append_3) (hi := rfl) (hl := rfl) ?_
  refine xr_if_lt (pc := 4) (tgt := 58) (hI := d_Tape_append_4) (ht := by decide) (fun q9 => ?_) (fun q9 => ?_)
  · replace hyp := hyp.1 q9
    have q1_ := q9
    clear q9
    refine xr_return (S := []) (pc := 58) (hI := d_Tape_append_58) (hr := rfl) ?_
    exact hyp
  · replace hyp := hyp.2 q9
    have q1_ := q9
    clear q9
    refine xr_aload_n (pc := 7) (i := 0) (hI := d_Tape_append_7) (hi := rfl) (hl := rfl) ?_
    refine xg_getf (pc := 8) (ci := 8) (k := 3) (N := 7) (v9 := 0) (v := (xpl h 1 3)) (T := xF8) (hI := d_Tape_append_8) (hw := w_57) rfl xi8 (Or.inl rfl) (Nat.le_of_ble_eq_true rfl) (Nat.le_of_ble_eq_true rfl) rfl (ft_1 F) rfl (fun f2_ => ?_)
    replace f2_ : -2147483648 ≤ (xpl h 1 3) ∧ (xpl h 1 3) ≤ 2147483647 := f2_
    refine xr_if_lt (pc := 11) (tgt := 52) (hI := d_Tape_append_11) (ht := by decide) (fun q9 => ?_) (fun q9 => ?_)
    · replace hyp := hyp.1 q9
      have q3_ := q9
      clear q9
      refine xr_iinc (pc := 52) (i := 2) (L9 := [xR 1, xI x1, xI (x2 + (-8))]) (hI := d_Tape_append_52) (hl := rfl) (hn := Nat.le_of_ble_eq_true rfl) (hr := ⟨by clear hyp; omega, by clear hyp; omega⟩) (hL9 := rfl) ?_
      refine xr_goto (pc := 55) (tgt := 3) (hI := d_Tape_append_55) (ht := by decide) ?_
      exact hyp
    · replace hyp := hyp.2 q9
      have q3_ := q9
      clear q9
      refine xr_aload_n (pc := 14) (i := 0) (hI := d_Tape_append_14) (hi := rfl) (hl := rfl) ?_
      refine xg_getf (pc := 15) (ci := 8) (k := 3) (N := 7) (v9 := 0) (v := (xpl h 1 3)) (T := xF8) (hI := d_Tape_append_15) (hw := w_57) rfl xi8 (Or.inl rfl) (Nat.le_of_ble_eq_true rfl) (Nat.le_of_ble_eq_true rfl) rfl (ft_1 F) rfl (fun f4_ => ?_)
      replace f4_ : -2147483648 ≤ (xpl h 1 3) ∧ (xpl h 1 3) ≤ 2147483647 := f4_
      refine xr_aload_n (pc := 18) (i := 0) (hI := d_Tape_append_18) (hi := rfl) (hl := rfl) ?_
      refine xg_getf (pc := 19) (ci := 8) (k := 0) (N := 7) (v9 := 2) (v := 2) (T := xF8) (hI := d_Tape_append_19) (hw := w_54) rfl xi8 (Or.inl rfl) (Nat.le_of_ble_eq_true rfl) (Nat.le_of_ble_eq_true rfl) rfl (ft_1 F) (fp_1_0 F) (fun f5_ => ?_)
      clear f5_
      refine xg_alen (pc := 22) (t := 100) (v := 400) (hI := d_Tape_append_22) (ft_2 F) (Nat.le_of_ble_eq_true rfl) (Nat.le_of_ble_eq_true rfl) rfl (fl_2 F) (fun f6_ f7_ => ?_)
      clear f6_ f7_
      refine xr_icmp_ge (pc := 23) (tgt := 52) (hI := d_Tape_append_23) (ht := by decide) (fun q9 => ?_) (fun q9 => ?_)
      · replace hyp := hyp.1 q9
        have q8_ := q9
        clear q9
        refine xr_iinc (pc := 52) (i := 2) (L9 := [xR 1, xI x1, xI (x2 + (-8))]) (hI := d_Tape_append_52) (hl := rfl) (hn := Nat.le_of_ble_eq_true rfl) (hr := ⟨by clear hyp; omega, by clear hyp; omega⟩) (hL9 := rfl) ?_
        refine xr_goto (pc := 55) (tgt := 3) (hI := d_Tape_append_55) (ht := by decide) ?_
        exact hyp
      · replace hyp := hyp.2 q9
        have q8_ := q9
        clear q9
        refine xr_aload_n (pc := 26) (i := 0) (hI := d_Tape_append_26) (hi := rfl) (hl := rfl) ?_
        refine xg_getf (pc := 27) (ci := 8) (k := 0) (N := 7) (v9 := 2) (v := 2) (T := xF8) (hI := d_Tape_append_27) (hw := w_54) rfl xi8 (Or.inl rfl) (Nat.le_of_ble_eq_true rfl) (Nat.le_of_ble_eq_true rfl) rfl (ft_1 F) (fp_1_0 F) (fun f9_ => ?_)
        clear f9_
        refine xr_aload_n (pc := 30) (i := 0) (hI := d_Tape_append_30) (hi := rfl) (hl := rfl) ?_
        refine xg_getf (pc := 31) (ci := 8) (k := 3) (N := 7) (v9 := 0) (v := (xpl h 1 3)) (T := xF8) (hI := d_Tape_append_31) (hw := w_57) rfl xi8 (Or.inl rfl) (Nat.le_of_ble_eq_true rfl) (Nat.le_of_ble_eq_true rfl) rfl (ft_1 F) rfl (fun f10_ => ?_)
        replace f10_ : -2147483648 ≤ (xpl h 1 3) ∧ (xpl h 1 3) ≤ 2147483647 := f10_
        refine xr_iload_n (pc := 34) (i := 1) (hI := d_Tape_append_34) (hi := rfl) (hl := rfl) ?_
        refine xr_iload_n (pc := 35) (i := 2) (hI := d_Tape_append_35) (hi := rfl) (hl := rfl) ?_
        refine xr_iushr (pc := 36) (hI := d_Tape_append_36) ?_
        have f11_ : -2147483648 ≤ (xushr x1 x2) ∧ (xushr x1 x2) ≤ 2147483647 := xi_toR _
        refine xr_sipush (pc := 37) (hI := d_Tape_append_37) (hr := by decide) (hv := by decide) ?_
        refine xr_iand (pc := 40) (hI := d_Tape_append_40) ?_
        have f12_ : -2147483648 ≤ (xand (xushr x1 x2) 255) ∧ (xand (xushr x1 x2) 255) ≤ 2147483647 := xi_toR _
        have f13_ : 0 ≤ (xand (xushr x1 x2) 255) ∧ (xand (xushr x1 x2) 255) ≤ 255 := xand_rng255 _
        refine xr_iastore (pc := 41) (hI := d_Tape_append_41) (ft_2 F) (by decide) (by clear hyp; omega) (xlt_of (fl_2 F) (by clear hyp; omega)) ?_
        have F14_ : xFix (xst h 2 (xpl h 1 3) (xand (xushr x1 x2) 255)) := F.stA xfa_2
        refine xr_aload_n (pc := 42) (i := 0) (hI := d_Tape_append_42) (hi := rfl) (hl := rfl) ?_
        refine xr_dup (pc := 43) (hI := d_Tape_append_43) (hv := rfl) ?_
        refine xg_getf (pc := 44) (ci := 8) (k := 3) (N := 7) (v9 := 0) (v := (xpl h 1 3)) (T := xF8) (hI := d_Tape_append_44) (hw := w_57) rfl xi8 (Or.inl rfl) (Nat.le_of_ble_eq_true rfl) (Nat.le_of_ble_eq_true rfl) rfl (ft_1 F14_) (xpl_oa (by decide)) (fun f15_ => ?_)
        replace f15_ : -2147483648 ≤ (xpl h 1 3) ∧ (xpl h 1 3) ≤ 2147483647 := f15_
        refine xr_iconst (pc := 47) (hI := d_Tape_append_47) (hr := by decide) ?_
        refine xr_iadd (pc := 48) (hI := d_Tape_append_48) (hr := ⟨by clear hyp; omega, by clear hyp; omega⟩) ?_
        refine xr_putf (pc := 49) (ci := 8) (k := 3) (N := 7) (v9 := 0) (T := xF8) (tF := xT8) (hI := d_Tape_append_49) (hw := w_57) rfl xi8 xt8 xn8 (Or.inl rfl) (Nat.le_of_ble_eq_true rfl) (Nat.le_of_ble_eq_true rfl) rfl xfit_i rfl (ft_1 F14_) (by decide) (fun z => z) ?_
        have F16_ : xFix (xst (xst h 2 (xpl h 1 3) (xand (xushr x1 x2) 255)) 1 3 ((xpl h 1 3) + 1)) := F14_.stL xfk_1_3
        refine xr_iinc (pc := 52) (i := 2) (L9 := [xR 1, xI x1, xI (x2 + (-8))]) (hI := d_Tape_append_52) (hl := rfl) (hn := Nat.le_of_ble_eq_true rfl) (hr := ⟨by clear hyp; omega, by clear hyp; omega⟩) (hL9 := rfl) ?_
        refine xr_goto (pc := 55) (tgt := 3) (hI := d_Tape_append_55) (ht := by decide) ?_
        exact (hyp F16_)
abbrev m_Tape_firstPlaceOf : XM := (⟨"BeaconIndex$Tape", "firstPlaceOf", "(I)I"⟩, prog_9_method_4_code, 3, (some .int), [])
theorem d_Tape_firstPlaceOf_0 : decode prog_9_method_4_code 0 = .ok (.iconst 0, 1) := by decide +kernel
theorem d_Tape_firstPlaceOf_1 : decode prog_9_method_4_code 1 = .ok (.istore_n 2, 1) := by decide +kernel
theorem v_Tape_firstPlaceOf_0 {G : XG} {d : Nat} {h : XH} {Q : XV → XH → Prop} {X : Nat → XH → Prop} {x1 : Int} (F : xFix h) (hyp : (xwp G m_Tape_firstPlaceOf (d + 2) 2 [xR 1, xI x1, xI 0] [] h Q X)) : xwp G m_Tape_firstPlaceOf (d + 2) 0 [xR 1, xI x1, xZ] [] h Q X := by
  have hnx9 : (93 : Int) ≤ xnx h := F.2.2
  refine xr_okL (fun hl9 => ?_)
  have r_x1 : -2147483648 ≤ x1 ∧ x1 ≤ 2147483647 := hl9 (xI x1) (.tail _ (.head _)) (Nat.le_of_ble_eq_true rfl)
  refine xr_iconst (pc := 0) (hI := d_Tape_firstPlaceOf_0) (hr := by decide) ?_
  refine xr_istore_n (pc := 1) (i := 2) (L9 := [xR 1, xI x1, xI 0]) (hI := d_Tape_firstPlaceOf_1) (hi := rfl) (hn := Nat.le_of_ble_eq_true rfl) (hL9 := rfl) ?_
  exact hyp
theorem d_Tape_firstPlaceOf_2 : decode prog_9_method_4_code 2 = .ok (.iload_n 2, 1) := by decide +kernel
theorem d_Tape_firstPlaceOf_3 : decode prog_9_method_4_code 3 = .ok (.aload_n 0, 1) := by decide +kernel
theorem d_Tape_firstPlaceOf_4 : decode prog_9_method_4_code 4 = .ok (.getfield 22, 3) := by decide +kernel
theorem d_Tape_firstPlaceOf_7 : decode prog_9_method_4_code 7 = .ok (.if_icmp .ge 20, 3) := by decide +kernel
theorem d_Tape_firstPlaceOf_27 : decode prog_9_method_4_code 27 = .ok (.iconst 0, 1) := by decide +kernel
theorem d_Tape_firstPlaceOf_28 : decode prog_9_method_4_code 28 = .ok (.ireturn, 1) := by decide +kernel
theorem d_Tape_firstPlaceOf_10 : decode prog_9_method_4_code 10 = .ok (.aload_n 0, 1) := by decide +kernel
theorem d_Tape_firstPlaceOf_11 : decode prog_9_method_4_code 11 = .ok (.iload_n 2, 1) := by decide +kernel
theorem d_Tape_firstPlaceOf_12 : decode prog_9_method_4_code 12 = .ok (.invokevirtual 35, 3) := by decide +kernel
theorem w_2 : Cond.initialized "BeaconIndex$Tape" ∈ lw_tbl := List.mem_append_right _ (List.mem_of_getElem? (i := 2) (by decide +kernel))
theorem k_Tape_at : xCal m_Tape_at 1 := ⟨List.mem_append_right _ (List.mem_of_getElem? (i := 794) (by decide +kernel)), w_2, Nat.le_of_ble_eq_true rfl, ⟨by decide +kernel, by decide +kernel⟩, by decide +kernel, by decide +kernel, rfl⟩
theorem w_791 : Cond.methodLink "BeaconIndex$Tape" 35 ⟨"BeaconIndex$Tape", "at", "(I)I"⟩ ∈ lw_tbl := List.mem_append_right _ (List.mem_of_getElem? (i := 791) (by decide +kernel))
theorem w_792 : Cond.instanceMethod ⟨"BeaconIndex$Tape", "at", "(I)I"⟩ ∈ lw_tbl := List.mem_append_right _ (List.mem_of_getElem? (i := 792) (by decide +kernel))
theorem w_793 : Cond.selects "BeaconIndex$Tape" ⟨"BeaconIndex$Tape", "at", "(I)I"⟩ ⟨"BeaconIndex$Tape", "at", "(I)I"⟩ ∈ lw_tbl := List.mem_append_right _ (List.mem_of_getElem? (i := 793) (by decide +kernel))
theorem d_Tape_firstPlaceOf_15 : decode prog_9_method_4_code 15 = .ok (.iload_n 1, 1) := by decide +kernel
theorem d_Tape_firstPlaceOf_16 : decode prog_9_method_4_code 16 = .ok (.if_icmp .ne 5, 3) := by decide +kernel
theorem d_Tape_firstPlaceOf_21 : decode prog_9_method_4_code 21 = .ok (.iinc 2 1, 3) := by decide +kernel
theorem d_Tape_firstPlaceOf_24 : decode prog_9_method_4_code 24 = .ok (.goto (-22), 3) := by decide +kernel
theorem d_Tape_firstPlaceOf_19 : decode prog_9_method_4_code 19 = .ok (.iload_n 2, 1) := by decide +kernel
theorem d_Tape_firstPlaceOf_20 : decode prog_9_method_4_code 20 = .ok (.ireturn, 1) := by decide +kernel
theorem v_Tape_firstPlaceOf_2 {G : XG} {d : Nat} {h : XH} {Q : XV → XH → Prop} {X : Nat → XH → Prop} {x1 x2 : Int} (F : xFix h) (hyp : (((xpl h 1 3) ≤ x2 → (Q (xI 0) h)) ∧ (¬ (xpl h 1 3) ≤ x2 → (((tpa h x2) = x1 → (Q (xI x2) h)) ∧ (¬ (tpa h x2) = x1 → (xwp G m_Tape_firstPlaceOf (d + 2) 2 [xR 1, xI x1, xI (x2 + 1)] [] h Q X)))))) : xwp G m_Tape_firstPlaceOf (d + 2) 2 [xR 1, xI x1, xI x2] [] h Q X := by
  have hnx9 : (93 : Int) ≤ xnx h := F.2.2
  refine xr_okL (fun hl9 => ?_)
  have r_x1 : -2147483648 ≤ x1 ∧ x1 ≤ 2147483647 := hl9 (xI x1) (.tail _ (.head _)) (Nat.le_of_ble_eq_true rfl)
  have r_x2 : -2147483648 ≤ x2 ∧ x2 ≤ 2147483647 := hl9 (xI x2) (.tail _ (.tail _ (.head _))) (Nat.le_of_ble_eq_true rfl)
  refine xr_iload_n (pc := 2) (i := 2) (hI := d_Tape_firstPlaceOf_2) (hi := rfl) (hl := rfl) ?_
  refine xr_aload_n (pc := 3) (i := 0) (hI := d_Tape_firstPlaceOf_3) (hi := rfl) (hl := rfl) ?_
  refine xg_getf (pc := 4) (ci := 8) (k := 3) (N := 7) (v9 := 0) (v := (xpl h 1 3)) (T := xF8) (hI := d_Tape_firstPlaceOf_4) (hw := w_57) rfl xi8 (Or.inl rfl) (Nat.le_of_ble_eq_true rfl) (Nat.le_of_ble_eq_true rfl) rfl (ft_1 F) rfl (fun f1_ => ?_)
  replace f1_ : -2147483648 ≤ (xpl h 1 3) ∧ (xpl h 1 3) ≤ 2147483647 := f1_
  refine xr_icmp_ge (pc := 7) (tgt := 27) (hI := d_Tape_firstPlaceOf_7) (ht := by decide) (fun q9 => ?_) (fun q9 => ?_)
  · replace hyp := hyp.1 q9
    have q2_ := q9
    clear q9
    refine xr_iconst (pc := 27) (hI := d_Tape_firstPlaceOf_27) (hr := by decide) ?_
    refine xr_ireturn (S := []) (pc := 28) (hI := d_Tape_firstPlaceOf_28) (hr := rfl) ?_
    exact hyp
  · replace hyp := hyp.2 q9
    have q2_ := q9
    clear q9
    refine xr_aload_n (pc := 10) (i := 0) (hI := d_Tape_firstPlaceOf_10) (hi := rfl) (hl := rfl) ?_
    refine xr_iload_n (pc := 11) (i := 2) (hI := d_Tape_firstPlaceOf_11) (hi := rfl) (hl := rfl) ?_
    refine xq_callV (pc := 12) (index := 35) (K := m_Tape_at) (As := [xI x2]) (S := []) (L0 := [xR 1, xI x2]) (hI := d_Tape_firstPlaceOf_12) (hK := k_Tape_at) (hlk := w_791) (hnoM := rfl) (hS8 := Nat.le_of_ble_eq_true rfl) (ci := 8) (N := 7) (C := "BeaconIndex$Tape") (T := xF8) (hc := rfl) (hci := Nat.le_of_ble_eq_true rfl) (htb := (ft_1 F)) (hinst := w_792) (hsel := w_793) (hlen := Nat.le_of_ble_eq_true rfl) (hst := rfl) (hL0 := rfl)  (p_Tape_at F  ?_)
    show xwp G m_Tape_firstPlaceOf (d + 2) 15 [xR 1, xI x1, xI x2] [xI (tpa h x2)] _ _ _
    refine xr_iload_n (pc := 15) (i := 1) (hI := d_Tape_firstPlaceOf_15) (hi := rfl) (hl := rfl) ?_
    refine xr_icmp_ne (pc := 16) (tgt := 21) (hI := d_Tape_firstPlaceOf_16) (ht := by decide) (fun q9 => ?_) (fun q9 => ?_)
    · replace hyp := hyp.2 q9
      have q3_ := q9
      clear q9
      refine xr_iinc (pc := 21) (i := 2) (L9 := [xR 1, xI x1, xI (x2 + 1)]) (hI := d_Tape_firstPlaceOf_21) (hl := rfl) (hn := Nat.le_of_ble_eq_true rfl) (hr := ⟨by clear hyp; omega, by clear hyp; omega⟩) (hL9 := rfl) ?_
      refine xr_goto (pc := 24) (tgt := 2) (hI := d_Tape_firstPlaceOf_24) (ht := by decide) ?_
      exact hyp
    · replace hyp := hyp.1 q9
      have q3_ := q9
      clear q9
      refine xr_iload_n (pc := 19) (i := 2) (hI := d_Tape_firstPlaceOf_19) (hi := rfl) (hl := rfl) ?_
      refine xr_ireturn (S := []) (pc := 20) (hI := d_Tape_firstPlaceOf_20) (hr := rfl) ?_
      exact hyp
/-- the cells of the tape's module -/
def TPC : Int → Prop := fun c => c = 1 ∨ c = 2 ∨ c = 3 ∨ c = 4
def byb (x s : Int) : Int := xand (xushr x s) 255
theorem TapeR.push {h : XH} {bs : List Int} (R : TapeR h bs) (hl : bs.length < 400) {v : Int} (h0 : 0 ≤ v) (h1 : v ≤ 255) : TapeR (xst (xst h 2 (xpl h 1 3) v) 1 3 ((xpl h 1 3) + 1)) (bs ++ [v]) := by
  obtain ⟨r1, r2, r3, r4⟩ := R
  rw [r1]
  refine ⟨by rw [xpl_hit, List.length_append]; rfl, by rw [List.length_append]; show bs.length + 1 ≤ 400; omega, fun i hi => ?_, fun b hb => ?_⟩
  · rw [List.length_append] at hi
    have hi2 : i < bs.length + 1 := hi
    rw [xpl_oa (by decide)]
    by_cases z : i = bs.length
    · subst z
      rw [xpl_hit, List.getElem?_append_right (Nat.le_refl _), Nat.sub_self]; rfl
    · rw [xpl_ok (by omega), List.getElem?_append_left (by omega)]
      exact r3 i (by omega)
  · rcases List.mem_append.mp hb with z | z
    · exact r4 b z
    · rw [List.mem_singleton] at z; subst z; exact ⟨h0, h1⟩
def by4 (x : Int) : List Int := [byb x 24, byb x 16, byb x 8, byb x 0]
theorem s_Tape_append {G : XG} {d : Nat} {h : XH} {Q : XV → XH → Prop} {X : Nat → XH → Prop} {x : Int} {bs : List Int} (F : xFix h) (R : TapeR h bs) (hl : bs.length ≤ 396)
    (hq : ∀ h', xFix h' → xsm TPC h h' → xnx h' = xnx h → xsl h' = xsl h → TapeR h' (bs ++ by4 x) → Q xN h') : xwp G m_Tape_append (d + 1) 0 [xR 1, xI x, xZ] [] h Q X := by
  have step : ∀ (s : Int) (h2 : XH) (cs : List Int), xFix h2 → 0 ≤ s → TapeR h2 cs → cs.length < 400 → (∀ h3, xFix h3 → (∀ C0, xsm TPC C0 h2 → xsm TPC C0 h3) → xnx h3 = xnx h2 → xsl h3 = xsl h2 → TapeR h3 (cs ++ [byb x s]) → xwp G m_Tape_append (d + 1) 3 [xR 1, xI x, xI (s + (-8))] [] h3 Q X) → xwp G m_Tape_append (d + 1) 3 [xR 1, xI x, xI s] [] h2 Q X := by
    intro s h2 cs F2 hs R2 hl2 k
    have r1 := R2.1
    refine v_Tape_append_3 F2 ?_
    refine ⟨fun q1 => ?_, fun q1 => ?_⟩
    · omega
    · refine ⟨fun q2 => ?_, fun q2 => ?_⟩
      · omega
      · refine ⟨fun q3 => ?_, fun q3 => ?_⟩
        · omega
        · intro F9
          exact k _ F9 (fun C0 e => (e.st (by omega) (Or.inl (Or.inr (Or.inl rfl)))).st (by decide) (Or.inl (Or.inl rfl))) rfl rfl (R2.push hl2 (xand_rng255 _).1 (xand_rng255 _).2)
  refine v_Tape_append_0 F ?_
  refine step 24 h bs F (by decide) R (by omega) (fun h1 F1 e1 n1 m1 R1 => ?_)
  refine step _ h1 _ F1 (by decide) R1 (by rw [List.length_append]; show bs.length + 1 < 400; omega) (fun h2 F2 e2 n2 m2 R2 => ?_)
  refine step _ h2 _ F2 (by decide) R2 (by rw [List.length_append, List.length_append]; show bs.length + 1 + 1 < 400; omega) (fun h3 F3 e3 n3 m3 R3 => ?_)
  refine step _ h3 _ F3 (by decide) R3 (by rw [List.length_append, List.length_append, List.length_append]; show bs.length + 1 + 1 + 1 < 400; omega) (fun h4 F4 e4 n4 m4 R4 => ?_)
  refine v_Tape_append_3 F4 ?_
  refine ⟨fun q1 => ?_, fun q1 => ?_⟩
  · refine hq _ F4 (e4 _ (e3 _ (e2 _ (e1 _ (xsm.refl h))))) (by omega) (by omega) ?_
    rw [List.append_assoc, List.append_assoc, List.append_assoc] at R4
    exact R4
  · refine ⟨fun q2 => ?_, fun q2 => ?_⟩
    · omega
    · refine ⟨fun q3 => ?_, fun q3 => ?_⟩
      · omega
      · intro F9
        omega
/-- the first place of w from p on, 0 without one -/
def fplF (bs : List Int) (w : Int) : Nat → Int → Int
  | 0, _ => 0
  | n + 1, p => if lat bs p = w then p else fplF bs w n (p + 1)
def fpl (bs : List Int) (w : Int) : Int := fplF bs w bs.length 0
theorem s_Tape_firstPlaceOf {G : XG} {d : Nat} {h : XH} {Q : XV → XH → Prop} {X : Nat → XH → Prop} {w : Int} {bs : List Int} (F : xFix h) (R : TapeR h bs) (hq : Q (xI (fpl bs w)) h) : xwp G m_Tape_firstPlaceOf (d + 2) 0 [xR 1, xI w, xZ] [] h Q X := by
  have r1 := R.1
  have loop : ∀ (n : Nat) (p : Int), 0 ≤ p → p + n = bs.length → Q (xI (fplF bs w n p)) h → xwp G m_Tape_firstPlaceOf (d + 2) 2 [xR 1, xI w, xI p] [] h Q X := by
    intro n
    induction n with
    | zero =>
      intro p p0 p1 hq
      refine v_Tape_firstPlaceOf_2 F ?_
      refine ⟨fun q1 => ?_, fun q1 => ?_⟩
      · exact hq
      · refine ⟨fun q2 => ?_, fun q2 => ?_⟩
        · omega
        · omega
    | succ n ih =>
      intro p p0 p1 hq
      unfold fplF at hq
      refine v_Tape_firstPlaceOf_2 F ?_
      refine ⟨fun q1 => ?_, fun q1 => ?_⟩
      · omega
      · refine ⟨fun q2 => ?_, fun q2 => ?_⟩
        · rw [R.at] at q2; rw [if_pos q2] at hq; exact hq
        · rw [R.at] at q2; rw [if_neg q2] at hq; exact ih _ (by omega) (by omega) hq
  refine v_Tape_firstPlaceOf_0 F ?_
  exact loop bs.length 0 (by omega) (by omega) hq
abbrev m_Tape_seekRun : XM := (⟨"BeaconIndex$Tape", "seekRun", "(II)Z"⟩, prog_9_method_5_code, 5, (some .boolean), [])
theorem d_Tape_seekRun_0 : decode prog_9_method_5_code 0 = .ok (.iload_n 1, 1) := by decide +kernel
theorem d_Tape_seekRun_1 : decode prog_9_method_5_code 1 = .ok (.istore_n 3, 1) := by decide +kernel
theorem v_Tape_seekRun_0 {G : XG} {d : Nat} {h : XH} {Q : XV → XH → Prop} {X : Nat → XH → Prop} {x1 x2 : Int} (F : xFix h) (hyp : (xwp G m_Tape_seekRun (d + 2) 2 [xR 1, xZ, xI x2, xI x1, xZ] [] h Q X)) : xwp G m_Tape_seekRun (d + 2) 0 [xR 1, xI x1, xI x2, xZ, xZ] [] h Q X := by
  have hnx9 : (93 : Int) ≤ xnx h := F.2.2
  refine xr_okL (fun hl9 => ?_)
  have r_x1 : -2147483648 ≤ x1 ∧ x1 ≤ 2147483647 := hl9 (xI x1) (.tail _ (.head _)) (Nat.le_of_ble_eq_true rfl)
  have r_x2 : -2147483648 ≤ x2 ∧ x2 ≤ 2147483647 := hl9 (xI x2) (.tail _ (.tail _ (.head _))) (Nat.le_of_ble_eq_true rfl)
  refine xr_iload_n (pc := 0) (i := 1) (hI := d_Tape_seekRun_0) (hi := rfl) (hl := rfl) ?_
  refine xr_istore_n (pc := 1) (i := 3) (L9 := [xR 1, xI x1, xI x2, xI x1, xZ]) (hI := d_Tape_seekRun_1) (hi := rfl) (hn := Nat.le_of_ble_eq_true rfl) (hL9 := rfl) ?_
  exact xr_drop (L9 := [xR 1, xZ, xI x2, xI x1, xZ]) (xdrs (xdrz (xdrs (xdrs (xdrs xdr0))))) hyp
theorem d_Tape_seekRun_2 : decode prog_9_method_5_code 2 = .ok (.iload_n 3, 1) := by decide +kernel
theorem d_Tape_seekRun_3 : decode prog_9_method_5_code 3 = .ok (.iload_n 2, 1) := by decide +kernel
theorem d_Tape_seekRun_4 : decode prog_9_method_5_code 4 = .ok (.if_icmp .ge 20, 3) := by decide +kernel
theorem d_Tape_seekRun_24 : decode prog_9_method_5_code 24 = .ok (.aload_n 0, 1) := by decide +kernel
theorem d_Tape_seekRun_25 : decode prog_9_method_5_code 25 = .ok (.iload_n 3, 1) := by decide +kernel
theorem d_Tape_seekRun_26 : decode prog_9_method_5_code 26 = .ok (.putfield 26, 3) := by decide +kernel
theorem w_60 : Cond.fieldLink "BeaconIndex$Tape" 26 "BeaconIndex$Tape" "runStart" "I" ∈ lw_tbl := List.mem_append_right _ (List.mem_of_getElem? (i := 60) (by decide +kernel))
theorem xfk_1_4 : xfree 1 4 = true := by decide +kernel
theorem d_Tape_seekRun_7 : decode prog_9_method_5_code 7 = .ok (.aload_n 0, 1) := by decide +kernel
theorem d_Tape_seekRun_8 : decode prog_9_method_5_code 8 = .ok (.iload_n 3, 1) := by decide +kernel
theorem d_Tape_seekRun_9 : decode prog_9_method_5_code 9 = .ok (.invokevirtual 35, 3) := by decide +kernel
theorem d_Tape_seekRun_12 : decode prog_9_method_5_code 12 = .ok (.invokestatic 39, 3) := by decide +kernel
theorem k_Words_signOf : xCal m_Words_signOf 1 := ⟨List.mem_append_right _ (List.mem_of_getElem? (i := 797) (by decide +kernel)), w_24, Nat.le_of_ble_eq_true rfl, ⟨by decide +kernel, by decide +kernel⟩, by decide +kernel, by decide +kernel, rfl⟩
theorem w_795 : Cond.methodLink "BeaconIndex$Tape" 39 ⟨"BeaconIndex$Words", "signOf", "(I)I"⟩ ∈ lw_tbl := List.mem_append_right _ (List.mem_of_getElem? (i := 795) (by decide +kernel))
theorem w_796 : Cond.static ⟨"BeaconIndex$Words", "signOf", "(I)I"⟩ ∈ lw_tbl := List.mem_append_right _ (List.mem_of_getElem? (i := 796) (by decide +kernel))
theorem d_Tape_seekRun_15 : decode prog_9_method_5_code 15 = .ok (.ifCond .ne 9, 3) := by decide +kernel
theorem d_Tape_seekRun_18 : decode prog_9_method_5_code 18 = .ok (.iinc 3 1, 3) := by decide +kernel
theorem d_Tape_seekRun_21 : decode prog_9_method_5_code 21 = .ok (.goto (-19), 3) := by decide +kernel
theorem v_Tape_seekRun_2 {G : XG} {d : Nat} {h : XH} {Q : XV → XH → Prop} {X : Nat → XH → Prop} {x2 x3 : Int} (F : xFix h) (hyp : ((x2 ≤ x3 → (xFix (xst h 1 4 x3) → xwp G m_Tape_seekRun (d + 2) 29 [xR 1, xZ, xI x2, xI x3, xZ] [] (xst h 1 4 x3) Q X)) ∧ (¬ x2 ≤ x3 → (((sgn (tpa h x3)) = 0 → (xwp G m_Tape_seekRun (d + 2) 2 [xR 1, xZ, xI x2, xI (x3 + 1), xZ] [] h Q X)) ∧ (¬ (sgn (tpa h x3)) = 0 → (xFix (xst h 1 4 x3) → xwp G m_Tape_seekRun (d + 2) 29 [xR 1, xZ, xI x2, xI x3, xZ] [] (xst h 1 4 x3) Q X)))))) : xwp G m_Tape_seekRun (d + 2) 2 [xR 1, xZ, xI x2, xI x3, xZ] [] h Q X := by
  have hnx9 : (93 : Int) ≤ xnx h := F.2.2
  refine xr_okL (fun hl9 => ?_)
  have r_x2 : -2147483648 ≤ x2 ∧ x2 ≤ 2147483647 := hl9 (xI x2) (.tail _ (.tail _ (.head _))) (Nat.le_of_ble_eq_true rfl)
  have r_x3 : -2147483648 ≤ x3 ∧ x3 ≤ 2147483647 := hl9 (xI x3) (.tail _ (.tail _ (.tail _ (.head _)))) (Nat.le_of_ble_eq_true rfl)
  refine xr_iload_n (pc := 2) (i := 3) (hI := d_Tape_seekRun_2) (hi := rfl) (hl := rfl) ?_
  refine xr_iload_n (pc := 3) (i := 2) (hI := d_Tape_seekRun_3) (hi := rfl) (hl := rfl) ?_
  refine xr_icmp_ge (pc := 4) (tgt := 24) (hI := d_Tape_seekRun_4) (ht := by decide) (fun q9 => ?_) (fun q9 => ?_)
  · replace hyp := hyp.1 q9
    have q1_ := q9
    clear q9
    refine xr_aload_n (pc := 24) (i := 0) (hI := d_Tape_seekRun_24) (hi := rfl) (hl := rfl) ?_
    refine xr_iload_n (pc := 25) (i := 3) (hI := d_Tape_seekRun_25) (hi := rfl) (hl := rfl) ?_
    refine xr_putf (pc := 26) (ci := 8) (k := 4) (N := 7) (v9 := 0) (T := xF8) (tF := xT8) (hI := d_Tape_seekRun_26) (hw := w_60) rfl xi8 xt8 xn8 (Or.inl rfl) (Nat.le_of_ble_eq_true rfl) (Nat.le_of_ble_eq_true rfl) rfl xfit_i rfl (ft_1 F) (by decide) (fun z => z) ?_
    have F2_ : xFix (xst h 1 4 x3) := F.stL xfk_1_4
    exact (hyp F2_)
  · replace hyp := hyp.2 q9
    have q1_ := q9
    clear q9
    refine xr_aload_n (pc := 7) (i := 0) (hI := d_Tape_seekRun_7) (hi := rfl) (hl := rfl) ?_
    refine xr_iload_n (pc := 8) (i := 3) (hI := d_Tape_seekRun_8) (hi := rfl) (hl := rfl) ?_
    refine xq_callV (pc := 9) (index := 35) (K := m_Tape_at) (As := [xI x3]) (S := []) (L0 := [xR 1, xI x3]) (hI := d_Tape_seekRun_9) (hK := k_Tape_at) (hlk := w_791) (hnoM := rfl) (hS8 := Nat.le_of_ble_eq_true rfl) (ci := 8) (N := 7) (C := "BeaconIndex$Tape") (T := xF8) (hc := rfl) (hci := Nat.le_of_ble_eq_true rfl) (htb := (ft_1 F)) (hinst := w_792) (hsel := w_793) (hlen := Nat.le_of_ble_eq_true rfl) (hst := rfl) (hL0 := rfl)  (p_Tape_at F  ?_)
    show xwp G m_Tape_seekRun (d + 2) 12 [xR 1, xZ, xI x2, xI x3, xZ] [xI (tpa h x3)] _ _ _
    refine xq_callS (pc := 12) (index := 39) (K := m_Words_signOf) (As := [xI (tpa h x3)]) (S := []) (L0 := [xI (tpa h x3)]) (hI := d_Tape_seekRun_12) (hK := k_Words_signOf) (hlk := w_795) (hnoM := rfl) (hS8 := Nat.le_of_ble_eq_true rfl) (hstat := w_796) (hlen := Nat.le_of_ble_eq_true rfl) (hst := rfl) (hL0 := rfl)  (p_Words_signOf F  ?_)
    show xwp G m_Tape_seekRun (d + 2) 15 [xR 1, xZ, xI x2, xI x3, xZ] [xI (sgn (tpa h x3))] _ _ _
    have f3_ : 0 ≤ (sgn (tpa h x3)) ∧ (sgn (tpa h x3)) ≤ 36 := sgn_rng _
    refine xr_if_ne (pc := 15) (tgt := 24) (hI := d_Tape_seekRun_15) (ht := by decide) (fun q9 => ?_) (fun q9 => ?_)
    · replace hyp := hyp.2 q9
      have q4_ := q9
      clear q9
      refine xr_aload_n (pc := 24) (i := 0) (hI := d_Tape_seekRun_24) (hi := rfl) (hl := rfl) ?_
      refine xr_iload_n (pc := 25) (i := 3) (hI := d_Tape_seekRun_25) (hi := rfl) (hl := rfl) ?_
      refine xr_putf (pc := 26) (ci := 8) (k := 4) (N := 7) (v9 := 0) (T := xF8) (tF := xT8) (hI := d_Tape_seekRun_26) (hw := w_60) rfl xi8 xt8 xn8 (Or.inl rfl) (Nat.le_of_ble_eq_true rfl) (Nat.le_of_ble_eq_true rfl) rfl xfit_i rfl (ft_1 F) (by decide) (fun z => z) ?_
      have F5_ : xFix (xst h 1 4 x3) := F.stL xfk_1_4
      exact (hyp F5_)
    · replace hyp := hyp.1 q9
      have q4_ := q9
      clear q9
      refine xr_iinc (pc := 18) (i := 3) (L9 := [xR 1, xZ, xI x2, xI (x3 + 1), xZ]) (hI := d_Tape_seekRun_18) (hl := rfl) (hn := Nat.le_of_ble_eq_true rfl) (hr := ⟨by clear hyp; omega, by clear hyp; omega⟩) (hL9 := rfl) ?_
      refine xr_goto (pc := 21) (tgt := 2) (hI := d_Tape_seekRun_21) (ht := by decide) ?_
      exact hyp
theorem d_Tape_seekRun_29 : decode prog_9_method_5_code 29 = .ok (.iload_n 3, 1) := by decide +kernel
theorem d_Tape_seekRun_30 : decode prog_9_method_5_code 30 = .ok (.iload_n 2, 1) := by decide +kernel
theorem d_Tape_seekRun_31 : decode prog_9_method_5_code 31 = .ok (.if_icmp .ge 20, 3) := by decide +kernel
theorem d_Tape_seekRun_34 : decode prog_9_method_5_code 34 = .ok (.aload_n 0, 1) := by decide +kernel
theorem d_Tape_seekRun_35 : decode prog_9_method_5_code 35 = .ok (.iload_n 3, 1) := by decide +kernel
theorem d_Tape_seekRun_36 : decode prog_9_method_5_code 36 = .ok (.invokevirtual 35, 3) := by decide +kernel
theorem d_Tape_seekRun_39 : decode prog_9_method_5_code 39 = .ok (.invokestatic 39, 3) := by decide +kernel
theorem d_Tape_seekRun_42 : decode prog_9_method_5_code 42 = .ok (.ifCond .eq 9, 3) := by decide +kernel
theorem d_Tape_seekRun_45 : decode prog_9_method_5_code 45 = .ok (.iinc 3 1, 3) := by decide +kernel
theorem d_Tape_seekRun_48 : decode prog_9_method_5_code 48 = .ok (.goto (-19), 3) := by decide +kernel
theorem v_Tape_seekRun_29 {G : XG} {d : Nat} {h : XH} {Q : XV → XH → Prop} {X : Nat → XH → Prop} {x2 x3 : Int} (F : xFix h) (hyp : ((x2 ≤ x3 → (xwp G m_Tape_seekRun (d + 2) 51 [xR 1, xZ, xZ, xI x3, xZ] [] h Q X)) ∧ (¬ x2 ≤ x3 → (((sgn (tpa h x3)) = 0 → (xwp G m_Tape_seekRun (d + 2) 51 [xR 1, xZ, xZ, xI x3, xZ] [] h Q X)) ∧ (¬ (sgn (tpa h x3)) = 0 → (xwp G m_Tape_seekRun (d + 2) 29 [xR 1, xZ, xI x2, xI (x3 + 1), xZ] [] h Q X)))))) : xwp G m_Tape_seekRun (d + 2) 29 [xR 1, xZ, xI x2, xI x3, xZ] [] h Q X := by
  have hnx9 : (93 : Int) ≤ xnx h := F.2.2
  refine xr_okL (fun hl9 => ?_)
  have r_x2 : -2147483648 ≤ x2 ∧ x2 ≤ 2147483647 := hl9 (xI x2) (.tail _ (.tail _ (.head _))) (Nat.le_of_ble_eq_true rfl)
  have r_x3 : -2147483648 ≤ x3 ∧ x3 ≤ 2147483647 := hl9 (xI x3) (.tail _ (.tail _ (.tail _ (.head _)))) (Nat.le_of_ble_eq_true rfl)
  refine xr_iload_n (pc := 29) (i := 3) (hI := d_Tape_seekRun_29) (hi := rfl) (hl := rfl) ?_
  refine xr_iload_n (pc := 30) (i := 2) (hI := d_Tape_seekRun_30) (hi := rfl) (hl := rfl) ?_
  refine xr_icmp_ge (pc := 31) (tgt := 51) (hI := d_Tape_seekRun_31) (ht := by decide) (fun q9 => ?_) (fun q9 => ?_)
  · replace hyp := hyp.1 q9
    have q1_ := q9
    clear q9
    exact xr_drop (L9 := [xR 1, xZ, xZ, xI x3, xZ]) (xdrs (xdrs (xdrz (xdrs (xdrs xdr0))))) hyp
  · replace hyp := hyp.2 q9
    have q1_ := q9
    clear q9
    refine xr_aload_n (pc := 34) (i := 0) (hI := d_Tape_seekRun_34) (hi := rfl) (hl := rfl) ?_
    refine xr_iload_n (pc := 35) (i := 3) (hI := d_Tape_seekRun_35) (hi := rfl) (hl := rfl) ?_
    refine xq_callV (pc := 36) (index := 35) (K := m_Tape_at) (As := [xI x3]) (S := []) (L0 := [xR 1, xI x3]) (hI := d_Tape_seekRun_36) (hK := k_Tape_at) (hlk := w_791) (hnoM := rfl) (hS8 := Nat.le_of_ble_eq_true rfl) (ci := 8) (N := 7) (C := "BeaconIndex$Tape") (T := xF8) (hc := rfl) (hci := Nat.le_of_ble_eq_true rfl) (htb := (ft_1 F)) (hinst := w_792) (hsel := w_793) (hlen := Nat.le_of_ble_eq_true rfl) (hst := rfl) (hL0 := rfl)  (p_Tape_at F  ?_)
    show xwp G m_Tape_seekRun (d + 2) 39 [xR 1, xZ, xI x2, xI x3, xZ] [xI (tpa h x3)] _ _ _
    refine xq_callS (pc := 39) (index := 39) (K := m_Words_signOf) (As := [xI (tpa h x3)]) (S := []) (L0 := [xI (tpa h x3)]) (hI := d_Tape_seekRun_39) (hK := k_Words_signOf) (hlk := w_795) (hnoM := rfl) (hS8 := Nat.le_of_ble_eq_true rfl) (hstat := w_796) (hlen := Nat.le_of_ble_eq_true rfl) (hst := rfl) (hL0 := rfl)  (p_Words_signOf F  ?_)
    show xwp G m_Tape_seekRun (d + 2) 42 [xR 1, xZ, xI x2, xI x3, xZ] [xI (sgn (tpa h x3))] _ _ _
    have f2_ : 0 ≤ (sgn (tpa h x3)) ∧ (sgn (tpa h x3)) ≤ 36 := sgn_rng _
    refine xr_if_eq (pc := 42) (tgt := 51) (hI := d_Tape_seekRun_42) (ht := by decide) (fun q9 => ?_) (fun q9 => ?_)
    · replace hyp := hyp.1 q9
      have q3_ := q9
      clear q9
      exact xr_drop (L9 := [xR 1, xZ, xZ, xI x3, xZ]) (xdrs (xdrs (xdrz (xdrs (xdrs xdr0))))) hyp
    · replace hyp := hyp.2 q9
      have q3_ := q9
      clear q9
      refine xr_iinc (pc := 45) (i := 3) (L9 := [xR 1, xZ, xI x2, xI (x3 + 1), xZ]) (hI := d_Tape_seekRun_45) (hl := rfl) (hn := Nat.le_of_ble_eq_true rfl) (hr := ⟨by clear hyp; omega, by clear hyp; omega⟩) (hL9 := rfl) ?_
      refine xr_goto (pc := 48) (tgt := 29) (hI := d_Tape_seekRun_48) (ht := by decide) ?_
      exact hyp
theorem d_Tape_seekRun_51 : decode prog_9_method_5_code 51 = .ok (.aload_n 0, 1) := by decide +kernel
theorem d_Tape_seekRun_52 : decode prog_9_method_5_code 52 = .ok (.iload_n 3, 1) := by decide +kernel
theorem d_Tape_seekRun_53 : decode prog_9_method_5_code 53 = .ok (.putfield 29, 3) := by decide +kernel
theorem w_61 : Cond.fieldLink "BeaconIndex$Tape" 29 "BeaconIndex$Tape" "runEnd" "I" ∈ lw_tbl := List.mem_append_right _ (List.mem_of_getElem? (i := 61) (by decide +kernel))
theorem xfk_1_5 : xfree 1 5 = true := by decide +kernel
theorem d_Tape_seekRun_56 : decode prog_9_method_5_code 56 = .ok (.aload_n 0, 1) := by decide +kernel
theorem d_Tape_seekRun_57 : decode prog_9_method_5_code 57 = .ok (.aload_n 0, 1) := by decide +kernel
theorem d_Tape_seekRun_58 : decode prog_9_method_5_code 58 = .ok (.getfield 29, 3) := by decide +kernel
theorem d_Tape_seekRun_61 : decode prog_9_method_5_code 61 = .ok (.aload_n 0, 1) := by decide +kernel
theorem d_Tape_seekRun_62 : decode prog_9_method_5_code 62 = .ok (.getfield 26, 3) := by decide +kernel
theorem d_Tape_seekRun_65 : decode prog_9_method_5_code 65 = .ok (.isub, 1) := by decide +kernel
theorem d_Tape_seekRun_66 : decode prog_9_method_5_code 66 = .ok (.bipush 12, 2) := by decide +kernel
theorem d_Tape_seekRun_68 : decode prog_9_method_5_code 68 = .ok (.invokestatic 44, 3) := by decide +kernel
theorem w_798 : Cond.methodLink "BeaconIndex$Tape" 44 ⟨"java/lang/Math", "min", "(II)I"⟩ ∈ lw_tbl := List.mem_append_right _ (List.mem_of_getElem? (i := 798) (by decide +kernel))
theorem d_Tape_seekRun_71 : decode prog_9_method_5_code 71 = .ok (.putfield 32, 3) := by decide +kernel
theorem w_63 : Cond.fieldLink "BeaconIndex$Tape" 32 "BeaconIndex$Tape" "kept" "I" ∈ lw_tbl := List.mem_append_right _ (List.mem_of_getElem? (i := 63) (by decide +kernel))
theorem xfk_1_6 : xfree 1 6 = true := by decide +kernel
theorem d_Tape_seekRun_74 : decode prog_9_method_5_code 74 = .ok (.iconst 0, 1) := by decide +kernel
theorem d_Tape_seekRun_75 : decode prog_9_method_5_code 75 = .ok (.istore 4, 2) := by decide +kernel
theorem v_Tape_seekRun_51 {G : XG} {d : Nat} {h : XH} {Q : XV → XH → Prop} {X : Nat → XH → Prop} {x3 : Int} (F : xFix h) (hyp : xiR (x3 - (xpl h 1 4)) ∧ (xFix (xst (xst h 1 5 x3) 1 6 (min (x3 - (xpl h 1 4)) 12)) → xwp G m_Tape_seekRun (d + 2) 77 [xR 1, xZ, xZ, xZ, xI 0] [] (xst (xst h 1 5 x3) 1 6 (min (x3 - (xpl h 1 4)) 12)) Q X)) : xwp G m_Tape_seekRun (d + 2) 51 [xR 1, xZ, xZ, xI x3, xZ] [] h Q X := by
  have hnx9 : (93 : Int) ≤ xnx h := F.2.2
  refine xr_okL (fun hl9 => ?_)
  have r_x3 : -2147483648 ≤ x3 ∧ x3 ≤ 2147483647 := hl9 (xI x3) (.tail _ (.tail _ (.tail _ (.head _)))) (Nat.le_of_ble_eq_true rfl)
  refine xr_aload_n (pc := 51) (i := 0) (hI := d_Tape_seekRun_51) (hi := rfl) (hl := rfl) ?_
  refine xr_iload_n (pc := 52) (i := 3) (hI := d_Tape_seekRun_52) (hi := rfl) (hl := rfl) ?_
  refine xr_putf (pc := 53) (ci := 8) (k := 5) (N := 7) (v9 := 0) (T := xF8) (tF := xT8) (hI := d_Tape_seekRun_53) (hw := w_61) rfl xi8 xt8 xn8 (Or.inl rfl) (Nat.le_of_ble_eq_true rfl) (Nat.le_of_ble_eq_true rfl) rfl xfit_i rfl (ft_1 F) (by decide) (fun z => z) ?_
  have F1_ : xFix (xst h 1 5 x3) := F.stL xfk_1_5
  refine xr_aload_n (pc := 56) (i := 0) (hI := d_Tape_seekRun_56) (hi := rfl) (hl := rfl) ?_
  refine xr_aload_n (pc := 57) (i := 0) (hI := d_Tape_seekRun_57) (hi := rfl) (hl := rfl) ?_
  refine xg_getf (pc := 58) (ci := 8) (k := 5) (N := 7) (v9 := 0) (v := x3) (T := xF8) (hI := d_Tape_seekRun_58) (hw := w_61) rfl xi8 (Or.inl rfl) (Nat.le_of_ble_eq_true rfl) (Nat.le_of_ble_eq_true rfl) rfl (ft_1 F1_) (xpl_hit _ _ _ _) (fun f2_ => ?_)
  replace f2_ : -2147483648 ≤ x3 ∧ x3 ≤ 2147483647 := f2_
  refine xr_aload_n (pc := 61) (i := 0) (hI := d_Tape_seekRun_61) (hi := rfl) (hl := rfl) ?_
  refine xg_getf (pc := 62) (ci := 8) (k := 4) (N := 7) (v9 := 0) (v := (xpl h 1 4)) (T := xF8) (hI := d_Tape_seekRun_62) (hw := w_60) rfl xi8 (Or.inl rfl) (Nat.le_of_ble_eq_true rfl) (Nat.le_of_ble_eq_true rfl) rfl (ft_1 F1_) (xpl_ok (by decide)) (fun f3_ => ?_)
  replace f3_ : -2147483648 ≤ (xpl h 1 4) ∧ (xpl h 1 4) ≤ 2147483647 := f3_
  obtain ⟨c9, hyp⟩ := hyp
  refine xr_isub (pc := 65) (hI := d_Tape_seekRun_65) (hr := c9) ?_
  refine xr_bipush (pc := 66) (hI := d_Tape_seekRun_66) (hr := by decide) (hv := by decide) ?_
  refine xr_mmin (pc := 68) (index := 44) (hI := d_Tape_seekRun_68) w_798 w_542 w_25 w_mmin (Nat.le_add_left_of_le (by decide)) (Nat.le_of_ble_eq_true rfl) ?_
  have f4_ : (min (x3 - (xpl h 1 4)) 12) ≤ (x3 - (xpl h 1 4)) := (by clear hyp; omega)
  have f5_ : (min (x3 - (xpl h 1 4)) 12) ≤ 12 := (by clear hyp; omega)
  have f6_ : (-2147483648) ≤ (min (x3 - (xpl h 1 4)) 12) := (by clear hyp; omega)
  refine xr_putf (pc := 71) (ci := 8) (k := 6) (N := 7) (v9 := 0) (T := xF8) (tF := xT8) (hI := d_Tape_seekRun_71) (hw := w_63) rfl xi8 xt8 xn8 (Or.inl rfl) (Nat.le_of_ble_eq_true rfl) (Nat.le_of_ble_eq_true rfl) rfl xfit_i rfl (ft_1 F1_) (by decide) (fun z => z) ?_
  have F7_ : xFix (xst (xst h 1 5 x3) 1 6 (min (x3 - (xpl h 1 4)) 12)) := F1_.stL xfk_1_6
  refine xr_iconst (pc := 74) (hI := d_Tape_seekRun_74) (hr := by decide) ?_
  refine xr_istore (pc := 75) (i := 4) (L9 := [xR 1, xZ, xZ, xI x3, xI 0]) (hI := d_Tape_seekRun_75) (hn := Nat.le_of_ble_eq_true rfl) (hL9 := rfl) ?_
  exact xr_drop (L9 := [xR 1, xZ, xZ, xZ, xI 0]) (xdrs (xdrs (xdrs (xdrz (xdrs xdr0))))) (hyp F7_)
theorem d_Tape_seekRun_77 : decode prog_9_method_5_code 77 = .ok (.iload 4, 2) := by decide +kernel
theorem d_Tape_seekRun_79 : decode prog_9_method_5_code 79 = .ok (.aload_n 0, 1) := by decide +kernel
theorem d_Tape_seekRun_80 : decode prog_9_method_5_code 80 = .ok (.getfield 32, 3) := by decide +kernel
theorem d_Tape_seekRun_83 : decode prog_9_method_5_code 83 = .ok (.if_icmp .ge 43, 3) := by decide +kernel
theorem d_Tape_seekRun_86 : decode prog_9_method_5_code 86 = .ok (.iload 4, 2) := by decide +kernel
theorem d_Tape_seekRun_88 : decode prog_9_method_5_code 88 = .ok (.aload_n 0, 1) := by decide +kernel
theorem d_Tape_seekRun_89 : decode prog_9_method_5_code 89 = .ok (.getfield 19, 3) := by decide +kernel
theorem w_56 : Cond.fieldLink "BeaconIndex$Tape" 19 "BeaconIndex$Tape" "letters" "[I" ∈ lw_tbl := List.mem_append_right _ (List.mem_of_getElem? (i := 56) (by decide +kernel))
theorem d_Tape_seekRun_92 : decode prog_9_method_5_code 92 = .ok (.arraylength, 1) := by decide +kernel
theorem d_Tape_seekRun_93 : decode prog_9_method_5_code 93 = .ok (.if_icmp .ge 33, 3) := by decide +kernel
theorem d_Tape_seekRun_96 : decode prog_9_method_5_code 96 = .ok (.aload_n 0, 1) := by decide +kernel
theorem d_Tape_seekRun_97 : decode prog_9_method_5_code 97 = .ok (.getfield 19, 3) := by decide +kernel
theorem d_Tape_seekRun_100 : decode prog_9_method_5_code 100 = .ok (.iload 4, 2) := by decide +kernel
theorem d_Tape_seekRun_102 : decode prog_9_method_5_code 102 = .ok (.aload_n 0, 1) := by decide +kernel
theorem d_Tape_seekRun_103 : decode prog_9_method_5_code 103 = .ok (.aload_n 0, 1) := by decide +kernel
theorem d_Tape_seekRun_104 : decode prog_9_method_5_code 104 = .ok (.getfield 26, 3) := by decide +kernel
theorem d_Tape_seekRun_107 : decode prog_9_method_5_code 107 = .ok (.iload 4, 2) := by decide +kernel
theorem d_Tape_seekRun_109 : decode prog_9_method_5_code 109 = .ok (.iadd, 1) := by decide +kernel
theorem d_Tape_seekRun_110 : decode prog_9_method_5_code 110 = .ok (.invokevirtual 35, 3) := by decide +kernel
theorem d_Tape_seekRun_113 : decode prog_9_method_5_code 113 = .ok (.invokestatic 39, 3) := by decide +kernel
theorem d_Tape_seekRun_116 : decode prog_9_method_5_code 116 = .ok (.invokestatic 50, 3) := by decide +kernel
theorem k_Words_byteOf : xCal m_Words_byteOf 1 := ⟨List.mem_append_right _ (List.mem_of_getElem? (i := 801) (by decide +kernel)), w_24, Nat.le_of_ble_eq_true rfl, ⟨by decide +kernel, by decide +kernel⟩, by decide +kernel, by decide +kernel, rfl⟩
theorem w_799 : Cond.methodLink "BeaconIndex$Tape" 50 ⟨"BeaconIndex$Words", "byteOf", "(I)I"⟩ ∈ lw_tbl := List.mem_append_right _ (List.mem_of_getElem? (i := 799) (by decide +kernel))
theorem w_800 : Cond.static ⟨"BeaconIndex$Words", "byteOf", "(I)I"⟩ ∈ lw_tbl := List.mem_append_right _ (List.mem_of_getElem? (i := 800) (by decide +kernel))
theorem d_Tape_seekRun_119 : decode prog_9_method_5_code 119 = .ok (.iastore, 1) := by decide +kernel
theorem xfa_4 : xfreeA 4 = true := by decide +kernel
theorem d_Tape_seekRun_120 : decode prog_9_method_5_code 120 = .ok (.iinc 4 1, 3) := by decide +kernel
theorem d_Tape_seekRun_123 : decode prog_9_method_5_code 123 = .ok (.goto (-46), 3) := by decide +kernel
theorem v_Tape_seekRun_77 {G : XG} {d : Nat} {h : XH} {Q : XV → XH → Prop} {X : Nat → XH → Prop} {x4 : Int} (F : xFix h) (hyp : (((xpl h 1 6) ≤ x4 → (xwp G m_Tape_seekRun (d + 2) 126 [xR 1, xZ, xZ, xZ, xZ] [] h Q X)) ∧ (¬ (xpl h 1 6) ≤ x4 → (((12 : Int) ≤ x4 → (xwp G m_Tape_seekRun (d + 2) 126 [xR 1, xZ, xZ, xZ, xZ] [] h Q X)) ∧ (¬ (12 : Int) ≤ x4 → xiR ((xpl h 1 4) + x4) ∧ 0 ≤ x4 ∧ (xFix (xst h 4 x4 (byt (sgn (tpa h ((xpl h 1 4) + x4))))) → xwp G m_Tape_seekRun (d + 2) 77 [xR 1, xZ, xZ, xZ, xI (x4 + 1)] [] (xst h 4 x4 (byt (sgn (tpa h ((xpl h 1 4) + x4))))) Q X)))))) : xwp G m_Tape_seekRun (d + 2) 77 [xR 1, xZ, xZ, xZ, xI x4] [] h Q X := by
  have hnx9 : (93 : Int) ≤ xnx h := F.2.2
  refine xr_okL (fun hl9 => ?_)
  have r_x4 : -2147483648 ≤ x4 ∧ x4 ≤ 2147483647 := hl9 (xI x4) (.tail _ (.tail _ (.tail _ (.tail _ (.head _))))) (Nat.le_of_ble_eq_true rfl)
  refine xr_iload (pc := 77) (i := 4) (hI := d_Tape_seekRun_77) (hl := rfl) ?_
  refine xr_aload_n (pc := 79) (i := 0) (hI := d_Tape_seekRun_79) (hi := rfl) (hl := rfl) ?_
  refine xg_getf (pc := 80) (ci := 8) (k := 6) (N := 7) (v9 := 0) (v := (xpl h 1 6)) (T := xF8) (hI := d_Tape_seekRun_80) (hw := w_63) rfl xi8 (Or.inl rfl) (Nat.le_of_ble_eq_true rfl) (Nat.le_of_ble_eq_true rfl) rfl (ft_1 F) rfl (fun f1_ => ?_)
  replace f1_ : -2147483648 ≤ (xpl h 1 6) ∧ (xpl h 1 6) ≤ 2147483647 := f1_
  refine xr_icmp_ge (pc := 83) (tgt := 126) (hI := d_Tape_seekRun_83) (ht := by decide) (fun q9 => ?_) (fun q9 => ?_)
  · replace hyp := hyp.1 q9
    have q2_ := q9
    clear q9
    exact xr_drop (L9 := [xR 1, xZ, xZ, xZ, xZ]) (xdrs (xdrs (xdrs (xdrs (xdrz xdr0))))) hyp
  · replace hyp := hyp.2 q9
    have q2_ := q9
    clear q9
    refine xr_iload (pc := 86) (i := 4) (hI := d_Tape_seekRun_86) (hl := rfl) ?_
    refine xr_aload_n (pc := 88) (i := 0) (hI := d_Tape_seekRun_88) (hi := rfl) (hl := rfl) ?_
    refine xg_getf (pc := 89) (ci := 8) (k := 2) (N := 7) (v9 := 2) (v := 4) (T := xF8) (hI := d_Tape_seekRun_89) (hw := w_56) rfl xi8 (Or.inl rfl) (Nat.le_of_ble_eq_true rfl) (Nat.le_of_ble_eq_true rfl) rfl (ft_1 F) (fp_1_2 F) (fun f3_ => ?_)
    clear f3_
    refine xg_alen (pc := 92) (t := 100) (v := 12) (hI := d_Tape_seekRun_92) (ft_4 F) (Nat.le_of_ble_eq_true rfl) (Nat.le_of_ble_eq_true rfl) rfl (fl_4 F) (fun f4_ f5_ => ?_)
    clear f4_ f5_
    refine xr_icmp_ge (pc := 93) (tgt := 126) (hI := d_Tape_seekRun_93) (ht := by decide) (fun q9 => ?_) (fun q9 => ?_)
    · replace hyp := hyp.1 q9
      have q6_ := q9
      clear q9
      exact xr_drop (L9 := [xR 1, xZ, xZ, xZ, xZ]) (xdrs (xdrs (xdrs (xdrs (xdrz xdr0))))) hyp
    · replace hyp := hyp.2 q9
      have q6_ := q9
      clear q9
      refine xr_aload_n (pc := 96) (i := 0) (hI := d_Tape_seekRun_96) (hi := rfl) (hl := rfl) ?_
      refine xg_getf (pc := 97) (ci := 8) (k := 2) (N := 7) (v9 := 2) (v := 4) (T := xF8) (hI := d_Tape_seekRun_97) (hw := w_56) rfl xi8 (Or.inl rfl) (Nat.le_of_ble_eq_true rfl) (Nat.le_of_ble_eq_true rfl) rfl (ft_1 F) (fp_1_2 F) (fun f7_ => ?_)
      clear f7_
      refine xr_iload (pc := 100) (i := 4) (hI := d_Tape_seekRun_100) (hl := rfl) ?_
      refine xr_aload_n (pc := 102) (i := 0) (hI := d_Tape_seekRun_102) (hi := rfl) (hl := rfl) ?_
      refine xr_aload_n (pc := 103) (i := 0) (hI := d_Tape_seekRun_103) (hi := rfl) (hl := rfl) ?_
      refine xg_getf (pc := 104) (ci := 8) (k := 4) (N := 7) (v9 := 0) (v := (xpl h 1 4)) (T := xF8) (hI := d_Tape_seekRun_104) (hw := w_60) rfl xi8 (Or.inl rfl) (Nat.le_of_ble_eq_true rfl) (Nat.le_of_ble_eq_true rfl) rfl (ft_1 F) rfl (fun f8_ => ?_)
      replace f8_ : -2147483648 ≤ (xpl h 1 4) ∧ (xpl h 1 4) ≤ 2147483647 := f8_
      refine xr_iload (pc := 107) (i := 4) (hI := d_Tape_seekRun_107) (hl := rfl) ?_
      obtain ⟨c9, hyp⟩ := hyp
      refine xr_iadd (pc := 109) (hI := d_Tape_seekRun_109) (hr := c9) ?_
      refine xq_callV (pc := 110) (index := 35) (K := m_Tape_at) (As := [xI ((xpl h 1 4) + x4)]) (S := [xI x4, xR 4]) (L0 := [xR 1, xI ((xpl h 1 4) + x4)]) (hI := d_Tape_seekRun_110) (hK := k_Tape_at) (hlk := w_791) (hnoM := rfl) (hS8 := Nat.le_of_ble_eq_true rfl) (ci := 8) (N := 7) (C := "BeaconIndex$Tape") (T := xF8) (hc := rfl) (hci := Nat.le_of_ble_eq_true rfl) (htb := (ft_1 F)) (hinst := w_792) (hsel := w_793) (hlen := Nat.le_of_ble_eq_true rfl) (hst := rfl) (hL0 := rfl)  (p_Tape_at F  ?_)
      show xwp G m_Tape_seekRun (d + 2) 113 [xR 1, xZ, xZ, xZ, xI x4] [xI (tpa h ((xpl h 1 4) + x4)), xI x4, xR 4] _ _ _
      refine xq_callS (pc := 113) (index := 39) (K := m_Words_signOf) (As := [xI (tpa h ((xpl h 1 4) + x4))]) (S := [xI x4, xR 4]) (L0 := [xI (tpa h ((xpl h 1 4) + x4))]) (hI := d_Tape_seekRun_113) (hK := k_Words_signOf) (hlk := w_795) (hnoM := rfl) (hS8 := Nat.le_of_ble_eq_true rfl) (hstat := w_796) (hlen := Nat.le_of_ble_eq_true rfl) (hst := rfl) (hL0 := rfl)  (p_Words_signOf F  ?_)
      show xwp G m_Tape_seekRun (d + 2) 116 [xR 1, xZ, xZ, xZ, xI x4] [xI (sgn (tpa h ((xpl h 1 4) + x4))), xI x4, xR 4] _ _ _
      have f9_ : 0 ≤ (sgn (tpa h ((xpl h 1 4) + x4))) ∧ (sgn (tpa h ((xpl h 1 4) + x4))) ≤ 36 := sgn_rng _
      refine xq_callS (pc := 116) (index := 50) (K := m_Words_byteOf) (As := [xI (sgn (tpa h ((xpl h 1 4) + x4)))]) (S := [xI x4, xR 4]) (L0 := [xI (sgn (tpa h ((xpl h 1 4) + x4)))]) (hI := d_Tape_seekRun_116) (hK := k_Words_byteOf) (hlk := w_799) (hnoM := rfl) (hS8 := Nat.le_of_ble_eq_true rfl) (hstat := w_800) (hlen := Nat.le_of_ble_eq_true rfl) (hst := rfl) (hL0 := rfl)  (p_Words_byteOf F (by clear hyp; omega) (by clear hyp; omega) ?_)
      show xwp G m_Tape_seekRun (d + 2) 119 [xR 1, xZ, xZ, xZ, xI x4] [xI (byt (sgn (tpa h ((xpl h 1 4) + x4)))), xI x4, xR 4] _ _ _
      obtain ⟨c10_, hyp⟩ := hyp
      refine xr_iastore (pc := 119) (hI := d_Tape_seekRun_119) (ft_4 F) (by decide) c10_ (xlt_of (fl_4 F) (by clear hyp; omega)) ?_
      have F11_ : xFix (xst h 4 x4 (byt (sgn (tpa h ((xpl h 1 4) + x4))))) := F.stA xfa_4
      refine xr_iinc (pc := 120) (i := 4) (L9 := [xR 1, xZ, xZ, xZ, xI (x4 + 1)]) (hI := d_Tape_seekRun_120) (hl := rfl) (hn := Nat.le_of_ble_eq_true rfl) (hr := ⟨by clear hyp; omega, by clear hyp; omega⟩) (hL9 := rfl) ?_
      refine xr_goto (pc := 123) (tgt := 77) (hI := d_Tape_seekRun_123) (ht := by decide) ?_
      exact (hyp F11_)
theorem d_Tape_seekRun_126 : decode prog_9_method_5_code 126 = .ok (.aload_n 0, 1) := by decide +kernel
theorem d_Tape_seekRun_127 : decode prog_9_method_5_code 127 = .ok (.getfield 26, 3) := by decide +kernel
theorem d_Tape_seekRun_130 : decode prog_9_method_5_code 130 = .ok (.aload_n 0, 1) := by decide +kernel
theorem d_Tape_seekRun_131 : decode prog_9_method_5_code 131 = .ok (.getfield 29, 3) := by decide +kernel
theorem d_Tape_seekRun_134 : decode prog_9_method_5_code 134 = .ok (.if_icmp .ge 7, 3) := by decide +kernel
theorem d_Tape_seekRun_141 : decode prog_9_method_5_code 141 = .ok (.iconst 0, 1) := by decide +kernel
theorem d_Tape_seekRun_142 : decode prog_9_method_5_code 142 = .ok (.ireturn, 1) := by decide +kernel
theorem d_Tape_seekRun_137 : decode prog_9_method_5_code 137 = .ok (.iconst 1, 1) := by decide +kernel
theorem d_Tape_seekRun_138 : decode prog_9_method_5_code 138 = .ok (.goto 4, 3) := by decide +kernel
theorem v_Tape_seekRun_126 {G : XG} {d : Nat} {h : XH} {Q : XV → XH → Prop} {X : Nat → XH → Prop} (F : xFix h) (hyp : (((xpl h 1 5) ≤ (xpl h 1 4) → (Q (xI 0) h)) ∧ (¬ (xpl h 1 5) ≤ (xpl h 1 4) → (Q (xI 1) h)))) : xwp G m_Tape_seekRun (d + 2) 126 [xR 1, xZ, xZ, xZ, xZ] [] h Q X := by
  have hnx9 : (93 : Int) ≤ xnx h := F.2.2
  refine xr_aload_n (pc := 126) (i := 0) (hI := d_Tape_seekRun_126) (hi := rfl) (hl := rfl) ?_
  refine xg_getf (pc := 127) (ci := 8) (k := 4) (N := 7) (v9 := 0) (v := (xpl h 1 4)) (T := xF8) (hI := d_Tape_seekRun_127) (hw := w_60) rfl xi8 (Or.inl rfl) (Nat.le_of_ble_eq_true rfl) (Nat.le_of_ble_eq_true rfl) rfl (ft_1 F) rfl (fun f1_ => ?_)
  replace f1_ : -2147483648 ≤ (xpl h 1 4) ∧ (xpl h 1 4) ≤ 2147483647 := f1_
  refine xr_aload_n (pc := 130) (i := 0) (hI := d_Tape_seekRun_130) (hi := rfl) (hl := rfl) ?_
  refine xg_getf (pc := 131) (ci := 8) (k := 5) (N := 7) (v9 := 0) (v := (xpl h 1 5)) (T := xF8) (hI := d_Tape_seekRun_131) (hw := w_61) rfl xi8 (Or.inl rfl) (Nat.le_of_ble_eq_true rfl) (Nat.le_of_ble_eq_true rfl) rfl (ft_1 F) rfl (fun f2_ => ?_)
  replace f2_ : -2147483648 ≤ (xpl h 1 5) ∧ (xpl h 1 5) ≤ 2147483647 := f2_
  refine xr_icmp_ge (pc := 134) (tgt := 141) (hI := d_Tape_seekRun_134) (ht := by decide) (fun q9 => ?_) (fun q9 => ?_)
  · replace hyp := hyp.1 q9
    have q3_ := q9
    clear q9
    refine xr_iconst (pc := 141) (hI := d_Tape_seekRun_141) (hr := by decide) ?_
    refine xr_ireturnT (S := []) (pc := 142) (hI := d_Tape_seekRun_142) (hr := rfl) (xnar_z (by decide)) ?_
    exact hyp
  · replace hyp := hyp.2 q9
    have q3_ := q9
    clear q9
    refine xr_iconst (pc := 137) (hI := d_Tape_seekRun_137) (hr := by decide) ?_
    refine xr_goto (pc := 138) (tgt := 142) (hI := d_Tape_seekRun_138) (ht := by decide) ?_
    refine xr_ireturnT (S := []) (pc := 142) (hI := d_Tape_seekRun_142) (hr := rfl) (xnar_z (by decide)) ?_
    exact hyp
theorem TapeR.keep {h h' : XH} {bs : List Int} (R : TapeR h bs) (e1 : xpl h' 1 3 = xpl h 1 3) (e2 : ∀ k, xpl h' 2 k = xpl h 2 k) : TapeR h' bs := ⟨e1.trans R.1, R.2.1, fun i hi => by rw [e2]; exact R.2.2.1 i hi, R.2.2.2⟩
/-- where the next run begins, where it ends -/
def rsF (bs : List Int) : Nat → Int → Int
  | 0, i => i
  | n + 1, i => if sgn (lat bs i) = 0 then rsF bs n (i + 1) else i
def rs (bs : List Int) (i lim : Int) : Int := rsF bs (lim - i).toNat i
def reF (bs : List Int) : Nat → Int → Int
  | 0, i => i
  | n + 1, i => if sgn (lat bs i) = 0 then i else reF bs n (i + 1)
def re (bs : List Int) (i lim : Int) : Int := reF bs (lim - i).toNat i
theorem rsF_rng (bs : List Int) : ∀ (n : Nat) (i : Int), i ≤ rsF bs n i ∧ rsF bs n i ≤ i + n
  | 0, i => by simp [rsF]
  | n + 1, i => by
    have := rsF_rng bs n (i + 1)
    unfold rsF
    split <;> omega
theorem reF_rng (bs : List Int) : ∀ (n : Nat) (i : Int), i ≤ reF bs n i ∧ reF bs n i ≤ i + n
  | 0, i => by simp [reF]
  | n + 1, i => by
    have := reF_rng bs n (i + 1)
    unfold reF
    split <;> omega
theorem rs_rng (bs : List Int) {i lim : Int} (h : i ≤ lim) : i ≤ rs bs i lim ∧ rs bs i lim ≤ lim := by have := rsF_rng bs (lim - i).toNat i; unfold rs; omega
theorem re_rng (bs : List Int) {i lim : Int} (h : i ≤ lim) : i ≤ re bs i lim ∧ re bs i lim ≤ lim := by have := reF_rng bs (lim - i).toNat i; unfold re; omega
def runL (bs : List Int) (s e : Int) : List Int := (List.range (min (e - s) 12).toNat).map (fun k => byt (sgn (lat bs (s + (k : Nat)))))
theorem runL_len {bs : List Int} {s e : Int} (h : s ≤ e) : ((runL bs s e).length : Int) = min (e - s) 12 := by unfold runL; rw [List.length_map, List.length_range]; omega
/-- the first letters of the run that was sought -/
def RunL (h : XH) (ls : List Int) : Prop := xpl h 1 6 = ls.length ∧ ls.length ≤ 12 ∧ ∀ i : Nat, i < ls.length → ls[i]? = some (xpl h 4 i)
theorem s_Tape_seekRun {G : XG} {d : Nat} {h : XH} {Q : XV → XH → Prop} {X : Nat → XH → Prop} {i lim : Int} {bs : List Int} (F : xFix h) (R : TapeR h bs) (h0 : 0 ≤ i) (h1 : i ≤ lim) (h2 : lim ≤ bs.length)
    (hq : ∀ h' s e, s = rs bs i lim → e = re bs s lim → xFix h' → xsm TPC h h' → xnx h' = xnx h → xsl h' = xsl h → TapeR h' bs → xpl h' 1 4 = s → xpl h' 1 5 = e → RunL h' (runL bs s e) → (∀ k, xpl h' 3 k = xpl h 3 k) → Q (xI (b2i (decide (s < e)))) h') : xwp G m_Tape_seekRun (d + 2) 0 [xR 1, xI i, xI lim, xZ, xZ] [] h Q X := by
  have hb := R.2.1
  obtain ⟨s, hs⟩ : ∃ s, s = rs bs i lim := ⟨_, rfl⟩
  have hs2 := rs_rng bs (i := i) h1
  obtain ⟨e, he⟩ : ∃ e, e = re bs s lim := ⟨_, rfl⟩
  have he2 := re_rng bs (i := s) (lim := lim) (by omega)
  have last : ∀ h3, xFix h3 → xsm TPC h h3 → xnx h3 = xnx h → xsl h3 = xsl h → TapeR h3 bs → xpl h3 1 4 = s → xpl h3 1 5 = e → RunL h3 (runL bs s e) → (∀ k, xpl h3 3 k = xpl h 3 k) → xwp G m_Tape_seekRun (d + 2) 126 [xR 1, xZ, xZ, xZ, xZ] [] h3 Q X := by
    intro h3 F3 e3 n3 m3 R3 p4 p5 rl k3
    have q := hq h3 s e hs he F3 e3 n3 m3 R3 p4 p5 rl k3
    refine v_Tape_seekRun_126 F3 ?_
    refine ⟨fun q1 => ?_, fun q1 => ?_⟩
    · rw [decide_eq_false (by omega)] at q; exact q
    · rw [decide_eq_true (by omega)] at q; exact q
  have fill : ∀ (n : Nat) (k : Int) (h3 : XH), 0 ≤ k → k + n = (runL bs s e).length → xFix h3 → xsm TPC h h3 → xnx h3 = xnx h → xsl h3 = xsl h → TapeR h3 bs → xpl h3 1 4 = s → xpl h3 1 5 = e → xpl h3 1 6 = (runL bs s e).length → (∀ j : Nat, (j : Int) < k → (runL bs s e)[j]? = some (xpl h3 4 j)) → (∀ k, xpl h3 3 k = xpl h 3 k) → xwp G m_Tape_seekRun (d + 2) 77 [xR 1, xZ, xZ, xZ, xI k] [] h3 Q X := by
    have hlen := runL_len (bs := bs) (s := s) (e := e) (by omega)
    intro n
    induction n with
    | zero =>
      intro k h3 k0 k1 F3 e3 n3 m3 R3 p4 p5 p6 rl k3
      have l3 := last h3 F3 e3 n3 m3 R3 p4 p5 ⟨p6, by omega, fun j hj => rl j (by omega)⟩ k3
      refine v_Tape_seekRun_77 F3 ?_
      refine ⟨fun q1 => ?_, fun q1 => ?_⟩
      · exact l3
      · refine ⟨fun q2 => ?_, fun q2 => ?_⟩
        · exact l3
        · refine ⟨?_, ?_⟩
          · first | omega | exact ⟨by omega, by omega⟩
          · refine ⟨?_, ?_⟩
            · first | omega | exact ⟨by omega, by omega⟩
            · intro F9
              omega
    | succ n ih =>
      intro k h3 k0 k1 F3 e3 n3 m3 R3 p4 p5 p6 rl k3
      refine v_Tape_seekRun_77 F3 ?_
      refine ⟨fun q1 => ?_, fun q1 => ?_⟩
      · omega
      · refine ⟨fun q2 => ?_, fun q2 => ?_⟩
        · omega
        · refine ⟨?_, ?_⟩
          · first | omega | exact ⟨by omega, by omega⟩
          · refine ⟨?_, ?_⟩
            · first | omega | exact ⟨by omega, by omega⟩
            · intro F9
              refine ih _ _ (by omega) (by omega) F9 (e3.st k0 (Or.inl (by unfold TPC; omega))) n3 m3 (R3.keep (xpl_oa (by decide)) (fun j => xpl_oa (by decide))) ((xpl_oa (by decide)).trans p4) ((xpl_oa (by decide)).trans p5) ((xpl_oa (by decide)).trans p6) (fun j hj => ?_) (fun j => by rw [xpl_oa (by decide)]; exact k3 j)
              by_cases z : (j : Int) = k
              · subst z
                rw [xpl_hit, R3.at, p4]
                unfold runL
                rw [List.getElem?_map, List.getElem?_range (by omega)]; rfl
              · rw [xpl_ok z]; exact rl j (by omega)
  have second : ∀ (n : Nat) (p : Int) (h3 : XH), s ≤ p → p + n = lim → reF bs n p = e → xFix h3 → xsm TPC h h3 → xnx h3 = xnx h → xsl h3 = xsl h → TapeR h3 bs → xpl h3 1 4 = s → (∀ k, xpl h3 3 k = xpl h 3 k) → xwp G m_Tape_seekRun (d + 2) 29 [xR 1, xZ, xI lim, xI p, xZ] [] h3 Q X := by
    have go : ∀ (h3 : XH), xFix h3 → xsm TPC h h3 → xnx h3 = xnx h → xsl h3 = xsl h → TapeR h3 bs → xpl h3 1 4 = s → (∀ k, xpl h3 3 k = xpl h 3 k) → xwp G m_Tape_seekRun (d + 2) 51 [xR 1, xZ, xZ, xI e, xZ] [] h3 Q X := by
      intro h3 F3 e3 n3 m3 R3 p4 k3
      have hlen := runL_len (bs := bs) (s := s) (e := e) (by omega)
      refine v_Tape_seekRun_51 F3 ?_
      refine ⟨?_, ?_⟩
      · exact ⟨by omega, by omega⟩
      · intro F9
        rw [p4] at F9 ⊢
        refine fill (runL bs s e).length 0 _ (by decide) (by omega) F9 ((e3.st (by decide) (Or.inl (Or.inl rfl))).st (by decide) (Or.inl (Or.inl rfl))) n3 m3 (R3.keep (by rw [xpl_ok (by decide), xpl_ok (by decide)]) (fun j => by rw [xpl_oa (by decide), xpl_oa (by decide)])) (by rw [xpl_ok (by decide), xpl_ok (by decide)]; exact p4) (by rw [xpl_ok (by decide), xpl_hit]) (by rw [xpl_hit]; exact hlen.symm) (fun j hj => by omega) (fun j => by rw [xpl_oa (by decide), xpl_oa (by decide)]; exact k3 j)
    intro n
    induction n with
    | zero =>
      intro p h3 p0 p1 hr F3 e3 n3 m3 R3 p4 k3
      have hpe : p = e := hr
      subst hpe
      refine v_Tape_seekRun_29 F3 ?_
      refine ⟨fun q1 => ?_, fun q1 => ?_⟩
      · exact go h3 F3 e3 n3 m3 R3 p4 k3
      · refine ⟨fun q2 => ?_, fun q2 => ?_⟩
        · omega
        · omega
    | succ n ih =>
      intro p h3 p0 p1 hr F3 e3 n3 m3 R3 p4 k3
      unfold reF at hr
      refine v_Tape_seekRun_29 F3 ?_
      refine ⟨fun q1 => ?_, fun q1 => ?_⟩
      · omega
      · refine ⟨fun q2 => ?_, fun q2 => ?_⟩
        · rw [R3.at] at q2
          rw [if_pos q2] at hr
          subst hr
          exact go h3 F3 e3 n3 m3 R3 p4 k3
        · rw [R3.at] at q2
          rw [if_neg q2] at hr
          exact ih _ _ (by omega) (by omega) hr F3 e3 n3 m3 R3 p4 k3
  have first : ∀ (n : Nat) (p : Int), 0 ≤ p → p + n = lim → rsF bs n p = s → xwp G m_Tape_seekRun (d + 2) 2 [xR 1, xZ, xI lim, xI p, xZ] [] h Q X := by
    have go : xFix (xst h 1 4 s) → xwp G m_Tape_seekRun (d + 2) 29 [xR 1, xZ, xI lim, xI s, xZ] [] (xst h 1 4 s) Q X := fun F9 =>
      second (lim - s).toNat s _ (by omega) (by omega) he.symm F9 ((xsm.refl h).st (by decide) (Or.inl (Or.inl rfl))) rfl rfl (R.keep (xpl_ok (by decide)) (fun j => xpl_oa (by decide))) (xpl_hit _ _ _ _) (fun j => xpl_oa (by decide))
    intro n
    induction n with
    | zero =>
      intro p p0 p1 hr
      have hps : p = s := hr
      subst hps
      refine v_Tape_seekRun_2 F ?_
      refine ⟨fun q1 => ?_, fun q1 => ?_⟩
      · intro F9
        exact go F9
      · refine ⟨fun q2 => ?_, fun q2 => ?_⟩
        · omega
        · intro F9
          omega
    | succ n ih =>
      intro p p0 p1 hr
      unfold rsF at hr
      refine v_Tape_seekRun_2 F ?_
      refine ⟨fun q1 => ?_, fun q1 => ?_⟩
      · intro F9
        omega
      · refine ⟨fun q2 => ?_, fun q2 => ?_⟩
        · rw [R.at] at q2
          rw [if_pos q2] at hr
          exact ih _ (by omega) (by omega) hr
        · intro F9
          rw [R.at] at q2
          rw [if_neg q2] at hr
          subst hr
          exact go F9
  refine v_Tape_seekRun_0 F ?_
  exact first (lim - i).toNat i h0 (by omega) hs.symm

end
