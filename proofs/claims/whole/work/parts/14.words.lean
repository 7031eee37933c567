/-! ===== words: one long each ===== -/
section
def sgn (b : Int) : Int := if 48 ≤ b ∧ b ≤ 57 then b - 47 else if 97 ≤ b ∧ b ≤ 122 then b - 86 else if 65 ≤ b ∧ b ≤ 90 then b - 54 else 0
theorem sgn_rng (b : Int) : 0 ≤ sgn b ∧ sgn b ≤ 36 := by unfold sgn; split <;> (try split) <;> (try split) <;> omega
def byt (s : Int) : Int := if s ≤ 10 then s + 47 else s + 86
def p37 (e : Int) : Int := if e < 0 then 1 else if 13 ≤ e then 1 else 37 ^ e.toNat
abbrev m_Words_signOf : XM := (⟨"BeaconIndex$Words", "signOf", "(I)I"⟩, prog_12_method_2_code, 1, (some .int), [])
theorem d_Words_signOf_0 : decode prog_12_method_2_code 0 = .ok (.iload_n 0, 1) := by decide +kernel
theorem d_Words_signOf_1 : decode prog_12_method_2_code 1 = .ok (.bipush 48, 2) := by decide +kernel
theorem d_Words_signOf_3 : decode prog_12_method_2_code 3 = .ok (.if_icmp .lt 16, 3) := by decide +kernel
theorem d_Words_signOf_19 : decode prog_12_method_2_code 19 = .ok (.iload_n 0, 1) := by decide +kernel
theorem d_Words_signOf_20 : decode prog_12_method_2_code 20 = .ok (.bipush 97, 2) := by decide +kernel
theorem d_Words_signOf_22 : decode prog_12_method_2_code 22 = .ok (.if_icmp .lt 17, 3) := by decide +kernel
theorem d_Words_signOf_39 : decode prog_12_method_2_code 39 = .ok (.iload_n 0, 1) := by decide +kernel
theorem d_Words_signOf_40 : decode prog_12_method_2_code 40 = .ok (.bipush 65, 2) := by decide +kernel
theorem d_Words_signOf_42 : decode prog_12_method_2_code 42 = .ok (.if_icmp .lt 17, 3) := by decide +kernel
theorem d_Words_signOf_59 : decode prog_12_method_2_code 59 = .ok (.iconst 0, 1) := by decide +kernel
theorem d_Words_signOf_60 : decode prog_12_method_2_code 60 = .ok (.ireturn, 1) := by decide +kernel
theorem d_Words_signOf_6 : decode prog_12_method_2_code 6 = .ok (.iload_n 0, 1) := by decide +kernel
theorem d_Words_signOf_7 : decode prog_12_method_2_code 7 = .ok (.bipush 57, 2) := by decide +kernel
theorem d_Words_signOf_9 : decode prog_12_method_2_code 9 = .ok (.if_icmp .gt 10, 3) := by decide +kernel
theorem d_Words_signOf_45 : decode prog_12_method_2_code 45 = .ok (.iload_n 0, 1) := by decide +kernel
theorem d_Words_signOf_46 : decode prog_12_method_2_code 46 = .ok (.bipush 90, 2) := by decide +kernel
theorem d_Words_signOf_48 : decode prog_12_method_2_code 48 = .ok (.if_icmp .gt 11, 3) := by decide +kernel
theorem d_Words_signOf_51 : decode prog_12_method_2_code 51 = .ok (.iload_n 0, 1) := by decide +kernel
theorem d_Words_signOf_52 : decode prog_12_method_2_code 52 = .ok (.bipush 65, 2) := by decide +kernel
theorem d_Words_signOf_54 : decode prog_12_method_2_code 54 = .ok (.isub, 1) := by decide +kernel
theorem d_Words_signOf_55 : decode prog_12_method_2_code 55 = .ok (.bipush 11, 2) := by decide +kernel
theorem d_Words_signOf_57 : decode prog_12_method_2_code 57 = .ok (.iadd, 1) := by decide +kernel
theorem d_Words_signOf_58 : decode prog_12_method_2_code 58 = .ok (.ireturn, 1) := by decide +kernel
theorem d_Words_signOf_25 : decode prog_12_method_2_code 25 = .ok (.iload_n 0, 1) := by decide +kernel
theorem d_Words_signOf_26 : decode prog_12_method_2_code 26 = .ok (.bipush 122, 2) := by decide +kernel
theorem d_Words_signOf_28 : decode prog_12_method_2_code 28 = .ok (.if_icmp .gt 11, 3) := by decide +kernel
theorem d_Words_signOf_31 : decode prog_12_method_2_code 31 = .ok (.iload_n 0, 1) := by decide +kernel
theorem d_Words_signOf_32 : decode prog_12_method_2_code 32 = .ok (.bipush 97, 2) := by decide +kernel
theorem d_Words_signOf_34 : decode prog_12_method_2_code 34 = .ok (.isub, 1) := by decide +kernel
theorem d_Words_signOf_35 : decode prog_12_method_2_code 35 = .ok (.bipush 11, 2) := by decide +kernel
theorem d_Words_signOf_37 : decode prog_12_method_2_code 37 = .ok (.iadd, 1) := by decide +kernel
theorem d_Words_signOf_38 : decode prog_12_method_2_code 38 = .ok (.ireturn, 1) := by decide +kernel
theorem d_Words_signOf_12 : decode prog_12_method_2_code 12 = .ok (.iload_n 0, 1) := by decide +kernel
theorem d_Words_signOf_13 : decode prog_12_method_2_code 13 = .ok (.bipush 48, 2) := by decide +kernel
theorem d_Words_signOf_15 : decode prog_12_method_2_code 15 = .ok (.isub, 1) := by decide +kernel
theorem d_Words_signOf_16 : decode prog_12_method_2_code 16 = .ok (.iconst 1, 1) := by decide +kernel
theorem d_Words_signOf_17 : decode prog_12_method_2_code 17 = .ok (.iadd, 1) := by decide +kernel
theorem d_Words_signOf_18 : decode prog_12_method_2_code 18 = .ok (.ireturn, 1) := by decide +kernel
theorem v_Words_signOf_0 {G : XG} {d : Nat} {h : XH} {Q : XV → XH → Prop} {X : Nat → XH → Prop} {x0 : Int} (F : xFix h) (hyp : ((x0 < 48 → (Q (xI 0) h)) ∧ (¬ x0 < 48 → (((57 : Int) < x0 → ((x0 < 97 → ((x0 < 65 → (Q (xI 0) h)) ∧ (¬ x0 < 65 → (((90 : Int) < x0 → (Q (xI 0) h)) ∧ (¬ (90 : Int) < x0 → (Q (xI ((x0 - 65) + 11)) h)))))) ∧ (¬ x0 < 97 → (((122 : Int) < x0 → (Q (xI 0) h)) ∧ (¬ (122 : Int) < x0 → (Q (xI ((x0 - 97) + 11)) h)))))) ∧ (¬ (57 : Int) < x0 → (Q (xI ((x0 - 48) + 1)) h)))))) : xwp G m_Words_signOf (d + 1) 0 [xI x0] [] h Q X := by
  have hnx9 : (93 : Int) ≤ xnx h := F.2.2
  refine xr_okL (fun hl9 => ?_)
  have r_x0 : -2147483648 ≤ x0 ∧ x0 ≤ 2147483647 := hl9 (xI x0) (.head _) (Nat.le_of_ble_eq_true rfl)
  refine xr_iload_n (pc := 0) (i := 0) (hI := d_Words_signOf_0) (hi := rfl) (hl := rfl) ?_
  refine xr_bipush (pc := 1) (hI := d_Words_signOf_1) (hr := by decide) (hv := by decide) ?_
  refine xr_icmp_lt (pc := 3) (tgt := 19) (hI := d_Words_signOf_3) (ht := by decide) (fun q9 => ?_) (fun q9 => ?_)
  · replace hyp := hyp.1 q9
    have q1_ := q9
    clear q9
    refine xr_iload_n (pc := 19) (i := 0) (hI := d_Words_signOf_19) (hi := rfl) (hl := rfl) ?_
    refine xr_bipush (pc := 20) (hI := d_Words_signOf_20) (hr := by decide) (hv := by decide) ?_
    refine xr_icmp_lt (pc := 22) (tgt := 39) (hI := d_Words_signOf_22) (ht := by decide) (fun q9 => ?_) (fun q9 => ?_)
    · clear q9
      refine xr_iload_n (pc := 39) (i := 0) (hI := d_Words_signOf_39) (hi := rfl) (hl := rfl) ?_
      refine xr_bipush (pc := 40) (hI := d_Words_signOf_40) (hr := by decide) (hv := by decide) ?_
      refine xr_icmp_lt (pc := 42) (tgt := 59) (hI := d_Words_signOf_42) (ht := by decide) (fun q9 => ?_) (fun q9 => ?_)
      · clear q9
        refine xr_iconst (pc := 59) (hI := d_Words_signOf_59) (hr := by decide) ?_
        refine xr_ireturn (S := []) (pc := 60) (hI := d_Words_signOf_60) (hr := rfl) ?_
        exact hyp
      · exact absurd q9 (by clear hyp; omega)
    · exact absurd q9 (by clear hyp; omega)
  · replace hyp := hyp.2 q9
    have q1_ := q9
    clear q9
    refine xr_iload_n (pc := 6) (i := 0) (hI := d_Words_signOf_6) (hi := rfl) (hl := rfl) ?_
    refine xr_bipush (pc := 7) (hI := d_Words_signOf_7) (hr := by decide) (hv := by decide) ?_
    refine xr_icmp_gt (pc := 9) (tgt := 19) (hI := d_Words_signOf_9) (ht := by decide) (fun q9 => ?_) (fun q9 => ?_)
    · replace hyp := hyp.1 q9
      have q2_ := q9
      clear q9
      refine xr_iload_n (pc := 19) (i := 0) (hI := d_Words_signOf_19) (hi := rfl) (hl := rfl) ?_
      refine xr_bipush (pc := 20) (hI := d_Words_signOf_20) (hr := by decide) (hv := by decide) ?_
      refine xr_icmp_lt (pc := 22) (tgt := 39) (hI := d_Words_signOf_22) (ht := by decide) (fun q9 => ?_) (fun q9 => ?_)
      · replace hyp := hyp.1 q9
        have q3_ := q9
        clear q9
        refine xr_iload_n (pc := 39) (i := 0) (hI := d_Words_signOf_39) (hi := rfl) (hl := rfl) ?_
        refine xr_bipush (pc := 40) (hI := d_Words_signOf_40) (hr := by decide) (hv := by decide) ?_
        refine xr_icmp_lt (pc := 42) (tgt := 59) (hI := d_Words_signOf_42) (ht := by decide) (fun q9 => ?_) (fun q9 => ?_)
        · replace hyp := hyp.1 q9
          have q4_ := q9
          clear q9
          refine xr_iconst (pc := 59) (hI := d_Words_signOf_59) (hr := by decide) ?_
          refine xr_ireturn (S := []) (pc := 60) (hI := d_Words_signOf_60) (hr := rfl) ?_
          exact hyp
        · replace hyp := hyp.2 q9
          have q4_ := q9
          clear q9
          refine xr_iload_n (pc := 45) (i := 0) (hI := d_Words_signOf_45) (hi := rfl) (hl := rfl) ?_
          refine xr_bipush (pc := 46) (hI := d_Words_signOf_46) (hr := by decide) (hv := by decide) ?_
          refine xr_icmp_gt (pc := 48) (tgt := 59) (hI := d_Words_signOf_48) (ht := by decide) (fun q9 => ?_) (fun q9 => ?_)
          · replace hyp := hyp.1 q9
            have q5_ := q9
            clear q9
            refine xr_iconst (pc := 59) (hI := d_Words_signOf_59) (hr := by decide) ?_
            refine xr_ireturn (S := []) (pc := 60) (hI := d_Words_signOf_60) (hr := rfl) ?_
            exact hyp
          · replace hyp := hyp.2 q9
            have q5_ := q9
            clear q9
            refine xr_iload_n (pc := 51) (i := 0) (hI := d_Words_signOf_51) (hi := rfl) (hl := rfl) ?_
            refine xr_bipush (pc := 52) (hI := d_Words_signOf_52) (hr := by decide) (hv := by decide) ?_
            refine xr_isub (pc := 54) (hI := d_Words_signOf_54) (hr := ⟨by clear hyp; omega, by clear hyp; omega⟩) ?_
            refine xr_bipush (pc := 55) (hI := d_Words_signOf_55) (hr := by decide) (hv := by decide) ?_
            refine xr_iadd (pc := 57) (hI := d_Words_signOf_57) (hr := ⟨by clear hyp; omega, by clear hyp; omega⟩) ?_
            refine xr_ireturn (S := []) (pc := 58) (hI := d_Words_signOf_58) (hr := rfl) ?_
            exact hyp
      · replace hyp := hyp.2 q9
        have q3_ := q9
        clear q9
        refine xr_iload_n (pc := 25) (i := 0) (hI := d_Words_signOf_25) (hi := rfl) (hl := rfl) ?_
        refine xr_bipush (pc := 26) (hI := d_Words_signOf_26) (hr := by decide) (hv := by decide) ?_
        refine xr_icmp_gt (pc := 28) (tgt := 39) (hI := d_Words_signOf_28) (ht := by decide) (fun q9 => ?_) (fun q9 => ?_)
        · replace hyp := hyp.1 q9
          have q6_ := q9
          clear q9
          refine xr_iload_n (pc := 39) (i := 0) (hI := d_Words_signOf_39) (hi := rfl) (hl := rfl) ?_
          refine xr_bipush (pc := 40) (hI := d_Words_signOf_40) (hr := by decide) (hv := by decide) ?_
          refine xr_icmp_lt (pc := 42) (tgt := 59) (hI := d_Words_signOf_42) (ht := by decide) (fun q9 => ?_) (fun q9 => ?_)
          · exact absurd q9 (by clear hyp; omega)
          · clear q9
            refine xr_iload_n (pc := 45) (i := 0) (hI := d_Words_signOf_45) (hi := rfl) (hl := rfl) ?_
            refine xr_bipush (pc := 46) (hI := d_Words_signOf_46) (hr := by decide) (hv := by decide) ?_
            refine xr_icmp_gt (pc := 48) (tgt := 59) (hI := d_Words_signOf_48) (ht := by decide) (fun q9 => ?_) (fun q9 => ?_)
            · clear q9
              refine xr_iconst (pc := 59) (hI := d_Words_signOf_59) (hr := by decide) ?_
              refine xr_ireturn (S := []) (pc := 60) (hI := d_Words_signOf_60) (hr := rfl) ?_
              exact hyp
            · exact absurd q9 (by clear hyp; omega)
        · replace hyp := hyp.2 q9
          have q6_ := q9
          clear q9
          refine xr_iload_n (pc := 31) (i := 0) (hI := d_Words_signOf_31) (hi := rfl) (hl := rfl) ?_
          refine xr_bipush (pc := 32) (hI := d_Words_signOf_32) (hr := by decide) (hv := by decide) ?_
          refine xr_isub (pc := 34) (hI := d_Words_signOf_34) (hr := ⟨by clear hyp; omega, by clear hyp; omega⟩) ?_
          refine xr_bipush (pc := 35) (hI := d_Words_signOf_35) (hr := by decide) (hv := by decide) ?_
          refine xr_iadd (pc := 37) (hI := d_Words_signOf_37) (hr := ⟨by clear hyp; omega, by clear hyp; omega⟩) ?_
          refine xr_ireturn (S := []) (pc := 38) (hI := d_Words_signOf_38) (hr := rfl) ?_
          exact hyp
    · replace hyp := hyp.2 q9
      have q2_ := q9
      clear q9
      refine xr_iload_n (pc := 12) (i := 0) (hI := d_Words_signOf_12) (hi := rfl) (hl := rfl) ?_
      refine xr_bipush (pc := 13) (hI := d_Words_signOf_13) (hr := by decide) (hv := by decide) ?_
      refine xr_isub (pc := 15) (hI := d_Words_signOf_15) (hr := ⟨by clear hyp; omega, by clear hyp; omega⟩) ?_
      refine xr_iconst (pc := 16) (hI := d_Words_signOf_16) (hr := by decide) ?_
      refine xr_iadd (pc := 17) (hI := d_Words_signOf_17) (hr := ⟨by clear hyp; omega, by clear hyp; omega⟩) ?_
      refine xr_ireturn (S := []) (pc := 18) (hI := d_Words_signOf_18) (hr := rfl) ?_
      exact hyp
theorem p_Words_signOf {G : XG} {d : Nat} {h : XH} {Q : XV → XH → Prop} {X : Nat → XH → Prop} {b : Int} (F : xFix h) (hq : Q (xI (sgn b)) h) : xwp G m_Words_signOf (d + 1) 0 [xI b] [] h Q X := by
  have key9 : ∀ v : Int, v = sgn b → Q (xI v) h := fun v e => by rw [e]; exact hq
  refine v_Words_signOf_0 F ?_
  refine ⟨fun q1 => ?_, fun q1 => ?_⟩
  · exact key9 _ (by unfold sgn; (repeat' split) <;> omega)
  · refine ⟨fun q2 => ?_, fun q2 => ?_⟩
    · refine ⟨fun q3 => ?_, fun q3 => ?_⟩
      · refine ⟨fun q4 => ?_, fun q4 => ?_⟩
        · exact key9 _ (by unfold sgn; (repeat' split) <;> omega)
        · refine ⟨fun q5 => ?_, fun q5 => ?_⟩
          · exact key9 _ (by unfold sgn; (repeat' split) <;> omega)
          · exact key9 _ (by unfold sgn; (repeat' split) <;> omega)
      · refine ⟨fun q4 => ?_, fun q4 => ?_⟩
        · exact key9 _ (by unfold sgn; (repeat' split) <;> omega)
        · exact key9 _ (by unfold sgn; (repeat' split) <;> omega)
    · exact key9 _ (by unfold sgn; (repeat' split) <;> omega)
abbrev m_Words_byteOf : XM := (⟨"BeaconIndex$Words", "byteOf", "(I)I"⟩, prog_12_method_3_code, 1, (some .int), [])
theorem d_Words_byteOf_0 : decode prog_12_method_3_code 0 = .ok (.iload_n 0, 1) := by decide +kernel
theorem d_Words_byteOf_1 : decode prog_12_method_3_code 1 = .ok (.bipush 10, 2) := by decide +kernel
theorem d_Words_byteOf_3 : decode prog_12_method_3_code 3 = .ok (.if_icmp .gt 12, 3) := by decide +kernel
theorem d_Words_byteOf_15 : decode prog_12_method_3_code 15 = .ok (.iload_n 0, 1) := by decide +kernel
theorem d_Words_byteOf_16 : decode prog_12_method_3_code 16 = .ok (.bipush 11, 2) := by decide +kernel
theorem d_Words_byteOf_18 : decode prog_12_method_3_code 18 = .ok (.isub, 1) := by decide +kernel
theorem d_Words_byteOf_19 : decode prog_12_method_3_code 19 = .ok (.bipush 97, 2) := by decide +kernel
theorem d_Words_byteOf_21 : decode prog_12_method_3_code 21 = .ok (.iadd, 1) := by decide +kernel
theorem d_Words_byteOf_22 : decode prog_12_method_3_code 22 = .ok (.ireturn, 1) := by decide +kernel
theorem d_Words_byteOf_6 : decode prog_12_method_3_code 6 = .ok (.iload_n 0, 1) := by decide +kernel
theorem d_Words_byteOf_7 : decode prog_12_method_3_code 7 = .ok (.iconst 1, 1) := by decide +kernel
theorem d_Words_byteOf_8 : decode prog_12_method_3_code 8 = .ok (.isub, 1) := by decide +kernel
theorem d_Words_byteOf_9 : decode prog_12_method_3_code 9 = .ok (.bipush 48, 2) := by decide +kernel
theorem d_Words_byteOf_11 : decode prog_12_method_3_code 11 = .ok (.iadd, 1) := by decide +kernel
theorem d_Words_byteOf_12 : decode prog_12_method_3_code 12 = .ok (.goto 10, 3) := by decide +kernel
theorem v_Words_byteOf_0 {G : XG} {d : Nat} {h : XH} {Q : XV → XH → Prop} {X : Nat → XH → Prop} {x0 : Int} (F : xFix h) (hyp : (((10 : Int) < x0 → xiR ((x0 - 11) + 97) ∧ (Q (xI ((x0 - 11) + 97)) h)) ∧ (¬ (10 : Int) < x0 → xiR (x0 - 1) ∧ (Q (xI ((x0 - 1) + 48)) h)))) : xwp G m_Words_byteOf (d + 1) 0 [xI x0] [] h Q X := by
  have hnx9 : (93 : Int) ≤ xnx h := F.2.2
  refine xr_okL (fun hl9 => ?_)
  have r_x0 : -2147483648 ≤ x0 ∧ x0 ≤ 2147483647 := hl9 (xI x0) (.head _) (Nat.le_of_ble_eq_true rfl)
  refine xr_iload_n (pc := 0) (i := 0) (hI := d_Words_byteOf_0) (hi := rfl) (hl := rfl) ?_
  refine xr_bipush (pc := 1) (hI := d_Words_byteOf_1) (hr := by decide) (hv := by decide) ?_
  refine xr_icmp_gt (pc := 3) (tgt := 15) (hI := d_Words_byteOf_3) (ht := by decide) (fun q9 => ?_) (fun q9 => ?_)
  · replace hyp := hyp.1 q9
    have q1_ := q9
    clear q9
    refine xr_iload_n (pc := 15) (i := 0) (hI := d_Words_byteOf_15) (hi := rfl) (hl := rfl) ?_
    refine xr_bipush (pc := 16) (hI := d_Words_byteOf_16) (hr := by decide) (hv := by decide) ?_
    refine xr_isub (pc := 18) (hI := d_Words_byteOf_18) (hr := ⟨by clear hyp; omega, by clear hyp; omega⟩) ?_
    refine xr_bipush (pc := 19) (hI := d_Words_byteOf_19) (hr := by decide) (hv := by decide) ?_
    obtain ⟨c9, hyp⟩ := hyp
    refine xr_iadd (pc := 21) (hI := d_Words_byteOf_21) (hr := c9) ?_
    refine xr_ireturn (S := []) (pc := 22) (hI := d_Words_byteOf_22) (hr := rfl) ?_
    exact hyp
  · replace hyp := hyp.2 q9
    have q1_ := q9
    clear q9
    refine xr_iload_n (pc := 6) (i := 0) (hI := d_Words_byteOf_6) (hi := rfl) (hl := rfl) ?_
    refine xr_iconst (pc := 7) (hI := d_Words_byteOf_7) (hr := by decide) ?_
    obtain ⟨c9, hyp⟩ := hyp
    refine xr_isub (pc := 8) (hI := d_Words_byteOf_8) (hr := c9) ?_
    refine xr_bipush (pc := 9) (hI := d_Words_byteOf_9) (hr := by decide) (hv := by decide) ?_
    refine xr_iadd (pc := 11) (hI := d_Words_byteOf_11) (hr := ⟨by clear hyp; omega, by clear hyp; omega⟩) ?_
    refine xr_goto (pc := 12) (tgt := 22) (hI := d_Words_byteOf_12) (ht := by decide) ?_
    refine xr_ireturn (S := []) (pc := 22) (hI := d_Words_byteOf_22) (hr := rfl) ?_
    exact hyp
theorem p_Words_byteOf {G : XG} {d : Nat} {h : XH} {Q : XV → XH → Prop} {X : Nat → XH → Prop} {s : Int} (F : xFix h) (h0 : 0 ≤ s) (h1 : s ≤ 36) (hq : Q (xI (byt s)) h) : xwp G m_Words_byteOf (d + 1) 0 [xI s] [] h Q X := by
  have key9 : ∀ v : Int, v = byt s → Q (xI v) h := fun v e => by rw [e]; exact hq
  refine v_Words_byteOf_0 F ?_
  refine ⟨fun q1 => ?_, fun q1 => ?_⟩
  · refine ⟨?_, ?_⟩
    · first | omega | assumption | exact ⟨by omega, by omega⟩ | (simp only [*]; done) | grind
    · exact key9 _ (by unfold byt; (repeat' split) <;> omega)
  · refine ⟨?_, ?_⟩
    · first | omega | assumption | exact ⟨by omega, by omega⟩ | (simp only [*]; done) | grind
    · exact key9 _ (by unfold byt; (repeat' split) <;> omega)
abbrev m_Words_power : XM := (⟨"BeaconIndex$Words", "power", "(I)J"⟩, prog_12_method_4_code, 1, (some .long), [])
theorem d_Words_power_0 : decode prog_12_method_4_code 0 = .ok (.iload_n 0, 1) := by decide +kernel
theorem d_Words_power_1 : decode prog_12_method_4_code 1 = .ok (.ifCond .lt 19, 3) := by decide +kernel
theorem d_Words_power_20 : decode prog_12_method_4_code 20 = .ok (.lconst 1, 1) := by decide +kernel
theorem d_Words_power_21 : decode prog_12_method_4_code 21 = .ok (.lreturn, 1) := by decide +kernel
theorem d_Words_power_4 : decode prog_12_method_4_code 4 = .ok (.iload_n 0, 1) := by decide +kernel
theorem d_Words_power_5 : decode prog_12_method_4_code 5 = .ok (.getstatic 9, 3) := by decide +kernel
theorem w_655 : Cond.fieldLink "BeaconIndex$Words" 9 "BeaconIndex$Words" "POWERS" "[J" ∈ lw_tbl := List.mem_append_right _ (List.mem_of_getElem? (i := 655) (by decide +kernel))
theorem d_Words_power_8 : decode prog_12_method_4_code 8 = .ok (.arraylength, 1) := by decide +kernel
theorem d_Words_power_9 : decode prog_12_method_4_code 9 = .ok (.if_icmp .ge 11, 3) := by decide +kernel
theorem d_Words_power_12 : decode prog_12_method_4_code 12 = .ok (.getstatic 9, 3) := by decide +kernel
theorem d_Words_power_15 : decode prog_12_method_4_code 15 = .ok (.iload_n 0, 1) := by decide +kernel
theorem d_Words_power_16 : decode prog_12_method_4_code 16 = .ok (.laload, 1) := by decide +kernel
theorem d_Words_power_17 : decode prog_12_method_4_code 17 = .ok (.goto 4, 3) := by decide +kernel
theorem v_Words_power_0 {G : XG} {d : Nat} {h : XH} {Q : XV → XH → Prop} {X : Nat → XH → Prop} {x0 : Int} (F : xFix h) (hyp : ((x0 < 0 → (Q (xL 1) h)) ∧ (¬ x0 < 0 → (((13 : Int) ≤ x0 → (Q (xL 1) h)) ∧ (¬ (13 : Int) ≤ x0 → (Q (xL (xpl h (-102) x0)) h)))))) : xwp G m_Words_power (d + 1) 0 [xI x0] [] h Q X := by
  have hnx9 : (93 : Int) ≤ xnx h := F.2.2
  refine xr_okL (fun hl9 => ?_)
  have r_x0 : -2147483648 ≤ x0 ∧ x0 ≤ 2147483647 := hl9 (xI x0) (.head _) (Nat.le_of_ble_eq_true rfl)
  refine xr_iload_n (pc := 0) (i := 0) (hI := d_Words_power_0) (hi := rfl) (hl := rfl) ?_
  refine xr_if_lt (pc := 1) (tgt := 20) (hI := d_Words_power_1) (ht := by decide) (fun q9 => ?_) (fun q9 => ?_)
  · replace hyp := hyp.1 q9
    have q1_ := q9
    clear q9
    refine xr_lconst (pc := 20) (z := 1) (hI := d_Words_power_20) (hr := by decide) (hv := by decide) ?_
    refine xr_lreturn (S := []) (pc := 21) (hI := d_Words_power_21) (hr := rfl) ?_
    exact hyp
  · replace hyp := hyp.2 q9
    have q1_ := q9
    clear q9
    refine xr_iload_n (pc := 4) (i := 0) (hI := d_Words_power_4) (hi := rfl) (hl := rfl) ?_
    refine xr_getstatic (pc := 5) (v := xR (-102)) (hI := d_Words_power_5) w_655 (by decide +kernel) (by exact trivial) ?_
    refine xg_alen (pc := 8) (t := 101) (v := 13) (hI := d_Words_power_8) (ft_m102 F) (Nat.le_of_ble_eq_true rfl) (Nat.le_of_ble_eq_true rfl) rfl (fl_m102 F) (fun f2_ f3_ => ?_)
    clear f2_ f3_
    refine xr_icmp_ge (pc := 9) (tgt := 20) (hI := d_Words_power_9) (ht := by decide) (fun q9 => ?_) (fun q9 => ?_)
    · replace hyp := hyp.1 q9
      have q4_ := q9
      clear q9
      refine xr_lconst (pc := 20) (z := 1) (hI := d_Words_power_20) (hr := by decide) (hv := by decide) ?_
      refine xr_lreturn (S := []) (pc := 21) (hI := d_Words_power_21) (hr := rfl) ?_
      exact hyp
    · replace hyp := hyp.2 q9
      have q4_ := q9
      clear q9
      refine xr_getstatic (pc := 12) (v := xR (-102)) (hI := d_Words_power_12) w_655 (by decide +kernel) (by exact trivial) ?_
      refine xr_iload_n (pc := 15) (i := 0) (hI := d_Words_power_15) (hi := rfl) (hl := rfl) ?_
      refine xg_laload (pc := 16) (v := (xpl h (-102) x0)) (hI := d_Words_power_16) (ft_m102 F) (by clear hyp; omega) (xlt_of (fl_m102 F) (by clear hyp; omega)) rfl (fun f5_ => ?_)
      replace f5_ : -9223372036854775808 ≤ (xpl h (-102) x0) ∧ (xpl h (-102) x0) ≤ 9223372036854775807 := f5_
      refine xr_goto (pc := 17) (tgt := 21) (hI := d_Words_power_17) (ht := by decide) ?_
      refine xr_lreturn (S := []) (pc := 21) (hI := d_Words_power_21) (hr := rfl) ?_
      exact hyp
theorem xpow_at {h : XH} (F : xFix h) {e : Int} (h0 : 0 ≤ e) (h1 : e < 13) : xpl h (-102) e = p37 e := by
  unfold p37
  rw [if_neg (by omega), if_neg (by omega)]
  obtain ⟨n, rfl⟩ : ∃ n : Nat, e = n := ⟨e.toNat, by omega⟩
  match n, h1 with
  | 0, _ => exact fp_m102_0 F
  | 1, _ => exact fp_m102_1 F
  | 2, _ => exact fp_m102_2 F
  | 3, _ => exact fp_m102_3 F
  | 4, _ => exact fp_m102_4 F
  | 5, _ => exact fp_m102_5 F
  | 6, _ => exact fp_m102_6 F
  | 7, _ => exact fp_m102_7 F
  | 8, _ => exact fp_m102_8 F
  | 9, _ => exact fp_m102_9 F
  | 10, _ => exact fp_m102_10 F
  | 11, _ => exact fp_m102_11 F
  | 12, _ => exact fp_m102_12 F
  | n + 13, h1 => omega
theorem p_Words_power {G : XG} {d : Nat} {h : XH} {Q : XV → XH → Prop} {X : Nat → XH → Prop} {e : Int} (F : xFix h) (hq : Q (xL (p37 e)) h) : xwp G m_Words_power (d + 1) 0 [xI e] [] h Q X := by
  refine v_Words_power_0 F ?_
  refine ⟨fun q1 => ?_, fun q1 => ?_⟩
  · rw [p37, if_pos (by omega)] at hq; exact hq
  · refine ⟨fun q2 => ?_, fun q2 => ?_⟩
    · rw [p37, if_neg (by omega), if_pos (by omega)] at hq; exact hq
    · rw [xpow_at F (by omega) (by omega)]; exact hq
theorem p37_pos (e : Int) : 0 < p37 e := by
  unfold p37
  split
  · decide
  · split
    · decide
    · exact Int.pow_pos (by decide)
def wsg (w p s : Int) : Int := xw64 (w + xw64 (s * p37 (11 - p)))
def sat (w p : Int) : Int := (w.tdiv (p37 (11 - p))).tmod 37
theorem xtmod_rng (a : Int) {b : Int} (hb : 0 < b) : -b < a.tmod b ∧ a.tmod b < b := ⟨Int.lt_tmod_of_pos a hb, Int.tmod_lt_of_pos a hb⟩
theorem sat_rng (w p : Int) : -36 ≤ sat w p ∧ sat w p ≤ 36 := by
  have := xtmod_rng (w.tdiv (p37 (11 - p))) (b := 37) (by decide)
  unfold sat
  omega
theorem sat_w32 (w p : Int) : xw32 ((w.tdiv (p37 (11 - p))).tmod 37) = sat w p := xw32_id (by have := sat_rng w p; unfold sat at this; exact ⟨by omega, by omega⟩)
def wszF (w : Int) : Nat → Int → Int
  | 0, p => p
  | n + 1, p => if sat w p = 0 then p else wszF w n (p + 1)
def wsz (w : Int) : Int := wszF w 12 0
theorem wszF_rng (w : Int) : ∀ (n : Nat) (p : Int), p ≤ wszF w n p ∧ wszF w n p ≤ p + n
  | 0, p => by simp [wszF]
  | n + 1, p => by
    have := wszF_rng w n (p + 1)
    unfold wszF
    split <;> omega
theorem wsz_rng (w : Int) : 0 ≤ wsz w ∧ wsz w ≤ 12 := by have := wszF_rng w 12 0; unfold wsz; omega
def bgw (w s n : Int) : Bool := decide (0 < w) && decide (n ≤ 12) && decide (w.tdiv (p37 (12 - n)) = s.tdiv (p37 (12 - n)))
abbrev m_Words_withSign : XM := (⟨"BeaconIndex$Words", "withSign", "(JII)J"⟩, prog_12_method_5_code, 4, (some .long), [])
theorem d_Words_withSign_0 : decode prog_12_method_5_code 0 = .ok (.lload_n 0, 1) := by decide +kernel
theorem d_Words_withSign_1 : decode prog_12_method_5_code 1 = .ok (.iload_n 3, 1) := by decide +kernel
theorem d_Words_withSign_2 : decode prog_12_method_5_code 2 = .ok (.i2l, 1) := by decide +kernel
theorem d_Words_withSign_3 : decode prog_12_method_5_code 3 = .ok (.bipush 11, 2) := by decide +kernel
theorem d_Words_withSign_5 : decode prog_12_method_5_code 5 = .ok (.iload_n 2, 1) := by decide +kernel
theorem d_Words_withSign_6 : decode prog_12_method_5_code 6 = .ok (.isub, 1) := by decide +kernel
theorem d_Words_withSign_7 : decode prog_12_method_5_code 7 = .ok (.invokestatic 15, 3) := by decide +kernel
theorem w_24 : Cond.initialized "BeaconIndex$Words" ∈ lw_tbl := List.mem_append_right _ (List.mem_of_getElem? (i := 24) (by decide +kernel))
theorem k_Words_power : xCal m_Words_power 1 := ⟨List.mem_append_right _ (List.mem_of_getElem? (i := 654) (by decide +kernel)), w_24, Nat.le_of_ble_eq_true rfl, ⟨by decide +kernel, by decide +kernel⟩, by decide +kernel, by decide +kernel, rfl⟩
theorem w_652 : Cond.methodLink "BeaconIndex$Words" 15 ⟨"BeaconIndex$Words", "power", "(I)J"⟩ ∈ lw_tbl := List.mem_append_right _ (List.mem_of_getElem? (i := 652) (by decide +kernel))
theorem w_653 : Cond.static ⟨"BeaconIndex$Words", "power", "(I)J"⟩ ∈ lw_tbl := List.mem_append_right _ (List.mem_of_getElem? (i := 653) (by decide +kernel))
theorem d_Words_withSign_10 : decode prog_12_method_5_code 10 = .ok (.lmul, 1) := by decide +kernel
theorem d_Words_withSign_11 : decode prog_12_method_5_code 11 = .ok (.ladd, 1) := by decide +kernel
theorem d_Words_withSign_12 : decode prog_12_method_5_code 12 = .ok (.lreturn, 1) := by decide +kernel
theorem v_Words_withSign_0 {G : XG} {d : Nat} {h : XH} {Q : XV → XH → Prop} {X : Nat → XH → Prop} {x0 x2 x3 : Int} (F : xFix h) (hyp : xiR (11 - x2) ∧ (Q (xL (xw64 (x0 + (xw64 (x3 * (p37 (11 - x2))))))) h)) : xwp G m_Words_withSign (d + 2) 0 [xL x0, xZ, xI x2, xI x3] [] h Q X := by
  have hnx9 : (93 : Int) ≤ xnx h := F.2.2
  refine xr_okL (fun hl9 => ?_)
  have r_x0 : -9223372036854775808 ≤ x0 ∧ x0 ≤ 9223372036854775807 := hl9 (xL x0) (.head _) (Nat.le_of_ble_eq_true rfl)
  have r_x2 : -2147483648 ≤ x2 ∧ x2 ≤ 2147483647 := hl9 (xI x2) (.tail _ (.tail _ (.head _))) (Nat.le_of_ble_eq_true rfl)
  have r_x3 : -2147483648 ≤ x3 ∧ x3 ≤ 2147483647 := hl9 (xI x3) (.tail _ (.tail _ (.tail _ (.head _)))) (Nat.le_of_ble_eq_true rfl)
  refine xr_lload_n (pc := 0) (i := 0) (hI := d_Words_withSign_0) (hi := rfl) (hl := rfl) ?_
  refine xr_iload_n (pc := 1) (i := 3) (hI := d_Words_withSign_1) (hi := rfl) (hl := rfl) ?_
  refine xr_i2l (pc := 2) (hI := d_Words_withSign_2) ?_
  refine xr_bipush (pc := 3) (hI := d_Words_withSign_3) (hr := by decide) (hv := by decide) ?_
  refine xr_iload_n (pc := 5) (i := 2) (hI := d_Words_withSign_5) (hi := rfl) (hl := rfl) ?_
  obtain ⟨c9, hyp⟩ := hyp
  refine xr_isub (pc := 6) (hI := d_Words_withSign_6) (hr := c9) ?_
  refine xq_callS (pc := 7) (index := 15) (K := m_Words_power) (As := [xI (11 - x2)]) (S := [xL x3, xL x0]) (L0 := [xI (11 - x2)]) (hI := d_Words_withSign_7) (hK := k_Words_power) (hlk := w_652) (hnoM := rfl) (hS8 := Nat.le_of_ble_eq_true rfl) (hstat := w_653) (hlen := Nat.le_of_ble_eq_true rfl) (hst := rfl) (hL0 := rfl)  (p_Words_power F  ?_)
  show xwp G m_Words_withSign (d + 2) 10 [xL x0, xZ, xI x2, xI x3] [xL (p37 (11 - x2)), xL x3, xL x0] _ _ _
  have f1_ : 0 < p37 (11 - x2) := p37_pos _
  refine xr_lmul (pc := 10) (hI := d_Words_withSign_10) ?_
  refine xr_ladd (pc := 11) (hI := d_Words_withSign_11) ?_
  refine xr_lreturn (S := []) (pc := 12) (hI := d_Words_withSign_12) (hr := rfl) ?_
  exact hyp
theorem p_Words_withSign {G : XG} {d : Nat} {h : XH} {Q : XV → XH → Prop} {X : Nat → XH → Prop} {w p s : Int} (F : xFix h) (h0 : -1000 ≤ p) (h1 : p ≤ 1000) (hq : Q (xL (wsg w p s)) h) : xwp G m_Words_withSign (d + 2) 0 [xL w, xZ, xI p, xI s] [] h Q X := by
  refine v_Words_withSign_0 F ?_
  refine ⟨?_, ?_⟩
  · first | omega | assumption | exact ⟨by omega, by omega⟩ | (simp only [*]; done) | grind
  · exact hq
abbrev m_Words_signAt : XM := (⟨"BeaconIndex$Words", "signAt", "(JI)I"⟩, prog_12_method_6_code, 3, (some .int), [])
theorem d_Words_signAt_0 : decode prog_12_method_6_code 0 = .ok (.lload_n 0, 1) := by decide +kernel
theorem d_Words_signAt_1 : decode prog_12_method_6_code 1 = .ok (.bipush 11, 2) := by decide +kernel
theorem d_Words_signAt_3 : decode prog_12_method_6_code 3 = .ok (.iload_n 2, 1) := by decide +kernel
theorem d_Words_signAt_4 : decode prog_12_method_6_code 4 = .ok (.isub, 1) := by decide +kernel
theorem d_Words_signAt_5 : decode prog_12_method_6_code 5 = .ok (.invokestatic 15, 3) := by decide +kernel
theorem d_Words_signAt_8 : decode prog_12_method_6_code 8 = .ok (.ldiv, 1) := by decide +kernel
theorem d_Words_signAt_9 : decode prog_12_method_6_code 9 = .ok (.ldc2_w 19, 3) := by decide +kernel
theorem w_876 : Cond.constantLong "BeaconIndex$Words" 19 (37 : Int64) ∈ lw_tbl := List.mem_append_right _ (List.mem_of_getElem? (i := 876) (by decide +kernel))
theorem d_Words_signAt_12 : decode prog_12_method_6_code 12 = .ok (.lrem, 1) := by decide +kernel
theorem d_Words_signAt_13 : decode prog_12_method_6_code 13 = .ok (.l2i, 1) := by decide +kernel
theorem d_Words_signAt_14 : decode prog_12_method_6_code 14 = .ok (.ireturn, 1) := by decide +kernel
theorem v_Words_signAt_0 {G : XG} {d : Nat} {h : XH} {Q : XV → XH → Prop} {X : Nat → XH → Prop} {x0 x2 : Int} (F : xFix h) (hyp : xiR (11 - x2) ∧ (Q (xI (xw32 (Int.tmod (Int.tdiv x0 (p37 (11 - x2))) 37))) h)) : xwp G m_Words_signAt (d + 2) 0 [xL x0, xZ, xI x2] [] h Q X := by
  have hnx9 : (93 : Int) ≤ xnx h := F.2.2
  refine xr_okL (fun hl9 => ?_)
  have r_x0 : -9223372036854775808 ≤ x0 ∧ x0 ≤ 9223372036854775807 := hl9 (xL x0) (.head _) (Nat.le_of_ble_eq_true rfl)
  have r_x2 : -2147483648 ≤ x2 ∧ x2 ≤ 2147483647 := hl9 (xI x2) (.tail _ (.tail _ (.head _))) (Nat.le_of_ble_eq_true rfl)
  refine xr_lload_n (pc := 0) (i := 0) (hI := d_Words_signAt_0) (hi := rfl) (hl := rfl) ?_
  refine xr_bipush (pc := 1) (hI := d_Words_signAt_1) (hr := by decide) (hv := by decide) ?_
  refine xr_iload_n (pc := 3) (i := 2) (hI := d_Words_signAt_3) (hi := rfl) (hl := rfl) ?_
  obtain ⟨c9, hyp⟩ := hyp
  refine xr_isub (pc := 4) (hI := d_Words_signAt_4) (hr := c9) ?_
  refine xq_callS (pc := 5) (index := 15) (K := m_Words_power) (As := [xI (11 - x2)]) (S := [xL x0]) (L0 := [xI (11 - x2)]) (hI := d_Words_signAt_5) (hK := k_Words_power) (hlk := w_652) (hnoM := rfl) (hS8 := Nat.le_of_ble_eq_true rfl) (hstat := w_653) (hlen := Nat.le_of_ble_eq_true rfl) (hst := rfl) (hL0 := rfl)  (p_Words_power F  ?_)
  show xwp G m_Words_signAt (d + 2) 8 [xL x0, xZ, xI x2] [xL (p37 (11 - x2)), xL x0] _ _ _
  have f1_ : 0 < p37 (11 - x2) := p37_pos _
  refine xr_ldiv (pc := 8) (hI := d_Words_signAt_8) (h0 := (by clear hyp; omega)) ?_
  refine xr_ldc2 (pc := 9) (z := 37) (hI := d_Words_signAt_9) (hw := w_876) (hr := by decide) (hv := by decide) ?_
  refine xr_lrem (pc := 12) (hI := d_Words_signAt_12) (h0 := (by decide)) ?_
  refine xr_l2i (pc := 13) (hI := d_Words_signAt_13) ?_
  refine xr_ireturn (S := []) (pc := 14) (hI := d_Words_signAt_14) (hr := rfl) ?_
  exact hyp
theorem p_Words_signAt {G : XG} {d : Nat} {h : XH} {Q : XV → XH → Prop} {X : Nat → XH → Prop} {w p : Int} (F : xFix h) (h0 : -1000 ≤ p) (h1 : p ≤ 1000) (hq : Q (xI (sat w p)) h) : xwp G m_Words_signAt (d + 2) 0 [xL w, xZ, xI p] [] h Q X := by
  refine v_Words_signAt_0 F ?_
  refine ⟨?_, ?_⟩
  · first | omega | assumption | exact ⟨by omega, by omega⟩ | (simp only [*]; done) | grind
  · rw [sat_w32]; exact hq
abbrev m_Words_sizeOf : XM := (⟨"BeaconIndex$Words", "sizeOf", "(J)I"⟩, prog_12_method_7_code, 3, (some .int), [])
theorem d_Words_sizeOf_0 : decode prog_12_method_7_code 0 = .ok (.iconst 0, 1) := by decide +kernel
theorem d_Words_sizeOf_1 : decode prog_12_method_7_code 1 = .ok (.istore_n 2, 1) := by decide +kernel
theorem v_Words_sizeOf_0 {G : XG} {d : Nat} {h : XH} {Q : XV → XH → Prop} {X : Nat → XH → Prop} {x0 : Int} (F : xFix h) (hyp : (xwp G m_Words_sizeOf (d + 3) 2 [xL x0, xZ, xI 0] [] h Q X)) : xwp G m_Words_sizeOf (d + 3) 0 [xL x0, xZ, xZ] [] h Q X := by
  have hnx9 : (93 : Int) ≤ xnx h := F.2.2
  refine xr_okL (fun hl9 => ?_)
  have r_x0 : -9223372036854775808 ≤ x0 ∧ x0 ≤ 9223372036854775807 := hl9 (xL x0) (.head _) (Nat.le_of_ble_eq_true rfl)
  refine xr_iconst (pc := 0) (hI := d_Words_sizeOf_0) (hr := by decide) ?_
  refine xr_istore_n (pc := 1) (i := 2) (L9 := [xL x0, xZ, xI 0]) (hI := d_Words_sizeOf_1) (hi := rfl) (hn := Nat.le_of_ble_eq_true rfl) (hL9 := rfl) ?_
  exact hyp
theorem d_Words_sizeOf_2 : decode prog_12_method_7_code 2 = .ok (.iload_n 2, 1) := by decide +kernel
theorem d_Words_sizeOf_3 : decode prog_12_method_7_code 3 = .ok (.bipush 12, 2) := by decide +kernel
theorem d_Words_sizeOf_5 : decode prog_12_method_7_code 5 = .ok (.if_icmp .ge 17, 3) := by decide +kernel
theorem d_Words_sizeOf_22 : decode prog_12_method_7_code 22 = .ok (.iload_n 2, 1) := by decide +kernel
theorem d_Words_sizeOf_23 : decode prog_12_method_7_code 23 = .ok (.ireturn, 1) := by decide +kernel
theorem d_Words_sizeOf_8 : decode prog_12_method_7_code 8 = .ok (.lload_n 0, 1) := by decide +kernel
theorem d_Words_sizeOf_9 : decode prog_12_method_7_code 9 = .ok (.iload_n 2, 1) := by decide +kernel
theorem d_Words_sizeOf_10 : decode prog_12_method_7_code 10 = .ok (.invokestatic 21, 3) := by decide +kernel
theorem k_Words_signAt : xCal m_Words_signAt 2 := ⟨List.mem_append_right _ (List.mem_of_getElem? (i := 875) (by decide +kernel)), w_24, Nat.le_of_ble_eq_true rfl, ⟨by decide +kernel, by decide +kernel⟩, by decide +kernel, by decide +kernel, rfl⟩
theorem w_873 : Cond.methodLink "BeaconIndex$Words" 21 ⟨"BeaconIndex$Words", "signAt", "(JI)I"⟩ ∈ lw_tbl := List.mem_append_right _ (List.mem_of_getElem? (i := 873) (by decide +kernel))
theorem w_874 : Cond.static ⟨"BeaconIndex$Words", "signAt", "(JI)I"⟩ ∈ lw_tbl := List.mem_append_right _ (List.mem_of_getElem? (i := 874) (by decide +kernel))
theorem d_Words_sizeOf_13 : decode prog_12_method_7_code 13 = .ok (.ifCond .eq 9, 3) := by decide +kernel
theorem d_Words_sizeOf_16 : decode prog_12_method_7_code 16 = .ok (.iinc 2 1, 3) := by decide +kernel
theorem d_Words_sizeOf_19 : decode prog_12_method_7_code 19 = .ok (.goto (-17), 3) := by decide +kernel
theorem v_Words_sizeOf_2 {G : XG} {d : Nat} {h : XH} {Q : XV → XH → Prop} {X : Nat → XH → Prop} {x0 x2 : Int} (F : xFix h) (hyp : (((12 : Int) ≤ x2 → (Q (xI x2) h)) ∧ (¬ (12 : Int) ≤ x2 → -1000 ≤ x2 ∧ (((sat x0 x2) = 0 → (Q (xI x2) h)) ∧ (¬ (sat x0 x2) = 0 → (xwp G m_Words_sizeOf (d + 3) 2 [xL x0, xZ, xI (x2 + 1)] [] h Q X)))))) : xwp G m_Words_sizeOf (d + 3) 2 [xL x0, xZ, xI x2] [] h Q X := by
  have hnx9 : (93 : Int) ≤ xnx h := F.2.2
  refine xr_okL (fun hl9 => ?_)
  have r_x0 : -9223372036854775808 ≤ x0 ∧ x0 ≤ 9223372036854775807 := hl9 (xL x0) (.head _) (Nat.le_of_ble_eq_true rfl)
  have r_x2 : -2147483648 ≤ x2 ∧ x2 ≤ 2147483647 := hl9 (xI x2) (.tail _ (.tail _ (.head _))) (Nat.le_of_ble_eq_true rfl)
  refine xr_iload_n (pc := 2) (i := 2) (hI := d_Words_sizeOf_2) (hi := rfl) (hl := rfl) ?_
  refine xr_bipush (pc := 3) (hI := d_Words_sizeOf_3) (hr := by decide) (hv := by decide) ?_
  refine xr_icmp_ge (pc := 5) (tgt := 22) (hI := d_Words_sizeOf_5) (ht := by decide) (fun q9 => ?_) (fun q9 => ?_)
  · replace hyp := hyp.1 q9
    have q1_ := q9
    clear q9
    refine xr_iload_n (pc := 22) (i := 2) (hI := d_Words_sizeOf_22) (hi := rfl) (hl := rfl) ?_
    refine xr_ireturn (S := []) (pc := 23) (hI := d_Words_sizeOf_23) (hr := rfl) ?_
    exact hyp
  · replace hyp := hyp.2 q9
    have q1_ := q9
    clear q9
    refine xr_lload_n (pc := 8) (i := 0) (hI := d_Words_sizeOf_8) (hi := rfl) (hl := rfl) ?_
    refine xr_iload_n (pc := 9) (i := 2) (hI := d_Words_sizeOf_9) (hi := rfl) (hl := rfl) ?_
    obtain ⟨c2_, hyp⟩ := hyp
    refine xq_callS (pc := 10) (index := 21) (K := m_Words_signAt) (As := [xL x0, xI x2]) (S := []) (L0 := [xL x0, xZ, xI x2]) (hI := d_Words_sizeOf_10) (hK := k_Words_signAt) (hlk := w_873) (hnoM := rfl) (hS8 := Nat.le_of_ble_eq_true rfl) (hstat := w_874) (hlen := Nat.le_of_ble_eq_true rfl) (hst := rfl) (hL0 := rfl)  (p_Words_signAt F c2_ (by clear hyp; omega) ?_)
    show xwp G m_Words_sizeOf (d + 3) 13 [xL x0, xZ, xI x2] [xI (sat x0 x2)] _ _ _
    have f3_ : (-36) ≤ (sat x0 x2) ∧ (sat x0 x2) ≤ 36 := sat_rng _ _
    refine xr_if_eq (pc := 13) (tgt := 22) (hI := d_Words_sizeOf_13) (ht := by decide) (fun q9 => ?_) (fun q9 => ?_)
    · replace hyp := hyp.1 q9
      have q4_ := q9
      clear q9
      refine xr_iload_n (pc := 22) (i := 2) (hI := d_Words_sizeOf_22) (hi := rfl) (hl := rfl) ?_
      refine xr_ireturn (S := []) (pc := 23) (hI := d_Words_sizeOf_23) (hr := rfl) ?_
      exact hyp
    · replace hyp := hyp.2 q9
      have q4_ := q9
      clear q9
      refine xr_iinc (pc := 16) (i := 2) (L9 := [xL x0, xZ, xI (x2 + 1)]) (hI := d_Words_sizeOf_16) (hl := rfl) (hn := Nat.le_of_ble_eq_true rfl) (hr := ⟨by clear hyp; omega, by clear hyp; omega⟩) (hL9 := rfl) ?_
      refine xr_goto (pc := 19) (tgt := 2) (hI := d_Words_sizeOf_19) (ht := by decide) ?_
      exact hyp
theorem l_Words_sizeOf {G : XG} {d : Nat} {h : XH} {Q : XV → XH → Prop} {X : Nat → XH → Prop} {w : Int} (F : xFix h) : ∀ (n : Nat) (p : Int), 0 ≤ p → p + n = 12 → Q (xI (wszF w n p)) h → xwp G m_Words_sizeOf (d + 3) 2 [xL w, xZ, xI p] [] h Q X := by
  intro n
  induction n with
  | zero =>
    intro p hp hn hq
    refine v_Words_sizeOf_2 F ?_
    refine ⟨fun q1 => ?_, fun q1 => ?_⟩
    · rw [wszF] at hq; exact hq
    · refine ⟨?_, ?_⟩
      · first | omega | assumption | exact ⟨by omega, by omega⟩ | (simp only [*]; done) | grind
      · refine ⟨fun q2 => ?_, fun q2 => ?_⟩
        · omega
        · omega
  | succ n ih =>
    intro p hp hn hq
    unfold wszF at hq
    refine v_Words_sizeOf_2 F ?_
    refine ⟨fun q1 => ?_, fun q1 => ?_⟩
    · omega
    · refine ⟨?_, ?_⟩
      · first | omega | assumption | exact ⟨by omega, by omega⟩ | (simp only [*]; done) | grind
      · refine ⟨fun q2 => ?_, fun q2 => ?_⟩
        · rw [if_pos q2] at hq; exact hq
        · rw [if_neg q2] at hq; exact ih _ (by omega) (by omega) hq
theorem p_Words_sizeOf {G : XG} {d : Nat} {h : XH} {Q : XV → XH → Prop} {X : Nat → XH → Prop} {w : Int} (F : xFix h) (hq : Q (xI (wsz w)) h) : xwp G m_Words_sizeOf (d + 3) 0 [xL w, xZ, xZ] [] h Q X := by
  refine v_Words_sizeOf_0 F ?_
  exact l_Words_sizeOf F 12 0 (by omega) (by omega) hq
abbrev m_Words_beginsWith : XM := (⟨"BeaconIndex$Words", "beginsWith", "(JJI)Z"⟩, prog_12_method_8_code, 7, (some .boolean), [])
theorem d_Words_beginsWith_0 : decode prog_12_method_8_code 0 = .ok (.lload_n 0, 1) := by decide +kernel
theorem d_Words_beginsWith_1 : decode prog_12_method_8_code 1 = .ok (.lconst 0, 1) := by decide +kernel
theorem d_Words_beginsWith_2 : decode prog_12_method_8_code 2 = .ok (.lcmp, 1) := by decide +kernel
theorem d_Words_beginsWith_3 : decode prog_12_method_8_code 3 = .ok (.ifCond .le 10, 3) := by decide +kernel
theorem d_Words_beginsWith_13 : decode prog_12_method_8_code 13 = .ok (.iconst 0, 1) := by decide +kernel
theorem d_Words_beginsWith_14 : decode prog_12_method_8_code 14 = .ok (.ireturn, 1) := by decide +kernel
theorem d_Words_beginsWith_6 : decode prog_12_method_8_code 6 = .ok (.iload 4, 2) := by decide +kernel
theorem d_Words_beginsWith_8 : decode prog_12_method_8_code 8 = .ok (.bipush 12, 2) := by decide +kernel
theorem d_Words_beginsWith_10 : decode prog_12_method_8_code 10 = .ok (.if_icmp .le 5, 3) := by decide +kernel
theorem d_Words_beginsWith_15 : decode prog_12_method_8_code 15 = .ok (.bipush 12, 2) := by decide +kernel
theorem d_Words_beginsWith_17 : decode prog_12_method_8_code 17 = .ok (.iload 4, 2) := by decide +kernel
theorem d_Words_beginsWith_19 : decode prog_12_method_8_code 19 = .ok (.isub, 1) := by decide +kernel
theorem d_Words_beginsWith_20 : decode prog_12_method_8_code 20 = .ok (.invokestatic 15, 3) := by decide +kernel
theorem d_Words_beginsWith_23 : decode prog_12_method_8_code 23 = .ok (.lstore 5, 2) := by decide +kernel
theorem d_Words_beginsWith_25 : decode prog_12_method_8_code 25 = .ok (.lload_n 0, 1) := by decide +kernel
theorem d_Words_beginsWith_26 : decode prog_12_method_8_code 26 = .ok (.lload 5, 2) := by decide +kernel
theorem d_Words_beginsWith_28 : decode prog_12_method_8_code 28 = .ok (.ldiv, 1) := by decide +kernel
theorem d_Words_beginsWith_29 : decode prog_12_method_8_code 29 = .ok (.lload_n 2, 1) := by decide +kernel
theorem d_Words_beginsWith_30 : decode prog_12_method_8_code 30 = .ok (.lload 5, 2) := by decide +kernel
theorem d_Words_beginsWith_32 : decode prog_12_method_8_code 32 = .ok (.ldiv, 1) := by decide +kernel
theorem d_Words_beginsWith_33 : decode prog_12_method_8_code 33 = .ok (.lcmp, 1) := by decide +kernel
theorem d_Words_beginsWith_34 : decode prog_12_method_8_code 34 = .ok (.ifCond .ne 7, 3) := by decide +kernel
theorem d_Words_beginsWith_41 : decode prog_12_method_8_code 41 = .ok (.iconst 0, 1) := by decide +kernel
theorem d_Words_beginsWith_42 : decode prog_12_method_8_code 42 = .ok (.ireturn, 1) := by decide +kernel
theorem d_Words_beginsWith_37 : decode prog_12_method_8_code 37 = .ok (.iconst 1, 1) := by decide +kernel
theorem d_Words_beginsWith_38 : decode prog_12_method_8_code 38 = .ok (.goto 4, 3) := by decide +kernel
theorem v_Words_beginsWith_0 {G : XG} {d : Nat} {h : XH} {Q : XV → XH → Prop} {X : Nat → XH → Prop} {x0 x2 x4 : Int} (F : xFix h) (hyp : ((x0 ≤ 0 → (Q (xI 0) h)) ∧ (¬ x0 ≤ 0 → ((x4 ≤ 12 → xiR (12 - x4) ∧ (((Int.tdiv x0 (p37 (12 - x4))) = (Int.tdiv x2 (p37 (12 - x4))) → (Q (xI 1) h)) ∧ (¬ (Int.tdiv x0 (p37 (12 - x4))) = (Int.tdiv x2 (p37 (12 - x4))) → (Q (xI 0) h)))) ∧ (¬ x4 ≤ 12 → (Q (xI 0) h)))))) : xwp G m_Words_beginsWith (d + 2) 0 [xL x0, xZ, xL x2, xZ, xI x4, xZ, xZ] [] h Q X := by
  have hnx9 : (93 : Int) ≤ xnx h := F.2.2
  refine xr_okL (fun hl9 => ?_)
  have r_x0 : -9223372036854775808 ≤ x0 ∧ x0 ≤ 9223372036854775807 := hl9 (xL x0) (.head _) (Nat.le_of_ble_eq_true rfl)
  have r_x2 : -9223372036854775808 ≤ x2 ∧ x2 ≤ 9223372036854775807 := hl9 (xL x2) (.tail _ (.tail _ (.head _))) (Nat.le_of_ble_eq_true rfl)
  have r_x4 : -2147483648 ≤ x4 ∧ x4 ≤ 2147483647 := hl9 (xI x4) (.tail _ (.tail _ (.tail _ (.tail _ (.head _))))) (Nat.le_of_ble_eq_true rfl)
  refine xr_lload_n (pc := 0) (i := 0) (hI := d_Words_beginsWith_0) (hi := rfl) (hl := rfl) ?_
  refine xr_lconst (pc := 1) (z := 0) (hI := d_Words_beginsWith_1) (hr := by decide) (hv := by decide) ?_
  refine xr_lcmp (pc := 2) (hI := d_Words_beginsWith_2) ?_
  refine xg_lif_le (pc := 3) (tgt := 13) (hI := d_Words_beginsWith_3) (ht := by decide) (fun q9 => ?_) (fun q9 => ?_)
  · replace hyp := hyp.1 q9
    have q1_ := q9
    clear q9
    refine xr_iconst (pc := 13) (hI := d_Words_beginsWith_13) (hr := by decide) ?_
    refine xr_ireturnT (S := []) (pc := 14) (hI := d_Words_beginsWith_14) (hr := rfl) (xnar_z (by decide)) ?_
    exact hyp
  · replace hyp := hyp.2 q9
    have q1_ := q9
    clear q9
    refine xr_iload (pc := 6) (i := 4) (hI := d_Words_beginsWith_6) (hl := rfl) ?_
    refine xr_bipush (pc := 8) (hI := d_Words_beginsWith_8) (hr := by decide) (hv := by decide) ?_
    refine xr_icmp_le (pc := 10) (tgt := 15) (hI := d_Words_beginsWith_10) (ht := by decide) (fun q9 => ?_) (fun q9 => ?_)
    · replace hyp := hyp.1 q9
      have q2_ := q9
      clear q9
      refine xr_bipush (pc := 15) (hI := d_Words_beginsWith_15) (hr := by decide) (hv := by decide) ?_
      refine xr_iload (pc := 17) (i := 4) (hI := d_Words_beginsWith_17) (hl := rfl) ?_
      obtain ⟨c9, hyp⟩ := hyp
      refine xr_isub (pc := 19) (hI := d_Words_beginsWith_19) (hr := c9) ?_
      refine xq_callS (pc := 20) (index := 15) (K := m_Words_power) (As := [xI (12 - x4)]) (S := []) (L0 := [xI (12 - x4)]) (hI := d_Words_beginsWith_20) (hK := k_Words_power) (hlk := w_652) (hnoM := rfl) (hS8 := Nat.le_of_ble_eq_true rfl) (hstat := w_653) (hlen := Nat.le_of_ble_eq_true rfl) (hst := rfl) (hL0 := rfl)  (p_Words_power F  ?_)
      show xwp G m_Words_beginsWith (d + 2) 23 [xL x0, xZ, xL x2, xZ, xI x4, xZ, xZ] [xL (p37 (12 - x4))] _ _ _
      have f3_ : 0 < p37 (12 - x4) := p37_pos _
      refine xr_lstore (pc := 23) (i := 5) (L9 := [xL x0, xZ, xL x2, xZ, xI x4, xL (p37 (12 - x4)), xZ]) (hI := d_Words_beginsWith_23) (hn := Nat.le_of_ble_eq_true rfl) (hL9 := rfl) ?_
      refine xr_lload_n (pc := 25) (i := 0) (hI := d_Words_beginsWith_25) (hi := rfl) (hl := rfl) ?_
      refine xr_lload (pc := 26) (i := 5) (hI := d_Words_beginsWith_26) (hl := rfl) ?_
      refine xr_ldiv (pc := 28) (hI := d_Words_beginsWith_28) (h0 := (by clear hyp; omega)) ?_
      refine xr_lload_n (pc := 29) (i := 2) (hI := d_Words_beginsWith_29) (hi := rfl) (hl := rfl) ?_
      refine xr_lload (pc := 30) (i := 5) (hI := d_Words_beginsWith_30) (hl := rfl) ?_
      refine xr_ldiv (pc := 32) (hI := d_Words_beginsWith_32) (h0 := (by clear hyp; omega)) ?_
      refine xr_lcmp (pc := 33) (hI := d_Words_beginsWith_33) ?_
      refine xg_lif_ne (pc := 34) (tgt := 41) (hI := d_Words_beginsWith_34) (ht := by decide) (fun q9 => ?_) (fun q9 => ?_)
      · replace hyp := hyp.2 q9
        have q4_ := q9
        clear q9
        refine xr_iconst (pc := 41) (hI := d_Words_beginsWith_41) (hr := by decide) ?_
        refine xr_ireturnT (S := []) (pc := 42) (hI := d_Words_beginsWith_42) (hr := rfl) (xnar_z (by decide)) ?_
        exact hyp
      · replace hyp := hyp.1 q9
        have q4_ := q9
        clear q9
        refine xr_iconst (pc := 37) (hI := d_Words_beginsWith_37) (hr := by decide) ?_
        refine xr_goto (pc := 38) (tgt := 42) (hI := d_Words_beginsWith_38) (ht := by decide) ?_
        refine xr_ireturnT (S := []) (pc := 42) (hI := d_Words_beginsWith_42) (hr := rfl) (xnar_z (by decide)) ?_
        exact hyp
    · replace hyp := hyp.2 q9
      have q2_ := q9
      clear q9
      refine xr_iconst (pc := 13) (hI := d_Words_beginsWith_13) (hr := by decide) ?_
      refine xr_ireturnT (S := []) (pc := 14) (hI := d_Words_beginsWith_14) (hr := rfl) (xnar_z (by decide)) ?_
      exact hyp
theorem p_Words_beginsWith {G : XG} {d : Nat} {h : XH} {Q : XV → XH → Prop} {X : Nat → XH → Prop} {w s n : Int} (F : xFix h) (h0 : -1000 ≤ n) (hq : Q (xI (b2i (bgw w s n))) h) : xwp G m_Words_beginsWith (d + 2) 0 [xL w, xZ, xL s, xZ, xI n, xZ, xZ] [] h Q X := by
  have key9 : ∀ v : Int, v = b2i (bgw w s n) → Q (xI v) h := fun v e => by rw [e]; exact hq
  refine v_Words_beginsWith_0 F ?_
  refine ⟨fun q1 => ?_, fun q1 => ?_⟩
  · exact key9 _ (by simp only [bgw, b2i]; simp; omega)
  · refine ⟨fun q2 => ?_, fun q2 => ?_⟩
    · refine ⟨?_, ?_⟩
      · exact ⟨by omega, by omega⟩
      · refine ⟨fun q3 => ?_, fun q3 => ?_⟩
        · exact key9 _ (by simp only [bgw, b2i]; simp; omega)
        · exact key9 _ (by simp only [bgw, b2i]; simp; omega)
    · exact key9 _ (by simp only [bgw, b2i]; simp; omega)
end
