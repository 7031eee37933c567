/-! ===== fits ===== -/
section
abbrev m_Findings_slot : XM := (⟨"BeaconIndex$Findings", "slot", "(LBeaconIndex$Part;I)I"⟩, prog_2_method_2_code, 3, (some .int), [])
theorem d_Findings_slot_0 : decode prog_2_method_2_code 0 = .ok (.aload_n 0, 1) := by decide +kernel
theorem d_Findings_slot_1 : decode prog_2_method_2_code 1 = .ok (.getfield 36, 3) := by decide +kernel
theorem w_217 : Cond.fieldLink "BeaconIndex$Findings" 36 "BeaconIndex$Part" "number" "I" ∈ lw_tbl := List.mem_append_right _ (List.mem_of_getElem? (i := 217) (by decide +kernel))
theorem d_Findings_slot_4 : decode prog_2_method_2_code 4 = .ok (.ifCond .lt 26, 3) := by decide +kernel
theorem d_Findings_slot_7 : decode prog_2_method_2_code 7 = .ok (.aload_n 0, 1) := by decide +kernel
theorem d_Findings_slot_8 : decode prog_2_method_2_code 8 = .ok (.getfield 36, 3) := by decide +kernel
theorem d_Findings_slot_11 : decode prog_2_method_2_code 11 = .ok (.bipush 40, 2) := by decide +kernel
theorem d_Findings_slot_13 : decode prog_2_method_2_code 13 = .ok (.if_icmp .ge 17, 3) := by decide +kernel
theorem d_Findings_slot_16 : decode prog_2_method_2_code 16 = .ok (.iload_n 1, 1) := by decide +kernel
theorem d_Findings_slot_17 : decode prog_2_method_2_code 17 = .ok (.ifCond .lt 13, 3) := by decide +kernel
theorem d_Findings_slot_20 : decode prog_2_method_2_code 20 = .ok (.iload_n 1, 1) := by decide +kernel
theorem d_Findings_slot_21 : decode prog_2_method_2_code 21 = .ok (.bipush 60, 2) := by decide +kernel
theorem d_Findings_slot_23 : decode prog_2_method_2_code 23 = .ok (.if_icmp .ge 7, 3) := by decide +kernel
theorem d_Findings_slot_26 : decode prog_2_method_2_code 26 = .ok (.iconst 1, 1) := by decide +kernel
theorem d_Findings_slot_27 : decode prog_2_method_2_code 27 = .ok (.goto 4, 3) := by decide +kernel
theorem v_Findings_slot_0 {G : XG} {d : Nat} {h : XH} {Q : XV → XH → Prop} {X : Nat → XH → Prop} {x0 x1 : Int} (F : xFix h) (hyp : xtg h x0 = 4 ∧ (((xpl h x0 0) < 0 → (xwp G m_Findings_slot (d + 1) 30 [xR x0, xI x1, xZ] [] h Q X)) ∧ (¬ (xpl h x0 0) < 0 → (((40 : Int) ≤ (xpl h x0 0) → (xwp G m_Findings_slot (d + 1) 30 [xR x0, xI x1, xZ] [] h Q X)) ∧ (¬ (40 : Int) ≤ (xpl h x0 0) → ((x1 < 0 → (xwp G m_Findings_slot (d + 1) 30 [xR x0, xI x1, xZ] [] h Q X)) ∧ (¬ x1 < 0 → (((60 : Int) ≤ x1 → (xwp G m_Findings_slot (d + 1) 30 [xR x0, xI x1, xZ] [] h Q X)) ∧ (¬ (60 : Int) ≤ x1 → (xwp G m_Findings_slot (d + 1) 31 [xR x0, xI x1, xZ] [xI 1] h Q X)))))))))) : xwp G m_Findings_slot (d + 1) 0 [xR x0, xI x1, xZ] [] h Q X := by
  have hnx9 : (93 : Int) ≤ xnx h := F.2.2
  refine xr_okL (fun hl9 => ?_)
  have r_x1 : -2147483648 ≤ x1 ∧ x1 ≤ 2147483647 := hl9 (xI x1) (.tail _ (.head _)) (Nat.le_of_ble_eq_true rfl)
  refine xr_aload_n (pc := 0) (i := 0) (hI := d_Findings_slot_0) (hi := rfl) (hl := rfl) ?_
  obtain ⟨c9, hyp⟩ := hyp
  have t1_ := c9
  clear c9
  refine xg_getf (pc := 1) (ci := 4) (k := 0) (N := 13) (v9 := 0) (v := (xpl h x0 0)) (T := xF4) (hI := d_Findings_slot_1) (hw := w_217) rfl xi4 (Or.inl rfl) (Nat.le_of_ble_eq_true rfl) (Nat.le_of_ble_eq_true rfl) rfl t1_ rfl (fun f2_ => ?_)
  replace f2_ : -2147483648 ≤ (xpl h x0 0) ∧ (xpl h x0 0) ≤ 2147483647 := f2_
  refine xr_if_lt (pc := 4) (tgt := 30) (hI := d_Findings_slot_4) (ht := by decide) (fun q9 => ?_) (fun q9 => ?_)
  · replace hyp := hyp.1 q9
    have q3_ := q9
    clear q9
    exact hyp
  · replace hyp := hyp.2 q9
    have q3_ := q9
    clear q9
    refine xr_aload_n (pc := 7) (i := 0) (hI := d_Findings_slot_7) (hi := rfl) (hl := rfl) ?_
    refine xg_getf (pc := 8) (ci := 4) (k := 0) (N := 13) (v9 := 0) (v := (xpl h x0 0)) (T := xF4) (hI := d_Findings_slot_8) (hw := w_217) rfl xi4 (Or.inl rfl) (Nat.le_of_ble_eq_true rfl) (Nat.le_of_ble_eq_true rfl) rfl t1_ rfl (fun f4_ => ?_)
    replace f4_ : -2147483648 ≤ (xpl h x0 0) ∧ (xpl h x0 0) ≤ 2147483647 := f4_
    refine xr_bipush (pc := 11) (hI := d_Findings_slot_11) (hr := by decide) (hv := by decide) ?_
    refine xr_icmp_ge (pc := 13) (tgt := 30) (hI := d_Findings_slot_13) (ht := by decide) (fun q9 => ?_) (fun q9 => ?_)
    · replace hyp := hyp.1 q9
      have q5_ := q9
      clear q9
      exact hyp
    · replace hyp := hyp.2 q9
      have q5_ := q9
      clear q9
      refine xr_iload_n (pc := 16) (i := 1) (hI := d_Findings_slot_16) (hi := rfl) (hl := rfl) ?_
      refine xr_if_lt (pc := 17) (tgt := 30) (hI := d_Findings_slot_17) (ht := by decide) (fun q9 => ?_) (fun q9 => ?_)
      · replace hyp := hyp.1 q9
        have q6_ := q9
        clear q9
        exact hyp
      · replace hyp := hyp.2 q9
        have q6_ := q9
        clear q9
        refine xr_iload_n (pc := 20) (i := 1) (hI := d_Findings_slot_20) (hi := rfl) (hl := rfl) ?_
        refine xr_bipush (pc := 21) (hI := d_Findings_slot_21) (hr := by decide) (hv := by decide) ?_
        refine xr_icmp_ge (pc := 23) (tgt := 30) (hI := d_Findings_slot_23) (ht := by decide) (fun q9 => ?_) (fun q9 => ?_)
        · replace hyp := hyp.1 q9
          have q7_ := q9
          clear q9
          exact hyp
        · replace hyp := hyp.2 q9
          have q7_ := q9
          clear q9
          refine xr_iconst (pc := 26) (hI := d_Findings_slot_26) (hr := by decide) ?_
          refine xr_goto (pc := 27) (tgt := 31) (hI := d_Findings_slot_27) (ht := by decide) ?_
          exact hyp
theorem d_Findings_slot_30 : decode prog_2_method_2_code 30 = .ok (.iconst 0, 1) := by decide +kernel
theorem v_Findings_slot_30 {G : XG} {d : Nat} {h : XH} {Q : XV → XH → Prop} {X : Nat → XH → Prop} {x0 x1 : Int} (F : xFix h) (hyp : (xwp G m_Findings_slot (d + 1) 31 [xR x0, xI x1, xZ] [xI 0] h Q X)) : xwp G m_Findings_slot (d + 1) 30 [xR x0, xI x1, xZ] [] h Q X := by
  have hnx9 : (93 : Int) ≤ xnx h := F.2.2
  refine xr_okL (fun hl9 => ?_)
  have r_x1 : -2147483648 ≤ x1 ∧ x1 ≤ 2147483647 := hl9 (xI x1) (.tail _ (.head _)) (Nat.le_of_ble_eq_true rfl)
  refine xr_iconst (pc := 30) (hI := d_Findings_slot_30) (hr := by decide) ?_
  exact hyp
theorem d_Findings_slot_31 : decode prog_2_method_2_code 31 = .ok (.istore_n 2, 1) := by decide +kernel
theorem d_Findings_slot_32 : decode prog_2_method_2_code 32 = .ok (.iload_n 2, 1) := by decide +kernel
theorem d_Findings_slot_33 : decode prog_2_method_2_code 33 = .ok (.ifCond .eq 15, 3) := by decide +kernel
theorem d_Findings_slot_48 : decode prog_2_method_2_code 48 = .ok (.iconst 0, 1) := by decide +kernel
theorem d_Findings_slot_49 : decode prog_2_method_2_code 49 = .ok (.ireturn, 1) := by decide +kernel
theorem d_Findings_slot_36 : decode prog_2_method_2_code 36 = .ok (.aload_n 0, 1) := by decide +kernel
theorem d_Findings_slot_37 : decode prog_2_method_2_code 37 = .ok (.getfield 36, 3) := by decide +kernel
theorem d_Findings_slot_40 : decode prog_2_method_2_code 40 = .ok (.bipush 60, 2) := by decide +kernel
theorem d_Findings_slot_42 : decode prog_2_method_2_code 42 = .ok (.imul, 1) := by decide +kernel
theorem d_Findings_slot_43 : decode prog_2_method_2_code 43 = .ok (.iload_n 1, 1) := by decide +kernel
theorem d_Findings_slot_44 : decode prog_2_method_2_code 44 = .ok (.iadd, 1) := by decide +kernel
theorem d_Findings_slot_45 : decode prog_2_method_2_code 45 = .ok (.goto 4, 3) := by decide +kernel
theorem v_Findings_slot_31 {G : XG} {d : Nat} {h : XH} {Q : XV → XH → Prop} {X : Nat → XH → Prop} {x0 x1 s0 : Int} (F : xFix h) (hyp : ((s0 = 0 → (Q (xI 0) h)) ∧ (¬ s0 = 0 → xtg h x0 = 4 ∧ xiR ((xpl h x0 0) * 60) ∧ xiR (((xpl h x0 0) * 60) + x1) ∧ (Q (xI (((xpl h x0 0) * 60) + x1)) h)))) : xwp G m_Findings_slot (d + 1) 31 [xR x0, xI x1, xZ] [xI s0] h Q X := by
  have hnx9 : (93 : Int) ≤ xnx h := F.2.2
  refine xr_okL (fun hl9 => ?_)
  have r_x1 : -2147483648 ≤ x1 ∧ x1 ≤ 2147483647 := hl9 (xI x1) (.tail _ (.head _)) (Nat.le_of_ble_eq_true rfl)
  refine xr_okS (fun hs9 => ?_)
  have r_s0 : -2147483648 ≤ s0 ∧ s0 ≤ 2147483647 := hs9 (xI s0) (.head _)
  refine xr_istore_n (pc := 31) (i := 2) (L9 := [xR x0, xI x1, xI s0]) (hI := d_Findings_slot_31) (hi := rfl) (hn := Nat.le_of_ble_eq_true rfl) (hL9 := rfl) ?_
  refine xr_iload_n (pc := 32) (i := 2) (hI := d_Findings_slot_32) (hi := rfl) (hl := rfl) ?_
  refine xr_if_eq (pc := 33) (tgt := 48) (hI := d_Findings_slot_33) (ht := by decide) (fun q9 => ?_) (fun q9 => ?_)
  · replace hyp := hyp.1 q9
    have q1_ := q9
    clear q9
    refine xr_iconst (pc := 48) (hI := d_Findings_slot_48) (hr := by decide) ?_
    refine xr_ireturn (S := []) (pc := 49) (hI := d_Findings_slot_49) (hr := rfl) ?_
    exact hyp
  · replace hyp := hyp.2 q9
    have q1_ := q9
    clear q9
    refine xr_aload_n (pc := 36) (i := 0) (hI := d_Findings_slot_36) (hi := rfl) (hl := rfl) ?_
    obtain ⟨c9, hyp⟩ := hyp
    have t2_ := c9
    clear c9
    refine xg_getf (pc := 37) (ci := 4) (k := 0) (N := 13) (v9 := 0) (v := (xpl h x0 0)) (T := xF4) (hI := d_Findings_slot_37) (hw := w_217) rfl xi4 (Or.inl rfl) (Nat.le_of_ble_eq_true rfl) (Nat.le_of_ble_eq_true rfl) rfl t2_ rfl (fun f3_ => ?_)
    replace f3_ : -2147483648 ≤ (xpl h x0 0) ∧ (xpl h x0 0) ≤ 2147483647 := f3_
    refine xr_bipush (pc := 40) (hI := d_Findings_slot_40) (hr := by decide) (hv := by decide) ?_
    obtain ⟨c9, hyp⟩ := hyp
    refine xr_imul (pc := 42) (hI := d_Findings_slot_42) (hr := c9) ?_
    refine xr_iload_n (pc := 43) (i := 1) (hI := d_Findings_slot_43) (hi := rfl) (hl := rfl) ?_
    obtain ⟨c9, hyp⟩ := hyp
    refine xr_iadd (pc := 44) (hI := d_Findings_slot_44) (hr := c9) ?_
    refine xr_goto (pc := 45) (tgt := 49) (hI := d_Findings_slot_45) (ht := by decide) ?_
    refine xr_ireturn (S := []) (pc := 49) (hI := d_Findings_slot_49) (hr := rfl) ?_
    exact hyp
/-- the place of a part and a text in the tables -/
def slF (n t : Int) : Int := if 0 ≤ n ∧ n < 40 ∧ 0 ≤ t ∧ t < 60 then n * 60 + t else 0
theorem slF_rng (n t : Int) : 0 ≤ slF n t ∧ slF n t ≤ 2399 := by unfold slF; split <;> omega
theorem p_Findings_slot {G : XG} {d : Nat} {h : XH} {Q : XV → XH → Prop} {X : Nat → XH → Prop} {p t : Int} (F : xFix h) (h0 : xtg h p = 4) (hq : Q (xI (slF (xpl h p 0) t)) h) : xwp G m_Findings_slot (d + 1) 0 [xR p, xI t, xZ] [] h Q X := by
  unfold slF at hq
  have no : ¬ (0 ≤ xpl h p 0 ∧ xpl h p 0 < 40 ∧ 0 ≤ t ∧ t < 60) → xwp G m_Findings_slot (d + 1) 30 [xR p, xI t, xZ] [] h Q X := fun z => by
    rw [if_neg z] at hq
    refine v_Findings_slot_30 F ?_
    refine v_Findings_slot_31 F ?_
    refine ⟨fun q1 => ?_, fun q1 => ?_⟩
    · exact hq
    · refine ⟨?_, ?_⟩
      · first | exact h0 | exact ⟨by omega, by omega⟩
      · refine ⟨?_, ?_⟩
        · first | exact h0 | exact ⟨by omega, by omega⟩
        · refine ⟨?_, ?_⟩
          · first | exact h0 | exact ⟨by omega, by omega⟩
          · omega
  refine v_Findings_slot_0 F ?_
  refine ⟨?_, ?_⟩
  · exact h0
  · refine ⟨fun q1 => ?_, fun q1 => ?_⟩
    · exact no (by omega)
    · refine ⟨fun q2 => ?_, fun q2 => ?_⟩
      · exact no (by omega)
      · refine ⟨fun q3 => ?_, fun q3 => ?_⟩
        · exact no (by omega)
        · refine ⟨fun q4 => ?_, fun q4 => ?_⟩
          · exact no (by omega)
          · rw [if_pos (by omega)] at hq
            refine v_Findings_slot_31 F ?_
            refine ⟨fun q1 => ?_, fun q1 => ?_⟩
            · omega
            · refine ⟨?_, ?_⟩
              · first | exact h0 | exact ⟨by omega, by omega⟩
              · refine ⟨?_, ?_⟩
                · first | exact h0 | exact ⟨by omega, by omega⟩
                · refine ⟨?_, ?_⟩
                  · first | exact h0 | exact ⟨by omega, by omega⟩
                  · exact hq
abbrev m_Fits_slot : XM := (⟨"BeaconIndex$Fits", "slot", "(LBeaconIndex$Part;II)I"⟩, prog_3_method_2_code, 3, (some .int), [])
theorem d_Fits_slot_0 : decode prog_3_method_2_code 0 = .ok (.aload_n 0, 1) := by decide +kernel
theorem d_Fits_slot_1 : decode prog_3_method_2_code 1 = .ok (.iload_n 1, 1) := by decide +kernel
theorem d_Fits_slot_2 : decode prog_3_method_2_code 2 = .ok (.invokestatic 28, 3) := by decide +kernel
theorem w_12 : Cond.initialized "BeaconIndex$Findings" ∈ lw_tbl := List.mem_append_right _ (List.mem_of_getElem? (i := 12) (by decide +kernel))
theorem k_Findings_slot : xCal m_Findings_slot 2 := ⟨List.mem_append_right _ (List.mem_of_getElem? (i := 690) (by decide +kernel)), w_12, Nat.le_of_ble_eq_true rfl, ⟨by decide +kernel, by decide +kernel⟩, by decide +kernel, by decide +kernel, rfl⟩
theorem w_688 : Cond.methodLink "BeaconIndex$Fits" 28 ⟨"BeaconIndex$Findings", "slot", "(LBeaconIndex$Part;I)I"⟩ ∈ lw_tbl := List.mem_append_right _ (List.mem_of_getElem? (i := 688) (by decide +kernel))
theorem w_689 : Cond.static ⟨"BeaconIndex$Findings", "slot", "(LBeaconIndex$Part;I)I"⟩ ∈ lw_tbl := List.mem_append_right _ (List.mem_of_getElem? (i := 689) (by decide +kernel))
theorem d_Fits_slot_5 : decode prog_3_method_2_code 5 = .ok (.iconst 2, 1) := by decide +kernel
theorem d_Fits_slot_6 : decode prog_3_method_2_code 6 = .ok (.imul, 1) := by decide +kernel
theorem d_Fits_slot_7 : decode prog_3_method_2_code 7 = .ok (.iload_n 2, 1) := by decide +kernel
theorem d_Fits_slot_8 : decode prog_3_method_2_code 8 = .ok (.iadd, 1) := by decide +kernel
theorem d_Fits_slot_9 : decode prog_3_method_2_code 9 = .ok (.ireturn, 1) := by decide +kernel
theorem v_Fits_slot_0 {G : XG} {d : Nat} {h : XH} {Q : XV → XH → Prop} {X : Nat → XH → Prop} {x0 x1 x2 : Int} (F : xFix h) (hyp : xtg h x0 = 4 ∧ xiR (((slF (xpl h x0 0) x1) * 2) + x2) ∧ (Q (xI (((slF (xpl h x0 0) x1) * 2) + x2)) h)) : xwp G m_Fits_slot (d + 2) 0 [xR x0, xI x1, xI x2] [] h Q X := by
  have hnx9 : (93 : Int) ≤ xnx h := F.2.2
  refine xr_okL (fun hl9 => ?_)
  have r_x1 : -2147483648 ≤ x1 ∧ x1 ≤ 2147483647 := hl9 (xI x1) (.tail _ (.head _)) (Nat.le_of_ble_eq_true rfl)
  have r_x2 : -2147483648 ≤ x2 ∧ x2 ≤ 2147483647 := hl9 (xI x2) (.tail _ (.tail _ (.head _))) (Nat.le_of_ble_eq_true rfl)
  refine xr_aload_n (pc := 0) (i := 0) (hI := d_Fits_slot_0) (hi := rfl) (hl := rfl) ?_
  refine xr_iload_n (pc := 1) (i := 1) (hI := d_Fits_slot_1) (hi := rfl) (hl := rfl) ?_
  obtain ⟨c1_, hyp⟩ := hyp
  refine xq_callS (pc := 2) (index := 28) (K := m_Findings_slot) (As := [xR x0, xI x1]) (S := []) (L0 := [xR x0, xI x1, xZ]) (hI := d_Fits_slot_2) (hK := k_Findings_slot) (hlk := w_688) (hnoM := rfl) (hS8 := Nat.le_of_ble_eq_true rfl) (hstat := w_689) (hlen := Nat.le_of_ble_eq_true rfl) (hst := rfl) (hL0 := rfl)  (p_Findings_slot F c1_ ?_)
  show xwp G m_Fits_slot (d + 2) 5 [xR x0, xI x1, xI x2] [xI (slF (xpl h x0 0) x1)] _ _ _
  have f2_ : 0 ≤ (slF (xpl h x0 0) x1) ∧ (slF (xpl h x0 0) x1) ≤ 2399 := (slF_rng _ _)
  refine xr_iconst (pc := 5) (hI := d_Fits_slot_5) (hr := by decide) ?_
  refine xr_imul (pc := 6) (hI := d_Fits_slot_6) (hr := ⟨by clear hyp; omega, by clear hyp; omega⟩) ?_
  refine xr_iload_n (pc := 7) (i := 2) (hI := d_Fits_slot_7) (hi := rfl) (hl := rfl) ?_
  obtain ⟨c9, hyp⟩ := hyp
  refine xr_iadd (pc := 8) (hI := d_Fits_slot_8) (hr := c9) ?_
  refine xr_ireturn (S := []) (pc := 9) (hI := d_Fits_slot_9) (hr := rfl) ?_
  exact hyp
abbrev m_Fits_logarithm : XM := (⟨"BeaconIndex$Fits", "logarithm", "(I)I"⟩, prog_3_method_11_code, 2, (some .int), [])
theorem d_Fits_logarithm_0 : decode prog_3_method_11_code 0 = .ok (.iconst 0, 1) := by decide +kernel
theorem d_Fits_logarithm_1 : decode prog_3_method_11_code 1 = .ok (.istore_n 1, 1) := by decide +kernel
theorem v_Fits_logarithm_0 {G : XG} {d : Nat} {h : XH} {Q : XV → XH → Prop} {X : Nat → XH → Prop} {x0 : Int} (F : xFix h) (hyp : (xwp G m_Fits_logarithm (d + 1) 2 [xI x0, xI 0] [] h Q X)) : xwp G m_Fits_logarithm (d + 1) 0 [xI x0, xZ] [] h Q X := by
  have hnx9 : (93 : Int) ≤ xnx h := F.2.2
  refine xr_okL (fun hl9 => ?_)
  have r_x0 : -2147483648 ≤ x0 ∧ x0 ≤ 2147483647 := hl9 (xI x0) (.head _) (Nat.le_of_ble_eq_true rfl)
  refine xr_iconst (pc := 0) (hI := d_Fits_logarithm_0) (hr := by decide) ?_
  refine xr_istore_n (pc := 1) (i := 1) (L9 := [xI x0, xI 0]) (hI := d_Fits_logarithm_1) (hi := rfl) (hn := Nat.le_of_ble_eq_true rfl) (hL9 := rfl) ?_
  exact hyp
theorem d_Fits_logarithm_2 : decode prog_3_method_11_code 2 = .ok (.iload_n 1, 1) := by decide +kernel
theorem d_Fits_logarithm_3 : decode prog_3_method_11_code 3 = .ok (.bipush 30, 2) := by decide +kernel
theorem d_Fits_logarithm_5 : decode prog_3_method_11_code 5 = .ok (.if_icmp .ge 17, 3) := by decide +kernel
theorem d_Fits_logarithm_8 : decode prog_3_method_11_code 8 = .ok (.iload_n 0, 1) := by decide +kernel
theorem d_Fits_logarithm_9 : decode prog_3_method_11_code 9 = .ok (.iload_n 1, 1) := by decide +kernel
theorem d_Fits_logarithm_10 : decode prog_3_method_11_code 10 = .ok (.iconst 1, 1) := by decide +kernel
theorem d_Fits_logarithm_11 : decode prog_3_method_11_code 11 = .ok (.iadd, 1) := by decide +kernel
theorem d_Fits_logarithm_12 : decode prog_3_method_11_code 12 = .ok (.ishr, 1) := by decide +kernel
theorem d_Fits_logarithm_13 : decode prog_3_method_11_code 13 = .ok (.ifCond .le 9, 3) := by decide +kernel
theorem d_Fits_logarithm_16 : decode prog_3_method_11_code 16 = .ok (.iinc 1 1, 3) := by decide +kernel
theorem d_Fits_logarithm_19 : decode prog_3_method_11_code 19 = .ok (.goto (-17), 3) := by decide +kernel
theorem v_Fits_logarithm_2 {G : XG} {d : Nat} {h : XH} {Q : XV → XH → Prop} {X : Nat → XH → Prop} {x0 x1 : Int} (F : xFix h) (hyp : (((30 : Int) ≤ x1 → (xwp G m_Fits_logarithm (d + 1) 22 [xI x0, xI x1] [] h Q X)) ∧ (¬ (30 : Int) ≤ x1 → (((xshr x0 (x1 + 1)) ≤ 0 → (xwp G m_Fits_logarithm (d + 1) 22 [xI x0, xI x1] [] h Q X)) ∧ (¬ (xshr x0 (x1 + 1)) ≤ 0 → (xwp G m_Fits_logarithm (d + 1) 2 [xI x0, xI (x1 + 1)] [] h Q X)))))) : xwp G m_Fits_logarithm (d + 1) 2 [xI x0, xI x1] [] h Q X := by
  have hnx9 : (93 : Int) ≤ xnx h := F.2.2
  refine xr_okL (fun hl9 => ?_)
  have r_x0 : -2147483648 ≤ x0 ∧ x0 ≤ 2147483647 := hl9 (xI x0) (.head _) (Nat.le_of_ble_eq_true rfl)
  have r_x1 : -2147483648 ≤ x1 ∧ x1 ≤ 2147483647 := hl9 (xI x1) (.tail _ (.head _)) (Nat.le_of_ble_eq_true rfl)
  refine xr_iload_n (pc := 2) (i := 1) (hI := d_Fits_logarithm_2) (hi := rfl) (hl := rfl) ?_
  refine xr_bipush (pc := 3) (hI := d_Fits_logarithm_3) (hr := by decide) (hv := by decide) ?_
  refine xr_icmp_ge (pc := 5) (tgt := 22) (hI := d_Fits_logarithm_5) (ht := by decide) (fun q9 => ?_) (fun q9 => ?_)
  · replace hyp := hyp.1 q9
    have q1_ := q9
    clear q9
    exact hyp
  · replace hyp := hyp.2 q9
    have q1_ := q9
    clear q9
    refine xr_iload_n (pc := 8) (i := 0) (hI := d_Fits_logarithm_8) (hi := rfl) (hl := rfl) ?_
    refine xr_iload_n (pc := 9) (i := 1) (hI := d_Fits_logarithm_9) (hi := rfl) (hl := rfl) ?_
    refine xr_iconst (pc := 10) (hI := d_Fits_logarithm_10) (hr := by decide) ?_
    refine xr_iadd (pc := 11) (hI := d_Fits_logarithm_11) (hr := ⟨by clear hyp; omega, by clear hyp; omega⟩) ?_
    refine xr_ishr (pc := 12) (hI := d_Fits_logarithm_12) ?_
    have f2_ : -2147483648 ≤ (xshr x0 (x1 + 1)) ∧ (xshr x0 (x1 + 1)) ≤ 2147483647 := xi_toR _
    refine xr_if_le (pc := 13) (tgt := 22) (hI := d_Fits_logarithm_13) (ht := by decide) (fun q9 => ?_) (fun q9 => ?_)
    · replace hyp := hyp.1 q9
      have q3_ := q9
      clear q9
      exact hyp
    · replace hyp := hyp.2 q9
      have q3_ := q9
      clear q9
      refine xr_iinc (pc := 16) (i := 1) (L9 := [xI x0, xI (x1 + 1)]) (hI := d_Fits_logarithm_16) (hl := rfl) (hn := Nat.le_of_ble_eq_true rfl) (hr := ⟨by clear hyp; omega, by clear hyp; omega⟩) (hL9 := rfl) ?_
      refine xr_goto (pc := 19) (tgt := 2) (hI := d_Fits_logarithm_19) (ht := by decide) ?_
      exact hyp
theorem d_Fits_logarithm_22 : decode prog_3_method_11_code 22 = .ok (.bipush 16, 2) := by decide +kernel
theorem d_Fits_logarithm_24 : decode prog_3_method_11_code 24 = .ok (.iload_n 1, 1) := by decide +kernel
theorem d_Fits_logarithm_25 : decode prog_3_method_11_code 25 = .ok (.imul, 1) := by decide +kernel
theorem d_Fits_logarithm_26 : decode prog_3_method_11_code 26 = .ok (.bipush 16, 2) := by decide +kernel
theorem d_Fits_logarithm_28 : decode prog_3_method_11_code 28 = .ok (.iload_n 0, 1) := by decide +kernel
theorem d_Fits_logarithm_29 : decode prog_3_method_11_code 29 = .ok (.imul, 1) := by decide +kernel
theorem d_Fits_logarithm_30 : decode prog_3_method_11_code 30 = .ok (.iconst 1, 1) := by decide +kernel
theorem d_Fits_logarithm_31 : decode prog_3_method_11_code 31 = .ok (.iload_n 1, 1) := by decide +kernel
theorem d_Fits_logarithm_32 : decode prog_3_method_11_code 32 = .ok (.ishl, 1) := by decide +kernel
theorem d_Fits_logarithm_33 : decode prog_3_method_11_code 33 = .ok (.idiv, 1) := by decide +kernel
theorem d_Fits_logarithm_34 : decode prog_3_method_11_code 34 = .ok (.iadd, 1) := by decide +kernel
theorem d_Fits_logarithm_35 : decode prog_3_method_11_code 35 = .ok (.bipush 16, 2) := by decide +kernel
theorem d_Fits_logarithm_37 : decode prog_3_method_11_code 37 = .ok (.isub, 1) := by decide +kernel
theorem d_Fits_logarithm_38 : decode prog_3_method_11_code 38 = .ok (.ireturn, 1) := by decide +kernel
theorem v_Fits_logarithm_22 {G : XG} {d : Nat} {h : XH} {Q : XV → XH → Prop} {X : Nat → XH → Prop} {x0 x1 : Int} (F : xFix h) (hyp : xiR (16 * x1) ∧ xiR (16 * x0) ∧ (0 : Int) < (xshl 1 x1) ∧ xiR ((16 * x1) + (Int.tdiv (16 * x0) (xshl 1 x1))) ∧ xiR (((16 * x1) + (Int.tdiv (16 * x0) (xshl 1 x1))) - 16) ∧ (Q (xI (((16 * x1) + (Int.tdiv (16 * x0) (xshl 1 x1))) - 16)) h)) : xwp G m_Fits_logarithm (d + 1) 22 [xI x0, xI x1] [] h Q X := by
  have hnx9 : (93 : Int) ≤ xnx h := F.2.2
  refine xr_okL (fun hl9 => ?_)
  have r_x0 : -2147483648 ≤ x0 ∧ x0 ≤ 2147483647 := hl9 (xI x0) (.head _) (Nat.le_of_ble_eq_true rfl)
  have r_x1 : -2147483648 ≤ x1 ∧ x1 ≤ 2147483647 := hl9 (xI x1) (.tail _ (.head _)) (Nat.le_of_ble_eq_true rfl)
  refine xr_bipush (pc := 22) (hI := d_Fits_logarithm_22) (hr := by decide) (hv := by decide) ?_
  refine xr_iload_n (pc := 24) (i := 1) (hI := d_Fits_logarithm_24) (hi := rfl) (hl := rfl) ?_
  obtain ⟨c9, hyp⟩ := hyp
  refine xr_imul (pc := 25) (hI := d_Fits_logarithm_25) (hr := c9) ?_
  refine xr_bipush (pc := 26) (hI := d_Fits_logarithm_26) (hr := by decide) (hv := by decide) ?_
  refine xr_iload_n (pc := 28) (i := 0) (hI := d_Fits_logarithm_28) (hi := rfl) (hl := rfl) ?_
  obtain ⟨c9, hyp⟩ := hyp
  refine xr_imul (pc := 29) (hI := d_Fits_logarithm_29) (hr := c9) ?_
  refine xr_iconst (pc := 30) (hI := d_Fits_logarithm_30) (hr := by decide) ?_
  refine xr_iload_n (pc := 31) (i := 1) (hI := d_Fits_logarithm_31) (hi := rfl) (hl := rfl) ?_
  refine xr_ishl (pc := 32) (hI := d_Fits_logarithm_32) ?_
  have f1_ : -2147483648 ≤ (xshl 1 x1) ∧ (xshl 1 x1) ≤ 2147483647 := xi_toR _
  obtain ⟨c9, hyp⟩ := hyp
  refine xr_idiv (pc := 33) (hI := d_Fits_logarithm_33) (h0 := c9) ?_
  obtain ⟨c9, hyp⟩ := hyp
  refine xr_iadd (pc := 34) (hI := d_Fits_logarithm_34) (hr := c9) ?_
  refine xr_bipush (pc := 35) (hI := d_Fits_logarithm_35) (hr := by decide) (hv := by decide) ?_
  obtain ⟨c9, hyp⟩ := hyp
  refine xr_isub (pc := 37) (hI := d_Fits_logarithm_37) (hr := c9) ?_
  refine xr_ireturn (S := []) (pc := 38) (hI := d_Fits_logarithm_38) (hr := rfl) ?_
  exact hyp
abbrev m_Fits_fieldWeight : XM := (⟨"BeaconIndex$Fits", "fieldWeight", "(IIII)I"⟩, prog_3_method_8_code, 5, (some .int), [])
theorem d_Fits_fieldWeight_0 : decode prog_3_method_8_code 0 = .ok (.bipush 10, 2) := by decide +kernel
theorem d_Fits_fieldWeight_2 : decode prog_3_method_8_code 2 = .ok (.iload_n 1, 1) := by decide +kernel
theorem d_Fits_fieldWeight_3 : decode prog_3_method_8_code 3 = .ok (.imul, 1) := by decide +kernel
theorem d_Fits_fieldWeight_4 : decode prog_3_method_8_code 4 = .ok (.iconst 3, 1) := by decide +kernel
theorem d_Fits_fieldWeight_5 : decode prog_3_method_8_code 5 = .ok (.iadd, 1) := by decide +kernel
theorem d_Fits_fieldWeight_6 : decode prog_3_method_8_code 6 = .ok (.bipush 9, 2) := by decide +kernel
theorem d_Fits_fieldWeight_8 : decode prog_3_method_8_code 8 = .ok (.iload_n 2, 1) := by decide +kernel
theorem d_Fits_fieldWeight_9 : decode prog_3_method_8_code 9 = .ok (.imul, 1) := by decide +kernel
theorem d_Fits_fieldWeight_10 : decode prog_3_method_8_code 10 = .ok (.iconst 1, 1) := by decide +kernel
theorem d_Fits_fieldWeight_11 : decode prog_3_method_8_code 11 = .ok (.iload_n 3, 1) := by decide +kernel
theorem d_Fits_fieldWeight_12 : decode prog_3_method_8_code 12 = .ok (.invokestatic 81, 3) := by decide +kernel
theorem w_614 : Cond.methodLink "BeaconIndex$Fits" 81 ⟨"java/lang/Math", "max", "(II)I"⟩ ∈ lw_tbl := List.mem_append_right _ (List.mem_of_getElem? (i := 614) (by decide +kernel))
theorem d_Fits_fieldWeight_15 : decode prog_3_method_8_code 15 = .ok (.idiv, 1) := by decide +kernel
theorem d_Fits_fieldWeight_16 : decode prog_3_method_8_code 16 = .ok (.iadd, 1) := by decide +kernel
theorem d_Fits_fieldWeight_17 : decode prog_3_method_8_code 17 = .ok (.istore 4, 2) := by decide +kernel
theorem d_Fits_fieldWeight_19 : decode prog_3_method_8_code 19 = .ok (.iload_n 0, 1) := by decide +kernel
theorem d_Fits_fieldWeight_20 : decode prog_3_method_8_code 20 = .ok (.bipush 22, 2) := by decide +kernel
theorem d_Fits_fieldWeight_22 : decode prog_3_method_8_code 22 = .ok (.imul, 1) := by decide +kernel
theorem d_Fits_fieldWeight_23 : decode prog_3_method_8_code 23 = .ok (.iload_n 1, 1) := by decide +kernel
theorem d_Fits_fieldWeight_24 : decode prog_3_method_8_code 24 = .ok (.imul, 1) := by decide +kernel
theorem d_Fits_fieldWeight_25 : decode prog_3_method_8_code 25 = .ok (.iconst 1, 1) := by decide +kernel
theorem d_Fits_fieldWeight_26 : decode prog_3_method_8_code 26 = .ok (.iload 4, 2) := by decide +kernel
theorem d_Fits_fieldWeight_28 : decode prog_3_method_8_code 28 = .ok (.invokestatic 81, 3) := by decide +kernel
theorem d_Fits_fieldWeight_31 : decode prog_3_method_8_code 31 = .ok (.idiv, 1) := by decide +kernel
theorem d_Fits_fieldWeight_32 : decode prog_3_method_8_code 32 = .ok (.ireturn, 1) := by decide +kernel
theorem v_Fits_fieldWeight_0 {G : XG} {d : Nat} {h : XH} {Q : XV → XH → Prop} {X : Nat → XH → Prop} {x0 x1 x2 x3 : Int} (F : xFix h) (hyp : xiR (10 * x1) ∧ xiR (9 * x2) ∧ xiR (((10 * x1) + 3) + (Int.tdiv (9 * x2) (max 1 x3))) ∧ xiR (x0 * 22) ∧ xiR ((x0 * 22) * x1) ∧ (Q (xI (Int.tdiv ((x0 * 22) * x1) (max 1 (((10 * x1) + 3) + (Int.tdiv (9 * x2) (max 1 x3)))))) h)) : xwp G m_Fits_fieldWeight (d + 2) 0 [xI x0, xI x1, xI x2, xI x3, xZ] [] h Q X := by
  have hnx9 : (93 : Int) ≤ xnx h := F.2.2
  refine xr_okL (fun hl9 => ?_)
  have r_x0 : -2147483648 ≤ x0 ∧ x0 ≤ 2147483647 := hl9 (xI x0) (.head _) (Nat.le_of_ble_eq_true rfl)
  have r_x1 : -2147483648 ≤ x1 ∧ x1 ≤ 2147483647 := hl9 (xI x1) (.tail _ (.head _)) (Nat.le_of_ble_eq_true rfl)
  have r_x2 : -2147483648 ≤ x2 ∧ x2 ≤ 2147483647 := hl9 (xI x2) (.tail _ (.tail _ (.head _))) (Nat.le_of_ble_eq_true rfl)
  have r_x3 : -2147483648 ≤ x3 ∧ x3 ≤ 2147483647 := hl9 (xI x3) (.tail _ (.tail _ (.tail _ (.head _)))) (Nat.le_of_ble_eq_true rfl)
  refine xr_bipush (pc := 0) (hI := d_Fits_fieldWeight_0) (hr := by decide) (hv := by decide) ?_
  refine xr_iload_n (pc := 2) (i := 1) (hI := d_Fits_fieldWeight_2) (hi := rfl) (hl := rfl) ?_
  obtain ⟨c9, hyp⟩ := hyp
  refine xr_imul (pc := 3) (hI := d_Fits_fieldWeight_3) (hr := c9) ?_
  refine xr_iconst (pc := 4) (hI := d_Fits_fieldWeight_4) (hr := by decide) ?_
  refine xr_iadd (pc := 5) (hI := d_Fits_fieldWeight_5) (hr := ⟨by clear hyp; omega, by clear hyp; omega⟩) ?_
  refine xr_bipush (pc := 6) (hI := d_Fits_fieldWeight_6) (hr := by decide) (hv := by decide) ?_
  refine xr_iload_n (pc := 8) (i := 2) (hI := d_Fits_fieldWeight_8) (hi := rfl) (hl := rfl) ?_
  obtain ⟨c9, hyp⟩ := hyp
  refine xr_imul (pc := 9) (hI := d_Fits_fieldWeight_9) (hr := c9) ?_
  refine xr_iconst (pc := 10) (hI := d_Fits_fieldWeight_10) (hr := by decide) ?_
  refine xr_iload_n (pc := 11) (i := 3) (hI := d_Fits_fieldWeight_11) (hi := rfl) (hl := rfl) ?_
  refine xr_mmax (pc := 12) (index := 81) (hI := d_Fits_fieldWeight_12) w_614 w_502 w_25 w_mmax (Nat.le_add_left_of_le (by decide)) (Nat.le_of_ble_eq_true rfl) ?_
  have f1_ : 1 ≤ (max 1 x3) := (by clear hyp; omega)
  have f2_ : x3 ≤ (max 1 x3) := (by clear hyp; omega)
  have f3_ : (max 1 x3) ≤ 2147483647 := (by clear hyp; omega)
  refine xr_idiv (pc := 15) (hI := d_Fits_fieldWeight_15) (h0 := (by clear hyp; omega)) ?_
  obtain ⟨c9, hyp⟩ := hyp
  refine xr_iadd (pc := 16) (hI := d_Fits_fieldWeight_16) (hr := c9) ?_
  refine xr_istore (pc := 17) (i := 4) (L9 := [xI x0, xI x1, xI x2, xI x3, xI (((10 * x1) + 3) + (Int.tdiv (9 * x2) (max 1 x3)))]) (hI := d_Fits_fieldWeight_17) (hn := Nat.le_of_ble_eq_true rfl) (hL9 := rfl) ?_
  refine xr_iload_n (pc := 19) (i := 0) (hI := d_Fits_fieldWeight_19) (hi := rfl) (hl := rfl) ?_
  refine xr_bipush (pc := 20) (hI := d_Fits_fieldWeight_20) (hr := by decide) (hv := by decide) ?_
  obtain ⟨c9, hyp⟩ := hyp
  refine xr_imul (pc := 22) (hI := d_Fits_fieldWeight_22) (hr := c9) ?_
  refine xr_iload_n (pc := 23) (i := 1) (hI := d_Fits_fieldWeight_23) (hi := rfl) (hl := rfl) ?_
  obtain ⟨c9, hyp⟩ := hyp
  refine xr_imul (pc := 24) (hI := d_Fits_fieldWeight_24) (hr := c9) ?_
  refine xr_iconst (pc := 25) (hI := d_Fits_fieldWeight_25) (hr := by decide) ?_
  refine xr_iload (pc := 26) (i := 4) (hI := d_Fits_fieldWeight_26) (hl := rfl) ?_
  refine xr_mmax (pc := 28) (index := 81) (hI := d_Fits_fieldWeight_28) w_614 w_502 w_25 w_mmax (Nat.le_add_left_of_le (by decide)) (Nat.le_of_ble_eq_true rfl) ?_
  have f4_ : 1 ≤ (max 1 (((10 * x1) + 3) + (Int.tdiv (9 * x2) (max 1 x3)))) := (by clear hyp; omega)
  have f5_ : (((10 * x1) + 3) + (Int.tdiv (9 * x2) (max 1 x3))) ≤ (max 1 (((10 * x1) + 3) + (Int.tdiv (9 * x2) (max 1 x3)))) := (by clear hyp; omega)
  have f6_ : (max 1 (((10 * x1) + 3) + (Int.tdiv (9 * x2) (max 1 x3)))) ≤ 2147483647 := (by clear hyp; omega)
  refine xr_idiv (pc := 31) (hI := d_Fits_fieldWeight_31) (h0 := (by clear hyp; omega)) ?_
  refine xr_ireturn (S := []) (pc := 32) (hI := d_Fits_fieldWeight_32) (hr := rfl) ?_
  exact hyp
theorem p_Fits_slot {G : XG} {d : Nat} {h : XH} {Q : XV → XH → Prop} {X : Nat → XH → Prop} {p t f : Int} (F : xFix h) (h0 : xtg h p = 4) (hf : 0 ≤ f ∧ f ≤ 1) (hq : Q (xI (slF (xpl h p 0) t * 2 + f)) h) : xwp G m_Fits_slot (d + 2) 0 [xR p, xI t, xI f] [] h Q X := by
  have := slF_rng (xpl h p 0) t
  refine v_Fits_slot_0 F ?_
  refine ⟨?_, ?_⟩
  · first | exact h0 | exact ⟨by omega, by omega⟩
  · refine ⟨?_, ?_⟩
    · first | exact h0 | exact ⟨by omega, by omega⟩
    · exact hq
theorem xshl_pos {k : Int} (h0 : 0 ≤ k) (h1 : k ≤ 30) : 0 < xshl 1 k := by
  have : ∀ i : Fin 31, 0 < xshl 1 (i.val : Int) := by decide +kernel
  have h2 := this ⟨k.toNat, by omega⟩
  rwa [show ((⟨k.toNat, by omega⟩ : Fin 31).val : Int) = k by show (k.toNat : Int) = k; omega] at h2
def lgK (x : Int) : Nat → Int → Int
  | 0, k => k
  | n + 1, k => if xshr x (k + 1) ≤ 0 then k else lgK x n (k + 1)
def lgF (x : Int) : Int := 16 * lgK x 30 0 + (16 * x).tdiv (xshl 1 (lgK x 30 0)) - 16
theorem lgK_rng (x : Int) : ∀ (n : Nat) (k : Int), k ≤ lgK x n k ∧ lgK x n k ≤ k + n := by
  intro n
  induction n with
  | zero => intro k; exact ⟨Int.le_refl _, by show k ≤ k + 0; omega⟩
  | succ n ih =>
    intro k
    have e : lgK x (n + 1) k = if xshr x (k + 1) ≤ 0 then k else lgK x n (k + 1) := rfl
    rw [e]
    split
    · omega
    · have := ih (k + 1); omega
theorem lgF_rng {x : Int} (h0 : 0 ≤ x) : -16 ≤ lgF x ∧ lgF x ≤ 480 + 16 * x := by
  have h1 := lgK_rng x 30 0
  have h2 := xtdiv_le (a := 16 * x) (by omega) (xshl_pos (k := lgK x 30 0) (by omega) (by omega))
  unfold lgF
  omega
theorem p_Fits_logarithm {G : XG} {d : Nat} {h : XH} {Q : XV → XH → Prop} {X : Nat → XH → Prop} {x : Int} (F : xFix h) (h0 : 0 ≤ x) (h1 : x ≤ 100000) (hq : Q (xI (lgF x)) h) : xwp G m_Fits_logarithm (d + 1) 0 [xI x, xZ] [] h Q X := by
  have fin : lgK x 30 0 = lgK x 30 0 → xwp G m_Fits_logarithm (d + 1) 22 [xI x, xI (lgK x 30 0)] [] h Q X := fun _ => by
    have k1 := lgK_rng x 30 0
    have k2 := xshl_pos (k := lgK x 30 0) (by omega) (by omega)
    have k3 := xtdiv_le (a := 16 * x) (by omega) k2
    refine v_Fits_logarithm_22 F ?_
    refine ⟨?_, ?_⟩
    · first | exact k2 | exact ⟨by omega, by omega⟩
    · refine ⟨?_, ?_⟩
      · first | exact k2 | exact ⟨by omega, by omega⟩
      · refine ⟨?_, ?_⟩
        · first | exact k2 | exact ⟨by omega, by omega⟩
        · refine ⟨?_, ?_⟩
          · first | exact k2 | exact ⟨by omega, by omega⟩
          · refine ⟨?_, ?_⟩
            · first | exact k2 | exact ⟨by omega, by omega⟩
            · exact hq
  have loop : ∀ (n : Nat) (k : Int), 0 ≤ k → k + n = 30 → lgK x n k = lgK x 30 0 → xwp G m_Fits_logarithm (d + 1) 2 [xI x, xI k] [] h Q X := by
    intro n
    induction n with
    | zero =>
      intro k k0 k1 hv
      have hv2 : k = lgK x 30 0 := hv
      refine v_Fits_logarithm_2 F ?_
      refine ⟨fun q1 => ?_, fun q1 => ?_⟩
      · rw [hv2]; exact fin rfl
      · refine ⟨fun q2 => ?_, fun q2 => ?_⟩
        · omega
        · omega
    | succ n ih =>
      intro k k0 k1 hv
      have hv2 : (if xshr x (k + 1) ≤ 0 then k else lgK x n (k + 1)) = lgK x 30 0 := hv
      refine v_Fits_logarithm_2 F ?_
      refine ⟨fun q1 => ?_, fun q1 => ?_⟩
      · omega
      · refine ⟨fun q2 => ?_, fun q2 => ?_⟩
        · rw [if_pos q2] at hv2
          rw [hv2]; exact fin rfl
        · rw [if_neg q2] at hv2
          exact ih (k + 1) (by omega) (by omega) hv2
  refine v_Fits_logarithm_0 F ?_
  exact loop 30 0 (Int.le_refl _) rfl rfl
abbrev m_Fits_rarityOf : XM := (⟨"BeaconIndex$Fits", "rarityOf", "(II)I"⟩, prog_3_method_10_code, 2, (some .int), [])
theorem d_Fits_rarityOf_0 : decode prog_3_method_10_code 0 = .ok (.bipush 16, 2) := by decide +kernel
theorem d_Fits_rarityOf_2 : decode prog_3_method_10_code 2 = .ok (.iload_n 0, 1) := by decide +kernel
theorem d_Fits_rarityOf_3 : decode prog_3_method_10_code 3 = .ok (.iconst 1, 1) := by decide +kernel
theorem d_Fits_rarityOf_4 : decode prog_3_method_10_code 4 = .ok (.iadd, 1) := by decide +kernel
theorem d_Fits_rarityOf_5 : decode prog_3_method_10_code 5 = .ok (.imul, 1) := by decide +kernel
theorem d_Fits_rarityOf_6 : decode prog_3_method_10_code 6 = .ok (.iconst 1, 1) := by decide +kernel
theorem d_Fits_rarityOf_7 : decode prog_3_method_10_code 7 = .ok (.iload_n 1, 1) := by decide +kernel
theorem d_Fits_rarityOf_8 : decode prog_3_method_10_code 8 = .ok (.iconst 1, 1) := by decide +kernel
theorem d_Fits_rarityOf_9 : decode prog_3_method_10_code 9 = .ok (.iadd, 1) := by decide +kernel
theorem d_Fits_rarityOf_10 : decode prog_3_method_10_code 10 = .ok (.invokestatic 81, 3) := by decide +kernel
theorem d_Fits_rarityOf_13 : decode prog_3_method_10_code 13 = .ok (.idiv, 1) := by decide +kernel
theorem d_Fits_rarityOf_14 : decode prog_3_method_10_code 14 = .ok (.invokestatic 124, 3) := by decide +kernel
theorem w_13 : Cond.initialized "BeaconIndex$Fits" ∈ lw_tbl := List.mem_append_right _ (List.mem_of_getElem? (i := 13) (by decide +kernel))
theorem k_Fits_logarithm : xCal m_Fits_logarithm 1 := ⟨List.mem_append_right _ (List.mem_of_getElem? (i := 696) (by decide +kernel)), w_13, Nat.le_of_ble_eq_true rfl, ⟨by decide +kernel, by decide +kernel⟩, by decide +kernel, by decide +kernel, rfl⟩
theorem w_694 : Cond.methodLink "BeaconIndex$Fits" 124 ⟨"BeaconIndex$Fits", "logarithm", "(I)I"⟩ ∈ lw_tbl := List.mem_append_right _ (List.mem_of_getElem? (i := 694) (by decide +kernel))
theorem w_695 : Cond.static ⟨"BeaconIndex$Fits", "logarithm", "(I)I"⟩ ∈ lw_tbl := List.mem_append_right _ (List.mem_of_getElem? (i := 695) (by decide +kernel))
theorem d_Fits_rarityOf_17 : decode prog_3_method_10_code 17 = .ok (.ireturn, 1) := by decide +kernel
theorem v_Fits_rarityOf_0 {G : XG} {d : Nat} {h : XH} {Q : XV → XH → Prop} {X : Nat → XH → Prop} {x0 x1 : Int} (F : xFix h) (hyp : xiR (x0 + 1) ∧ xiR (16 * (x0 + 1)) ∧ xiR (x1 + 1) ∧ 0 ≤ (Int.tdiv (16 * (x0 + 1)) (max 1 (x1 + 1))) ∧ (Int.tdiv (16 * (x0 + 1)) (max 1 (x1 + 1))) ≤ 100000 ∧ (Q (xI (lgF (Int.tdiv (16 * (x0 + 1)) (max 1 (x1 + 1))))) h)) : xwp G m_Fits_rarityOf (d + 2) 0 [xI x0, xI x1] [] h Q X := by
  have hnx9 : (93 : Int) ≤ xnx h := F.2.2
  refine xr_okL (fun hl9 => ?_)
  have r_x0 : -2147483648 ≤ x0 ∧ x0 ≤ 2147483647 := hl9 (xI x0) (.head _) (Nat.le_of_ble_eq_true rfl)
  have r_x1 : -2147483648 ≤ x1 ∧ x1 ≤ 2147483647 := hl9 (xI x1) (.tail _ (.head _)) (Nat.le_of_ble_eq_true rfl)
  refine xr_bipush (pc := 0) (hI := d_Fits_rarityOf_0) (hr := by decide) (hv := by decide) ?_
  refine xr_iload_n (pc := 2) (i := 0) (hI := d_Fits_rarityOf_2) (hi := rfl) (hl := rfl) ?_
  refine xr_iconst (pc := 3) (hI := d_Fits_rarityOf_3) (hr := by decide) ?_
  obtain ⟨c9, hyp⟩ := hyp
  refine xr_iadd (pc := 4) (hI := d_Fits_rarityOf_4) (hr := c9) ?_
  obtain ⟨c9, hyp⟩ := hyp
  refine xr_imul (pc := 5) (hI := d_Fits_rarityOf_5) (hr := c9) ?_
  refine xr_iconst (pc := 6) (hI := d_Fits_rarityOf_6) (hr := by decide) ?_
  refine xr_iload_n (pc := 7) (i := 1) (hI := d_Fits_rarityOf_7) (hi := rfl) (hl := rfl) ?_
  refine xr_iconst (pc := 8) (hI := d_Fits_rarityOf_8) (hr := by decide) ?_
  obtain ⟨c9, hyp⟩ := hyp
  refine xr_iadd (pc := 9) (hI := d_Fits_rarityOf_9) (hr := c9) ?_
  refine xr_mmax (pc := 10) (index := 81) (hI := d_Fits_rarityOf_10) w_614 w_502 w_25 w_mmax (Nat.le_add_left_of_le (by decide)) (Nat.le_of_ble_eq_true rfl) ?_
  have f1_ : 1 ≤ (max 1 (x1 + 1)) := (by clear hyp; omega)
  have f2_ : (x1 + 1) ≤ (max 1 (x1 + 1)) := (by clear hyp; omega)
  have f3_ : (max 1 (x1 + 1)) ≤ 2147483647 := (by clear hyp; omega)
  refine xr_idiv (pc := 13) (hI := d_Fits_rarityOf_13) (h0 := (by clear hyp; omega)) ?_
  obtain ⟨c4_, hyp⟩ := hyp
  obtain ⟨c5_, hyp⟩ := hyp
  refine xq_callS (pc := 14) (index := 124) (K := m_Fits_logarithm) (As := [xI (Int.tdiv (16 * (x0 + 1)) (max 1 (x1 + 1)))]) (S := []) (L0 := [xI (Int.tdiv (16 * (x0 + 1)) (max 1 (x1 + 1))), xZ]) (hI := d_Fits_rarityOf_14) (hK := k_Fits_logarithm) (hlk := w_694) (hnoM := rfl) (hS8 := Nat.le_of_ble_eq_true rfl) (hstat := w_695) (hlen := Nat.le_of_ble_eq_true rfl) (hst := rfl) (hL0 := rfl)  (p_Fits_logarithm F c4_ c5_ ?_)
  show xwp G m_Fits_rarityOf (d + 2) 17 [xI x0, xI x1] [xI (lgF (Int.tdiv (16 * (x0 + 1)) (max 1 (x1 + 1))))] _ _ _
  refine xr_ireturn (S := []) (pc := 17) (hI := d_Fits_rarityOf_17) (hr := rfl) ?_
  exact hyp
def rrF (n m : Int) : Int := lgF ((16 * (n + 1)).tdiv (max 1 (m + 1)))
theorem rr_arg {n m : Int} (h0 : 0 ≤ n) (h1 : 0 ≤ m) : 0 ≤ (16 * (n + 1)).tdiv (max 1 (m + 1)) ∧ (16 * (n + 1)).tdiv (max 1 (m + 1)) ≤ 16 * (n + 1) := xtdiv_le (by omega) (by omega)
theorem rrF_rng {n m : Int} (h0 : 0 ≤ n) (h1 : 0 ≤ m) : -16 ≤ rrF n m ∧ rrF n m ≤ 480 + 256 * (n + 1) := by
  have a := rr_arg h0 h1
  have := lgF_rng a.1
  unfold rrF
  omega
theorem p_Fits_rarityOf {G : XG} {d : Nat} {h : XH} {Q : XV → XH → Prop} {X : Nat → XH → Prop} {n m : Int} (F : xFix h) (h0 : 0 ≤ n) (h1 : n ≤ 1000) (h2 : 0 ≤ m) (h3 : m ≤ 1000) (hq : Q (xI (rrF n m)) h) : xwp G m_Fits_rarityOf (d + 2) 0 [xI n, xI m] [] h Q X := by
  have a := rr_arg h0 h2
  refine v_Fits_rarityOf_0 F ?_
  refine ⟨?_, ?_⟩
  · first | exact ⟨by omega, by omega⟩ | omega
  · refine ⟨?_, ?_⟩
    · first | exact ⟨by omega, by omega⟩ | omega
    · refine ⟨?_, ?_⟩
      · first | exact ⟨by omega, by omega⟩ | omega
      · refine ⟨?_, ?_⟩
        · first | exact ⟨by omega, by omega⟩ | omega
        · refine ⟨?_, ?_⟩
          · first | exact ⟨by omega, by omega⟩ | omega
          · exact hq
def fwF (r c l m : Int) : Int := (r * 22 * c).tdiv (max 1 (10 * c + 3 + (9 * l).tdiv (max 1 m)))
theorem fw_num {r c : Int} (r0 : -16 ≤ r) (r1 : r ≤ 20000) (c0 : 0 ≤ c) (c1 : c ≤ 200) : -100000 ≤ r * 22 * c ∧ r * 22 * c ≤ 88000000 := by
  have h1 : r * 22 * c = (r * c) * 22 := by rw [Int.mul_assoc, Int.mul_comm 22 c, ← Int.mul_assoc]
  have h2 : r * c ≤ 20000 * c := Int.mul_le_mul_of_nonneg_right r1 c0
  have h3 : -16 * c ≤ r * c := Int.mul_le_mul_of_nonneg_right r0 c0
  rw [h1]
  omega
theorem tdiv_rng2 {a b : Int} (h1 : -100000 ≤ a) (h2 : a ≤ 88000000) (hb : 0 < b) : -100000 ≤ a.tdiv b ∧ a.tdiv b ≤ 88000000 := by
  rcases Int.lt_or_le a 0 with z | z
  · have := xtdiv_le (a := -a) (by omega) hb
    rw [Int.neg_tdiv] at this
    omega
  · have := xtdiv_le z hb
    omega
theorem fwF_rng {r c l m : Int} (r0 : -16 ≤ r) (r1 : r ≤ 20000) (c0 : 0 ≤ c) (c1 : c ≤ 200) : -100000 ≤ fwF r c l m ∧ fwF r c l m ≤ 88000000 := by
  have a := fw_num r0 r1 c0 c1
  exact tdiv_rng2 a.1 a.2 (by omega)
theorem p_Fits_fieldWeight {G : XG} {d : Nat} {h : XH} {Q : XV → XH → Prop} {X : Nat → XH → Prop} {r c l m : Int} (F : xFix h) (r0 : -16 ≤ r) (r1 : r ≤ 20000) (c0 : 0 ≤ c) (c1 : c ≤ 200) (l0 : 0 ≤ l) (l1 : l ≤ 1000) (hq : Q (xI (fwF r c l m)) h) : xwp G m_Fits_fieldWeight (d + 2) 0 [xI r, xI c, xI l, xI m, xZ] [] h Q X := by
  have a := fw_num r0 r1 c0 c1
  have b := xtdiv_le (a := 9 * l) (b := max 1 m) (by omega) (by omega)
  refine v_Fits_fieldWeight_0 F ?_
  refine ⟨?_, ?_⟩
  · first | exact ⟨by omega, by omega⟩ | omega
  · refine ⟨?_, ?_⟩
    · first | exact ⟨by omega, by omega⟩ | omega
    · refine ⟨?_, ?_⟩
      · first | exact ⟨by omega, by omega⟩ | omega
      · refine ⟨?_, ?_⟩
        · first | exact ⟨by omega, by omega⟩ | omega
        · refine ⟨?_, ?_⟩
          · first | exact ⟨by omega, by omega⟩ | omega
          · exact hq

end
