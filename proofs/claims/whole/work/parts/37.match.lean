/-! ===== match ===== -/
section
abbrev m_Match_forget : XM := (⟨"BeaconIndex$Match", "forget", "()V"⟩, prog_4_method_2_code, 1, none, [])
theorem d_Match_forget_0 : decode prog_4_method_2_code 0 = .ok (.aload_n 0, 1) := by decide +kernel
theorem d_Match_forget_1 : decode prog_4_method_2_code 1 = .ok (.iconst 0, 1) := by decide +kernel
theorem d_Match_forget_2 : decode prog_4_method_2_code 2 = .ok (.putfield 26, 3) := by decide +kernel
theorem w_376 : Cond.fieldLink "BeaconIndex$Match" 26 "BeaconIndex$Match" "times" "I" ∈ lw_tbl := List.mem_append_right _ (List.mem_of_getElem? (i := 376) (by decide +kernel))
theorem xfk_45_4 : xfree 45 4 = true := by decide +kernel
theorem d_Match_forget_5 : decode prog_4_method_2_code 5 = .ok (.aload_n 0, 1) := by decide +kernel
theorem d_Match_forget_6 : decode prog_4_method_2_code 6 = .ok (.iconst (-1), 1) := by decide +kernel
theorem d_Match_forget_7 : decode prog_4_method_2_code 7 = .ok (.putfield 29, 3) := by decide +kernel
theorem w_378 : Cond.fieldLink "BeaconIndex$Match" 29 "BeaconIndex$Match" "first" "I" ∈ lw_tbl := List.mem_append_right _ (List.mem_of_getElem? (i := 378) (by decide +kernel))
theorem xfk_45_5 : xfree 45 5 = true := by decide +kernel
theorem d_Match_forget_10 : decode prog_4_method_2_code 10 = .ok (.return_, 1) := by decide +kernel
theorem v_Match_forget_0 {G : XG} {d : Nat} {h : XH} {Q : XV → XH → Prop} {X : Nat → XH → Prop} (F : xFix h) (hyp : (xFix (xst (xst h 45 4 0) 45 5 (-1)) → Q xN (xst (xst h 45 4 0) 45 5 (-1)))) : xwp G m_Match_forget (d + 1) 0 [xR 45] [] h Q X := by
  have hnx9 : (93 : Int) ≤ xnx h := F.2.2
  refine xr_aload_n (pc := 0) (i := 0) (hI := d_Match_forget_0) (hi := rfl) (hl := rfl) ?_
  refine xr_iconst (pc := 1) (hI := d_Match_forget_1) (hr := by decide) ?_
  refine xr_putf (pc := 2) (ci := 3) (k := 4) (N := 6) (v9 := 0) (T := xF3) (tF := xT3) (hI := d_Match_forget_2) (hw := w_376) rfl xi3 xt3 xn3 (Or.inl rfl) (Nat.le_of_ble_eq_true rfl) (Nat.le_of_ble_eq_true rfl) rfl xfit_i rfl (ft_45 F) (by decide) (fun z => z) ?_
  have F1_ : xFix (xst h 45 4 0) := F.stL xfk_45_4
  refine xr_aload_n (pc := 5) (i := 0) (hI := d_Match_forget_5) (hi := rfl) (hl := rfl) ?_
  refine xr_iconst (pc := 6) (hI := d_Match_forget_6) (hr := by decide) ?_
  refine xr_putf (pc := 7) (ci := 3) (k := 5) (N := 6) (v9 := 0) (T := xF3) (tF := xT3) (hI := d_Match_forget_7) (hw := w_378) rfl xi3 xt3 xn3 (Or.inl rfl) (Nat.le_of_ble_eq_true rfl) (Nat.le_of_ble_eq_true rfl) rfl xfit_i rfl (ft_45 F1_) (by decide) (fun z => z) ?_
  have F2_ : xFix (xst (xst h 45 4 0) 45 5 (-1)) := F1_.stL xfk_45_5
  refine xr_return (S := []) (pc := 10) (hI := d_Match_forget_10) (hr := rfl) ?_
  exact hyp F2_
abbrev m_Match_hit : XM := (⟨"BeaconIndex$Match", "hit", "(I)V"⟩, prog_4_method_4_code, 2, none, [])
theorem d_Match_hit_0 : decode prog_4_method_4_code 0 = .ok (.aload_n 0, 1) := by decide +kernel
theorem d_Match_hit_1 : decode prog_4_method_4_code 1 = .ok (.getfield 26, 3) := by decide +kernel
theorem d_Match_hit_4 : decode prog_4_method_4_code 4 = .ok (.ifCond .ne 8, 3) := by decide +kernel
theorem d_Match_hit_7 : decode prog_4_method_4_code 7 = .ok (.aload_n 0, 1) := by decide +kernel
theorem d_Match_hit_8 : decode prog_4_method_4_code 8 = .ok (.iload_n 1, 1) := by decide +kernel
theorem d_Match_hit_9 : decode prog_4_method_4_code 9 = .ok (.putfield 29, 3) := by decide +kernel
theorem v_Match_hit_0 {G : XG} {d : Nat} {h : XH} {Q : XV → XH → Prop} {X : Nat → XH → Prop} {x1 : Int} (F : xFix h) (hyp : (((xpl h 45 4) = 0 → (xFix (xst h 45 5 x1) → xwp G m_Match_hit (d + 1) 12 [xR 45, xZ] [] (xst h 45 5 x1) Q X)) ∧ (¬ (xpl h 45 4) = 0 → (xwp G m_Match_hit (d + 1) 12 [xR 45, xZ] [] h Q X)))) : xwp G m_Match_hit (d + 1) 0 [xR 45, xI x1] [] h Q X := by
  have hnx9 : (93 : Int) ≤ xnx h := F.2.2
  refine xr_okL (fun hl9 => ?_)
  have r_x1 : -2147483648 ≤ x1 ∧ x1 ≤ 2147483647 := hl9 (xI x1) (.tail _ (.head _)) (Nat.le_of_ble_eq_true rfl)
  refine xr_aload_n (pc := 0) (i := 0) (hI := d_Match_hit_0) (hi := rfl) (hl := rfl) ?_
  refine xg_getf (pc := 1) (ci := 3) (k := 4) (N := 6) (v9 := 0) (v := (xpl h 45 4)) (T := xF3) (hI := d_Match_hit_1) (hw := w_376) rfl xi3 (Or.inl rfl) (Nat.le_of_ble_eq_true rfl) (Nat.le_of_ble_eq_true rfl) rfl (ft_45 F) rfl (fun f1_ => ?_)
  replace f1_ : -2147483648 ≤ (xpl h 45 4) ∧ (xpl h 45 4) ≤ 2147483647 := f1_
  refine xr_if_ne (pc := 4) (tgt := 12) (hI := d_Match_hit_4) (ht := by decide) (fun q9 => ?_) (fun q9 => ?_)
  · replace hyp := hyp.2 q9
    have q2_ := q9
    clear q9
    exact xr_drop (L9 := [xR 45, xZ]) (xdrs (xdrz xdr0)) hyp
  · replace hyp := hyp.1 q9
    have q2_ := q9
    clear q9
    refine xr_aload_n (pc := 7) (i := 0) (hI := d_Match_hit_7) (hi := rfl) (hl := rfl) ?_
    refine xr_iload_n (pc := 8) (i := 1) (hI := d_Match_hit_8) (hi := rfl) (hl := rfl) ?_
    refine xr_putf (pc := 9) (ci := 3) (k := 5) (N := 6) (v9 := 0) (T := xF3) (tF := xT3) (hI := d_Match_hit_9) (hw := w_378) rfl xi3 xt3 xn3 (Or.inl rfl) (Nat.le_of_ble_eq_true rfl) (Nat.le_of_ble_eq_true rfl) rfl xfit_i rfl (ft_45 F) (by decide) (fun z => z) ?_
    have F3_ : xFix (xst h 45 5 x1) := F.stL xfk_45_5
    exact xr_drop (L9 := [xR 45, xZ]) (xdrs (xdrz xdr0)) (hyp F3_)
theorem d_Match_hit_12 : decode prog_4_method_4_code 12 = .ok (.aload_n 0, 1) := by decide +kernel
theorem d_Match_hit_13 : decode prog_4_method_4_code 13 = .ok (.dup, 1) := by decide +kernel
theorem d_Match_hit_14 : decode prog_4_method_4_code 14 = .ok (.getfield 26, 3) := by decide +kernel
theorem d_Match_hit_17 : decode prog_4_method_4_code 17 = .ok (.iconst 1, 1) := by decide +kernel
theorem d_Match_hit_18 : decode prog_4_method_4_code 18 = .ok (.iadd, 1) := by decide +kernel
theorem d_Match_hit_19 : decode prog_4_method_4_code 19 = .ok (.putfield 26, 3) := by decide +kernel
theorem d_Match_hit_22 : decode prog_4_method_4_code 22 = .ok (.return_, 1) := by decide +kernel
theorem v_Match_hit_12 {G : XG} {d : Nat} {h : XH} {Q : XV → XH → Prop} {X : Nat → XH → Prop} (F : xFix h) (hyp : xiR ((xpl h 45 4) + 1) ∧ (xFix (xst h 45 4 ((xpl h 45 4) + 1)) → Q xN (xst h 45 4 ((xpl h 45 4) + 1)))) : xwp G m_Match_hit (d + 1) 12 [xR 45, xZ] [] h Q X := by
  have hnx9 : (93 : Int) ≤ xnx h := F.2.2
  refine xr_aload_n (pc := 12) (i := 0) (hI := d_Match_hit_12) (hi := rfl) (hl := rfl) ?_
  refine xr_dup (pc := 13) (hI := d_Match_hit_13) (hv := rfl) ?_
  refine xg_getf (pc := 14) (ci := 3) (k := 4) (N := 6) (v9 := 0) (v := (xpl h 45 4)) (T := xF3) (hI := d_Match_hit_14) (hw := w_376) rfl xi3 (Or.inl rfl) (Nat.le_of_ble_eq_true rfl) (Nat.le_of_ble_eq_true rfl) rfl (ft_45 F) rfl (fun f1_ => ?_)
  replace f1_ : -2147483648 ≤ (xpl h 45 4) ∧ (xpl h 45 4) ≤ 2147483647 := f1_
  refine xr_iconst (pc := 17) (hI := d_Match_hit_17) (hr := by decide) ?_
  obtain ⟨c9, hyp⟩ := hyp
  refine xr_iadd (pc := 18) (hI := d_Match_hit_18) (hr := c9) ?_
  refine xr_putf (pc := 19) (ci := 3) (k := 4) (N := 6) (v9 := 0) (T := xF3) (tF := xT3) (hI := d_Match_hit_19) (hw := w_376) rfl xi3 xt3 xn3 (Or.inl rfl) (Nat.le_of_ble_eq_true rfl) (Nat.le_of_ble_eq_true rfl) rfl xfit_i rfl (ft_45 F) (by decide) (fun z => z) ?_
  have F2_ : xFix (xst h 45 4 ((xpl h 45 4) + 1)) := F.stL xfk_45_4
  refine xr_return (S := []) (pc := 22) (hI := d_Match_hit_22) (hr := rfl) ?_
  exact hyp F2_
abbrev m_Match_standsAt : XM := (⟨"BeaconIndex$Match", "standsAt", "(I[J[J)Z"⟩, prog_4_method_8_code, 5, (some .boolean), [])
theorem d_Match_standsAt_0 : decode prog_4_method_8_code 0 = .ok (.iconst 0, 1) := by decide +kernel
theorem d_Match_standsAt_1 : decode prog_4_method_8_code 1 = .ok (.istore_n 3, 1) := by decide +kernel
theorem v_Match_standsAt_0 {G : XG} {d : Nat} {h : XH} {Q : XV → XH → Prop} {X : Nat → XH → Prop} {x0 x1 x2 : Int} (F : xFix h) (hyp : (xwp G m_Match_standsAt (d + 1) 2 [xI x0, xR x1, xR x2, xI 0, xZ] [] h Q X)) : xwp G m_Match_standsAt (d + 1) 0 [xI x0, xR x1, xR x2, xZ, xZ] [] h Q X := by
  have hnx9 : (93 : Int) ≤ xnx h := F.2.2
  refine xr_okL (fun hl9 => ?_)
  have r_x0 : -2147483648 ≤ x0 ∧ x0 ≤ 2147483647 := hl9 (xI x0) (.head _) (Nat.le_of_ble_eq_true rfl)
  refine xr_iconst (pc := 0) (hI := d_Match_standsAt_0) (hr := by decide) ?_
  refine xr_istore_n (pc := 1) (i := 3) (L9 := [xI x0, xR x1, xR x2, xI 0, xZ]) (hI := d_Match_standsAt_1) (hi := rfl) (hn := Nat.le_of_ble_eq_true rfl) (hL9 := rfl) ?_
  exact hyp
theorem d_Match_standsAt_2 : decode prog_4_method_8_code 2 = .ok (.iload_n 3, 1) := by decide +kernel
theorem d_Match_standsAt_3 : decode prog_4_method_8_code 3 = .ok (.aload_n 1, 1) := by decide +kernel
theorem d_Match_standsAt_4 : decode prog_4_method_8_code 4 = .ok (.arraylength, 1) := by decide +kernel
theorem d_Match_standsAt_5 : decode prog_4_method_8_code 5 = .ok (.if_icmp .ge 51, 3) := by decide +kernel
theorem d_Match_standsAt_56 : decode prog_4_method_8_code 56 = .ok (.iconst 1, 1) := by decide +kernel
theorem d_Match_standsAt_57 : decode prog_4_method_8_code 57 = .ok (.ireturn, 1) := by decide +kernel
theorem d_Match_standsAt_8 : decode prog_4_method_8_code 8 = .ok (.iload_n 0, 1) := by decide +kernel
theorem d_Match_standsAt_9 : decode prog_4_method_8_code 9 = .ok (.iload_n 3, 1) := by decide +kernel
theorem d_Match_standsAt_10 : decode prog_4_method_8_code 10 = .ok (.iadd, 1) := by decide +kernel
theorem d_Match_standsAt_11 : decode prog_4_method_8_code 11 = .ok (.aload_n 2, 1) := by decide +kernel
theorem d_Match_standsAt_12 : decode prog_4_method_8_code 12 = .ok (.arraylength, 1) := by decide +kernel
theorem d_Match_standsAt_13 : decode prog_4_method_8_code 13 = .ok (.if_icmp .ge 19, 3) := by decide +kernel
theorem d_Match_standsAt_16 : decode prog_4_method_8_code 16 = .ok (.aload_n 2, 1) := by decide +kernel
theorem d_Match_standsAt_17 : decode prog_4_method_8_code 17 = .ok (.iload_n 0, 1) := by decide +kernel
theorem d_Match_standsAt_18 : decode prog_4_method_8_code 18 = .ok (.iload_n 3, 1) := by decide +kernel
theorem d_Match_standsAt_19 : decode prog_4_method_8_code 19 = .ok (.iadd, 1) := by decide +kernel
theorem d_Match_standsAt_20 : decode prog_4_method_8_code 20 = .ok (.laload, 1) := by decide +kernel
theorem d_Match_standsAt_21 : decode prog_4_method_8_code 21 = .ok (.aload_n 1, 1) := by decide +kernel
theorem d_Match_standsAt_22 : decode prog_4_method_8_code 22 = .ok (.iload_n 3, 1) := by decide +kernel
theorem d_Match_standsAt_23 : decode prog_4_method_8_code 23 = .ok (.laload, 1) := by decide +kernel
theorem d_Match_standsAt_24 : decode prog_4_method_8_code 24 = .ok (.lcmp, 1) := by decide +kernel
theorem d_Match_standsAt_25 : decode prog_4_method_8_code 25 = .ok (.ifCond .ne 7, 3) := by decide +kernel
theorem d_Match_standsAt_28 : decode prog_4_method_8_code 28 = .ok (.iconst 1, 1) := by decide +kernel
theorem d_Match_standsAt_29 : decode prog_4_method_8_code 29 = .ok (.goto 4, 3) := by decide +kernel
theorem v_Match_standsAt_2 {G : XG} {d : Nat} {h : XH} {Q : XV → XH → Prop} {X : Nat → XH → Prop} {x0 x1 x2 x3 : Int} (F : xFix h) (hyp : xtg h x1 = 101 ∧ (((xln h x1) ≤ x3 → (Q (xI 1) h)) ∧ (¬ (xln h x1) ≤ x3 → xiR (x0 + x3) ∧ xtg h x2 = 101 ∧ (((xln h x2) ≤ (x0 + x3) → (xwp G m_Match_standsAt (d + 1) 32 [xI x0, xR x1, xR x2, xI x3, xZ] [] h Q X)) ∧ (¬ (xln h x2) ≤ (x0 + x3) → 0 ≤ (x0 + x3) ∧ 0 ≤ x3 ∧ (((xpl h x2 (x0 + x3)) = (xpl h x1 x3) → (xwp G m_Match_standsAt (d + 1) 33 [xI x0, xR x1, xR x2, xI x3, xZ] [xI 1] h Q X)) ∧ (¬ (xpl h x2 (x0 + x3)) = (xpl h x1 x3) → (xwp G m_Match_standsAt (d + 1) 32 [xI x0, xR x1, xR x2, xI x3, xZ] [] h Q X)))))))) : xwp G m_Match_standsAt (d + 1) 2 [xI x0, xR x1, xR x2, xI x3, xZ] [] h Q X := by
  have hnx9 : (93 : Int) ≤ xnx h := F.2.2
  refine xr_okL (fun hl9 => ?_)
  have r_x0 : -2147483648 ≤ x0 ∧ x0 ≤ 2147483647 := hl9 (xI x0) (.head _) (Nat.le_of_ble_eq_true rfl)
  have r_x3 : -2147483648 ≤ x3 ∧ x3 ≤ 2147483647 := hl9 (xI x3) (.tail _ (.tail _ (.tail _ (.head _)))) (Nat.le_of_ble_eq_true rfl)
  refine xr_iload_n (pc := 2) (i := 3) (hI := d_Match_standsAt_2) (hi := rfl) (hl := rfl) ?_
  refine xr_aload_n (pc := 3) (i := 1) (hI := d_Match_standsAt_3) (hi := rfl) (hl := rfl) ?_
  obtain ⟨c9, hyp⟩ := hyp
  have t1_ := c9
  clear c9
  refine xg_alen (pc := 4) (t := 101) (v := (xln h x1)) (hI := d_Match_standsAt_4) t1_ (Nat.le_of_ble_eq_true rfl) (Nat.le_of_ble_eq_true rfl) rfl rfl (fun f2_ f3_ => ?_)
  refine xr_icmp_ge (pc := 5) (tgt := 56) (hI := d_Match_standsAt_5) (ht := by decide) (fun q9 => ?_) (fun q9 => ?_)
  · replace hyp := hyp.1 q9
    have q4_ := q9
    clear q9
    refine xr_iconst (pc := 56) (hI := d_Match_standsAt_56) (hr := by decide) ?_
    refine xr_ireturnT (S := []) (pc := 57) (hI := d_Match_standsAt_57) (hr := rfl) (xnar_z (by decide)) ?_
    exact hyp
  · replace hyp := hyp.2 q9
    have q4_ := q9
    clear q9
    refine xr_iload_n (pc := 8) (i := 0) (hI := d_Match_standsAt_8) (hi := rfl) (hl := rfl) ?_
    refine xr_iload_n (pc := 9) (i := 3) (hI := d_Match_standsAt_9) (hi := rfl) (hl := rfl) ?_
    obtain ⟨c9, hyp⟩ := hyp
    refine xr_iadd (pc := 10) (hI := d_Match_standsAt_10) (hr := c9) ?_
    refine xr_aload_n (pc := 11) (i := 2) (hI := d_Match_standsAt_11) (hi := rfl) (hl := rfl) ?_
    obtain ⟨c9, hyp⟩ := hyp
    have t5_ := c9
    clear c9
    refine xg_alen (pc := 12) (t := 101) (v := (xln h x2)) (hI := d_Match_standsAt_12) t5_ (Nat.le_of_ble_eq_true rfl) (Nat.le_of_ble_eq_true rfl) rfl rfl (fun f6_ f7_ => ?_)
    refine xr_icmp_ge (pc := 13) (tgt := 32) (hI := d_Match_standsAt_13) (ht := by decide) (fun q9 => ?_) (fun q9 => ?_)
    · replace hyp := hyp.1 q9
      have q8_ := q9
      clear q9
      exact hyp
    · replace hyp := hyp.2 q9
      have q8_ := q9
      clear q9
      refine xr_aload_n (pc := 16) (i := 2) (hI := d_Match_standsAt_16) (hi := rfl) (hl := rfl) ?_
      refine xr_iload_n (pc := 17) (i := 0) (hI := d_Match_standsAt_17) (hi := rfl) (hl := rfl) ?_
      refine xr_iload_n (pc := 18) (i := 3) (hI := d_Match_standsAt_18) (hi := rfl) (hl := rfl) ?_
      refine xr_iadd (pc := 19) (hI := d_Match_standsAt_19) (hr := ⟨by clear hyp; omega, by clear hyp; omega⟩) ?_
      obtain ⟨c9_, hyp⟩ := hyp
      refine xg_laload (pc := 20) (v := (xpl h x2 (x0 + x3))) (hI := d_Match_standsAt_20) t5_ c9_ (xlt_of rfl (by clear hyp; omega)) rfl (fun f10_ => ?_)
      replace f10_ : -9223372036854775808 ≤ (xpl h x2 (x0 + x3)) ∧ (xpl h x2 (x0 + x3)) ≤ 9223372036854775807 := f10_
      refine xr_aload_n (pc := 21) (i := 1) (hI := d_Match_standsAt_21) (hi := rfl) (hl := rfl) ?_
      refine xr_iload_n (pc := 22) (i := 3) (hI := d_Match_standsAt_22) (hi := rfl) (hl := rfl) ?_
      obtain ⟨c11_, hyp⟩ := hyp
      refine xg_laload (pc := 23) (v := (xpl h x1 x3)) (hI := d_Match_standsAt_23) t1_ c11_ (xlt_of rfl (by clear hyp; omega)) rfl (fun f12_ => ?_)
      replace f12_ : -9223372036854775808 ≤ (xpl h x1 x3) ∧ (xpl h x1 x3) ≤ 9223372036854775807 := f12_
      refine xr_lcmp (pc := 24) (hI := d_Match_standsAt_24) ?_
      refine xg_lif_ne (pc := 25) (tgt := 32) (hI := d_Match_standsAt_25) (ht := by decide) (fun q9 => ?_) (fun q9 => ?_)
      · replace hyp := hyp.2 q9
        have q13_ := q9
        clear q9
        exact hyp
      · replace hyp := hyp.1 q9
        have q13_ := q9
        clear q9
        refine xr_iconst (pc := 28) (hI := d_Match_standsAt_28) (hr := by decide) ?_
        refine xr_goto (pc := 29) (tgt := 33) (hI := d_Match_standsAt_29) (ht := by decide) ?_
        exact hyp
theorem d_Match_standsAt_32 : decode prog_4_method_8_code 32 = .ok (.iconst 0, 1) := by decide +kernel
theorem v_Match_standsAt_32 {G : XG} {d : Nat} {h : XH} {Q : XV → XH → Prop} {X : Nat → XH → Prop} {x0 x1 x2 x3 : Int} (F : xFix h) (hyp : (xwp G m_Match_standsAt (d + 1) 33 [xI x0, xR x1, xR x2, xI x3, xZ] [xI 0] h Q X)) : xwp G m_Match_standsAt (d + 1) 32 [xI x0, xR x1, xR x2, xI x3, xZ] [] h Q X := by
  have hnx9 : (93 : Int) ≤ xnx h := F.2.2
  refine xr_okL (fun hl9 => ?_)
  have r_x0 : -2147483648 ≤ x0 ∧ x0 ≤ 2147483647 := hl9 (xI x0) (.head _) (Nat.le_of_ble_eq_true rfl)
  have r_x3 : -2147483648 ≤ x3 ∧ x3 ≤ 2147483647 := hl9 (xI x3) (.tail _ (.tail _ (.tail _ (.head _)))) (Nat.le_of_ble_eq_true rfl)
  refine xr_iconst (pc := 32) (hI := d_Match_standsAt_32) (hr := by decide) ?_
  exact hyp
theorem d_Match_standsAt_33 : decode prog_4_method_8_code 33 = .ok (.istore 4, 2) := by decide +kernel
theorem d_Match_standsAt_35 : decode prog_4_method_8_code 35 = .ok (.aload_n 1, 1) := by decide +kernel
theorem d_Match_standsAt_36 : decode prog_4_method_8_code 36 = .ok (.iload_n 3, 1) := by decide +kernel
theorem d_Match_standsAt_37 : decode prog_4_method_8_code 37 = .ok (.laload, 1) := by decide +kernel
theorem d_Match_standsAt_38 : decode prog_4_method_8_code 38 = .ok (.lconst 0, 1) := by decide +kernel
theorem d_Match_standsAt_39 : decode prog_4_method_8_code 39 = .ok (.lcmp, 1) := by decide +kernel
theorem d_Match_standsAt_40 : decode prog_4_method_8_code 40 = .ok (.ifCond .eq 10, 3) := by decide +kernel
theorem d_Match_standsAt_50 : decode prog_4_method_8_code 50 = .ok (.iinc 3 1, 3) := by decide +kernel
theorem d_Match_standsAt_53 : decode prog_4_method_8_code 53 = .ok (.goto (-51), 3) := by decide +kernel
theorem d_Match_standsAt_43 : decode prog_4_method_8_code 43 = .ok (.iload 4, 2) := by decide +kernel
theorem d_Match_standsAt_45 : decode prog_4_method_8_code 45 = .ok (.ifCond .ne 5, 3) := by decide +kernel
theorem d_Match_standsAt_48 : decode prog_4_method_8_code 48 = .ok (.iconst 0, 1) := by decide +kernel
theorem d_Match_standsAt_49 : decode prog_4_method_8_code 49 = .ok (.ireturn, 1) := by decide +kernel
theorem v_Match_standsAt_33 {G : XG} {d : Nat} {h : XH} {Q : XV → XH → Prop} {X : Nat → XH → Prop} {x0 x1 x2 x3 s0 : Int} (F : xFix h) (hyp : xtg h x1 = 101 ∧ 0 ≤ x3 ∧ x3 < (xln h x1) ∧ (((xpl h x1 x3) = 0 → xiR (x3 + 1) ∧ (xwp G m_Match_standsAt (d + 1) 2 [xI x0, xR x1, xR x2, xI (x3 + 1), xZ] [] h Q X)) ∧ (¬ (xpl h x1 x3) = 0 → ((s0 = 0 → (Q (xI 0) h)) ∧ (¬ s0 = 0 → xiR (x3 + 1) ∧ (xwp G m_Match_standsAt (d + 1) 2 [xI x0, xR x1, xR x2, xI (x3 + 1), xZ] [] h Q X)))))) : xwp G m_Match_standsAt (d + 1) 33 [xI x0, xR x1, xR x2, xI x3, xZ] [xI s0] h Q X := by
  have hnx9 : (93 : Int) ≤ xnx h := F.2.2
  refine xr_okL (fun hl9 => ?_)
  have r_x0 : -2147483648 ≤ x0 ∧ x0 ≤ 2147483647 := hl9 (xI x0) (.head _) (Nat.le_of_ble_eq_true rfl)
  have r_x3 : -2147483648 ≤ x3 ∧ x3 ≤ 2147483647 := hl9 (xI x3) (.tail _ (.tail _ (.tail _ (.head _)))) (Nat.le_of_ble_eq_true rfl)
  refine xr_okS (fun hs9 => ?_)
  have r_s0 : -2147483648 ≤ s0 ∧ s0 ≤ 2147483647 := hs9 (xI s0) (.head _)
  refine xr_istore (pc := 33) (i := 4) (L9 := [xI x0, xR x1, xR x2, xI x3, xI s0]) (hI := d_Match_standsAt_33) (hn := Nat.le_of_ble_eq_true rfl) (hL9 := rfl) ?_
  refine xr_aload_n (pc := 35) (i := 1) (hI := d_Match_standsAt_35) (hi := rfl) (hl := rfl) ?_
  refine xr_iload_n (pc := 36) (i := 3) (hI := d_Match_standsAt_36) (hi := rfl) (hl := rfl) ?_
  obtain ⟨c9, hyp⟩ := hyp
  have t1_ := c9
  clear c9
  obtain ⟨c2_, hyp⟩ := hyp
  obtain ⟨c3_, hyp⟩ := hyp
  refine xg_laload (pc := 37) (v := (xpl h x1 x3)) (hI := d_Match_standsAt_37) t1_ c2_ (xlt_of rfl c3_) rfl (fun f4_ => ?_)
  replace f4_ : -9223372036854775808 ≤ (xpl h x1 x3) ∧ (xpl h x1 x3) ≤ 9223372036854775807 := f4_
  refine xr_lconst (pc := 38) (z := 0) (hI := d_Match_standsAt_38) (hr := by decide) (hv := by decide) ?_
  refine xr_lcmp (pc := 39) (hI := d_Match_standsAt_39) ?_
  refine xg_lif_eq (pc := 40) (tgt := 50) (hI := d_Match_standsAt_40) (ht := by decide) (fun q9 => ?_) (fun q9 => ?_)
  · replace hyp := hyp.1 q9
    have q5_ := q9
    clear q9
    obtain ⟨c9, hyp⟩ := hyp
    refine xr_iinc (pc := 50) (i := 3) (L9 := [xI x0, xR x1, xR x2, xI (x3 + 1), xI s0]) (hI := d_Match_standsAt_50) (hl := rfl) (hn := Nat.le_of_ble_eq_true rfl) (hr := c9) (hL9 := rfl) ?_
    refine xr_goto (pc := 53) (tgt := 2) (hI := d_Match_standsAt_53) (ht := by decide) ?_
    exact xr_drop (L9 := [xI x0, xR x1, xR x2, xI (x3 + 1), xZ]) (xdrs (xdrs (xdrs (xdrs (xdrz xdr0))))) hyp
  · replace hyp := hyp.2 q9
    have q5_ := q9
    clear q9
    refine xr_iload (pc := 43) (i := 4) (hI := d_Match_standsAt_43) (hl := rfl) ?_
    refine xr_if_ne (pc := 45) (tgt := 50) (hI := d_Match_standsAt_45) (ht := by decide) (fun q9 => ?_) (fun q9 => ?_)
    · replace hyp := hyp.2 q9
      have q6_ := q9
      clear q9
      obtain ⟨c9, hyp⟩ := hyp
      refine xr_iinc (pc := 50) (i := 3) (L9 := [xI x0, xR x1, xR x2, xI (x3 + 1), xI s0]) (hI := d_Match_standsAt_50) (hl := rfl) (hn := Nat.le_of_ble_eq_true rfl) (hr := c9) (hL9 := rfl) ?_
      refine xr_goto (pc := 53) (tgt := 2) (hI := d_Match_standsAt_53) (ht := by decide) ?_
      exact xr_drop (L9 := [xI x0, xR x1, xR x2, xI (x3 + 1), xZ]) (xdrs (xdrs (xdrs (xdrs (xdrz xdr0))))) hyp
    · replace hyp := hyp.1 q9
      have q6_ := q9
      clear q9
      refine xr_iconst (pc := 48) (hI := d_Match_standsAt_48) (hr := by decide) ?_
      refine xr_ireturnT (S := []) (pc := 49) (hI := d_Match_standsAt_49) (hr := rfl) (xnar_z (by decide)) ?_
      exact hyp
abbrev m_Match_wantedPlace : XM := (⟨"BeaconIndex$Match", "wantedPlace", "(J)I"⟩, prog_4_method_12_code, 4, (some .int), [])
theorem d_Match_wantedPlace_0 : decode prog_4_method_12_code 0 = .ok (.iconst 0, 1) := by decide +kernel
theorem d_Match_wantedPlace_1 : decode prog_4_method_12_code 1 = .ok (.istore_n 3, 1) := by decide +kernel
theorem v_Match_wantedPlace_0 {G : XG} {d : Nat} {h : XH} {Q : XV → XH → Prop} {X : Nat → XH → Prop} {x1 : Int} (F : xFix h) (hyp : (xwp G m_Match_wantedPlace (d + 1) 2 [xR 45, xL x1, xZ, xI 0] [] h Q X)) : xwp G m_Match_wantedPlace (d + 1) 0 [xR 45, xL x1, xZ, xZ] [] h Q X := by
  have hnx9 : (93 : Int) ≤ xnx h := F.2.2
  refine xr_okL (fun hl9 => ?_)
  have r_x1 : -9223372036854775808 ≤ x1 ∧ x1 ≤ 9223372036854775807 := hl9 (xL x1) (.tail _ (.head _)) (Nat.le_of_ble_eq_true rfl)
  refine xr_iconst (pc := 0) (hI := d_Match_wantedPlace_0) (hr := by decide) ?_
  refine xr_istore_n (pc := 1) (i := 3) (L9 := [xR 45, xL x1, xZ, xI 0]) (hI := d_Match_wantedPlace_1) (hi := rfl) (hn := Nat.le_of_ble_eq_true rfl) (hL9 := rfl) ?_
  exact hyp
theorem d_Match_wantedPlace_2 : decode prog_4_method_12_code 2 = .ok (.iload_n 3, 1) := by decide +kernel
theorem d_Match_wantedPlace_3 : decode prog_4_method_12_code 3 = .ok (.aload_n 0, 1) := by decide +kernel
theorem d_Match_wantedPlace_4 : decode prog_4_method_12_code 4 = .ok (.getfield 19, 3) := by decide +kernel
theorem w_374 : Cond.fieldLink "BeaconIndex$Match" 19 "BeaconIndex$Match" "wantedCount" "I" ∈ lw_tbl := List.mem_append_right _ (List.mem_of_getElem? (i := 374) (by decide +kernel))
theorem d_Match_wantedPlace_7 : decode prog_4_method_12_code 7 = .ok (.if_icmp .ge 31, 3) := by decide +kernel
theorem d_Match_wantedPlace_38 : decode prog_4_method_12_code 38 = .ok (.iconst (-1), 1) := by decide +kernel
theorem d_Match_wantedPlace_39 : decode prog_4_method_12_code 39 = .ok (.ireturn, 1) := by decide +kernel
theorem d_Match_wantedPlace_10 : decode prog_4_method_12_code 10 = .ok (.iload_n 3, 1) := by decide +kernel
theorem d_Match_wantedPlace_11 : decode prog_4_method_12_code 11 = .ok (.aload_n 0, 1) := by decide +kernel
theorem d_Match_wantedPlace_12 : decode prog_4_method_12_code 12 = .ok (.getfield 9, 3) := by decide +kernel
theorem w_372 : Cond.fieldLink "BeaconIndex$Match" 9 "BeaconIndex$Match" "wanted" "[J" ∈ lw_tbl := List.mem_append_right _ (List.mem_of_getElem? (i := 372) (by decide +kernel))
theorem d_Match_wantedPlace_15 : decode prog_4_method_12_code 15 = .ok (.arraylength, 1) := by decide +kernel
theorem d_Match_wantedPlace_16 : decode prog_4_method_12_code 16 = .ok (.if_icmp .ge 22, 3) := by decide +kernel
theorem d_Match_wantedPlace_19 : decode prog_4_method_12_code 19 = .ok (.aload_n 0, 1) := by decide +kernel
theorem d_Match_wantedPlace_20 : decode prog_4_method_12_code 20 = .ok (.getfield 9, 3) := by decide +kernel
theorem d_Match_wantedPlace_23 : decode prog_4_method_12_code 23 = .ok (.iload_n 3, 1) := by decide +kernel
theorem d_Match_wantedPlace_24 : decode prog_4_method_12_code 24 = .ok (.laload, 1) := by decide +kernel
theorem d_Match_wantedPlace_25 : decode prog_4_method_12_code 25 = .ok (.lload_n 1, 1) := by decide +kernel
theorem d_Match_wantedPlace_26 : decode prog_4_method_12_code 26 = .ok (.lcmp, 1) := by decide +kernel
theorem d_Match_wantedPlace_27 : decode prog_4_method_12_code 27 = .ok (.ifCond .ne 5, 3) := by decide +kernel
theorem d_Match_wantedPlace_32 : decode prog_4_method_12_code 32 = .ok (.iinc 3 1, 3) := by decide +kernel
theorem d_Match_wantedPlace_35 : decode prog_4_method_12_code 35 = .ok (.goto (-33), 3) := by decide +kernel
theorem d_Match_wantedPlace_30 : decode prog_4_method_12_code 30 = .ok (.iload_n 3, 1) := by decide +kernel
theorem d_Match_wantedPlace_31 : decode prog_4_method_12_code 31 = .ok (.ireturn, 1) := by decide +kernel
theorem v_Match_wantedPlace_2 {G : XG} {d : Nat} {h : XH} {Q : XV → XH → Prop} {X : Nat → XH → Prop} {x1 x3 : Int} (F : xFix h) (hyp : (((xpl h 45 2) ≤ x3 → (Q (xI (-1)) h)) ∧ (¬ (xpl h 45 2) ≤ x3 → (((40 : Int) ≤ x3 → (Q (xI (-1)) h)) ∧ (¬ (40 : Int) ≤ x3 → 0 ≤ x3 ∧ (((xpl h 46 x3) = x1 → (Q (xI x3) h)) ∧ (¬ (xpl h 46 x3) = x1 → (xwp G m_Match_wantedPlace (d + 1) 2 [xR 45, xL x1, xZ, xI (x3 + 1)] [] h Q X)))))))) : xwp G m_Match_wantedPlace (d + 1) 2 [xR 45, xL x1, xZ, xI x3] [] h Q X := by
  have hnx9 : (93 : Int) ≤ xnx h := F.2.2
  refine xr_okL (fun hl9 => ?_)
  have r_x1 : -9223372036854775808 ≤ x1 ∧ x1 ≤ 9223372036854775807 := hl9 (xL x1) (.tail _ (.head _)) (Nat.le_of_ble_eq_true rfl)
  have r_x3 : -2147483648 ≤ x3 ∧ x3 ≤ 2147483647 := hl9 (xI x3) (.tail _ (.tail _ (.tail _ (.head _)))) (Nat.le_of_ble_eq_true rfl)
  refine xr_iload_n (pc := 2) (i := 3) (hI := d_Match_wantedPlace_2) (hi := rfl) (hl := rfl) ?_
  refine xr_aload_n (pc := 3) (i := 0) (hI := d_Match_wantedPlace_3) (hi := rfl) (hl := rfl) ?_
  refine xg_getf (pc := 4) (ci := 3) (k := 2) (N := 6) (v9 := 0) (v := (xpl h 45 2)) (T := xF3) (hI := d_Match_wantedPlace_4) (hw := w_374) rfl xi3 (Or.inl rfl) (Nat.le_of_ble_eq_true rfl) (Nat.le_of_ble_eq_true rfl) rfl (ft_45 F) rfl (fun f1_ => ?_)
  replace f1_ : -2147483648 ≤ (xpl h 45 2) ∧ (xpl h 45 2) ≤ 2147483647 := f1_
  refine xr_icmp_ge (pc := 7) (tgt := 38) (hI := d_Match_wantedPlace_7) (ht := by decide) (fun q9 => ?_) (fun q9 => ?_)
  · replace hyp := hyp.1 q9
    have q2_ := q9
    clear q9
    refine xr_iconst (pc := 38) (hI := d_Match_wantedPlace_38) (hr := by decide) ?_
    refine xr_ireturn (S := []) (pc := 39) (hI := d_Match_wantedPlace_39) (hr := rfl) ?_
    exact hyp
  · replace hyp := hyp.2 q9
    have q2_ := q9
    clear q9
    refine xr_iload_n (pc := 10) (i := 3) (hI := d_Match_wantedPlace_10) (hi := rfl) (hl := rfl) ?_
    refine xr_aload_n (pc := 11) (i := 0) (hI := d_Match_wantedPlace_11) (hi := rfl) (hl := rfl) ?_
    refine xg_getf (pc := 12) (ci := 3) (k := 0) (N := 6) (v9 := 2) (v := 46) (T := xF3) (hI := d_Match_wantedPlace_12) (hw := w_372) rfl xi3 (Or.inl rfl) (Nat.le_of_ble_eq_true rfl) (Nat.le_of_ble_eq_true rfl) rfl (ft_45 F) (fp_45_0 F) (fun f3_ => ?_)
    clear f3_
    refine xg_alen (pc := 15) (t := 101) (v := 40) (hI := d_Match_wantedPlace_15) (ft_46 F) (Nat.le_of_ble_eq_true rfl) (Nat.le_of_ble_eq_true rfl) rfl (fl_46 F) (fun f4_ f5_ => ?_)
    clear f4_ f5_
    refine xr_icmp_ge (pc := 16) (tgt := 38) (hI := d_Match_wantedPlace_16) (ht := by decide) (fun q9 => ?_) (fun q9 => ?_)
    · replace hyp := hyp.1 q9
      have q6_ := q9
      clear q9
      refine xr_iconst (pc := 38) (hI := d_Match_wantedPlace_38) (hr := by decide) ?_
      refine xr_ireturn (S := []) (pc := 39) (hI := d_Match_wantedPlace_39) (hr := rfl) ?_
      exact hyp
    · replace hyp := hyp.2 q9
      have q6_ := q9
      clear q9
      refine xr_aload_n (pc := 19) (i := 0) (hI := d_Match_wantedPlace_19) (hi := rfl) (hl := rfl) ?_
      refine xg_getf (pc := 20) (ci := 3) (k := 0) (N := 6) (v9 := 2) (v := 46) (T := xF3) (hI := d_Match_wantedPlace_20) (hw := w_372) rfl xi3 (Or.inl rfl) (Nat.le_of_ble_eq_true rfl) (Nat.le_of_ble_eq_true rfl) rfl (ft_45 F) (fp_45_0 F) (fun f7_ => ?_)
      clear f7_
      refine xr_iload_n (pc := 23) (i := 3) (hI := d_Match_wantedPlace_23) (hi := rfl) (hl := rfl) ?_
      obtain ⟨c8_, hyp⟩ := hyp
      refine xg_laload (pc := 24) (v := (xpl h 46 x3)) (hI := d_Match_wantedPlace_24) (ft_46 F) c8_ (xlt_of (fl_46 F) (by clear hyp; omega)) rfl (fun f9_ => ?_)
      replace f9_ : -9223372036854775808 ≤ (xpl h 46 x3) ∧ (xpl h 46 x3) ≤ 9223372036854775807 := f9_
      refine xr_lload_n (pc := 25) (i := 1) (hI := d_Match_wantedPlace_25) (hi := rfl) (hl := rfl) ?_
      refine xr_lcmp (pc := 26) (hI := d_Match_wantedPlace_26) ?_
      refine xg_lif_ne (pc := 27) (tgt := 32) (hI := d_Match_wantedPlace_27) (ht := by decide) (fun q9 => ?_) (fun q9 => ?_)
      · replace hyp := hyp.2 q9
        have q10_ := q9
        clear q9
        refine xr_iinc (pc := 32) (i := 3) (L9 := [xR 45, xL x1, xZ, xI (x3 + 1)]) (hI := d_Match_wantedPlace_32) (hl := rfl) (hn := Nat.le_of_ble_eq_true rfl) (hr := ⟨by clear hyp; omega, by clear hyp; omega⟩) (hL9 := rfl) ?_
        refine xr_goto (pc := 35) (tgt := 2) (hI := d_Match_wantedPlace_35) (ht := by decide) ?_
        exact hyp
      · replace hyp := hyp.1 q9
        have q10_ := q9
        clear q9
        refine xr_iload_n (pc := 30) (i := 3) (hI := d_Match_wantedPlace_30) (hi := rfl) (hl := rfl) ?_
        refine xr_ireturn (S := []) (pc := 31) (hI := d_Match_wantedPlace_31) (hr := rfl) ?_
        exact hyp
abbrev m_Match_lookForWord : XM := (⟨"BeaconIndex$Match", "lookForWord", "(J[J)V"⟩, prog_4_method_5_code, 5, none, [])
theorem d_Match_lookForWord_0 : decode prog_4_method_5_code 0 = .ok (.iconst 0, 1) := by decide +kernel
theorem d_Match_lookForWord_1 : decode prog_4_method_5_code 1 = .ok (.istore 4, 2) := by decide +kernel
theorem v_Match_lookForWord_0 {G : XG} {d : Nat} {h : XH} {Q : XV → XH → Prop} {X : Nat → XH → Prop} {x1 x3 : Int} (F : xFix h) (hyp : (xwp G m_Match_lookForWord (d + 2) 3 [xR 45, xL x1, xZ, xR x3, xI 0] [] h Q X)) : xwp G m_Match_lookForWord (d + 2) 0 [xR 45, xL x1, xZ, xR x3, xZ] [] h Q X := by
  have hnx9 : (93 : Int) ≤ xnx h := F.2.2
  refine xr_okL (fun hl9 => ?_)
  have r_x1 : -9223372036854775808 ≤ x1 ∧ x1 ≤ 9223372036854775807 := hl9 (xL x1) (.tail _ (.head _)) (Nat.le_of_ble_eq_true rfl)
  refine xr_iconst (pc := 0) (hI := d_Match_lookForWord_0) (hr := by decide) ?_
  refine xr_istore (pc := 1) (i := 4) (L9 := [xR 45, xL x1, xZ, xR x3, xI 0]) (hI := d_Match_lookForWord_1) (hn := Nat.le_of_ble_eq_true rfl) (hL9 := rfl) ?_
  exact hyp
theorem d_Match_lookForWord_3 : decode prog_4_method_5_code 3 = .ok (.iload 4, 2) := by decide +kernel
theorem d_Match_lookForWord_5 : decode prog_4_method_5_code 5 = .ok (.aload_n 3, 1) := by decide +kernel
theorem d_Match_lookForWord_6 : decode prog_4_method_5_code 6 = .ok (.arraylength, 1) := by decide +kernel
theorem d_Match_lookForWord_7 : decode prog_4_method_5_code 7 = .ok (.if_icmp .ge 24, 3) := by decide +kernel
theorem d_Match_lookForWord_31 : decode prog_4_method_5_code 31 = .ok (.return_, 1) := by decide +kernel
theorem d_Match_lookForWord_10 : decode prog_4_method_5_code 10 = .ok (.aload_n 3, 1) := by decide +kernel
theorem d_Match_lookForWord_11 : decode prog_4_method_5_code 11 = .ok (.iload 4, 2) := by decide +kernel
theorem d_Match_lookForWord_13 : decode prog_4_method_5_code 13 = .ok (.laload, 1) := by decide +kernel
theorem d_Match_lookForWord_14 : decode prog_4_method_5_code 14 = .ok (.lload_n 1, 1) := by decide +kernel
theorem d_Match_lookForWord_15 : decode prog_4_method_5_code 15 = .ok (.lcmp, 1) := by decide +kernel
theorem d_Match_lookForWord_16 : decode prog_4_method_5_code 16 = .ok (.ifCond .ne 9, 3) := by decide +kernel
theorem d_Match_lookForWord_19 : decode prog_4_method_5_code 19 = .ok (.aload_n 0, 1) := by decide +kernel
theorem d_Match_lookForWord_20 : decode prog_4_method_5_code 20 = .ok (.iload 4, 2) := by decide +kernel
theorem d_Match_lookForWord_22 : decode prog_4_method_5_code 22 = .ok (.invokevirtual 66, 3) := by decide +kernel
theorem w_14 : Cond.initialized "BeaconIndex$Match" ∈ lw_tbl := List.mem_append_right _ (List.mem_of_getElem? (i := 14) (by decide +kernel))
theorem k_Match_hit : xCal m_Match_hit 1 := ⟨List.mem_append_right _ (List.mem_of_getElem? (i := 644) (by decide +kernel)), w_14, Nat.le_of_ble_eq_true rfl, ⟨by decide +kernel, by decide +kernel⟩, by decide +kernel, by decide +kernel, rfl⟩
theorem w_641 : Cond.methodLink "BeaconIndex$Match" 66 ⟨"BeaconIndex$Match", "hit", "(I)V"⟩ ∈ lw_tbl := List.mem_append_right _ (List.mem_of_getElem? (i := 641) (by decide +kernel))
theorem w_643 : Cond.instanceMethod ⟨"BeaconIndex$Match", "hit", "(I)V"⟩ ∈ lw_tbl := List.mem_append_right _ (List.mem_of_getElem? (i := 643) (by decide +kernel))
theorem sel_Match_hit : Cond.selects "BeaconIndex$Match" ⟨"BeaconIndex$Match", "hit", "(I)V"⟩ ⟨"BeaconIndex$Match", "hit", "(I)V"⟩ ∈ lw_tbl := List.mem_append_left _ (by decide +kernel)
theorem v_Match_lookForWord_3 {G : XG} {d : Nat} {h : XH} {Q : XV → XH → Prop} {X : Nat → XH → Prop} {x1 x3 x4 : Int} (F : xFix h) (hyp : xtg h x3 = 101 ∧ (((xln h x3) ≤ x4 → (Q xN h)) ∧ (¬ (xln h x3) ≤ x4 → 0 ≤ x4 ∧ (((xpl h x3 x4) = x1 → (xwp G m_Match_hit (d + 1) 0 [xR 45, xI x4] [] h (fun v9 h9 => xwp G m_Match_lookForWord (d + 2) 25 [xR 45, xL x1, xZ, xR x3, xI x4] (xpush v9 []) h9 Q X) X)) ∧ (¬ (xpl h x3 x4) = x1 → (xwp G m_Match_lookForWord (d + 2) 25 [xR 45, xL x1, xZ, xR x3, xI x4] [] h Q X)))))) : xwp G m_Match_lookForWord (d + 2) 3 [xR 45, xL x1, xZ, xR x3, xI x4] [] h Q X := by
  have hnx9 : (93 : Int) ≤ xnx h := F.2.2
  refine xr_okL (fun hl9 => ?_)
  have r_x1 : -9223372036854775808 ≤ x1 ∧ x1 ≤ 9223372036854775807 := hl9 (xL x1) (.tail _ (.head _)) (Nat.le_of_ble_eq_true rfl)
  have r_x4 : -2147483648 ≤ x4 ∧ x4 ≤ 2147483647 := hl9 (xI x4) (.tail _ (.tail _ (.tail _ (.tail _ (.head _))))) (Nat.le_of_ble_eq_true rfl)
  refine xr_iload (pc := 3) (i := 4) (hI := d_Match_lookForWord_3) (hl := rfl) ?_
  refine xr_aload_n (pc := 5) (i := 3) (hI := d_Match_lookForWord_5) (hi := rfl) (hl := rfl) ?_
  obtain ⟨c9, hyp⟩ := hyp
  have t1_ := c9
  clear c9
  refine xg_alen (pc := 6) (t := 101) (v := (xln h x3)) (hI := d_Match_lookForWord_6) t1_ (Nat.le_of_ble_eq_true rfl) (Nat.le_of_ble_eq_true rfl) rfl rfl (fun f2_ f3_ => ?_)
  refine xr_icmp_ge (pc := 7) (tgt := 31) (hI := d_Match_lookForWord_7) (ht := by decide) (fun q9 => ?_) (fun q9 => ?_)
  · replace hyp := hyp.1 q9
    have q4_ := q9
    clear q9
    refine xr_return (S := []) (pc := 31) (hI := d_Match_lookForWord_31) (hr := rfl) ?_
    exact hyp
  · replace hyp := hyp.2 q9
    have q4_ := q9
    clear q9
    refine xr_aload_n (pc := 10) (i := 3) (hI := d_Match_lookForWord_10) (hi := rfl) (hl := rfl) ?_
    refine xr_iload (pc := 11) (i := 4) (hI := d_Match_lookForWord_11) (hl := rfl) ?_
    obtain ⟨c5_, hyp⟩ := hyp
    refine xg_laload (pc := 13) (v := (xpl h x3 x4)) (hI := d_Match_lookForWord_13) t1_ c5_ (xlt_of rfl (by clear hyp; omega)) rfl (fun f6_ => ?_)
    replace f6_ : -9223372036854775808 ≤ (xpl h x3 x4) ∧ (xpl h x3 x4) ≤ 9223372036854775807 := f6_
    refine xr_lload_n (pc := 14) (i := 1) (hI := d_Match_lookForWord_14) (hi := rfl) (hl := rfl) ?_
    refine xr_lcmp (pc := 15) (hI := d_Match_lookForWord_15) ?_
    refine xg_lif_ne (pc := 16) (tgt := 25) (hI := d_Match_lookForWord_16) (ht := by decide) (fun q9 => ?_) (fun q9 => ?_)
    · replace hyp := hyp.2 q9
      have q7_ := q9
      clear q9
      exact hyp
    · replace hyp := hyp.1 q9
      have q7_ := q9
      clear q9
      refine xr_aload_n (pc := 19) (i := 0) (hI := d_Match_lookForWord_19) (hi := rfl) (hl := rfl) ?_
      refine xr_iload (pc := 20) (i := 4) (hI := d_Match_lookForWord_20) (hl := rfl) ?_
      exact xq_callV (pc := 22) (index := 66) (K := m_Match_hit) (As := [xI x4]) (S := []) (L0 := [xR 45, xI x4]) (hI := d_Match_lookForWord_22) (hK := k_Match_hit) (hlk := w_641) (hnoM := rfl) (hS8 := Nat.le_of_ble_eq_true rfl) (ci := 3) (N := 6) (C := "BeaconIndex$Match") (T := xF3) (hc := rfl) (hci := Nat.le_of_ble_eq_true rfl) (htb := (ft_45 F)) (hinst := w_643) (hsel := sel_Match_hit) (hlen := Nat.le_of_ble_eq_true rfl) (hst := rfl) (hL0 := rfl)  hyp
theorem d_Match_lookForWord_25 : decode prog_4_method_5_code 25 = .ok (.iinc 4 1, 3) := by decide +kernel
theorem d_Match_lookForWord_28 : decode prog_4_method_5_code 28 = .ok (.goto (-25), 3) := by decide +kernel
theorem v_Match_lookForWord_25 {G : XG} {d : Nat} {h : XH} {Q : XV → XH → Prop} {X : Nat → XH → Prop} {x1 x3 x4 : Int} (F : xFix h) (hyp : xiR (x4 + 1) ∧ (xwp G m_Match_lookForWord (d + 2) 3 [xR 45, xL x1, xZ, xR x3, xI (x4 + 1)] [] h Q X)) : xwp G m_Match_lookForWord (d + 2) 25 [xR 45, xL x1, xZ, xR x3, xI x4] [] h Q X := by
  have hnx9 : (93 : Int) ≤ xnx h := F.2.2
  refine xr_okL (fun hl9 => ?_)
  have r_x1 : -9223372036854775808 ≤ x1 ∧ x1 ≤ 9223372036854775807 := hl9 (xL x1) (.tail _ (.head _)) (Nat.le_of_ble_eq_true rfl)
  have r_x4 : -2147483648 ≤ x4 ∧ x4 ≤ 2147483647 := hl9 (xI x4) (.tail _ (.tail _ (.tail _ (.tail _ (.head _))))) (Nat.le_of_ble_eq_true rfl)
  obtain ⟨c9, hyp⟩ := hyp
  refine xr_iinc (pc := 25) (i := 4) (L9 := [xR 45, xL x1, xZ, xR x3, xI (x4 + 1)]) (hI := d_Match_lookForWord_25) (hl := rfl) (hn := Nat.le_of_ble_eq_true rfl) (hr := c9) (hL9 := rfl) ?_
  refine xr_goto (pc := 28) (tgt := 3) (hI := d_Match_lookForWord_28) (ht := by decide) ?_
  exact hyp
abbrev m_Match_lookForBeginning : XM := (⟨"BeaconIndex$Match", "lookForBeginning", "(LBeaconIndex$Part;[J)V"⟩, prog_4_method_6_code, 4, none, [])
theorem d_Match_lookForBeginning_0 : decode prog_4_method_6_code 0 = .ok (.iconst 0, 1) := by decide +kernel
theorem d_Match_lookForBeginning_1 : decode prog_4_method_6_code 1 = .ok (.istore_n 3, 1) := by decide +kernel
theorem v_Match_lookForBeginning_0 {G : XG} {d : Nat} {h : XH} {Q : XV → XH → Prop} {X : Nat → XH → Prop} {x1 x2 : Int} (F : xFix h) (hyp : (xwp G m_Match_lookForBeginning (d + 3) 2 [xR 45, xR x1, xR x2, xI 0] [] h Q X)) : xwp G m_Match_lookForBeginning (d + 3) 0 [xR 45, xR x1, xR x2, xZ] [] h Q X := by
  have hnx9 : (93 : Int) ≤ xnx h := F.2.2
  refine xr_iconst (pc := 0) (hI := d_Match_lookForBeginning_0) (hr := by decide) ?_
  refine xr_istore_n (pc := 1) (i := 3) (L9 := [xR 45, xR x1, xR x2, xI 0]) (hI := d_Match_lookForBeginning_1) (hi := rfl) (hn := Nat.le_of_ble_eq_true rfl) (hL9 := rfl) ?_
  exact hyp
theorem d_Match_lookForBeginning_2 : decode prog_4_method_6_code 2 = .ok (.iload_n 3, 1) := by decide +kernel
theorem d_Match_lookForBeginning_3 : decode prog_4_method_6_code 3 = .ok (.aload_n 2, 1) := by decide +kernel
theorem d_Match_lookForBeginning_4 : decode prog_4_method_6_code 4 = .ok (.arraylength, 1) := by decide +kernel
theorem d_Match_lookForBeginning_5 : decode prog_4_method_6_code 5 = .ok (.if_icmp .ge 31, 3) := by decide +kernel
theorem d_Match_lookForBeginning_36 : decode prog_4_method_6_code 36 = .ok (.return_, 1) := by decide +kernel
theorem d_Match_lookForBeginning_8 : decode prog_4_method_6_code 8 = .ok (.aload_n 2, 1) := by decide +kernel
theorem d_Match_lookForBeginning_9 : decode prog_4_method_6_code 9 = .ok (.iload_n 3, 1) := by decide +kernel
theorem d_Match_lookForBeginning_10 : decode prog_4_method_6_code 10 = .ok (.laload, 1) := by decide +kernel
theorem d_Match_lookForBeginning_11 : decode prog_4_method_6_code 11 = .ok (.aload_n 1, 1) := by decide +kernel
theorem d_Match_lookForBeginning_12 : decode prog_4_method_6_code 12 = .ok (.getfield 70, 3) := by decide +kernel
theorem w_239 : Cond.fieldLink "BeaconIndex$Match" 70 "BeaconIndex$Part" "beginning" "J" ∈ lw_tbl := List.mem_append_right _ (List.mem_of_getElem? (i := 239) (by decide +kernel))
theorem d_Match_lookForBeginning_15 : decode prog_4_method_6_code 15 = .ok (.aload_n 1, 1) := by decide +kernel
theorem d_Match_lookForBeginning_16 : decode prog_4_method_6_code 16 = .ok (.getfield 74, 3) := by decide +kernel
theorem w_242 : Cond.fieldLink "BeaconIndex$Match" 74 "BeaconIndex$Part" "beginningBytes" "I" ∈ lw_tbl := List.mem_append_right _ (List.mem_of_getElem? (i := 242) (by decide +kernel))
theorem d_Match_lookForBeginning_19 : decode prog_4_method_6_code 19 = .ok (.invokestatic 77, 3) := by decide +kernel
theorem k_Words_beginsWith : xCal m_Words_beginsWith 3 := ⟨List.mem_append_right _ (List.mem_of_getElem? (i := 651) (by decide +kernel)), w_24, Nat.le_of_ble_eq_true rfl, ⟨by decide +kernel, by decide +kernel⟩, by decide +kernel, by decide +kernel, rfl⟩
theorem w_649 : Cond.methodLink "BeaconIndex$Match" 77 ⟨"BeaconIndex$Words", "beginsWith", "(JJI)Z"⟩ ∈ lw_tbl := List.mem_append_right _ (List.mem_of_getElem? (i := 649) (by decide +kernel))
theorem w_650 : Cond.static ⟨"BeaconIndex$Words", "beginsWith", "(JJI)Z"⟩ ∈ lw_tbl := List.mem_append_right _ (List.mem_of_getElem? (i := 650) (by decide +kernel))
theorem d_Match_lookForBeginning_22 : decode prog_4_method_6_code 22 = .ok (.ifCond .eq 8, 3) := by decide +kernel
theorem d_Match_lookForBeginning_25 : decode prog_4_method_6_code 25 = .ok (.aload_n 0, 1) := by decide +kernel
theorem d_Match_lookForBeginning_26 : decode prog_4_method_6_code 26 = .ok (.iload_n 3, 1) := by decide +kernel
theorem d_Match_lookForBeginning_27 : decode prog_4_method_6_code 27 = .ok (.invokevirtual 66, 3) := by decide +kernel
theorem v_Match_lookForBeginning_2 {G : XG} {d : Nat} {h : XH} {Q : XV → XH → Prop} {X : Nat → XH → Prop} {x1 x2 x3 : Int} (F : xFix h) (hyp : xtg h x2 = 101 ∧ (((xln h x2) ≤ x3 → (Q xN h)) ∧ (¬ (xln h x2) ≤ x3 → 0 ≤ x3 ∧ xtg h x1 = 4 ∧ -1000 ≤ (xpl h x1 9) ∧ ((((bgw (xpl h x2 x3) (xpl h x1 8) (xpl h x1 9)) = true) → (xwp G m_Match_hit (d + 2) 0 [xR 45, xI x3] [] h (fun v9 h9 => xwp G m_Match_lookForBeginning (d + 3) 30 [xR 45, xR x1, xR x2, xI x3] (xpush v9 []) h9 Q X) X)) ∧ (¬ ((bgw (xpl h x2 x3) (xpl h x1 8) (xpl h x1 9)) = true) → (xwp G m_Match_lookForBeginning (d + 3) 30 [xR 45, xR x1, xR x2, xI x3] [] h Q X)))))) : xwp G m_Match_lookForBeginning (d + 3) 2 [xR 45, xR x1, xR x2, xI x3] [] h Q X := by
  have hnx9 : (93 : Int) ≤ xnx h := F.2.2
  refine xr_okL (fun hl9 => ?_)
  have r_x3 : -2147483648 ≤ x3 ∧ x3 ≤ 2147483647 := hl9 (xI x3) (.tail _ (.tail _ (.tail _ (.head _)))) (Nat.le_of_ble_eq_true rfl)
  refine xr_iload_n (pc := 2) (i := 3) (hI := d_Match_lookForBeginning_2) (hi := rfl) (hl := rfl) ?_
  refine xr_aload_n (pc := 3) (i := 2) (hI := d_Match_lookForBeginning_3) (hi := rfl) (hl := rfl) ?_
  obtain ⟨c9, hyp⟩ := hyp
  have t1_ := c9
  clear c9
  refine xg_alen (pc := 4) (t := 101) (v := (xln h x2)) (hI := d_Match_lookForBeginning_4) t1_ (Nat.le_of_ble_eq_true rfl) (Nat.le_of_ble_eq_true rfl) rfl rfl (fun f2_ f3_ => ?_)
  refine xr_icmp_ge (pc := 5) (tgt := 36) (hI := d_Match_lookForBeginning_5) (ht := by decide) (fun q9 => ?_) (fun q9 => ?_)
  · replace hyp := hyp.1 q9
    have q4_ := q9
    clear q9
    refine xr_return (S := []) (pc := 36) (hI := d_Match_lookForBeginning_36) (hr := rfl) ?_
    exact hyp
  · replace hyp := hyp.2 q9
    have q4_ := q9
    clear q9
    refine xr_aload_n (pc := 8) (i := 2) (hI := d_Match_lookForBeginning_8) (hi := rfl) (hl := rfl) ?_
    refine xr_iload_n (pc := 9) (i := 3) (hI := d_Match_lookForBeginning_9) (hi := rfl) (hl := rfl) ?_
    obtain ⟨c5_, hyp⟩ := hyp
    refine xg_laload (pc := 10) (v := (xpl h x2 x3)) (hI := d_Match_lookForBeginning_10) t1_ c5_ (xlt_of rfl (by clear hyp; omega)) rfl (fun f6_ => ?_)
    replace f6_ : -9223372036854775808 ≤ (xpl h x2 x3) ∧ (xpl h x2 x3) ≤ 9223372036854775807 := f6_
    refine xr_aload_n (pc := 11) (i := 1) (hI := d_Match_lookForBeginning_11) (hi := rfl) (hl := rfl) ?_
    obtain ⟨c9, hyp⟩ := hyp
    have t7_ := c9
    clear c9
    refine xg_getf (pc := 12) (ci := 4) (k := 8) (N := 13) (v9 := 1) (v := (xpl h x1 8)) (T := xF4) (hI := d_Match_lookForBeginning_12) (hw := w_239) rfl xi4 (Or.inl rfl) (Nat.le_of_ble_eq_true rfl) (Nat.le_of_ble_eq_true rfl) rfl t7_ rfl (fun f8_ => ?_)
    replace f8_ : -9223372036854775808 ≤ (xpl h x1 8) ∧ (xpl h x1 8) ≤ 9223372036854775807 := f8_
    refine xr_aload_n (pc := 15) (i := 1) (hI := d_Match_lookForBeginning_15) (hi := rfl) (hl := rfl) ?_
    refine xg_getf (pc := 16) (ci := 4) (k := 9) (N := 13) (v9 := 0) (v := (xpl h x1 9)) (T := xF4) (hI := d_Match_lookForBeginning_16) (hw := w_242) rfl xi4 (Or.inl rfl) (Nat.le_of_ble_eq_true rfl) (Nat.le_of_ble_eq_true rfl) rfl t7_ rfl (fun f9_ => ?_)
    replace f9_ : -2147483648 ≤ (xpl h x1 9) ∧ (xpl h x1 9) ≤ 2147483647 := f9_
    obtain ⟨c10_, hyp⟩ := hyp
    refine xq_callS (pc := 19) (index := 77) (K := m_Words_beginsWith) (As := [xL (xpl h x2 x3), xL (xpl h x1 8), xI (xpl h x1 9)]) (S := []) (L0 := [xL (xpl h x2 x3), xZ, xL (xpl h x1 8), xZ, xI (xpl h x1 9), xZ, xZ]) (hI := d_Match_lookForBeginning_19) (hK := k_Words_beginsWith) (hlk := w_649) (hnoM := rfl) (hS8 := Nat.le_of_ble_eq_true rfl) (hstat := w_650) (hlen := Nat.le_of_ble_eq_true rfl) (hst := rfl) (hL0 := rfl)  (p_Words_beginsWith F c10_ ?_)
    show xwp G m_Match_lookForBeginning (d + 3) 22 [xR 45, xR x1, xR x2, xI x3] [xI (b2i (bgw (xpl h x2 x3) (xpl h x1 8) (xpl h x1 9)))] _ _ _
    have f11_ : 0 ≤ (b2i (bgw (xpl h x2 x3) (xpl h x1 8) (xpl h x1 9))) ∧ (b2i (bgw (xpl h x2 x3) (xpl h x1 8) (xpl h x1 9))) ≤ 1 := b2i_rng _
    refine xr_if_eq (pc := 22) (tgt := 30) (hI := d_Match_lookForBeginning_22) (ht := by decide) (fun q9 => ?_) (fun q9 => ?_)
    · replace hyp := hyp.2 (b2i_0.mp q9)
      have q12_ := b2i_0.mp q9
      clear q9
      exact hyp
    · replace hyp := hyp.1 (b2i_1.mp q9)
      have q12_ := b2i_1.mp q9
      clear q9
      refine xr_aload_n (pc := 25) (i := 0) (hI := d_Match_lookForBeginning_25) (hi := rfl) (hl := rfl) ?_
      refine xr_iload_n (pc := 26) (i := 3) (hI := d_Match_lookForBeginning_26) (hi := rfl) (hl := rfl) ?_
      exact xq_callV (pc := 27) (index := 66) (K := m_Match_hit) (As := [xI x3]) (S := []) (L0 := [xR 45, xI x3]) (hI := d_Match_lookForBeginning_27) (hK := k_Match_hit) (hlk := w_641) (hnoM := rfl) (hS8 := Nat.le_of_ble_eq_true rfl) (ci := 3) (N := 6) (C := "BeaconIndex$Match") (T := xF3) (hc := rfl) (hci := Nat.le_of_ble_eq_true rfl) (htb := (ft_45 F)) (hinst := w_643) (hsel := sel_Match_hit) (hlen := Nat.le_of_ble_eq_true rfl) (hst := rfl) (hL0 := rfl)  hyp
theorem d_Match_lookForBeginning_30 : decode prog_4_method_6_code 30 = .ok (.iinc 3 1, 3) := by decide +kernel
theorem d_Match_lookForBeginning_33 : decode prog_4_method_6_code 33 = .ok (.goto (-31), 3) := by decide +kernel
theorem v_Match_lookForBeginning_30 {G : XG} {d : Nat} {h : XH} {Q : XV → XH → Prop} {X : Nat → XH → Prop} {x1 x2 x3 : Int} (F : xFix h) (hyp : xiR (x3 + 1) ∧ (xwp G m_Match_lookForBeginning (d + 3) 2 [xR 45, xR x1, xR x2, xI (x3 + 1)] [] h Q X)) : xwp G m_Match_lookForBeginning (d + 3) 30 [xR 45, xR x1, xR x2, xI x3] [] h Q X := by
  have hnx9 : (93 : Int) ≤ xnx h := F.2.2
  refine xr_okL (fun hl9 => ?_)
  have r_x3 : -2147483648 ≤ x3 ∧ x3 ≤ 2147483647 := hl9 (xI x3) (.tail _ (.tail _ (.tail _ (.head _)))) (Nat.le_of_ble_eq_true rfl)
  obtain ⟨c9, hyp⟩ := hyp
  refine xr_iinc (pc := 30) (i := 3) (L9 := [xR 45, xR x1, xR x2, xI (x3 + 1)]) (hI := d_Match_lookForBeginning_30) (hl := rfl) (hn := Nat.le_of_ble_eq_true rfl) (hr := c9) (hL9 := rfl) ?_
  refine xr_goto (pc := 33) (tgt := 2) (hI := d_Match_lookForBeginning_33) (ht := by decide) ?_
  exact hyp
abbrev m_Match_lookForPhrase : XM := (⟨"BeaconIndex$Match", "lookForPhrase", "([J[J)V"⟩, prog_4_method_7_code, 4, none, [])
theorem d_Match_lookForPhrase_0 : decode prog_4_method_7_code 0 = .ok (.iconst 0, 1) := by decide +kernel
theorem d_Match_lookForPhrase_1 : decode prog_4_method_7_code 1 = .ok (.istore_n 3, 1) := by decide +kernel
theorem v_Match_lookForPhrase_0 {G : XG} {d : Nat} {h : XH} {Q : XV → XH → Prop} {X : Nat → XH → Prop} {x1 x2 : Int} (F : xFix h) (hyp : (xwp G m_Match_lookForPhrase (d + 2) 2 [xR 45, xR x1, xR x2, xI 0] [] h Q X)) : xwp G m_Match_lookForPhrase (d + 2) 0 [xR 45, xR x1, xR x2, xZ] [] h Q X := by
  have hnx9 : (93 : Int) ≤ xnx h := F.2.2
  refine xr_iconst (pc := 0) (hI := d_Match_lookForPhrase_0) (hr := by decide) ?_
  refine xr_istore_n (pc := 1) (i := 3) (L9 := [xR 45, xR x1, xR x2, xI 0]) (hI := d_Match_lookForPhrase_1) (hi := rfl) (hn := Nat.le_of_ble_eq_true rfl) (hL9 := rfl) ?_
  exact hyp
theorem d_Match_lookForPhrase_2 : decode prog_4_method_7_code 2 = .ok (.iload_n 3, 1) := by decide +kernel
theorem d_Match_lookForPhrase_3 : decode prog_4_method_7_code 3 = .ok (.aload_n 2, 1) := by decide +kernel
theorem d_Match_lookForPhrase_4 : decode prog_4_method_7_code 4 = .ok (.arraylength, 1) := by decide +kernel
theorem d_Match_lookForPhrase_5 : decode prog_4_method_7_code 5 = .ok (.if_icmp .ge 23, 3) := by decide +kernel
theorem d_Match_lookForPhrase_28 : decode prog_4_method_7_code 28 = .ok (.return_, 1) := by decide +kernel
theorem d_Match_lookForPhrase_8 : decode prog_4_method_7_code 8 = .ok (.iload_n 3, 1) := by decide +kernel
theorem d_Match_lookForPhrase_9 : decode prog_4_method_7_code 9 = .ok (.aload_n 1, 1) := by decide +kernel
theorem d_Match_lookForPhrase_10 : decode prog_4_method_7_code 10 = .ok (.aload_n 2, 1) := by decide +kernel
theorem d_Match_lookForPhrase_11 : decode prog_4_method_7_code 11 = .ok (.invokestatic 83, 3) := by decide +kernel
theorem k_Match_standsAt : xCal m_Match_standsAt 3 := ⟨List.mem_append_right _ (List.mem_of_getElem? (i := 663) (by decide +kernel)), w_14, Nat.le_of_ble_eq_true rfl, ⟨by decide +kernel, by decide +kernel⟩, by decide +kernel, by decide +kernel, rfl⟩
theorem w_661 : Cond.methodLink "BeaconIndex$Match" 83 ⟨"BeaconIndex$Match", "standsAt", "(I[J[J)Z"⟩ ∈ lw_tbl := List.mem_append_right _ (List.mem_of_getElem? (i := 661) (by decide +kernel))
theorem w_662 : Cond.static ⟨"BeaconIndex$Match", "standsAt", "(I[J[J)Z"⟩ ∈ lw_tbl := List.mem_append_right _ (List.mem_of_getElem? (i := 662) (by decide +kernel))
theorem v_Match_lookForPhrase_2 {G : XG} {d : Nat} {h : XH} {Q : XV → XH → Prop} {X : Nat → XH → Prop} {x1 x2 x3 : Int} (F : xFix h) (hyp : xtg h x2 = 101 ∧ (((xln h x2) ≤ x3 → (Q xN h)) ∧ (¬ (xln h x2) ≤ x3 → (xwp G m_Match_standsAt (d + 1) 0 [xI x3, xR x1, xR x2, xZ, xZ] [] h (fun v9 h9 => xwp G m_Match_lookForPhrase (d + 2) 14 [xR 45, xR x1, xR x2, xI x3] (xpush v9 []) h9 Q X) X)))) : xwp G m_Match_lookForPhrase (d + 2) 2 [xR 45, xR x1, xR x2, xI x3] [] h Q X := by
  have hnx9 : (93 : Int) ≤ xnx h := F.2.2
  refine xr_okL (fun hl9 => ?_)
  have r_x3 : -2147483648 ≤ x3 ∧ x3 ≤ 2147483647 := hl9 (xI x3) (.tail _ (.tail _ (.tail _ (.head _)))) (Nat.le_of_ble_eq_true rfl)
  refine xr_iload_n (pc := 2) (i := 3) (hI := d_Match_lookForPhrase_2) (hi := rfl) (hl := rfl) ?_
  refine xr_aload_n (pc := 3) (i := 2) (hI := d_Match_lookForPhrase_3) (hi := rfl) (hl := rfl) ?_
  obtain ⟨c9, hyp⟩ := hyp
  have t1_ := c9
  clear c9
  refine xg_alen (pc := 4) (t := 101) (v := (xln h x2)) (hI := d_Match_lookForPhrase_4) t1_ (Nat.le_of_ble_eq_true rfl) (Nat.le_of_ble_eq_true rfl) rfl rfl (fun f2_ f3_ => ?_)
  refine xr_icmp_ge (pc := 5) (tgt := 28) (hI := d_Match_lookForPhrase_5) (ht := by decide) (fun q9 => ?_) (fun q9 => ?_)
  · replace hyp := hyp.1 q9
    have q4_ := q9
    clear q9
    refine xr_return (S := []) (pc := 28) (hI := d_Match_lookForPhrase_28) (hr := rfl) ?_
    exact hyp
  · replace hyp := hyp.2 q9
    have q4_ := q9
    clear q9
    refine xr_iload_n (pc := 8) (i := 3) (hI := d_Match_lookForPhrase_8) (hi := rfl) (hl := rfl) ?_
    refine xr_aload_n (pc := 9) (i := 1) (hI := d_Match_lookForPhrase_9) (hi := rfl) (hl := rfl) ?_
    refine xr_aload_n (pc := 10) (i := 2) (hI := d_Match_lookForPhrase_10) (hi := rfl) (hl := rfl) ?_
    exact xq_callS (pc := 11) (index := 83) (K := m_Match_standsAt) (As := [xI x3, xR x1, xR x2]) (S := []) (L0 := [xI x3, xR x1, xR x2, xZ, xZ]) (hI := d_Match_lookForPhrase_11) (hK := k_Match_standsAt) (hlk := w_661) (hnoM := rfl) (hS8 := Nat.le_of_ble_eq_true rfl) (hstat := w_662) (hlen := Nat.le_of_ble_eq_true rfl) (hst := rfl) (hL0 := rfl)  hyp
theorem d_Match_lookForPhrase_14 : decode prog_4_method_7_code 14 = .ok (.ifCond .eq 8, 3) := by decide +kernel
theorem d_Match_lookForPhrase_17 : decode prog_4_method_7_code 17 = .ok (.aload_n 0, 1) := by decide +kernel
theorem d_Match_lookForPhrase_18 : decode prog_4_method_7_code 18 = .ok (.iload_n 3, 1) := by decide +kernel
theorem d_Match_lookForPhrase_19 : decode prog_4_method_7_code 19 = .ok (.invokevirtual 66, 3) := by decide +kernel
theorem v_Match_lookForPhrase_14 {G : XG} {d : Nat} {h : XH} {Q : XV → XH → Prop} {X : Nat → XH → Prop} {x1 x2 x3 s0 : Int} (F : xFix h) (hyp : ((s0 = 0 → (xwp G m_Match_lookForPhrase (d + 2) 22 [xR 45, xR x1, xR x2, xI x3] [] h Q X)) ∧ (¬ s0 = 0 → (xwp G m_Match_hit (d + 1) 0 [xR 45, xI x3] [] h (fun v9 h9 => xwp G m_Match_lookForPhrase (d + 2) 22 [xR 45, xR x1, xR x2, xI x3] (xpush v9 []) h9 Q X) X)))) : xwp G m_Match_lookForPhrase (d + 2) 14 [xR 45, xR x1, xR x2, xI x3] [xI s0] h Q X := by
  have hnx9 : (93 : Int) ≤ xnx h := F.2.2
  refine xr_okL (fun hl9 => ?_)
  have r_x3 : -2147483648 ≤ x3 ∧ x3 ≤ 2147483647 := hl9 (xI x3) (.tail _ (.tail _ (.tail _ (.head _)))) (Nat.le_of_ble_eq_true rfl)
  refine xr_okS (fun hs9 => ?_)
  have r_s0 : -2147483648 ≤ s0 ∧ s0 ≤ 2147483647 := hs9 (xI s0) (.head _)
  refine xr_if_eq (pc := 14) (tgt := 22) (hI := d_Match_lookForPhrase_14) (ht := by decide) (fun q9 => ?_) (fun q9 => ?_)
  · replace hyp := hyp.1 q9
    have q1_ := q9
    clear q9
    exact hyp
  · replace hyp := hyp.2 q9
    have q1_ := q9
    clear q9
    refine xr_aload_n (pc := 17) (i := 0) (hI := d_Match_lookForPhrase_17) (hi := rfl) (hl := rfl) ?_
    refine xr_iload_n (pc := 18) (i := 3) (hI := d_Match_lookForPhrase_18) (hi := rfl) (hl := rfl) ?_
    exact xq_callV (pc := 19) (index := 66) (K := m_Match_hit) (As := [xI x3]) (S := []) (L0 := [xR 45, xI x3]) (hI := d_Match_lookForPhrase_19) (hK := k_Match_hit) (hlk := w_641) (hnoM := rfl) (hS8 := Nat.le_of_ble_eq_true rfl) (ci := 3) (N := 6) (C := "BeaconIndex$Match") (T := xF3) (hc := rfl) (hci := Nat.le_of_ble_eq_true rfl) (htb := (ft_45 F)) (hinst := w_643) (hsel := sel_Match_hit) (hlen := Nat.le_of_ble_eq_true rfl) (hst := rfl) (hL0 := rfl)  hyp
theorem d_Match_lookForPhrase_22 : decode prog_4_method_7_code 22 = .ok (.iinc 3 1, 3) := by decide +kernel
theorem d_Match_lookForPhrase_25 : decode prog_4_method_7_code 25 = .ok (.goto (-23), 3) := by decide +kernel
theorem v_Match_lookForPhrase_22 {G : XG} {d : Nat} {h : XH} {Q : XV → XH → Prop} {X : Nat → XH → Prop} {x1 x2 x3 : Int} (F : xFix h) (hyp : xiR (x3 + 1) ∧ (xwp G m_Match_lookForPhrase (d + 2) 2 [xR 45, xR x1, xR x2, xI (x3 + 1)] [] h Q X)) : xwp G m_Match_lookForPhrase (d + 2) 22 [xR 45, xR x1, xR x2, xI x3] [] h Q X := by
  have hnx9 : (93 : Int) ≤ xnx h := F.2.2
  refine xr_okL (fun hl9 => ?_)
  have r_x3 : -2147483648 ≤ x3 ∧ x3 ≤ 2147483647 := hl9 (xI x3) (.tail _ (.tail _ (.tail _ (.head _)))) (Nat.le_of_ble_eq_true rfl)
  obtain ⟨c9, hyp⟩ := hyp
  refine xr_iinc (pc := 22) (i := 3) (L9 := [xR 45, xR x1, xR x2, xI (x3 + 1)]) (hI := d_Match_lookForPhrase_22) (hl := rfl) (hn := Nat.le_of_ble_eq_true rfl) (hr := c9) (hL9 := rfl) ?_
  refine xr_goto (pc := 25) (tgt := 2) (hI := d_Match_lookForPhrase_25) (ht := by decide) ?_
  exact hyp
def rwA (row : List Int) (k : Nat) : Int := (row[k]?).getD 0
theorem RowOK.rw {h : XH} {r : Int} {ws : List Int} (R : RowOK h r ws) {k : Nat} (hk : k < ws.length) : xpl h r k = rwA ws k := by
  have := R.2.2.2.1.2.2 k hk
  unfold rwA
  rw [this]; rfl
/-- how often and where first -/
abbrev MR : Type := Int × Int
def htF (r : MR) (p : Int) : MR := (r.1 + 1, if r.1 = 0 then p else r.2)
def scF (P : Nat → Bool) : Nat → Nat → MR → MR
  | 0, _, r => r
  | n + 1, k, r => scF P n (k + 1) (if P k = true then htF r k else r)
def MatT (h : XH) (r : MR) : Prop := xpl h 45 4 = r.1 ∧ xpl h 45 5 = r.2
theorem s_Match_forget {G : XG} {d : Nat} {h : XH} {Q : XV → XH → Prop} {X : Nat → XH → Prop} (F : xFix h)
    (hq : ∀ h', xFix h' → xsm (fun c => c = 45) h h' → MatT h' (0, -1) → (∀ k, k ≠ 4 → k ≠ 5 → xpl h' 45 k = xpl h 45 k) → xnx h' = xnx h → xsl h' = xsl h → Q xN h') : xwp G m_Match_forget (d + 1) 0 [xR 45] [] h Q X := by
  refine v_Match_forget_0 F ?_
  intro F9
  refine hq _ F9 (xs2 (k := 4) (k2 := 5)) ⟨?_, ?_⟩ (fun k k4 k5 => ?_) rfl rfl
  · rw [xpl_st, if_neg (by omega), xpl_st, if_pos ⟨rfl, rfl⟩]
  · rw [xpl_st, if_pos ⟨rfl, rfl⟩]
  · rw [xpl_st, if_neg (by omega), xpl_st, if_neg (by omega)]
theorem s_Match_hit {G : XG} {d : Nat} {h : XH} {Q : XV → XH → Prop} {X : Nat → XH → Prop} {p : Int} {r : MR} (F : xFix h) (T : MatT h r) (h0 : 0 ≤ r.1) (h1 : r.1 ≤ 10000)
    (hq : ∀ h', xFix h' → xsm (fun c => c = 45) h h' → MatT h' (htF r p) → (∀ k, k ≠ 4 → k ≠ 5 → xpl h' 45 k = xpl h 45 k) → xnx h' = xnx h → xsl h' = xsl h → Q xN h') : xwp G m_Match_hit (d + 1) 0 [xR 45, xI p] [] h Q X := by
  obtain ⟨t1, t2⟩ := T
  have tail : ∀ h2, xFix h2 → xsm (fun c => c = 45) h h2 → xpl h2 45 4 = r.1 → xpl h2 45 5 = (if r.1 = 0 then p else r.2) → (∀ k, k ≠ 4 → k ≠ 5 → xpl h2 45 k = xpl h 45 k) → xnx h2 = xnx h → xsl h2 = xsl h → xwp G m_Match_hit (d + 1) 12 [xR 45, xZ] [] h2 Q X := by
    intro h2 F2 S2 e4 e5 ek n2 l2
    refine v_Match_hit_12 F2 ?_
    refine ⟨?_, ?_⟩
    · exact ⟨by omega, by omega⟩
    · intro F9
      rw [e4] at F9 ⊢
      refine hq _ F9 (S2.st (by decide) (Or.inl rfl)) ⟨?_, ?_⟩ (fun k k4 k5 => ?_) n2 l2
      · rw [xpl_st, if_pos ⟨rfl, rfl⟩]; rfl
      · rw [xpl_st, if_neg (by omega)]; exact e5
      · rw [xpl_st, if_neg (by omega)]; exact ek k k4 k5
  refine v_Match_hit_0 F ?_
  refine ⟨fun q1 => ?_, fun q1 => ?_⟩
  · intro F9
    refine tail _ F9 ((xsm.refl h).st (by decide) (Or.inl rfl)) ?_ ?_ (fun k k4 k5 => ?_) rfl rfl
    · rw [xpl_st, if_neg (by omega)]; exact t1
    · rw [xpl_st, if_pos ⟨rfl, rfl⟩, if_pos (by omega)]
    · rw [xpl_st, if_neg (by omega)]
  · exact tail h F (xsm.refl h) t1 (by rw [if_neg (by omega)]; exact t2) (fun k _ _ => rfl) rfl rfl
theorem RowOK.f45 {h h' : XH} {r : Int} {ws : List Int} (R : RowOK h r ws) (e : xsm (fun c => c = 45) h h') : RowOK h' r ws := R.frame e (fun _ _ a b => by have b : r = 45 := b; omega)
theorem s_Match_lookForWord {G : XG} {d : Nat} {h : XH} {Q : XV → XH → Prop} {X : Nat → XH → Prop} {w r : Int} {row : List Int} {t : MR} (F : xFix h) (R : RowOK h r row) (T : MatT h t) (h0 : 0 ≤ t.1) (h1 : t.1 + row.length ≤ 9000)
    (hq : ∀ h', xFix h' → xsm (fun c => c = 45) h h' → MatT h' (scF (fun k => decide (rwA row k = w)) row.length 0 t) → xnx h' = xnx h → xsl h' = xsl h → Q xN h') : xwp G m_Match_lookForWord (d + 2) 0 [xR 45, xL w, xZ, xR r, xZ] [] h Q X := by
  obtain ⟨P, hP⟩ : ∃ P : Nat → Bool, P = fun k => decide (rwA row k = w) := ⟨_, rfl⟩
  rw [← hP] at hq
  have loop : ∀ (m k : Nat) (h2 : XH) (t2 : MR), k + m = row.length → xFix h2 → xsm (fun c => c = 45) h h2 → MatT h2 t2 → 0 ≤ t2.1 → t2.1 + m ≤ 9000 → scF P m k t2 = scF P row.length 0 t → xnx h2 = xnx h → xsl h2 = xsl h → xwp G m_Match_lookForWord (d + 2) 3 [xR 45, xL w, xZ, xR r, xI k] [] h2 Q X := by
    intro m
    induction m with
    | zero =>
      intro k h2 t2 e F2 S2 T2 g0 g1 hv n2 l2
      have R2 := R.f45 S2
      have hl := R2.2.2.2.1.2.1
      refine v_Match_lookForWord_3 F2 ?_
      refine ⟨?_, ?_⟩
      · first | exact R2.2.2.2.1.1 | omega
      · refine ⟨fun q1 => ?_, fun q1 => ?_⟩
        · refine hq h2 F2 S2 ?_ n2 l2
          rw [← hv]; exact T2
        · refine ⟨?_, ?_⟩
          · first | exact R2.2.2.2.1.1 | omega
          · refine ⟨fun q2 => ?_, fun q2 => ?_⟩
            · omega
            · omega
    | succ m ih =>
      intro k h2 t2 e F2 S2 T2 g0 g1 hv n2 l2
      have R2 := R.f45 S2
      have hl := R2.2.2.2.1.2.1
      have hx := R2.rw (k := k) (by omega)
      have hv2 : scF P m (k + 1) (if P k = true then htF t2 k else t2) = scF P row.length 0 t := hv
      have hPk : P k = decide (rwA row k = w) := by rw [hP]
      refine v_Match_lookForWord_3 F2 ?_
      refine ⟨?_, ?_⟩
      · first | exact R2.2.2.2.1.1 | omega
      · refine ⟨fun q1 => ?_, fun q1 => ?_⟩
        · omega
        · refine ⟨?_, ?_⟩
          · first | exact R2.2.2.2.1.1 | omega
          · refine ⟨fun q2 => ?_, fun q2 => ?_⟩
            · rw [if_pos (by rw [hPk]; exact decide_eq_true (by omega))] at hv2
              refine s_Match_hit F2 T2 g0 (by omega) (fun h3 F3 S3 T3 _ n3 l3 => ?_)
              refine v_Match_lookForWord_25 F3 ?_
              refine ⟨?_, ?_⟩
              · exact ⟨by omega, by omega⟩
              · exact ih (k + 1) h3 _ (by omega) F3 (S2.trans S3) T3 (by unfold htF; omega) (by unfold htF; omega) hv2 (n3.trans n2) (l3.trans l2)
            · rw [if_neg (by rw [hPk]; exact fun w9 => q2 (by have := of_decide_eq_true w9; omega))] at hv2
              refine v_Match_lookForWord_25 F2 ?_
              refine ⟨?_, ?_⟩
              · exact ⟨by omega, by omega⟩
              · exact ih (k + 1) h2 _ (by omega) F2 S2 T2 g0 (by omega) hv2 n2 l2
  refine v_Match_lookForWord_0 F ?_
  exact loop row.length 0 h t (by omega) F (xsm.refl h) T h0 h1 rfl rfl rfl
theorem PartR.f45 {h h' : XH} {p : Int} {t : PT} (R : PartR h p t) (e : xsm (fun c => c = 45) h h') : PartR h' p t := R.frame e (fun k _ _ => e.pl R.1.2.1 (fun w => by have w : p = 45 := w; have := R.1.1; omega) k) (fun r _ _ a b => by have b : r = 45 := b; omega)
theorem s_Match_lookForBeginning {G : XG} {d : Nat} {h : XH} {Q : XV → XH → Prop} {X : Nat → XH → Prop} {p r : Int} {row : List Int} {pt : PT} {t : MR} (F : xFix h) (PR : PartR h p pt) (R : RowOK h r row) (T : MatT h t) (h0 : 0 ≤ t.1) (h1 : t.1 + row.length ≤ 9000) (hb : -1000 ≤ pt.1 9)
    (hq : ∀ h', xFix h' → xsm (fun c => c = 45) h h' → MatT h' (scF (fun k => bgw (rwA row k) (pt.1 8) (pt.1 9)) row.length 0 t) → xnx h' = xnx h → xsl h' = xsl h → Q xN h') : xwp G m_Match_lookForBeginning (d + 3) 0 [xR 45, xR p, xR r, xZ] [] h Q X := by
  obtain ⟨P, hP⟩ : ∃ P : Nat → Bool, P = fun k => bgw (rwA row k) (pt.1 8) (pt.1 9) := ⟨_, rfl⟩
  rw [← hP] at hq
  have loop : ∀ (m k : Nat) (h2 : XH) (t2 : MR), k + m = row.length → xFix h2 → xsm (fun c => c = 45) h h2 → MatT h2 t2 → 0 ≤ t2.1 → t2.1 + m ≤ 9000 → scF P m k t2 = scF P row.length 0 t → xnx h2 = xnx h → xsl h2 = xsl h → xwp G m_Match_lookForBeginning (d + 3) 2 [xR 45, xR p, xR r, xI k] [] h2 Q X := by
    intro m
    induction m with
    | zero =>
      intro k h2 t2 e F2 S2 T2 g0 g1 hv n2 l2
      have R2 := R.f45 S2
      have hl := R2.2.2.2.1.2.1
      refine v_Match_lookForBeginning_2 F2 ?_
      refine ⟨?_, ?_⟩
      · first | exact R2.2.2.2.1.1 | exact (PR.f45 S2).1.2.2 | omega
      · refine ⟨fun q1 => ?_, fun q1 => ?_⟩
        · refine hq h2 F2 S2 ?_ n2 l2
          rw [← hv]; exact T2
        · refine ⟨?_, ?_⟩
          · first | exact R2.2.2.2.1.1 | exact (PR.f45 S2).1.2.2 | omega
          · refine ⟨?_, ?_⟩
            · first | exact R2.2.2.2.1.1 | exact (PR.f45 S2).1.2.2 | omega
            · refine ⟨?_, ?_⟩
              · first | exact R2.2.2.2.1.1 | exact (PR.f45 S2).1.2.2 | omega
              · refine ⟨fun q2 => ?_, fun q2 => ?_⟩
                · omega
                · omega
    | succ m ih =>
      intro k h2 t2 e F2 S2 T2 g0 g1 hv n2 l2
      have R2 := R.f45 S2
      have PR2 := PR.f45 S2
      have hl := R2.2.2.2.1.2.1
      have hx := R2.rw (k := k) (by omega)
      have hv2 : scF P m (k + 1) (if P k = true then htF t2 k else t2) = scF P row.length 0 t := hv
      have e8 := PR2.2.1 8 (by decide) (by decide) (by decide)
      have e9 := PR2.2.1 9 (by decide) (by decide) (by decide)
      have hPk : P k = bgw (xpl h2 r k) (xpl h2 p 8) (xpl h2 p 9) := by rw [hP, hx, e8, e9]
      refine v_Match_lookForBeginning_2 F2 ?_
      refine ⟨?_, ?_⟩
      · first | exact R2.2.2.2.1.1 | exact PR2.1.2.2 | omega
      · refine ⟨fun q1 => ?_, fun q1 => ?_⟩
        · omega
        · refine ⟨?_, ?_⟩
          · first | exact R2.2.2.2.1.1 | exact PR2.1.2.2 | omega
          · refine ⟨?_, ?_⟩
            · first | exact R2.2.2.2.1.1 | exact PR2.1.2.2 | omega
            · refine ⟨?_, ?_⟩
              · first | exact R2.2.2.2.1.1 | exact PR2.1.2.2 | omega
              · refine ⟨fun q2 => ?_, fun q2 => ?_⟩
                · rw [if_pos (by rw [hPk]; exact q2)] at hv2
                  refine s_Match_hit F2 T2 g0 (by omega) (fun h3 F3 S3 T3 _ n3 l3 => ?_)
                  refine v_Match_lookForBeginning_30 F3 ?_
                  refine ⟨?_, ?_⟩
                  · exact ⟨by omega, by omega⟩
                  · exact ih (k + 1) h3 _ (by omega) F3 (S2.trans S3) T3 (by unfold htF; omega) (by unfold htF; omega) hv2 (n3.trans n2) (l3.trans l2)
                · rw [if_neg (by rw [hPk]; exact q2)] at hv2
                  refine v_Match_lookForBeginning_30 F2 ?_
                  refine ⟨?_, ?_⟩
                  · exact ⟨by omega, by omega⟩
                  · exact ih (k + 1) h2 _ (by omega) F2 S2 T2 g0 (by omega) hv2 n2 l2
  refine v_Match_lookForBeginning_0 F ?_
  exact loop row.length 0 h t (by omega) F (xsm.refl h) T h0 h1 rfl rfl rfl
/-- whether the words stand at the place k of the row; the small ones are nothing -/
def phA (row : List Int) : List Int → Nat → Bool
  | [], _ => true
  | w :: ws, k => (decide (w = 0) || decide (row[k]? = some w)) && phA row ws (k + 1)
theorem p_Match_standsAt {G : XG} {d : Nat} {h : XH} {Q : XV → XH → Prop} {X : Nat → XH → Prop} {p r : Int} {k : Nat} {ws row : List Int} (F : xFix h) (W : RowOK h p ws) (R : RowOK h r row) (hk : k ≤ 10000) (hq : Q (xI (b2i (phA row ws k))) h) : xwp G m_Match_standsAt (d + 1) 0 [xI k, xR p, xR r, xZ, xZ] [] h Q X := by
  have hw := W.2.2.2.1
  have hr := R.2.2.2.1
  have lw := hw.2.1
  have lr := hr.2.1
  have bw := W.2.2.2.2
  have loop : ∀ (m i : Nat), i + m = ws.length → phA row (ws.drop i) (k + i) = phA row ws k → xwp G m_Match_standsAt (d + 1) 2 [xI k, xR p, xR r, xI i, xZ] [] h Q X := by
    intro m
    induction m with
    | zero =>
      intro i e hv
      rw [List.drop_eq_nil_of_le (by omega)] at hv
      have hv2 : true = phA row ws k := hv
      rw [← hv2] at hq
      refine v_Match_standsAt_2 F ?_
      refine ⟨?_, ?_⟩
      · first | exact hw.1 | exact hr.1 | exact ⟨by omega, by omega⟩ | omega
      · refine ⟨fun q1 => ?_, fun q1 => ?_⟩
        · exact hq
        · refine ⟨?_, ?_⟩
          · first | exact hw.1 | exact hr.1 | exact ⟨by omega, by omega⟩ | omega
          · refine ⟨?_, ?_⟩
            · first | exact hw.1 | exact hr.1 | exact ⟨by omega, by omega⟩ | omega
            · refine ⟨fun q2 => ?_, fun q2 => ?_⟩
              · omega
              · refine ⟨?_, ?_⟩
                · first | exact hw.1 | exact hr.1 | exact ⟨by omega, by omega⟩ | omega
                · refine ⟨?_, ?_⟩
                  · first | exact hw.1 | exact hr.1 | exact ⟨by omega, by omega⟩ | omega
                  · refine ⟨fun q3 => ?_, fun q3 => ?_⟩
                    · omega
                    · omega
    | succ m ih =>
      intro i e hv
      obtain ⟨a1, a2⟩ := List.getElem?_eq_some_iff.mp (hw.2.2 i (by omega))
      rw [List.drop_eq_getElem_cons a1, a2] at hv
      have hv2 : ((decide (xpl h p i = 0) || decide (row[k + i]? = some (xpl h p i))) && phA row (ws.drop (i + 1)) (k + i + 1)) = phA row ws k := hv
      have t33 : ∀ s : Bool, s = decide (row[k + i]? = some (xpl h p i)) → xwp G m_Match_standsAt (d + 1) 33 [xI k, xR p, xR r, xI i, xZ] [xI (b2i s)] h Q X := by
        intro s hs
        rw [← hs] at hv2
        refine v_Match_standsAt_33 F ?_
        refine ⟨?_, ?_⟩
        · first | exact hw.1 | exact ⟨by omega, by omega⟩ | omega
        · refine ⟨?_, ?_⟩
          · first | exact hw.1 | exact ⟨by omega, by omega⟩ | omega
          · refine ⟨?_, ?_⟩
            · first | exact hw.1 | exact ⟨by omega, by omega⟩ | omega
            · refine ⟨fun q1 => ?_, fun q1 => ?_⟩
              · refine ⟨?_, ?_⟩
                · first | exact hw.1 | exact ⟨by omega, by omega⟩ | omega
                · rw [decide_eq_true q1, Bool.true_or, Bool.true_and] at hv2
                  exact ih (i + 1) (by omega) hv2
              · refine ⟨fun q2 => ?_, fun q2 => ?_⟩
                · rw [decide_eq_false q1, bz0 q2, Bool.false_or, Bool.false_and] at hv2
                  rw [← hv2] at hq
                  exact hq
                · refine ⟨?_, ?_⟩
                  · first | exact hw.1 | exact ⟨by omega, by omega⟩ | omega
                  · rw [decide_eq_false q1, bz1 q2, Bool.false_or, Bool.true_and] at hv2
                    exact ih (i + 1) (by omega) hv2
      refine v_Match_standsAt_2 F ?_
      refine ⟨?_, ?_⟩
      · first | exact hw.1 | exact hr.1 | exact ⟨by omega, by omega⟩ | omega
      · refine ⟨fun q1 => ?_, fun q1 => ?_⟩
        · omega
        · refine ⟨?_, ?_⟩
          · first | exact hw.1 | exact hr.1 | exact ⟨by omega, by omega⟩ | omega
          · refine ⟨?_, ?_⟩
            · first | exact hw.1 | exact hr.1 | exact ⟨by omega, by omega⟩ | omega
            · refine ⟨fun q2 => ?_, fun q2 => ?_⟩
              · refine v_Match_standsAt_32 F ?_
                exact t33 false (by rw [List.getElem?_eq_none (by omega)]; rfl)
              · refine ⟨?_, ?_⟩
                · first | exact hw.1 | exact hr.1 | exact ⟨by omega, by omega⟩ | omega
                · refine ⟨?_, ?_⟩
                  · first | exact hw.1 | exact hr.1 | exact ⟨by omega, by omega⟩ | omega
                  · refine ⟨fun q3 => ?_, fun q3 => ?_⟩
                    · have hx := hr.2.2 (k + i) (by omega)
                      rw [Int.natCast_add, q3] at hx
                      exact t33 true (by rw [hx]; exact (decide_eq_true rfl).symm)
                    · have hx := hr.2.2 (k + i) (by omega)
                      rw [Int.natCast_add] at hx
                      refine v_Match_standsAt_32 F ?_
                      exact t33 false (by rw [hx]; exact (decide_eq_false (fun w9 => q3 (Option.some.inj w9))).symm)
  refine v_Match_standsAt_0 F ?_
  exact loop ws.length 0 (by omega) rfl
theorem s_Match_lookForPhrase {G : XG} {d : Nat} {h : XH} {Q : XV → XH → Prop} {X : Nat → XH → Prop} {p r : Int} {ws row : List Int} {t : MR} (F : xFix h) (W : RowOK h p ws) (R : RowOK h r row) (T : MatT h t) (h0 : 0 ≤ t.1) (h1 : t.1 + row.length ≤ 9000)
    (hq : ∀ h', xFix h' → xsm (fun c => c = 45) h h' → MatT h' (scF (fun k => phA row ws k) row.length 0 t) → xnx h' = xnx h → xsl h' = xsl h → Q xN h') : xwp G m_Match_lookForPhrase (d + 2) 0 [xR 45, xR p, xR r, xZ] [] h Q X := by
  obtain ⟨P, hP⟩ : ∃ P : Nat → Bool, P = fun k => phA row ws k := ⟨_, rfl⟩
  rw [← hP] at hq
  have loop : ∀ (m k : Nat) (h2 : XH) (t2 : MR), k + m = row.length → xFix h2 → xsm (fun c => c = 45) h h2 → MatT h2 t2 → 0 ≤ t2.1 → t2.1 + m ≤ 9000 → scF P m k t2 = scF P row.length 0 t → xnx h2 = xnx h → xsl h2 = xsl h → xwp G m_Match_lookForPhrase (d + 2) 2 [xR 45, xR p, xR r, xI k] [] h2 Q X := by
    intro m
    induction m with
    | zero =>
      intro k h2 t2 e F2 S2 T2 g0 g1 hv n2 l2
      have R2 := R.f45 S2
      have hl := R2.2.2.2.1.2.1
      refine v_Match_lookForPhrase_2 F2 ?_
      refine ⟨?_, ?_⟩
      · first | exact R2.2.2.2.1.1 | omega
      · refine ⟨fun q1 => ?_, fun q1 => ?_⟩
        · refine hq h2 F2 S2 ?_ n2 l2
          rw [← hv]; exact T2
        · omega
    | succ m ih =>
      intro k h2 t2 e F2 S2 T2 g0 g1 hv n2 l2
      have R2 := R.f45 S2
      have W2 := W.f45 S2
      have hl := R2.2.2.2.1.2.1
      have hlr := R2.2.2.2.2
      have hv2 : scF P m (k + 1) (if P k = true then htF t2 k else t2) = scF P row.length 0 t := hv
      have hPk : P k = phA row ws k := by rw [hP]
      refine v_Match_lookForPhrase_2 F2 ?_
      refine ⟨?_, ?_⟩
      · first | exact R2.2.2.2.1.1 | omega
      · refine ⟨fun q1 => ?_, fun q1 => ?_⟩
        · omega
        · refine p_Match_standsAt F2 W2 R2 (by omega) ?_
          refine v_Match_lookForPhrase_14 F2 ?_
          refine ⟨fun q1 => ?_, fun q1 => ?_⟩
          · rw [if_neg (by rw [hPk, bz0 q1]; decide)] at hv2
            refine v_Match_lookForPhrase_22 F2 ?_
            refine ⟨?_, ?_⟩
            · exact ⟨by omega, by omega⟩
            · exact ih (k + 1) h2 _ (by omega) F2 S2 T2 g0 (by omega) hv2 n2 l2
          · rw [if_pos (by rw [hPk, bz1 q1])] at hv2
            refine s_Match_hit F2 T2 g0 (by omega) (fun h3 F3 S3 T3 _ n3 l3 => ?_)
            refine v_Match_lookForPhrase_22 F3 ?_
            refine ⟨?_, ?_⟩
            · exact ⟨by omega, by omega⟩
            · exact ih (k + 1) h3 _ (by omega) F3 (S2.trans S3) T3 (by unfold htF; omega) (by unfold htF; omega) hv2 (n3.trans n2) (l3.trans l2)
  refine v_Match_lookForPhrase_0 F ?_
  exact loop row.length 0 h t (by omega) F (xsm.refl h) T h0 h1 rfl rfl rfl

end
