/-! ===== match3 ===== -/
section
abbrev m_Match_lookForNearWords : XM := (⟨"BeaconIndex$Match", "lookForNearWords", "(LBeaconIndex$Part;[J)V"⟩, prog_4_method_9_code, 10, none, [])
theorem d_Match_lookForNearWords_0 : decode prog_4_method_9_code 0 = .ok (.aload_n 1, 1) := by decide +kernel
theorem d_Match_lookForNearWords_1 : decode prog_4_method_9_code 1 = .ok (.getfield 49, 3) := by decide +kernel
theorem w_236 : Cond.fieldLink "BeaconIndex$Match" 49 "BeaconIndex$Part" "looseness" "I" ∈ lw_tbl := List.mem_append_right _ (List.mem_of_getElem? (i := 236) (by decide +kernel))
theorem d_Match_lookForNearWords_4 : decode prog_4_method_9_code 4 = .ok (.aload_n 1, 1) := by decide +kernel
theorem d_Match_lookForNearWords_5 : decode prog_4_method_9_code 5 = .ok (.getfield 52, 3) := by decide +kernel
theorem w_226 : Cond.fieldLink "BeaconIndex$Match" 52 "BeaconIndex$Part" "words" "[J" ∈ lw_tbl := List.mem_append_right _ (List.mem_of_getElem? (i := 226) (by decide +kernel))
theorem d_Match_lookForNearWords_8 : decode prog_4_method_9_code 8 = .ok (.arraylength, 1) := by decide +kernel
theorem d_Match_lookForNearWords_9 : decode prog_4_method_9_code 9 = .ok (.iadd, 1) := by decide +kernel
theorem d_Match_lookForNearWords_10 : decode prog_4_method_9_code 10 = .ok (.iconst 1, 1) := by decide +kernel
theorem d_Match_lookForNearWords_11 : decode prog_4_method_9_code 11 = .ok (.isub, 1) := by decide +kernel
theorem d_Match_lookForNearWords_12 : decode prog_4_method_9_code 12 = .ok (.istore_n 3, 1) := by decide +kernel
theorem d_Match_lookForNearWords_13 : decode prog_4_method_9_code 13 = .ok (.aload_n 1, 1) := by decide +kernel
theorem d_Match_lookForNearWords_14 : decode prog_4_method_9_code 14 = .ok (.invokevirtual 37, 3) := by decide +kernel
theorem w_10 : Cond.initialized "BeaconIndex$Part" ∈ lw_tbl := List.mem_append_right _ (List.mem_of_getElem? (i := 10) (by decide +kernel))
theorem k_Part_firstWord : xCal m_Part_firstWord 0 := ⟨List.mem_append_right _ (List.mem_of_getElem? (i := 636) (by decide +kernel)), w_10, Nat.le_of_ble_eq_true rfl, ⟨by decide +kernel, by decide +kernel⟩, by decide +kernel, by decide +kernel, rfl⟩
theorem w_633 : Cond.methodLink "BeaconIndex$Match" 37 ⟨"BeaconIndex$Part", "firstWord", "()J"⟩ ∈ lw_tbl := List.mem_append_right _ (List.mem_of_getElem? (i := 633) (by decide +kernel))
theorem w_634 : Cond.instanceMethod ⟨"BeaconIndex$Part", "firstWord", "()J"⟩ ∈ lw_tbl := List.mem_append_right _ (List.mem_of_getElem? (i := 634) (by decide +kernel))
theorem w_635 : Cond.selects "BeaconIndex$Part" ⟨"BeaconIndex$Part", "firstWord", "()J"⟩ ⟨"BeaconIndex$Part", "firstWord", "()J"⟩ ∈ lw_tbl := List.mem_append_right _ (List.mem_of_getElem? (i := 635) (by decide +kernel))
theorem v_Match_lookForNearWords_0 {G : XG} {d : Nat} {h : XH} {Q : XV → XH → Prop} {X : Nat → XH → Prop} {x1 x2 : Int} (F : xFix h) (hyp : xtg h x1 = 4 ∧ xtg h (xpl h x1 4) = 101 ∧ xiR ((xpl h x1 7) + (xln h (xpl h x1 4))) ∧ xiR (((xpl h x1 7) + (xln h (xpl h x1 4))) - 1) ∧ (xwp G m_Part_firstWord (d + 2) 0 [xR x1, xZ] [] h (fun v9 h9 => xwp G m_Match_lookForNearWords (d + 3) 17 [xR 45, xZ, xR x2, xI (((xpl h x1 7) + (xln h (xpl h x1 4))) - 1), xZ, xZ, xZ, xZ, xZ, xZ] (xpush v9 []) h9 Q X) X)) : xwp G m_Match_lookForNearWords (d + 3) 0 [xR 45, xR x1, xR x2, xZ, xZ, xZ, xZ, xZ, xZ, xZ] [] h Q X := by
  have hnx9 : (93 : Int) ≤ xnx h := F.2.2
  refine xr_aload_n (pc := 0) (i := 1) (hI := d_Match_lookForNearWords_0) (hi := rfl) (hl := rfl) ?_
  obtain ⟨c9, hyp⟩ := hyp
  have t1_ := c9
  clear c9
  refine xg_getf (pc := 1) (ci := 4) (k := 7) (N := 13) (v9 := 0) (v := (xpl h x1 7)) (T := xF4) (hI := d_Match_lookForNearWords_1) (hw := w_236) rfl xi4 (Or.inl rfl) (Nat.le_of_ble_eq_true rfl) (Nat.le_of_ble_eq_true rfl) rfl t1_ rfl (fun f2_ => ?_)
  replace f2_ : -2147483648 ≤ (xpl h x1 7) ∧ (xpl h x1 7) ≤ 2147483647 := f2_
  refine xr_aload_n (pc := 4) (i := 1) (hI := d_Match_lookForNearWords_4) (hi := rfl) (hl := rfl) ?_
  refine xg_getf (pc := 5) (ci := 4) (k := 4) (N := 13) (v9 := 2) (v := (xpl h x1 4)) (T := xF4) (hI := d_Match_lookForNearWords_5) (hw := w_226) rfl xi4 (Or.inl rfl) (Nat.le_of_ble_eq_true rfl) (Nat.le_of_ble_eq_true rfl) rfl t1_ rfl (fun f3_ => ?_)
  clear f3_
  obtain ⟨c9, hyp⟩ := hyp
  have t4_ := c9
  clear c9
  refine xg_alen (pc := 8) (t := 101) (v := (xln h (xpl h x1 4))) (hI := d_Match_lookForNearWords_8) t4_ (Nat.le_of_ble_eq_true rfl) (Nat.le_of_ble_eq_true rfl) rfl rfl (fun f5_ f6_ => ?_)
  obtain ⟨c9, hyp⟩ := hyp
  refine xr_iadd (pc := 9) (hI := d_Match_lookForNearWords_9) (hr := c9) ?_
  refine xr_iconst (pc := 10) (hI := d_Match_lookForNearWords_10) (hr := by decide) ?_
  obtain ⟨c9, hyp⟩ := hyp
  refine xr_isub (pc := 11) (hI := d_Match_lookForNearWords_11) (hr := c9) ?_
  refine xr_istore_n (pc := 12) (i := 3) (L9 := [xR 45, xR x1, xR x2, xI (((xpl h x1 7) + (xln h (xpl h x1 4))) - 1), xZ, xZ, xZ, xZ, xZ, xZ]) (hI := d_Match_lookForNearWords_12) (hi := rfl) (hn := Nat.le_of_ble_eq_true rfl) (hL9 := rfl) ?_
  refine xr_aload_n (pc := 13) (i := 1) (hI := d_Match_lookForNearWords_13) (hi := rfl) (hl := rfl) ?_
  exact xq_callV (pc := 14) (index := 37) (K := m_Part_firstWord) (As := []) (S := []) (L0 := [xR x1, xZ]) (hI := d_Match_lookForNearWords_14) (hK := k_Part_firstWord) (hlk := w_633) (hnoM := rfl) (hS8 := Nat.le_of_ble_eq_true rfl) (ci := 4) (N := 13) (C := "BeaconIndex$Part") (T := xF4) (hc := rfl) (hci := Nat.le_of_ble_eq_true rfl) (htb := t1_) (hinst := w_634) (hsel := w_635) (hlen := Nat.le_of_ble_eq_true rfl) (hst := rfl) (hL0 := rfl)  (xwp_mono hyp (fun v9 h9 q9 => xr_drop (L9 := [xR 45, xZ, xR x2, xI (((xpl h x1 7) + (xln h (xpl h x1 4))) - 1), xZ, xZ, xZ, xZ, xZ, xZ]) (xdrs (xdrz (xdrs (xdrs (xdrs (xdrs (xdrs (xdrs (xdrs (xdrs xdr0)))))))))) q9) (fun _ _ z9 => z9))
theorem d_Match_lookForNearWords_17 : decode prog_4_method_9_code 17 = .ok (.lstore 4, 2) := by decide +kernel
theorem d_Match_lookForNearWords_19 : decode prog_4_method_9_code 19 = .ok (.iconst 0, 1) := by decide +kernel
theorem d_Match_lookForNearWords_20 : decode prog_4_method_9_code 20 = .ok (.istore 6, 2) := by decide +kernel
theorem d_Match_lookForNearWords_22 : decode prog_4_method_9_code 22 = .ok (.iconst 0, 1) := by decide +kernel
theorem d_Match_lookForNearWords_23 : decode prog_4_method_9_code 23 = .ok (.istore 7, 2) := by decide +kernel
theorem v_Match_lookForNearWords_17 {G : XG} {d : Nat} {h : XH} {Q : XV → XH → Prop} {X : Nat → XH → Prop} {x2 x3 s0 : Int} (F : xFix h) (hyp : (xwp G m_Match_lookForNearWords (d + 3) 25 [xR 45, xZ, xR x2, xI x3, xL s0, xZ, xI 0, xI 0, xZ, xZ] [] h Q X)) : xwp G m_Match_lookForNearWords (d + 3) 17 [xR 45, xZ, xR x2, xI x3, xZ, xZ, xZ, xZ, xZ, xZ] [xL s0] h Q X := by
  have hnx9 : (93 : Int) ≤ xnx h := F.2.2
  refine xr_okL (fun hl9 => ?_)
  have r_x3 : -2147483648 ≤ x3 ∧ x3 ≤ 2147483647 := hl9 (xI x3) (.tail _ (.tail _ (.tail _ (.head _)))) (Nat.le_of_ble_eq_true rfl)
  refine xr_okS (fun hs9 => ?_)
  have r_s0 : -9223372036854775808 ≤ s0 ∧ s0 ≤ 9223372036854775807 := hs9 (xL s0) (.head _)
  refine xr_lstore (pc := 17) (i := 4) (L9 := [xR 45, xZ, xR x2, xI x3, xL s0, xZ, xZ, xZ, xZ, xZ]) (hI := d_Match_lookForNearWords_17) (hn := Nat.le_of_ble_eq_true rfl) (hL9 := rfl) ?_
  refine xr_iconst (pc := 19) (hI := d_Match_lookForNearWords_19) (hr := by decide) ?_
  refine xr_istore (pc := 20) (i := 6) (L9 := [xR 45, xZ, xR x2, xI x3, xL s0, xZ, xI 0, xZ, xZ, xZ]) (hI := d_Match_lookForNearWords_20) (hn := Nat.le_of_ble_eq_true rfl) (hL9 := rfl) ?_
  refine xr_iconst (pc := 22) (hI := d_Match_lookForNearWords_22) (hr := by decide) ?_
  refine xr_istore (pc := 23) (i := 7) (L9 := [xR 45, xZ, xR x2, xI x3, xL s0, xZ, xI 0, xI 0, xZ, xZ]) (hI := d_Match_lookForNearWords_23) (hn := Nat.le_of_ble_eq_true rfl) (hL9 := rfl) ?_
  exact hyp
theorem d_Match_lookForNearWords_25 : decode prog_4_method_9_code 25 = .ok (.iload 7, 2) := by decide +kernel
theorem d_Match_lookForNearWords_27 : decode prog_4_method_9_code 27 = .ok (.aload_n 2, 1) := by decide +kernel
theorem d_Match_lookForNearWords_28 : decode prog_4_method_9_code 28 = .ok (.arraylength, 1) := by decide +kernel
theorem d_Match_lookForNearWords_29 : decode prog_4_method_9_code 29 = .ok (.if_icmp .ge 93, 3) := by decide +kernel
theorem d_Match_lookForNearWords_122 : decode prog_4_method_9_code 122 = .ok (.return_, 1) := by decide +kernel
theorem d_Match_lookForNearWords_32 : decode prog_4_method_9_code 32 = .ok (.iload 7, 2) := by decide +kernel
theorem d_Match_lookForNearWords_34 : decode prog_4_method_9_code 34 = .ok (.iload_n 3, 1) := by decide +kernel
theorem d_Match_lookForNearWords_35 : decode prog_4_method_9_code 35 = .ok (.isub, 1) := by decide +kernel
theorem d_Match_lookForNearWords_36 : decode prog_4_method_9_code 36 = .ok (.iconst 1, 1) := by decide +kernel
theorem d_Match_lookForNearWords_37 : decode prog_4_method_9_code 37 = .ok (.isub, 1) := by decide +kernel
theorem d_Match_lookForNearWords_38 : decode prog_4_method_9_code 38 = .ok (.istore 8, 2) := by decide +kernel
theorem d_Match_lookForNearWords_40 : decode prog_4_method_9_code 40 = .ok (.aload_n 0, 1) := by decide +kernel
theorem d_Match_lookForNearWords_41 : decode prog_4_method_9_code 41 = .ok (.aload_n 2, 1) := by decide +kernel
theorem d_Match_lookForNearWords_42 : decode prog_4_method_9_code 42 = .ok (.iload 7, 2) := by decide +kernel
theorem d_Match_lookForNearWords_44 : decode prog_4_method_9_code 44 = .ok (.laload, 1) := by decide +kernel
theorem d_Match_lookForNearWords_45 : decode prog_4_method_9_code 45 = .ok (.iconst (-1), 1) := by decide +kernel
theorem d_Match_lookForNearWords_46 : decode prog_4_method_9_code 46 = .ok (.invokevirtual 87, 3) := by decide +kernel
theorem k_Match_count : xCal m_Match_count 2 := ⟨List.mem_append_right _ (List.mem_of_getElem? (i := 683) (by decide +kernel)), w_14, Nat.le_of_ble_eq_true rfl, ⟨by decide +kernel, by decide +kernel⟩, by decide +kernel, by decide +kernel, rfl⟩
theorem w_680 : Cond.methodLink "BeaconIndex$Match" 87 ⟨"BeaconIndex$Match", "count", "(JI)V"⟩ ∈ lw_tbl := List.mem_append_right _ (List.mem_of_getElem? (i := 680) (by decide +kernel))
theorem w_682 : Cond.instanceMethod ⟨"BeaconIndex$Match", "count", "(JI)V"⟩ ∈ lw_tbl := List.mem_append_right _ (List.mem_of_getElem? (i := 682) (by decide +kernel))
theorem sel_Match_count : Cond.selects "BeaconIndex$Match" ⟨"BeaconIndex$Match", "count", "(JI)V"⟩ ⟨"BeaconIndex$Match", "count", "(JI)V"⟩ ∈ lw_tbl := List.mem_append_left _ (by decide +kernel)
theorem v_Match_lookForNearWords_25 {G : XG} {d : Nat} {h : XH} {Q : XV → XH → Prop} {X : Nat → XH → Prop} {x2 x3 x4 x6 x7 : Int} (F : xFix h) (hyp : xtg h x2 = 101 ∧ (((xln h x2) ≤ x7 → (Q xN h)) ∧ (¬ (xln h x2) ≤ x7 → xiR (x7 - x3) ∧ xiR ((x7 - x3) - 1) ∧ 0 ≤ x7 ∧ (xwp G m_Match_count (d + 2) 0 [xR 45, xL (xpl h x2 x7), xZ, xI (-1), xZ, xZ, xZ] [] h (fun v9 h9 => xwp G m_Match_lookForNearWords (d + 3) 49 [xR 45, xZ, xR x2, xI x3, xL x4, xZ, xI x6, xI x7, xI ((x7 - x3) - 1), xZ] (xpush v9 []) h9 Q X) X)))) : xwp G m_Match_lookForNearWords (d + 3) 25 [xR 45, xZ, xR x2, xI x3, xL x4, xZ, xI x6, xI x7, xZ, xZ] [] h Q X := by
  have hnx9 : (93 : Int) ≤ xnx h := F.2.2
  refine xr_okL (fun hl9 => ?_)
  have r_x3 : -2147483648 ≤ x3 ∧ x3 ≤ 2147483647 := hl9 (xI x3) (.tail _ (.tail _ (.tail _ (.head _)))) (Nat.le_of_ble_eq_true rfl)
  have r_x4 : -9223372036854775808 ≤ x4 ∧ x4 ≤ 9223372036854775807 := hl9 (xL x4) (.tail _ (.tail _ (.tail _ (.tail _ (.head _))))) (Nat.le_of_ble_eq_true rfl)
  have r_x6 : -2147483648 ≤ x6 ∧ x6 ≤ 2147483647 := hl9 (xI x6) (.tail _ (.tail _ (.tail _ (.tail _ (.tail _ (.tail _ (.head _))))))) (Nat.le_of_ble_eq_true rfl)
  have r_x7 : -2147483648 ≤ x7 ∧ x7 ≤ 2147483647 := hl9 (xI x7) (.tail _ (.tail _ (.tail _ (.tail _ (.tail _ (.tail _ (.tail _ (.head _)))))))) (Nat.le_of_ble_eq_true rfl)
  refine xr_iload (pc := 25) (i := 7) (hI := d_Match_lookForNearWords_25) (hl := rfl) ?_
  refine xr_aload_n (pc := 27) (i := 2) (hI := d_Match_lookForNearWords_27) (hi := rfl) (hl := rfl) ?_
  obtain ⟨c9, hyp⟩ := hyp
  have t1_ := c9
  clear c9
  refine xg_alen (pc := 28) (t := 101) (v := (xln h x2)) (hI := d_Match_lookForNearWords_28) t1_ (Nat.le_of_ble_eq_true rfl) (Nat.le_of_ble_eq_true rfl) rfl rfl (fun f2_ f3_ => ?_)
  refine xr_icmp_ge (pc := 29) (tgt := 122) (hI := d_Match_lookForNearWords_29) (ht := by decide) (fun q9 => ?_) (fun q9 => ?_)
  · replace hyp := hyp.1 q9
    have q4_ := q9
    clear q9
    refine xr_return (S := []) (pc := 122) (hI := d_Match_lookForNearWords_122) (hr := rfl) ?_
    exact hyp
  · replace hyp := hyp.2 q9
    have q4_ := q9
    clear q9
    refine xr_iload (pc := 32) (i := 7) (hI := d_Match_lookForNearWords_32) (hl := rfl) ?_
    refine xr_iload_n (pc := 34) (i := 3) (hI := d_Match_lookForNearWords_34) (hi := rfl) (hl := rfl) ?_
    obtain ⟨c9, hyp⟩ := hyp
    refine xr_isub (pc := 35) (hI := d_Match_lookForNearWords_35) (hr := c9) ?_
    refine xr_iconst (pc := 36) (hI := d_Match_lookForNearWords_36) (hr := by decide) ?_
    obtain ⟨c9, hyp⟩ := hyp
    refine xr_isub (pc := 37) (hI := d_Match_lookForNearWords_37) (hr := c9) ?_
    refine xr_istore (pc := 38) (i := 8) (L9 := [xR 45, xZ, xR x2, xI x3, xL x4, xZ, xI x6, xI x7, xI ((x7 - x3) - 1), xZ]) (hI := d_Match_lookForNearWords_38) (hn := Nat.le_of_ble_eq_true rfl) (hL9 := rfl) ?_
    refine xr_aload_n (pc := 40) (i := 0) (hI := d_Match_lookForNearWords_40) (hi := rfl) (hl := rfl) ?_
    refine xr_aload_n (pc := 41) (i := 2) (hI := d_Match_lookForNearWords_41) (hi := rfl) (hl := rfl) ?_
    refine xr_iload (pc := 42) (i := 7) (hI := d_Match_lookForNearWords_42) (hl := rfl) ?_
    obtain ⟨c5_, hyp⟩ := hyp
    refine xg_laload (pc := 44) (v := (xpl h x2 x7)) (hI := d_Match_lookForNearWords_44) t1_ c5_ (xlt_of rfl (by clear hyp; omega)) rfl (fun f6_ => ?_)
    replace f6_ : -9223372036854775808 ≤ (xpl h x2 x7) ∧ (xpl h x2 x7) ≤ 9223372036854775807 := f6_
    refine xr_iconst (pc := 45) (hI := d_Match_lookForNearWords_45) (hr := by decide) ?_
    exact xq_callV (pc := 46) (index := 87) (K := m_Match_count) (As := [xL (xpl h x2 x7), xI (-1)]) (S := []) (L0 := [xR 45, xL (xpl h x2 x7), xZ, xI (-1), xZ, xZ, xZ]) (hI := d_Match_lookForNearWords_46) (hK := k_Match_count) (hlk := w_680) (hnoM := rfl) (hS8 := Nat.le_of_ble_eq_true rfl) (ci := 3) (N := 6) (C := "BeaconIndex$Match") (T := xF3) (hc := rfl) (hci := Nat.le_of_ble_eq_true rfl) (htb := (ft_45 F)) (hinst := w_682) (hsel := sel_Match_count) (hlen := Nat.le_of_ble_eq_true rfl) (hst := rfl) (hL0 := rfl)  hyp
theorem d_Match_lookForNearWords_49 : decode prog_4_method_9_code 49 = .ok (.iload 8, 2) := by decide +kernel
theorem d_Match_lookForNearWords_51 : decode prog_4_method_9_code 51 = .ok (.ifCond .lt 12, 3) := by decide +kernel
theorem d_Match_lookForNearWords_54 : decode prog_4_method_9_code 54 = .ok (.aload_n 0, 1) := by decide +kernel
theorem d_Match_lookForNearWords_55 : decode prog_4_method_9_code 55 = .ok (.aload_n 2, 1) := by decide +kernel
theorem d_Match_lookForNearWords_56 : decode prog_4_method_9_code 56 = .ok (.iload 8, 2) := by decide +kernel
theorem d_Match_lookForNearWords_58 : decode prog_4_method_9_code 58 = .ok (.laload, 1) := by decide +kernel
theorem d_Match_lookForNearWords_59 : decode prog_4_method_9_code 59 = .ok (.iconst 1, 1) := by decide +kernel
theorem d_Match_lookForNearWords_60 : decode prog_4_method_9_code 60 = .ok (.invokevirtual 87, 3) := by decide +kernel
theorem v_Match_lookForNearWords_49 {G : XG} {d : Nat} {h : XH} {Q : XV → XH → Prop} {X : Nat → XH → Prop} {x2 x3 x4 x6 x7 x8 : Int} (F : xFix h) (hyp : ((x8 < 0 → (xwp G m_Match_lookForNearWords (d + 3) 63 [xR 45, xZ, xR x2, xI x3, xL x4, xZ, xI x6, xI x7, xI x8, xZ] [] h Q X)) ∧ (¬ x8 < 0 → xtg h x2 = 101 ∧ x8 < (xln h x2) ∧ (xwp G m_Match_count (d + 2) 0 [xR 45, xL (xpl h x2 x8), xZ, xI 1, xZ, xZ, xZ] [] h (fun v9 h9 => xwp G m_Match_lookForNearWords (d + 3) 63 [xR 45, xZ, xR x2, xI x3, xL x4, xZ, xI x6, xI x7, xI x8, xZ] (xpush v9 []) h9 Q X) X)))) : xwp G m_Match_lookForNearWords (d + 3) 49 [xR 45, xZ, xR x2, xI x3, xL x4, xZ, xI x6, xI x7, xI x8, xZ] [] h Q X := by
  have hnx9 : (93 : Int) ≤ xnx h := F.2.2
  refine xr_okL (fun hl9 => ?_)
  have r_x3 : -2147483648 ≤ x3 ∧ x3 ≤ 2147483647 := hl9 (xI x3) (.tail _ (.tail _ (.tail _ (.head _)))) (Nat.le_of_ble_eq_true rfl)
  have r_x4 : -9223372036854775808 ≤ x4 ∧ x4 ≤ 9223372036854775807 := hl9 (xL x4) (.tail _ (.tail _ (.tail _ (.tail _ (.head _))))) (Nat.le_of_ble_eq_true rfl)
  have r_x6 : -2147483648 ≤ x6 ∧ x6 ≤ 2147483647 := hl9 (xI x6) (.tail _ (.tail _ (.tail _ (.tail _ (.tail _ (.tail _ (.head _))))))) (Nat.le_of_ble_eq_true rfl)
  have r_x7 : -2147483648 ≤ x7 ∧ x7 ≤ 2147483647 := hl9 (xI x7) (.tail _ (.tail _ (.tail _ (.tail _ (.tail _ (.tail _ (.tail _ (.head _)))))))) (Nat.le_of_ble_eq_true rfl)
  have r_x8 : -2147483648 ≤ x8 ∧ x8 ≤ 2147483647 := hl9 (xI x8) (.tail _ (.tail _ (.tail _ (.tail _ (.tail _ (.tail _ (.tail _ (.tail _ (.head _))))))))) (Nat.le_of_ble_eq_true rfl)
  refine xr_iload (pc := 49) (i := 8) (hI := d_Match_lookForNearWords_49) (hl := rfl) ?_
  refine xr_if_lt (pc := 51) (tgt := 63) (hI := d_Match_lookForNearWords_51) (ht := by decide) (fun q9 => ?_) (fun q9 => ?_)
  · replace hyp := hyp.1 q9
    have q1_ := q9
    clear q9
    exact hyp
  · replace hyp := hyp.2 q9
    have q1_ := q9
    clear q9
    refine xr_aload_n (pc := 54) (i := 0) (hI := d_Match_lookForNearWords_54) (hi := rfl) (hl := rfl) ?_
    refine xr_aload_n (pc := 55) (i := 2) (hI := d_Match_lookForNearWords_55) (hi := rfl) (hl := rfl) ?_
    refine xr_iload (pc := 56) (i := 8) (hI := d_Match_lookForNearWords_56) (hl := rfl) ?_
    obtain ⟨c9, hyp⟩ := hyp
    have t2_ := c9
    clear c9
    obtain ⟨c3_, hyp⟩ := hyp
    refine xg_laload (pc := 58) (v := (xpl h x2 x8)) (hI := d_Match_lookForNearWords_58) t2_ (by clear hyp; omega) (xlt_of rfl c3_) rfl (fun f4_ => ?_)
    replace f4_ : -9223372036854775808 ≤ (xpl h x2 x8) ∧ (xpl h x2 x8) ≤ 9223372036854775807 := f4_
    refine xr_iconst (pc := 59) (hI := d_Match_lookForNearWords_59) (hr := by decide) ?_
    exact xq_callV (pc := 60) (index := 87) (K := m_Match_count) (As := [xL (xpl h x2 x8), xI 1]) (S := []) (L0 := [xR 45, xL (xpl h x2 x8), xZ, xI 1, xZ, xZ, xZ]) (hI := d_Match_lookForNearWords_60) (hK := k_Match_count) (hlk := w_680) (hnoM := rfl) (hS8 := Nat.le_of_ble_eq_true rfl) (ci := 3) (N := 6) (C := "BeaconIndex$Match") (T := xF3) (hc := rfl) (hci := Nat.le_of_ble_eq_true rfl) (htb := (ft_45 F)) (hinst := w_682) (hsel := sel_Match_count) (hlen := Nat.le_of_ble_eq_true rfl) (hst := rfl) (hL0 := rfl)  hyp
theorem d_Match_lookForNearWords_63 : decode prog_4_method_9_code 63 = .ok (.aload_n 0, 1) := by decide +kernel
theorem d_Match_lookForNearWords_64 : decode prog_4_method_9_code 64 = .ok (.getfield 23, 3) := by decide +kernel
theorem d_Match_lookForNearWords_67 : decode prog_4_method_9_code 67 = .ok (.ifCond .ne 49, 3) := by decide +kernel
theorem d_Match_lookForNearWords_116 : decode prog_4_method_9_code 116 = .ok (.iinc 7 1, 3) := by decide +kernel
theorem d_Match_lookForNearWords_119 : decode prog_4_method_9_code 119 = .ok (.goto (-94), 3) := by decide +kernel
theorem d_Match_lookForNearWords_70 : decode prog_4_method_9_code 70 = .ok (.iload 6, 2) := by decide +kernel
theorem d_Match_lookForNearWords_72 : decode prog_4_method_9_code 72 = .ok (.iload 8, 2) := by decide +kernel
theorem d_Match_lookForNearWords_74 : decode prog_4_method_9_code 74 = .ok (.iconst 1, 1) := by decide +kernel
theorem d_Match_lookForNearWords_75 : decode prog_4_method_9_code 75 = .ok (.iadd, 1) := by decide +kernel
theorem d_Match_lookForNearWords_76 : decode prog_4_method_9_code 76 = .ok (.invokestatic 91, 3) := by decide +kernel
theorem w_684 : Cond.methodLink "BeaconIndex$Match" 91 ⟨"java/lang/Math", "max", "(II)I"⟩ ∈ lw_tbl := List.mem_append_right _ (List.mem_of_getElem? (i := 684) (by decide +kernel))
theorem d_Match_lookForNearWords_79 : decode prog_4_method_9_code 79 = .ok (.istore 9, 2) := by decide +kernel
theorem v_Match_lookForNearWords_63 {G : XG} {d : Nat} {h : XH} {Q : XV → XH → Prop} {X : Nat → XH → Prop} {x2 x3 x4 x6 x7 x8 : Int} (F : xFix h) (hyp : (((xpl h 45 3) = 0 → xiR (x8 + 1) ∧ (xwp G m_Match_lookForNearWords (d + 3) 81 [xR 45, xZ, xR x2, xI x3, xL x4, xZ, xZ, xI x7, xZ, xI (max x6 (x8 + 1))] [] h Q X)) ∧ (¬ (xpl h 45 3) = 0 → xiR (x7 + 1) ∧ (xwp G m_Match_lookForNearWords (d + 3) 25 [xR 45, xZ, xR x2, xI x3, xL x4, xZ, xI x6, xI (x7 + 1), xZ, xZ] [] h Q X)))) : xwp G m_Match_lookForNearWords (d + 3) 63 [xR 45, xZ, xR x2, xI x3, xL x4, xZ, xI x6, xI x7, xI x8, xZ] [] h Q X := by
  have hnx9 : (93 : Int) ≤ xnx h := F.2.2
  refine xr_okL (fun hl9 => ?_)
  have r_x3 : -2147483648 ≤ x3 ∧ x3 ≤ 2147483647 := hl9 (xI x3) (.tail _ (.tail _ (.tail _ (.head _)))) (Nat.le_of_ble_eq_true rfl)
  have r_x4 : -9223372036854775808 ≤ x4 ∧ x4 ≤ 9223372036854775807 := hl9 (xL x4) (.tail _ (.tail _ (.tail _ (.tail _ (.head _))))) (Nat.le_of_ble_eq_true rfl)
  have r_x6 : -2147483648 ≤ x6 ∧ x6 ≤ 2147483647 := hl9 (xI x6) (.tail _ (.tail _ (.tail _ (.tail _ (.tail _ (.tail _ (.head _))))))) (Nat.le_of_ble_eq_true rfl)
  have r_x7 : -2147483648 ≤ x7 ∧ x7 ≤ 2147483647 := hl9 (xI x7) (.tail _ (.tail _ (.tail _ (.tail _ (.tail _ (.tail _ (.tail _ (.head _)))))))) (Nat.le_of_ble_eq_true rfl)
  have r_x8 : -2147483648 ≤ x8 ∧ x8 ≤ 2147483647 := hl9 (xI x8) (.tail _ (.tail _ (.tail _ (.tail _ (.tail _ (.tail _ (.tail _ (.tail _ (.head _))))))))) (Nat.le_of_ble_eq_true rfl)
  refine xr_aload_n (pc := 63) (i := 0) (hI := d_Match_lookForNearWords_63) (hi := rfl) (hl := rfl) ?_
  refine xg_getf (pc := 64) (ci := 3) (k := 3) (N := 6) (v9 := 0) (v := (xpl h 45 3)) (T := xF3) (hI := d_Match_lookForNearWords_64) (hw := w_375) rfl xi3 (Or.inl rfl) (Nat.le_of_ble_eq_true rfl) (Nat.le_of_ble_eq_true rfl) rfl (ft_45 F) rfl (fun f1_ => ?_)
  replace f1_ : -2147483648 ≤ (xpl h 45 3) ∧ (xpl h 45 3) ≤ 2147483647 := f1_
  refine xr_if_ne (pc := 67) (tgt := 116) (hI := d_Match_lookForNearWords_67) (ht := by decide) (fun q9 => ?_) (fun q9 => ?_)
  · replace hyp := hyp.2 q9
    have q2_ := q9
    clear q9
    obtain ⟨c9, hyp⟩ := hyp
    refine xr_iinc (pc := 116) (i := 7) (L9 := [xR 45, xZ, xR x2, xI x3, xL x4, xZ, xI x6, xI (x7 + 1), xI x8, xZ]) (hI := d_Match_lookForNearWords_116) (hl := rfl) (hn := Nat.le_of_ble_eq_true rfl) (hr := c9) (hL9 := rfl) ?_
    refine xr_goto (pc := 119) (tgt := 25) (hI := d_Match_lookForNearWords_119) (ht := by decide) ?_
    exact xr_drop (L9 := [xR 45, xZ, xR x2, xI x3, xL x4, xZ, xI x6, xI (x7 + 1), xZ, xZ]) (xdrs (xdrs (xdrs (xdrs (xdrs (xdrs (xdrs (xdrs (xdrz (xdrs xdr0)))))))))) hyp
  · replace hyp := hyp.1 q9
    have q2_ := q9
    clear q9
    refine xr_iload (pc := 70) (i := 6) (hI := d_Match_lookForNearWords_70) (hl := rfl) ?_
    refine xr_iload (pc := 72) (i := 8) (hI := d_Match_lookForNearWords_72) (hl := rfl) ?_
    refine xr_iconst (pc := 74) (hI := d_Match_lookForNearWords_74) (hr := by decide) ?_
    obtain ⟨c9, hyp⟩ := hyp
    refine xr_iadd (pc := 75) (hI := d_Match_lookForNearWords_75) (hr := c9) ?_
    refine xr_mmax (pc := 76) (index := 91) (hI := d_Match_lookForNearWords_76) w_684 w_502 w_25 w_mmax (Nat.le_add_left_of_le (by decide)) (Nat.le_of_ble_eq_true rfl) ?_
    have f3_ : x6 ≤ (max x6 (x8 + 1)) := (by clear hyp; omega)
    have f4_ : (x8 + 1) ≤ (max x6 (x8 + 1)) := (by clear hyp; omega)
    have f5_ : (max x6 (x8 + 1)) ≤ 2147483647 := (by clear hyp; omega)
    refine xr_istore (pc := 79) (i := 9) (L9 := [xR 45, xZ, xR x2, xI x3, xL x4, xZ, xI x6, xI x7, xI x8, xI (max x6 (x8 + 1))]) (hI := d_Match_lookForNearWords_79) (hn := Nat.le_of_ble_eq_true rfl) (hL9 := rfl) ?_
    exact xr_drop (L9 := [xR 45, xZ, xR x2, xI x3, xL x4, xZ, xZ, xI x7, xZ, xI (max x6 (x8 + 1))]) (xdrs (xdrs (xdrs (xdrs (xdrs (xdrs (xdrz (xdrs (xdrz (xdrs xdr0)))))))))) hyp
theorem d_Match_lookForNearWords_81 : decode prog_4_method_9_code 81 = .ok (.iload 9, 2) := by decide +kernel
theorem d_Match_lookForNearWords_83 : decode prog_4_method_9_code 83 = .ok (.iload 7, 2) := by decide +kernel
theorem d_Match_lookForNearWords_85 : decode prog_4_method_9_code 85 = .ok (.if_icmp .gt 25, 3) := by decide +kernel
theorem d_Match_lookForNearWords_110 : decode prog_4_method_9_code 110 = .ok (.iload 7, 2) := by decide +kernel
theorem d_Match_lookForNearWords_112 : decode prog_4_method_9_code 112 = .ok (.iconst 1, 1) := by decide +kernel
theorem d_Match_lookForNearWords_113 : decode prog_4_method_9_code 113 = .ok (.iadd, 1) := by decide +kernel
theorem d_Match_lookForNearWords_114 : decode prog_4_method_9_code 114 = .ok (.istore 6, 2) := by decide +kernel
theorem d_Match_lookForNearWords_88 : decode prog_4_method_9_code 88 = .ok (.aload_n 2, 1) := by decide +kernel
theorem d_Match_lookForNearWords_89 : decode prog_4_method_9_code 89 = .ok (.iload 9, 2) := by decide +kernel
theorem d_Match_lookForNearWords_91 : decode prog_4_method_9_code 91 = .ok (.laload, 1) := by decide +kernel
theorem d_Match_lookForNearWords_92 : decode prog_4_method_9_code 92 = .ok (.lload 4, 2) := by decide +kernel
theorem d_Match_lookForNearWords_94 : decode prog_4_method_9_code 94 = .ok (.lcmp, 1) := by decide +kernel
theorem d_Match_lookForNearWords_95 : decode prog_4_method_9_code 95 = .ok (.ifCond .ne 9, 3) := by decide +kernel
theorem d_Match_lookForNearWords_98 : decode prog_4_method_9_code 98 = .ok (.aload_n 0, 1) := by decide +kernel
theorem d_Match_lookForNearWords_99 : decode prog_4_method_9_code 99 = .ok (.iload 9, 2) := by decide +kernel
theorem d_Match_lookForNearWords_101 : decode prog_4_method_9_code 101 = .ok (.invokevirtual 66, 3) := by decide +kernel
theorem v_Match_lookForNearWords_81 {G : XG} {d : Nat} {h : XH} {Q : XV → XH → Prop} {X : Nat → XH → Prop} {x2 x3 x4 x7 x9 : Int} (F : xFix h) (hyp : ((x7 < x9 → (xwp G m_Match_lookForNearWords (d + 3) 25 [xR 45, xZ, xR x2, xI x3, xL x4, xZ, xI (x7 + 1), xI (x7 + 1), xZ, xZ] [] h Q X)) ∧ (¬ x7 < x9 → xtg h x2 = 101 ∧ 0 ≤ x9 ∧ x9 < (xln h x2) ∧ (((xpl h x2 x9) = x4 → (xwp G m_Match_hit (d + 2) 0 [xR 45, xI x9] [] h (fun v9 h9 => xwp G m_Match_lookForNearWords (d + 3) 104 [xR 45, xZ, xR x2, xI x3, xL x4, xZ, xZ, xI x7, xZ, xI x9] (xpush v9 []) h9 Q X) X)) ∧ (¬ (xpl h x2 x9) = x4 → (xwp G m_Match_lookForNearWords (d + 3) 104 [xR 45, xZ, xR x2, xI x3, xL x4, xZ, xZ, xI x7, xZ, xI x9] [] h Q X)))))) : xwp G m_Match_lookForNearWords (d + 3) 81 [xR 45, xZ, xR x2, xI x3, xL x4, xZ, xZ, xI x7, xZ, xI x9] [] h Q X := by
  have hnx9 : (93 : Int) ≤ xnx h := F.2.2
  refine xr_okL (fun hl9 => ?_)
  have r_x3 : -2147483648 ≤ x3 ∧ x3 ≤ 2147483647 := hl9 (xI x3) (.tail _ (.tail _ (.tail _ (.head _)))) (Nat.le_of_ble_eq_true rfl)
  have r_x4 : -9223372036854775808 ≤ x4 ∧ x4 ≤ 9223372036854775807 := hl9 (xL x4) (.tail _ (.tail _ (.tail _ (.tail _ (.head _))))) (Nat.le_of_ble_eq_true rfl)
  have r_x7 : -2147483648 ≤ x7 ∧ x7 ≤ 2147483647 := hl9 (xI x7) (.tail _ (.tail _ (.tail _ (.tail _ (.tail _ (.tail _ (.tail _ (.head _)))))))) (Nat.le_of_ble_eq_true rfl)
  have r_x9 : -2147483648 ≤ x9 ∧ x9 ≤ 2147483647 := hl9 (xI x9) (.tail _ (.tail _ (.tail _ (.tail _ (.tail _ (.tail _ (.tail _ (.tail _ (.tail _ (.head _)))))))))) (Nat.le_of_ble_eq_true rfl)
  refine xr_iload (pc := 81) (i := 9) (hI := d_Match_lookForNearWords_81) (hl := rfl) ?_
  refine xr_iload (pc := 83) (i := 7) (hI := d_Match_lookForNearWords_83) (hl := rfl) ?_
  refine xr_icmp_gt (pc := 85) (tgt := 110) (hI := d_Match_lookForNearWords_85) (ht := by decide) (fun q9 => ?_) (fun q9 => ?_)
  · replace hyp := hyp.1 q9
    have q1_ := q9
    clear q9
    refine xr_iload (pc := 110) (i := 7) (hI := d_Match_lookForNearWords_110) (hl := rfl) ?_
    refine xr_iconst (pc := 112) (hI := d_Match_lookForNearWords_112) (hr := by decide) ?_
    refine xr_iadd (pc := 113) (hI := d_Match_lookForNearWords_113) (hr := ⟨by clear hyp; omega, by clear hyp; omega⟩) ?_
    refine xr_istore (pc := 114) (i := 6) (L9 := [xR 45, xZ, xR x2, xI x3, xL x4, xZ, xI (x7 + 1), xI x7, xZ, xI x9]) (hI := d_Match_lookForNearWords_114) (hn := Nat.le_of_ble_eq_true rfl) (hL9 := rfl) ?_
    refine xr_iinc (pc := 116) (i := 7) (L9 := [xR 45, xZ, xR x2, xI x3, xL x4, xZ, xI (x7 + 1), xI (x7 + 1), xZ, xI x9]) (hI := d_Match_lookForNearWords_116) (hl := rfl) (hn := Nat.le_of_ble_eq_true rfl) (hr := ⟨by clear hyp; omega, by clear hyp; omega⟩) (hL9 := rfl) ?_
    refine xr_goto (pc := 119) (tgt := 25) (hI := d_Match_lookForNearWords_119) (ht := by decide) ?_
    exact xr_drop (L9 := [xR 45, xZ, xR x2, xI x3, xL x4, xZ, xI (x7 + 1), xI (x7 + 1), xZ, xZ]) (xdrs (xdrs (xdrs (xdrs (xdrs (xdrs (xdrs (xdrs (xdrs (xdrz xdr0)))))))))) hyp
  · replace hyp := hyp.2 q9
    have q1_ := q9
    clear q9
    refine xr_aload_n (pc := 88) (i := 2) (hI := d_Match_lookForNearWords_88) (hi := rfl) (hl := rfl) ?_
    refine xr_iload (pc := 89) (i := 9) (hI := d_Match_lookForNearWords_89) (hl := rfl) ?_
    obtain ⟨c9, hyp⟩ := hyp
    have t2_ := c9
    clear c9
    obtain ⟨c3_, hyp⟩ := hyp
    obtain ⟨c4_, hyp⟩ := hyp
    refine xg_laload (pc := 91) (v := (xpl h x2 x9)) (hI := d_Match_lookForNearWords_91) t2_ c3_ (xlt_of rfl c4_) rfl (fun f5_ => ?_)
    replace f5_ : -9223372036854775808 ≤ (xpl h x2 x9) ∧ (xpl h x2 x9) ≤ 9223372036854775807 := f5_
    refine xr_lload (pc := 92) (i := 4) (hI := d_Match_lookForNearWords_92) (hl := rfl) ?_
    refine xr_lcmp (pc := 94) (hI := d_Match_lookForNearWords_94) ?_
    refine xg_lif_ne (pc := 95) (tgt := 104) (hI := d_Match_lookForNearWords_95) (ht := by decide) (fun q9 => ?_) (fun q9 => ?_)
    · replace hyp := hyp.2 q9
      have q6_ := q9
      clear q9
      exact hyp
    · replace hyp := hyp.1 q9
      have q6_ := q9
      clear q9
      refine xr_aload_n (pc := 98) (i := 0) (hI := d_Match_lookForNearWords_98) (hi := rfl) (hl := rfl) ?_
      refine xr_iload (pc := 99) (i := 9) (hI := d_Match_lookForNearWords_99) (hl := rfl) ?_
      exact xq_callV (pc := 101) (index := 66) (K := m_Match_hit) (As := [xI x9]) (S := []) (L0 := [xR 45, xI x9]) (hI := d_Match_lookForNearWords_101) (hK := k_Match_hit) (hlk := w_641) (hnoM := rfl) (hS8 := Nat.le_of_ble_eq_true rfl) (ci := 3) (N := 6) (C := "BeaconIndex$Match") (T := xF3) (hc := rfl) (hci := Nat.le_of_ble_eq_true rfl) (htb := (ft_45 F)) (hinst := w_643) (hsel := sel_Match_hit) (hlen := Nat.le_of_ble_eq_true rfl) (hst := rfl) (hL0 := rfl)  hyp
theorem d_Match_lookForNearWords_104 : decode prog_4_method_9_code 104 = .ok (.iinc 9 1, 3) := by decide +kernel
theorem d_Match_lookForNearWords_107 : decode prog_4_method_9_code 107 = .ok (.goto (-26), 3) := by decide +kernel
theorem v_Match_lookForNearWords_104 {G : XG} {d : Nat} {h : XH} {Q : XV → XH → Prop} {X : Nat → XH → Prop} {x2 x3 x4 x7 x9 : Int} (F : xFix h) (hyp : xiR (x9 + 1) ∧ (xwp G m_Match_lookForNearWords (d + 3) 81 [xR 45, xZ, xR x2, xI x3, xL x4, xZ, xZ, xI x7, xZ, xI (x9 + 1)] [] h Q X)) : xwp G m_Match_lookForNearWords (d + 3) 104 [xR 45, xZ, xR x2, xI x3, xL x4, xZ, xZ, xI x7, xZ, xI x9] [] h Q X := by
  have hnx9 : (93 : Int) ≤ xnx h := F.2.2
  refine xr_okL (fun hl9 => ?_)
  have r_x3 : -2147483648 ≤ x3 ∧ x3 ≤ 2147483647 := hl9 (xI x3) (.tail _ (.tail _ (.tail _ (.head _)))) (Nat.le_of_ble_eq_true rfl)
  have r_x4 : -9223372036854775808 ≤ x4 ∧ x4 ≤ 9223372036854775807 := hl9 (xL x4) (.tail _ (.tail _ (.tail _ (.tail _ (.head _))))) (Nat.le_of_ble_eq_true rfl)
  have r_x7 : -2147483648 ≤ x7 ∧ x7 ≤ 2147483647 := hl9 (xI x7) (.tail _ (.tail _ (.tail _ (.tail _ (.tail _ (.tail _ (.tail _ (.head _)))))))) (Nat.le_of_ble_eq_true rfl)
  have r_x9 : -2147483648 ≤ x9 ∧ x9 ≤ 2147483647 := hl9 (xI x9) (.tail _ (.tail _ (.tail _ (.tail _ (.tail _ (.tail _ (.tail _ (.tail _ (.tail _ (.head _)))))))))) (Nat.le_of_ble_eq_true rfl)
  obtain ⟨c9, hyp⟩ := hyp
  refine xr_iinc (pc := 104) (i := 9) (L9 := [xR 45, xZ, xR x2, xI x3, xL x4, xZ, xZ, xI x7, xZ, xI (x9 + 1)]) (hI := d_Match_lookForNearWords_104) (hl := rfl) (hn := Nat.le_of_ble_eq_true rfl) (hr := c9) (hL9 := rfl) ?_
  refine xr_goto (pc := 107) (tgt := 81) (hI := d_Match_lookForNearWords_107) (ht := by decide) ?_
  exact hyp
abbrev m_Match_look : XM := (⟨"BeaconIndex$Match", "look", "(LBeaconIndex$Part;[J)V"⟩, prog_4_method_3_code, 3, none, [])
theorem d_Match_look_0 : decode prog_4_method_3_code 0 = .ok (.aload_n 1, 1) := by decide +kernel
theorem d_Match_look_1 : decode prog_4_method_3_code 1 = .ok (.getfield 32, 3) := by decide +kernel
theorem w_229 : Cond.fieldLink "BeaconIndex$Match" 32 "BeaconIndex$Part" "kind" "I" ∈ lw_tbl := List.mem_append_right _ (List.mem_of_getElem? (i := 229) (by decide +kernel))
theorem d_Match_look_4 : decode prog_4_method_3_code 4 = .ok (.tableswitch 85 0 2 #[28, 40, 49], 28) := by decide +kernel
theorem d_Match_look_89 : decode prog_4_method_3_code 89 = .ok (.return_, 1) := by decide +kernel
theorem d_Match_look_32 : decode prog_4_method_3_code 32 = .ok (.aload_n 0, 1) := by decide +kernel
theorem d_Match_look_33 : decode prog_4_method_3_code 33 = .ok (.aload_n 1, 1) := by decide +kernel
theorem d_Match_look_34 : decode prog_4_method_3_code 34 = .ok (.invokevirtual 37, 3) := by decide +kernel
theorem d_Match_look_44 : decode prog_4_method_3_code 44 = .ok (.aload_n 0, 1) := by decide +kernel
theorem d_Match_look_45 : decode prog_4_method_3_code 45 = .ok (.aload_n 1, 1) := by decide +kernel
theorem d_Match_look_46 : decode prog_4_method_3_code 46 = .ok (.aload_n 2, 1) := by decide +kernel
theorem d_Match_look_47 : decode prog_4_method_3_code 47 = .ok (.invokevirtual 45, 3) := by decide +kernel
theorem k_Match_lookForBeginning : xCal m_Match_lookForBeginning 2 := ⟨List.mem_append_right _ (List.mem_of_getElem? (i := 648) (by decide +kernel)), w_14, Nat.le_of_ble_eq_true rfl, ⟨by decide +kernel, by decide +kernel⟩, by decide +kernel, by decide +kernel, rfl⟩
theorem w_645 : Cond.methodLink "BeaconIndex$Match" 45 ⟨"BeaconIndex$Match", "lookForBeginning", "(LBeaconIndex$Part;[J)V"⟩ ∈ lw_tbl := List.mem_append_right _ (List.mem_of_getElem? (i := 645) (by decide +kernel))
theorem w_647 : Cond.instanceMethod ⟨"BeaconIndex$Match", "lookForBeginning", "(LBeaconIndex$Part;[J)V"⟩ ∈ lw_tbl := List.mem_append_right _ (List.mem_of_getElem? (i := 647) (by decide +kernel))
theorem sel_Match_lookForBeginning : Cond.selects "BeaconIndex$Match" ⟨"BeaconIndex$Match", "lookForBeginning", "(LBeaconIndex$Part;[J)V"⟩ ⟨"BeaconIndex$Match", "lookForBeginning", "(LBeaconIndex$Part;[J)V"⟩ ∈ lw_tbl := List.mem_append_left _ (by decide +kernel)
theorem d_Match_look_53 : decode prog_4_method_3_code 53 = .ok (.aload_n 1, 1) := by decide +kernel
theorem d_Match_look_54 : decode prog_4_method_3_code 54 = .ok (.getfield 49, 3) := by decide +kernel
theorem d_Match_look_57 : decode prog_4_method_3_code 57 = .ok (.ifCond .ne 15, 3) := by decide +kernel
theorem d_Match_look_72 : decode prog_4_method_3_code 72 = .ok (.aload_n 0, 1) := by decide +kernel
theorem d_Match_look_73 : decode prog_4_method_3_code 73 = .ok (.aload_n 1, 1) := by decide +kernel
theorem d_Match_look_74 : decode prog_4_method_3_code 74 = .ok (.getfield 52, 3) := by decide +kernel
theorem d_Match_look_77 : decode prog_4_method_3_code 77 = .ok (.invokevirtual 59, 3) := by decide +kernel
theorem k_Match_wantAll : xCal m_Match_wantAll 1 := ⟨List.mem_append_right _ (List.mem_of_getElem? (i := 667) (by decide +kernel)), w_14, Nat.le_of_ble_eq_true rfl, ⟨by decide +kernel, by decide +kernel⟩, by decide +kernel, by decide +kernel, rfl⟩
theorem w_664 : Cond.methodLink "BeaconIndex$Match" 59 ⟨"BeaconIndex$Match", "wantAll", "([J)V"⟩ ∈ lw_tbl := List.mem_append_right _ (List.mem_of_getElem? (i := 664) (by decide +kernel))
theorem w_666 : Cond.instanceMethod ⟨"BeaconIndex$Match", "wantAll", "([J)V"⟩ ∈ lw_tbl := List.mem_append_right _ (List.mem_of_getElem? (i := 666) (by decide +kernel))
theorem sel_Match_wantAll : Cond.selects "BeaconIndex$Match" ⟨"BeaconIndex$Match", "wantAll", "([J)V"⟩ ⟨"BeaconIndex$Match", "wantAll", "([J)V"⟩ ∈ lw_tbl := List.mem_append_left _ (by decide +kernel)
theorem d_Match_look_60 : decode prog_4_method_3_code 60 = .ok (.aload_n 0, 1) := by decide +kernel
theorem d_Match_look_61 : decode prog_4_method_3_code 61 = .ok (.aload_n 1, 1) := by decide +kernel
theorem d_Match_look_62 : decode prog_4_method_3_code 62 = .ok (.getfield 52, 3) := by decide +kernel
theorem d_Match_look_65 : decode prog_4_method_3_code 65 = .ok (.aload_n 2, 1) := by decide +kernel
theorem d_Match_look_66 : decode prog_4_method_3_code 66 = .ok (.invokevirtual 55, 3) := by decide +kernel
theorem k_Match_lookForPhrase : xCal m_Match_lookForPhrase 2 := ⟨List.mem_append_right _ (List.mem_of_getElem? (i := 660) (by decide +kernel)), w_14, Nat.le_of_ble_eq_true rfl, ⟨by decide +kernel, by decide +kernel⟩, by decide +kernel, by decide +kernel, rfl⟩
theorem w_657 : Cond.methodLink "BeaconIndex$Match" 55 ⟨"BeaconIndex$Match", "lookForPhrase", "([J[J)V"⟩ ∈ lw_tbl := List.mem_append_right _ (List.mem_of_getElem? (i := 657) (by decide +kernel))
theorem w_659 : Cond.instanceMethod ⟨"BeaconIndex$Match", "lookForPhrase", "([J[J)V"⟩ ∈ lw_tbl := List.mem_append_right _ (List.mem_of_getElem? (i := 659) (by decide +kernel))
theorem sel_Match_lookForPhrase : Cond.selects "BeaconIndex$Match" ⟨"BeaconIndex$Match", "lookForPhrase", "([J[J)V"⟩ ⟨"BeaconIndex$Match", "lookForPhrase", "([J[J)V"⟩ ∈ lw_tbl := List.mem_append_left _ (by decide +kernel)
theorem v_Match_look_0 {G : XG} {d : Nat} {h : XH} {Q : XV → XH → Prop} {X : Nat → XH → Prop} {x1 x2 : Int} (F : xFix h) (hyp : xtg h x1 = 4 ∧ (((xpl h x1 5) < 0 ∨ 2 < (xpl h x1 5) → (Q xN h)) ∧ ((xpl h x1 5) = 0 → (xwp G m_Part_firstWord (d + 3) 0 [xR x1, xZ] [] h (fun v9 h9 => xwp G m_Match_look (d + 4) 37 [xZ, xZ, xR x2] (xpush v9 [xR 45]) h9 Q X) X)) ∧ ((xpl h x1 5) = 1 → (xwp G m_Match_lookForBeginning (d + 3) 0 [xR 45, xR x1, xR x2, xZ] [] h (fun v9 h9 => xwp G m_Match_look (d + 4) 50 [xZ, xZ, xZ] (xpush v9 []) h9 Q X) X)) ∧ ((xpl h x1 5) = 2 → (((xpl h x1 7) = 0 → (xwp G m_Match_lookForPhrase (d + 3) 0 [xR 45, xR (xpl h x1 4), xR x2, xZ] [] h (fun v9 h9 => xwp G m_Match_look (d + 4) 69 [xZ, xZ, xZ] (xpush v9 []) h9 Q X) X)) ∧ (¬ (xpl h x1 7) = 0 → (xwp G m_Match_wantAll (d + 3) 0 [xR 45, xR (xpl h x1 4), xZ] [] h (fun v9 h9 => xwp G m_Match_look (d + 4) 80 [xR 45, xR x1, xR x2] (xpush v9 []) h9 Q X) X)))))) : xwp G m_Match_look (d + 4) 0 [xR 45, xR x1, xR x2] [] h Q X := by
  have hnx9 : (93 : Int) ≤ xnx h := F.2.2
  refine xr_aload_n (pc := 0) (i := 1) (hI := d_Match_look_0) (hi := rfl) (hl := rfl) ?_
  obtain ⟨c9, hyp⟩ := hyp
  have t1_ := c9
  clear c9
  refine xg_getf (pc := 1) (ci := 4) (k := 5) (N := 13) (v9 := 0) (v := (xpl h x1 5)) (T := xF4) (hI := d_Match_look_1) (hw := w_229) rfl xi4 (Or.inl rfl) (Nat.le_of_ble_eq_true rfl) (Nat.le_of_ble_eq_true rfl) rfl t1_ rfl (fun f2_ => ?_)
  replace f2_ : -2147483648 ≤ (xpl h x1 5) ∧ (xpl h x1 5) ≤ 2147483647 := f2_
  by_cases q9 : (xpl h x1 5) < 0 ∨ 2 < (xpl h x1 5)
  · replace hyp := hyp.1 q9
    refine xr_tsw_out (pc := 4) (tgt := 89) (hI := d_Match_look_4) q9 (ht := by decide) ?_
    refine xr_return (S := []) (pc := 89) (hI := d_Match_look_89) (hr := rfl) ?_
    exact hyp
  replace hyp := hyp.2
  have q8 : 0 ≤ (xpl h x1 5) ∧ (xpl h x1 5) ≤ 2 := ⟨by clear hyp; omega, by clear hyp; omega⟩
  by_cases q9 : (xpl h x1 5) = 0
  · replace hyp := hyp.1 q9
    refine xr_tsw_in (pc := 4) 0 (tgt := 32) (hI := d_Match_look_4) (by clear hyp; omega) q8.2 rfl (ht := by decide) ?_
    clear q8
    refine xr_aload_n (pc := 32) (i := 0) (hI := d_Match_look_32) (hi := rfl) (hl := rfl) ?_
    refine xr_aload_n (pc := 33) (i := 1) (hI := d_Match_look_33) (hi := rfl) (hl := rfl) ?_
    exact xq_callV (pc := 34) (index := 37) (K := m_Part_firstWord) (As := []) (S := [xR 45]) (L0 := [xR x1, xZ]) (hI := d_Match_look_34) (hK := k_Part_firstWord) (hlk := w_633) (hnoM := rfl) (hS8 := Nat.le_of_ble_eq_true rfl) (ci := 4) (N := 13) (C := "BeaconIndex$Part") (T := xF4) (hc := rfl) (hci := Nat.le_of_ble_eq_true rfl) (htb := t1_) (hinst := w_634) (hsel := w_635) (hlen := Nat.le_of_ble_eq_true rfl) (hst := rfl) (hL0 := rfl)  (xwp_mono hyp (fun v9 h9 q9 => xr_drop (L9 := [xZ, xZ, xR x2]) (xdrz (xdrz (xdrs xdr0))) q9) (fun _ _ z9 => z9))
  replace hyp := hyp.2
  by_cases q9 : (xpl h x1 5) = 1
  · replace hyp := hyp.1 q9
    refine xr_tsw_in (pc := 4) 1 (tgt := 44) (hI := d_Match_look_4) (by clear hyp; omega) q8.2 rfl (ht := by decide) ?_
    clear q8
    refine xr_aload_n (pc := 44) (i := 0) (hI := d_Match_look_44) (hi := rfl) (hl := rfl) ?_
    refine xr_aload_n (pc := 45) (i := 1) (hI := d_Match_look_45) (hi := rfl) (hl := rfl) ?_
    refine xr_aload_n (pc := 46) (i := 2) (hI := d_Match_look_46) (hi := rfl) (hl := rfl) ?_
    exact xq_callV (pc := 47) (index := 45) (K := m_Match_lookForBeginning) (As := [xR x1, xR x2]) (S := []) (L0 := [xR 45, xR x1, xR x2, xZ]) (hI := d_Match_look_47) (hK := k_Match_lookForBeginning) (hlk := w_645) (hnoM := rfl) (hS8 := Nat.le_of_ble_eq_true rfl) (ci := 3) (N := 6) (C := "BeaconIndex$Match") (T := xF3) (hc := rfl) (hci := Nat.le_of_ble_eq_true rfl) (htb := (ft_45 F)) (hinst := w_647) (hsel := sel_Match_lookForBeginning) (hlen := Nat.le_of_ble_eq_true rfl) (hst := rfl) (hL0 := rfl)  (xwp_mono hyp (fun v9 h9 q9 => xr_drop (L9 := [xZ, xZ, xZ]) (xdrz (xdrz (xdrz xdr0))) q9) (fun _ _ z9 => z9))
  replace hyp := hyp.2
  have q9 : (xpl h x1 5) = 2 := (by clear hyp; omega)
  replace hyp := hyp q9
  refine xr_tsw_in (pc := 4) 2 (tgt := 53) (hI := d_Match_look_4) (by clear hyp; omega) q8.2 rfl (ht := by decide) ?_
  clear q8
  refine xr_aload_n (pc := 53) (i := 1) (hI := d_Match_look_53) (hi := rfl) (hl := rfl) ?_
  refine xg_getf (pc := 54) (ci := 4) (k := 7) (N := 13) (v9 := 0) (v := (xpl h x1 7)) (T := xF4) (hI := d_Match_look_54) (hw := w_236) rfl xi4 (Or.inl rfl) (Nat.le_of_ble_eq_true rfl) (Nat.le_of_ble_eq_true rfl) rfl t1_ rfl (fun f3_ => ?_)
  replace f3_ : -2147483648 ≤ (xpl h x1 7) ∧ (xpl h x1 7) ≤ 2147483647 := f3_
  refine xr_if_ne (pc := 57) (tgt := 72) (hI := d_Match_look_57) (ht := by decide) (fun q9 => ?_) (fun q9 => ?_)
  · replace hyp := hyp.2 q9
    have q4_ := q9
    clear q9
    refine xr_aload_n (pc := 72) (i := 0) (hI := d_Match_look_72) (hi := rfl) (hl := rfl) ?_
    refine xr_aload_n (pc := 73) (i := 1) (hI := d_Match_look_73) (hi := rfl) (hl := rfl) ?_
    refine xg_getf (pc := 74) (ci := 4) (k := 4) (N := 13) (v9 := 2) (v := (xpl h x1 4)) (T := xF4) (hI := d_Match_look_74) (hw := w_226) rfl xi4 (Or.inl rfl) (Nat.le_of_ble_eq_true rfl) (Nat.le_of_ble_eq_true rfl) rfl t1_ rfl (fun f5_ => ?_)
    clear f5_
    exact xq_callV (pc := 77) (index := 59) (K := m_Match_wantAll) (As := [xR (xpl h x1 4)]) (S := []) (L0 := [xR 45, xR (xpl h x1 4), xZ]) (hI := d_Match_look_77) (hK := k_Match_wantAll) (hlk := w_664) (hnoM := rfl) (hS8 := Nat.le_of_ble_eq_true rfl) (ci := 3) (N := 6) (C := "BeaconIndex$Match") (T := xF3) (hc := rfl) (hci := Nat.le_of_ble_eq_true rfl) (htb := (ft_45 F)) (hinst := w_666) (hsel := sel_Match_wantAll) (hlen := Nat.le_of_ble_eq_true rfl) (hst := rfl) (hL0 := rfl)  hyp
  · replace hyp := hyp.1 q9
    have q4_ := q9
    clear q9
    refine xr_aload_n (pc := 60) (i := 0) (hI := d_Match_look_60) (hi := rfl) (hl := rfl) ?_
    refine xr_aload_n (pc := 61) (i := 1) (hI := d_Match_look_61) (hi := rfl) (hl := rfl) ?_
    refine xg_getf (pc := 62) (ci := 4) (k := 4) (N := 13) (v9 := 2) (v := (xpl h x1 4)) (T := xF4) (hI := d_Match_look_62) (hw := w_226) rfl xi4 (Or.inl rfl) (Nat.le_of_ble_eq_true rfl) (Nat.le_of_ble_eq_true rfl) rfl t1_ rfl (fun f6_ => ?_)
    clear f6_
    refine xr_aload_n (pc := 65) (i := 2) (hI := d_Match_look_65) (hi := rfl) (hl := rfl) ?_
    exact xq_callV (pc := 66) (index := 55) (K := m_Match_lookForPhrase) (As := [xR (xpl h x1 4), xR x2]) (S := []) (L0 := [xR 45, xR (xpl h x1 4), xR x2, xZ]) (hI := d_Match_look_66) (hK := k_Match_lookForPhrase) (hlk := w_657) (hnoM := rfl) (hS8 := Nat.le_of_ble_eq_true rfl) (ci := 3) (N := 6) (C := "BeaconIndex$Match") (T := xF3) (hc := rfl) (hci := Nat.le_of_ble_eq_true rfl) (htb := (ft_45 F)) (hinst := w_659) (hsel := sel_Match_lookForPhrase) (hlen := Nat.le_of_ble_eq_true rfl) (hst := rfl) (hL0 := rfl)  (xwp_mono hyp (fun v9 h9 q9 => xr_drop (L9 := [xZ, xZ, xZ]) (xdrz (xdrz (xdrz xdr0))) q9) (fun _ _ z9 => z9))
theorem d_Match_look_37 : decode prog_4_method_3_code 37 = .ok (.aload_n 2, 1) := by decide +kernel
theorem d_Match_look_38 : decode prog_4_method_3_code 38 = .ok (.invokevirtual 41, 3) := by decide +kernel
theorem k_Match_lookForWord : xCal m_Match_lookForWord 2 := ⟨List.mem_append_right _ (List.mem_of_getElem? (i := 640) (by decide +kernel)), w_14, Nat.le_of_ble_eq_true rfl, ⟨by decide +kernel, by decide +kernel⟩, by decide +kernel, by decide +kernel, rfl⟩
theorem w_637 : Cond.methodLink "BeaconIndex$Match" 41 ⟨"BeaconIndex$Match", "lookForWord", "(J[J)V"⟩ ∈ lw_tbl := List.mem_append_right _ (List.mem_of_getElem? (i := 637) (by decide +kernel))
theorem w_639 : Cond.instanceMethod ⟨"BeaconIndex$Match", "lookForWord", "(J[J)V"⟩ ∈ lw_tbl := List.mem_append_right _ (List.mem_of_getElem? (i := 639) (by decide +kernel))
theorem sel_Match_lookForWord : Cond.selects "BeaconIndex$Match" ⟨"BeaconIndex$Match", "lookForWord", "(J[J)V"⟩ ⟨"BeaconIndex$Match", "lookForWord", "(J[J)V"⟩ ∈ lw_tbl := List.mem_append_left _ (by decide +kernel)
theorem v_Match_look_37 {G : XG} {d : Nat} {h : XH} {Q : XV → XH → Prop} {X : Nat → XH → Prop} {x2 s0 s1 : Int} (F : xFix h) (hyp : xtg h s1 = 3 ∧ (xwp G m_Match_lookForWord (d + 3) 0 [xR s1, xL s0, xZ, xR x2, xZ] [] h (fun v9 h9 => xwp G m_Match_look (d + 4) 41 [xZ, xZ, xZ] (xpush v9 []) h9 Q X) X)) : xwp G m_Match_look (d + 4) 37 [xZ, xZ, xR x2] [xL s0, xR s1] h Q X := by
  have hnx9 : (93 : Int) ≤ xnx h := F.2.2
  refine xr_okS (fun hs9 => ?_)
  have r_s0 : -9223372036854775808 ≤ s0 ∧ s0 ≤ 9223372036854775807 := hs9 (xL s0) (.head _)
  refine xr_aload_n (pc := 37) (i := 2) (hI := d_Match_look_37) (hi := rfl) (hl := rfl) ?_
  obtain ⟨c9, hyp⟩ := hyp
  have t1_ := c9
  clear c9
  exact xq_callV (pc := 38) (index := 41) (K := m_Match_lookForWord) (As := [xL s0, xR x2]) (S := []) (L0 := [xR s1, xL s0, xZ, xR x2, xZ]) (hI := d_Match_look_38) (hK := k_Match_lookForWord) (hlk := w_637) (hnoM := rfl) (hS8 := Nat.le_of_ble_eq_true rfl) (ci := 3) (N := 6) (C := "BeaconIndex$Match") (T := xF3) (hc := rfl) (hci := Nat.le_of_ble_eq_true rfl) (htb := t1_) (hinst := w_639) (hsel := sel_Match_lookForWord) (hlen := Nat.le_of_ble_eq_true rfl) (hst := rfl) (hL0 := rfl)  (xwp_mono hyp (fun v9 h9 q9 => xr_drop (L9 := [xZ, xZ, xZ]) (xdrs (xdrs (xdrz xdr0))) q9) (fun _ _ z9 => z9))
theorem d_Match_look_41 : decode prog_4_method_3_code 41 = .ok (.goto 48, 3) := by decide +kernel
theorem v_Match_look_41 {G : XG} {d : Nat} {h : XH} {Q : XV → XH → Prop} {X : Nat → XH → Prop} (F : xFix h) (hyp : (Q xN h)) : xwp G m_Match_look (d + 4) 41 [xZ, xZ, xZ] [] h Q X := by
  have hnx9 : (93 : Int) ≤ xnx h := F.2.2
  refine xr_goto (pc := 41) (tgt := 89) (hI := d_Match_look_41) (ht := by decide) ?_
  refine xr_return (S := []) (pc := 89) (hI := d_Match_look_89) (hr := rfl) ?_
  exact hyp
theorem d_Match_look_50 : decode prog_4_method_3_code 50 = .ok (.goto 39, 3) := by decide +kernel
theorem v_Match_look_50 {G : XG} {d : Nat} {h : XH} {Q : XV → XH → Prop} {X : Nat → XH → Prop} (F : xFix h) (hyp : (Q xN h)) : xwp G m_Match_look (d + 4) 50 [xZ, xZ, xZ] [] h Q X := by
  have hnx9 : (93 : Int) ≤ xnx h := F.2.2
  refine xr_goto (pc := 50) (tgt := 89) (hI := d_Match_look_50) (ht := by decide) ?_
  refine xr_return (S := []) (pc := 89) (hI := d_Match_look_89) (hr := rfl) ?_
  exact hyp
theorem d_Match_look_69 : decode prog_4_method_3_code 69 = .ok (.goto 20, 3) := by decide +kernel
theorem v_Match_look_69 {G : XG} {d : Nat} {h : XH} {Q : XV → XH → Prop} {X : Nat → XH → Prop} (F : xFix h) (hyp : (Q xN h)) : xwp G m_Match_look (d + 4) 69 [xZ, xZ, xZ] [] h Q X := by
  have hnx9 : (93 : Int) ≤ xnx h := F.2.2
  refine xr_goto (pc := 69) (tgt := 89) (hI := d_Match_look_69) (ht := by decide) ?_
  refine xr_return (S := []) (pc := 89) (hI := d_Match_look_89) (hr := rfl) ?_
  exact hyp
theorem d_Match_look_80 : decode prog_4_method_3_code 80 = .ok (.aload_n 0, 1) := by decide +kernel
theorem d_Match_look_81 : decode prog_4_method_3_code 81 = .ok (.aload_n 1, 1) := by decide +kernel
theorem d_Match_look_82 : decode prog_4_method_3_code 82 = .ok (.aload_n 2, 1) := by decide +kernel
theorem d_Match_look_83 : decode prog_4_method_3_code 83 = .ok (.invokevirtual 63, 3) := by decide +kernel
theorem k_Match_lookForNearWords : xCal m_Match_lookForNearWords 2 := ⟨List.mem_append_right _ (List.mem_of_getElem? (i := 679) (by decide +kernel)), w_14, Nat.le_of_ble_eq_true rfl, ⟨by decide +kernel, by decide +kernel⟩, by decide +kernel, by decide +kernel, rfl⟩
theorem w_676 : Cond.methodLink "BeaconIndex$Match" 63 ⟨"BeaconIndex$Match", "lookForNearWords", "(LBeaconIndex$Part;[J)V"⟩ ∈ lw_tbl := List.mem_append_right _ (List.mem_of_getElem? (i := 676) (by decide +kernel))
theorem w_678 : Cond.instanceMethod ⟨"BeaconIndex$Match", "lookForNearWords", "(LBeaconIndex$Part;[J)V"⟩ ∈ lw_tbl := List.mem_append_right _ (List.mem_of_getElem? (i := 678) (by decide +kernel))
theorem sel_Match_lookForNearWords : Cond.selects "BeaconIndex$Match" ⟨"BeaconIndex$Match", "lookForNearWords", "(LBeaconIndex$Part;[J)V"⟩ ⟨"BeaconIndex$Match", "lookForNearWords", "(LBeaconIndex$Part;[J)V"⟩ ∈ lw_tbl := List.mem_append_left _ (by decide +kernel)
theorem v_Match_look_80 {G : XG} {d : Nat} {h : XH} {Q : XV → XH → Prop} {X : Nat → XH → Prop} {x1 x2 : Int} (F : xFix h) (hyp : (xwp G m_Match_lookForNearWords (d + 3) 0 [xR 45, xR x1, xR x2, xZ, xZ, xZ, xZ, xZ, xZ, xZ] [] h (fun v9 h9 => xwp G m_Match_look (d + 4) 86 [xZ, xZ, xZ] (xpush v9 []) h9 Q X) X)) : xwp G m_Match_look (d + 4) 80 [xR 45, xR x1, xR x2] [] h Q X := by
  have hnx9 : (93 : Int) ≤ xnx h := F.2.2
  refine xr_aload_n (pc := 80) (i := 0) (hI := d_Match_look_80) (hi := rfl) (hl := rfl) ?_
  refine xr_aload_n (pc := 81) (i := 1) (hI := d_Match_look_81) (hi := rfl) (hl := rfl) ?_
  refine xr_aload_n (pc := 82) (i := 2) (hI := d_Match_look_82) (hi := rfl) (hl := rfl) ?_
  exact xq_callV (pc := 83) (index := 63) (K := m_Match_lookForNearWords) (As := [xR x1, xR x2]) (S := []) (L0 := [xR 45, xR x1, xR x2, xZ, xZ, xZ, xZ, xZ, xZ, xZ]) (hI := d_Match_look_83) (hK := k_Match_lookForNearWords) (hlk := w_676) (hnoM := rfl) (hS8 := Nat.le_of_ble_eq_true rfl) (ci := 3) (N := 6) (C := "BeaconIndex$Match") (T := xF3) (hc := rfl) (hci := Nat.le_of_ble_eq_true rfl) (htb := (ft_45 F)) (hinst := w_678) (hsel := sel_Match_lookForNearWords) (hlen := Nat.le_of_ble_eq_true rfl) (hst := rfl) (hL0 := rfl)  (xwp_mono hyp (fun v9 h9 q9 => xr_drop (L9 := [xZ, xZ, xZ]) (xdrz (xdrz (xdrz xdr0))) q9) (fun _ _ z9 => z9))
theorem d_Match_look_86 : decode prog_4_method_3_code 86 = .ok (.goto 3, 3) := by decide +kernel
theorem v_Match_look_86 {G : XG} {d : Nat} {h : XH} {Q : XV → XH → Prop} {X : Nat → XH → Prop} (F : xFix h) (hyp : (Q xN h)) : xwp G m_Match_look (d + 4) 86 [xZ, xZ, xZ] [] h Q X := by
  have hnx9 : (93 : Int) ≤ xnx h := F.2.2
  refine xr_goto (pc := 86) (tgt := 89) (hI := d_Match_look_86) (ht := by decide) ?_
  refine xr_return (S := []) (pc := 89) (hI := d_Match_look_89) (hr := rfl) ?_
  exact hyp
/-- the places of a window of the greatest width wd, behind n places -/
def wnL (row : List Int) (wd n : Nat) : List Int := (row.take n).drop (n - 1 - wd)
def metL (ws row : List Int) (wd n : Nat) : Bool := decide (∀ w ∈ ws, w ≠ 0 → ws.count w ≤ (wnL row wd n).count w)
def neF (ws row : List Int) (wd : Nat) (ld : Int) : Nat → Nat → Nat → MR → MR
  | 0, _, _, r => r
  | m + 1, n, jd, r => if metL ws row wd (n + 1) = true then neF ws row wd ld m (n + 1) (n + 1) (scF (fun k => decide (rwA row k = ld)) (n + 1 - max jd (n - wd)) (max jd (n - wd)) r) else neF ws row wd ld m (n + 1) jd r
theorem wn_step {row : List Int} {wd n : Nat} (hn : n < row.length) (x : Int) : (wnL row wd (n + 1)).count x + (if wd + 1 ≤ n ∧ rwA row (n - wd - 1) = x then 1 else 0) = (wnL row wd n).count x + (if rwA row n = x then 1 else 0) := by
  have hr : ∀ k, k < row.length → row[k]? = some (rwA row k) := fun k hk => by unfold rwA; rw [List.getElem?_eq_getElem hk]; rfl
  have h1 : row.take (n + 1) = row.take n ++ [rwA row n] := by rw [List.take_succ, hr n hn]; rfl
  have hl : (row.take n).length = n := by rw [List.length_take]; omega
  have h2 : wnL row wd (n + 1) = (row.take n).drop (n - wd) ++ [rwA row n] := by
    unfold wnL
    rw [h1, show n + 1 - 1 - wd = n - wd by omega, List.drop_append_of_le_length (by omega)]
  have h3 : (wnL row wd (n + 1)).count x = ((row.take n).drop (n - wd)).count x + (if rwA row n = x then 1 else 0) := by
    rw [h2, List.count_append, List.count_singleton]
    congr 1
    by_cases z : rwA row n = x
    · rw [if_pos z, if_pos (by rw [z]; exact BEq.rfl)]
    · rw [if_neg z, if_neg (by rw [beq_iff_eq]; exact z)]
  rw [h3]
  by_cases y : wd + 1 ≤ n
  · have h4 : wnL row wd n = rwA row (n - wd - 1) :: (row.take n).drop (n - wd) := by
      unfold wnL
      have hat : (row.take n)[n - 1 - wd]? = some (rwA row (n - wd - 1)) := by
        rw [List.getElem?_take, if_pos (by omega), show n - 1 - wd = n - wd - 1 by omega]
        exact hr _ (by omega)
      obtain ⟨a1, a2⟩ := List.getElem?_eq_some_iff.mp hat
      rw [List.drop_eq_getElem_cons a1, a2, show n - 1 - wd + 1 = n - wd by omega]
    rw [h4, List.count_cons]
    by_cases z : rwA row (n - wd - 1) = x
    · rw [if_pos (show wd + 1 ≤ n ∧ rwA row (n - wd - 1) = x from ⟨y, z⟩), if_pos (show (rwA row (n - wd - 1) == x) = true by rw [z]; exact BEq.rfl)]; omega
    · rw [if_neg (show ¬ (wd + 1 ≤ n ∧ rwA row (n - wd - 1) = x) from fun w => z w.2), if_neg (show ¬ (rwA row (n - wd - 1) == x) = true by rw [beq_iff_eq]; exact z)]; omega
  · rw [if_neg (show ¬ (wd + 1 ≤ n ∧ rwA row (n - wd - 1) = x) from fun w => y w.1)]
    unfold wnL
    rw [show n - 1 - wd = n - wd by omega]
    omega
theorem wn_le (row : List Int) (wd n : Nat) (x : Int) : (wnL row wd n).count x ≤ row.length := by
  refine Nat.le_trans List.count_le_length ?_
  unfold wnL
  rw [List.length_drop, List.length_take]; omega
theorem met_iff {ws row W : List Int} {wd n : Nat} {g : Int → Int} (w1 : ∀ x, x ∈ W ↔ x ≠ 0 ∧ x ∈ ws) (w2 : ∀ x ∈ W, g x = (ws.count x : Int) - (wnL row wd n).count x) : unm g W = 0 ↔ metL ws row wd n = true := by
  rw [unm_0]
  unfold metL
  rw [decide_eq_true_iff]
  constructor
  · intro h w hw h0
    have hm := (w1 w).mpr ⟨h0, hw⟩
    have := h w hm
    have := w2 w hm
    omega
  · intro h w hm
    have := h w ((w1 w).mp hm).2 ((w1 w).mp hm).1
    have := w2 w hm
    omega
theorem MatR.hit {h h' : XH} {W : List Int} {g : Int → Int} (F : xFix h) (M : MatR h W g) (e : xsm (fun c => c = 45) h h') (f : ∀ k, k ≠ 4 → k ≠ 5 → xpl h' 45 k = xpl h 45 k) : MatR h' W g := by
  have hnx := F.nx
  obtain ⟨m1, m2, m3, m4, m5⟩ := M
  refine ⟨by rw [f 2 (by decide) (by decide)]; exact m1, m2, m3, fun i w hi => ?_, by rw [f 3 (by decide) (by decide)]; exact m5⟩
  rw [e.pl (by omega) (by decide), e.pl (by omega) (by decide)]
  exact m4 i w hi
theorem MatT.fr {h h' : XH} {t : MR} (T : MatT h t) (f : ∀ k, k ≠ 2 → k ≠ 3 → xpl h' 45 k = xpl h 45 k) : MatT h' t := ⟨by rw [f 4 (by decide) (by decide)]; exact T.1, by rw [f 5 (by decide) (by decide)]; exact T.2⟩
theorem scF_rng (P : Nat → Bool) : ∀ (m k : Nat) (r : MR), r.1 ≤ (scF P m k r).1 ∧ (scF P m k r).1 ≤ r.1 + m := by
  intro m
  induction m with
  | zero => intro k r; exact ⟨Int.le_refl _, by show r.1 ≤ r.1 + 0; omega⟩
  | succ m ih =>
    intro k r
    have := ih (k + 1) (if P k = true then htF r k else r)
    have e : scF P (m + 1) k r = scF P m (k + 1) (if P k = true then htF r k else r) := rfl
    rw [e]
    have : r.1 ≤ (if P k = true then htF r k else r).1 ∧ (if P k = true then htF r k else r).1 ≤ r.1 + 1 := by
      split
      · unfold htF; exact ⟨by show r.1 ≤ r.1 + 1; omega, Int.le_refl _⟩
      · omega
    omega
theorem s_Match_lookForNearWords {G : XG} {d : Nat} {h : XH} {Q : XV → XH → Prop} {X : Nat → XH → Prop} {p r : Int} {row W : List Int} {g : Int → Int} {pt : PT} {t : MR} {wd : Nat} (F : xFix h) (PR : PartR h p pt) (R : RowOK h r row) (T : MatT h t) (M : MatR h W g) (w1 : ∀ x, x ∈ W ↔ x ≠ 0 ∧ x ∈ pt.2) (w2 : ∀ x ∈ W, g x = pt.2.count x) (hl : pt.2.length ≤ 40) (hwd : (wd : Int) = pt.1 7 + pt.2.length - 1) (hw2 : wd ≤ 1000) (h0 : 0 ≤ t.1) (h1 : t.1 + row.length ≤ 5000)
    (hq : ∀ h', xFix h' → xsm MTW h h' → MatT h' (neF pt.2 row wd (fwL pt.2) row.length 0 0 t) → xnx h' = xnx h → xsl h' = xsl h → Q xN h') : xwp G m_Match_lookForNearWords (d + 3) 0 [xR 45, xR p, xR r, xZ, xZ, xZ, xZ, xZ, xZ, xZ] [] h Q X := by
  have hrl := R.2.2.2.2
  obtain ⟨ld, hld⟩ : ∃ ld, ld = fwL pt.2 := ⟨_, rfl⟩
  obtain ⟨P, hP⟩ : ∃ P : Nat → Bool, P = fun k => decide (rwA row k = ld) := ⟨_, rfl⟩
  have inner : ∀ (m a n : Nat) (h2 : XH) (t2 : MR) (g2 : Int → Int), a + m = n + 1 → n < row.length → xFix h2 → xsm MTW h h2 → MatT h2 t2 → MatR h2 W g2 → 0 ≤ t2.1 → t2.1 + m ≤ 6000 → xnx h2 = xnx h → xsl h2 = xsl h →
      (∀ h3, xFix h3 → xsm MTW h h3 → MatT h3 (scF P m a t2) → MatR h3 W g2 → xnx h3 = xnx h → xsl h3 = xsl h → xwp G m_Match_lookForNearWords (d + 3) 25 [xR 45, xZ, xR r, xI wd, xL ld, xZ, xI ((n : Int) + 1), xI ((n : Int) + 1), xZ, xZ] [] h3 Q X) →
      xwp G m_Match_lookForNearWords (d + 3) 81 [xR 45, xZ, xR r, xI wd, xL ld, xZ, xZ, xI n, xZ, xI a] [] h2 Q X := by
    intro m
    induction m with
    | zero =>
      intro a n h2 t2 g2 e hn F2 S2 T2 M2 g0 g1 n2 l2 hk
      refine v_Match_lookForNearWords_81 F2 ?_
      refine ⟨fun q1 => ?_, fun q1 => ?_⟩
      · exact hk h2 F2 S2 T2 M2 n2 l2
      · refine ⟨?_, ?_⟩
        · first | exact (R.f47 S2).2.2.2.1.1 | exact ⟨by omega, by omega⟩ | omega
        · refine ⟨?_, ?_⟩
          · first | exact (R.f47 S2).2.2.2.1.1 | exact ⟨by omega, by omega⟩ | omega
          · refine ⟨?_, ?_⟩
            · first | exact (R.f47 S2).2.2.2.1.1 | exact ⟨by omega, by omega⟩ | omega
            · refine ⟨fun q2 => ?_, fun q2 => ?_⟩
              · omega
              · omega
    | succ m ih =>
      intro a n h2 t2 g2 e hn F2 S2 T2 M2 g0 g1 n2 l2 hk
      have R2 := R.f47 S2
      have hlr := R2.2.2.2.1.2.1
      have hx := R2.rw (k := a) (by omega)
      have hk2 : ∀ h3, xFix h3 → xsm MTW h h3 → MatT h3 (scF P m (a + 1) (if P a = true then htF t2 a else t2)) → MatR h3 W g2 → xnx h3 = xnx h → xsl h3 = xsl h → xwp G m_Match_lookForNearWords (d + 3) 25 [xR 45, xZ, xR r, xI wd, xL ld, xZ, xI ((n : Int) + 1), xI ((n : Int) + 1), xZ, xZ] [] h3 Q X := hk
      have hPa : P a = decide (rwA row a = ld) := by rw [hP]
      refine v_Match_lookForNearWords_81 F2 ?_
      refine ⟨fun q1 => ?_, fun q1 => ?_⟩
      · omega
      · refine ⟨?_, ?_⟩
        · first | exact R2.2.2.2.1.1 | exact ⟨by omega, by omega⟩ | omega
        · refine ⟨?_, ?_⟩
          · first | exact R2.2.2.2.1.1 | exact ⟨by omega, by omega⟩ | omega
          · refine ⟨?_, ?_⟩
            · first | exact R2.2.2.2.1.1 | exact ⟨by omega, by omega⟩ | omega
            · refine ⟨fun q2 => ?_, fun q2 => ?_⟩
              · rw [if_pos (by rw [hPa]; exact decide_eq_true (by omega))] at hk2
                refine s_Match_hit F2 T2 g0 (by omega) (fun h3 F3 S3 T3 f3 n3 l3 => ?_)
                refine v_Match_lookForNearWords_104 F3 ?_
                refine ⟨?_, ?_⟩
                · exact ⟨by omega, by omega⟩
                · exact ih (a + 1) n h3 _ g2 (by omega) hn F3 (S2.trans S3.t47) T3 (M2.hit F2 S3 f3) (by unfold htF; omega) (by unfold htF; omega) (n3.trans n2) (l3.trans l2) hk2
              · rw [if_neg (by rw [hPa]; exact fun w9 => q2 (by have := of_decide_eq_true w9; omega))] at hk2
                refine v_Match_lookForNearWords_104 F2 ?_
                refine ⟨?_, ?_⟩
                · exact ⟨by omega, by omega⟩
                · exact ih (a + 1) n h2 _ g2 (by omega) hn F2 S2 T2 M2 g0 (by omega) n2 l2 hk2
  have outer : ∀ (m n jd : Nat) (h2 : XH) (t2 : MR) (g2 : Int → Int), n + m = row.length → jd ≤ n → xFix h2 → xsm MTW h h2 → MatT h2 t2 → MatR h2 W g2 → (∀ x ∈ W, g2 x = (pt.2.count x : Int) - (wnL row wd n).count x) → 0 ≤ t2.1 → t2.1 + ((n : Int) - jd) + m ≤ 5000 → neF pt.2 row wd ld m n jd t2 = neF pt.2 row wd ld row.length 0 0 t → xnx h2 = xnx h → xsl h2 = xsl h →
      xwp G m_Match_lookForNearWords (d + 3) 25 [xR 45, xZ, xR r, xI wd, xL ld, xZ, xI jd, xI n, xZ, xZ] [] h2 Q X := by
    intro m
    induction m with
    | zero =>
      intro n jd h2 t2 g2 e hj F2 S2 T2 M2 hg g0 g1 hv n2 l2
      have R2 := R.f47 S2
      have hlr := R2.2.2.2.1.2.1
      have hv2 : t2 = neF pt.2 row wd ld row.length 0 0 t := hv
      refine v_Match_lookForNearWords_25 F2 ?_
      refine ⟨?_, ?_⟩
      · first | exact R2.2.2.2.1.1 | exact ⟨by omega, by omega⟩ | omega
      · refine ⟨fun q1 => ?_, fun q1 => ?_⟩
        · rw [hv2, hld] at T2
          exact hq h2 F2 S2 T2 n2 l2
        · refine ⟨?_, ?_⟩
          · first | exact R2.2.2.2.1.1 | exact ⟨by omega, by omega⟩ | omega
          · refine ⟨?_, ?_⟩
            · first | exact R2.2.2.2.1.1 | exact ⟨by omega, by omega⟩ | omega
            · refine ⟨?_, ?_⟩
              · first | exact R2.2.2.2.1.1 | exact ⟨by omega, by omega⟩ | omega
              · omega
    | succ m ih =>
      intro n jd h2 t2 g2 e hj F2 S2 T2 M2 hg g0 g1 hv n2 l2
      have R2 := R.f47 S2
      have hlr := R2.2.2.2.1.2.1
      have hx := R2.rw (k := n) (by omega)
      have hv2 : (if metL pt.2 row wd (n + 1) = true then neF pt.2 row wd ld m (n + 1) (n + 1) (scF (fun k => decide (rwA row k = ld)) (n + 1 - max jd (n - wd)) (max jd (n - wd)) t2) else neF pt.2 row wd ld m (n + 1) jd t2) = neF pt.2 row wd ld row.length 0 0 t := hv
      have hcl : ∀ x, pt.2.count x ≤ 40 := fun x => Nat.le_trans List.count_le_length hl
      have hwl := fun x => wn_le row wd n x
      -- behind the counting
      have p63 : ∀ (h3 : XH) (g3 : Int → Int), xFix h3 → xsm MTW h h3 → MatT h3 t2 → MatR h3 W g3 → (∀ x ∈ W, g3 x = (pt.2.count x : Int) - (wnL row wd (n + 1)).count x) → xnx h3 = xnx h → xsl h3 = xsl h →
          xwp G m_Match_lookForNearWords (d + 3) 63 [xR 45, xZ, xR r, xI wd, xL ld, xZ, xI jd, xI n, xI ((n : Int) - wd - 1), xZ] [] h3 Q X := by
        intro h3 g3 F3 S3 T3 M3 hg3 n3 l3
        have mi := met_iff (wd := wd) (n := n + 1) (row := row) w1 hg3
        have e3 := M3.2.2.2.2
        refine v_Match_lookForNearWords_63 F3 ?_
        refine ⟨fun q1 => ?_, fun q1 => ?_⟩
        · refine ⟨?_, ?_⟩
          · exact ⟨by omega, by omega⟩
          · rw [if_pos (mi.mp (by omega))] at hv2
            have ea : max (jd : Int) ((n : Int) - wd - 1 + 1) = ((max jd (n - wd) : Nat) : Int) := by omega
            rw [ea]
            have sr := scF_rng P (n + 1 - max jd (n - wd)) (max jd (n - wd)) t2
            refine inner (n + 1 - max jd (n - wd)) (max jd (n - wd)) n h3 t2 g3 (by omega) (by omega) F3 S3 T3 M3 g0 (by omega) n3 l3 (fun h4 F4 S4 T4 M4 n4 l4 => ?_)
            rw [← hP] at hv2
            exact ih (n + 1) (n + 1) h4 _ g3 (by omega) (Nat.le_refl _) F4 S4 T4 M4 hg3 (by omega) (by omega) hv2 n4 l4
        · refine ⟨?_, ?_⟩
          · exact ⟨by omega, by omega⟩
          · rw [if_neg (fun y => q1 (by rw [e3]; exact mi.mpr y))] at hv2
            exact ih (n + 1) jd h3 _ g3 (by omega) (by omega) F3 S3 T3 M3 hg3 g0 (by omega) hv2 n3 l3
      refine v_Match_lookForNearWords_25 F2 ?_
      refine ⟨?_, ?_⟩
      · first | exact R2.2.2.2.1.1 | exact ⟨by omega, by omega⟩ | omega
      · refine ⟨fun q1 => ?_, fun q1 => ?_⟩
        · omega
        · refine ⟨?_, ?_⟩
          · first | exact R2.2.2.2.1.1 | exact ⟨by omega, by omega⟩ | omega
          · refine ⟨?_, ?_⟩
            · first | exact R2.2.2.2.1.1 | exact ⟨by omega, by omega⟩ | omega
            · refine ⟨?_, ?_⟩
              · first | exact R2.2.2.2.1.1 | exact ⟨by omega, by omega⟩ | omega
              · rw [hx]
                refine s_Match_count F2 M2 (fun x hx9 => ?_) ⟨by decide, by decide⟩ (fun h3 F3 S3 M3 f3 n3 l3 => ?_)
                · have a1 := hg x hx9
                  have a2 := hcl x
                  have a3 := hwl x
                  omega
                have R3 := R.f47 (S2.trans S3)
                have hlr3 := R3.2.2.2.1.2.1
                refine v_Match_lookForNearWords_49 F3 ?_
                refine ⟨fun q1 => ?_, fun q1 => ?_⟩
                · refine p63 h3 _ F3 (S2.trans S3) (T2.fr f3) M3 (fun x hx9 => ?_) (n3.trans n2) (l3.trans l2)
                  have a1 := hg x hx9
                  have a2 := wn_step (wd := wd) (n := n) (row := row) (by omega) x
                  rw [if_neg (fun y => by have := y.1; omega)] at a2
                  unfold fup
                  by_cases z : x = rwA row n
                  · rw [if_pos z, ← z]
                    rw [if_pos z.symm] at a2
                    omega
                  · rw [if_neg z]
                    rw [if_neg (fun y => z y.symm)] at a2
                    omega
                · refine ⟨?_, ?_⟩
                  · first | exact R3.2.2.2.1.1 | exact ⟨by omega, by omega⟩ | omega
                  · refine ⟨?_, ?_⟩
                    · first | exact R3.2.2.2.1.1 | exact ⟨by omega, by omega⟩ | omega
                    · have hb : ((n : Int) - wd - 1) = ((n - wd - 1 : Nat) : Int) := by omega
                      have hxb := R3.rw (k := n - wd - 1) (by omega)
                      rw [← hb] at hxb
                      rw [hxb]
                      refine s_Match_count F3 M3 (fun x hx9 => ?_) ⟨by decide, by decide⟩ (fun h4 F4 S4 M4 f4 n4 l4 => ?_)
                      · have a1 := hg x hx9
                        have a2 := hcl x
                        have a3 := hwl x
                        unfold fup
                        by_cases z : x = rwA row n
                        · rw [if_pos z, ← z]; omega
                        · rw [if_neg z]; omega
                      refine p63 h4 _ F4 ((S2.trans S3).trans S4) ((T2.fr f3).fr f4) M4 (fun x hx9 => ?_) (n4.trans (n3.trans n2)) (l4.trans (l3.trans l2))
                      have a1 := hg x hx9
                      have a2 := wn_step (wd := wd) (n := n) (row := row) (by omega) x
                      have a5 : wd + 1 ≤ n := by omega
                      unfold fup
                      by_cases z : x = rwA row n
                      · rw [if_pos z.symm] at a2
                        by_cases y : x = rwA row (n - wd - 1)
                        · rw [if_pos ⟨a5, y.symm⟩] at a2
                          rw [if_pos y, ← y, if_pos z, ← z]
                          omega
                        · rw [if_neg (fun w => y w.2.symm)] at a2
                          rw [if_neg y, if_pos z, ← z]
                          omega
                      · rw [if_neg (show ¬ rwA row n = x from fun w => z w.symm)] at a2
                        by_cases y : x = rwA row (n - wd - 1)
                        · rw [if_pos ⟨a5, y.symm⟩] at a2
                          rw [if_pos y, ← y, if_neg z]
                          omega
                        · rw [if_neg (fun w => y w.2.symm)] at a2
                          rw [if_neg y, if_neg z]
                          omega
  have e7 := PR.2.1 7 (by decide) (by decide) (by decide)
  have lw := PR.2.2.2.2.2.1.2.1
  refine v_Match_lookForNearWords_0 F ?_
  refine ⟨?_, ?_⟩
  · first | exact PR.1.2.2 | exact PR.2.2.2.2.2.1.1 | exact ⟨by omega, by omega⟩
  · refine ⟨?_, ?_⟩
    · first | exact PR.1.2.2 | exact PR.2.2.2.2.2.1.1 | exact ⟨by omega, by omega⟩
    · refine ⟨?_, ?_⟩
      · first | exact PR.1.2.2 | exact PR.2.2.2.2.2.1.1 | exact ⟨by omega, by omega⟩
      · refine ⟨?_, ?_⟩
        · first | exact PR.1.2.2 | exact PR.2.2.2.2.2.1.1 | exact ⟨by omega, by omega⟩
        · have ew : xpl h p 7 + xln h (xpl h p 4) - 1 = wd := by omega
          rw [ew]
          refine p_Part_firstWord F PR ?_
          rw [← hld]
          refine v_Match_lookForNearWords_17 F ?_
          refine outer row.length 0 0 h t g (by omega) (Nat.le_refl _) F (xsm.refl h) T M (fun x hx => ?_) h0 (by omega) rfl rfl rfl
          rw [w2 x hx]
          have : (wnL row wd 0).count x = 0 := by unfold wnL; simp
          omega

end
