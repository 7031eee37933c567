/-! ===== recvc ===== -/
section
/-! the model's reckoning: the walks -/
theorem xr_ldcw {G : XG} {M : XM} {d pc : Nat} {L S : List XV} {h : XH} {Q : XV → XH → Prop} {X : Nat → XH → Prop} {n : Nat} {v : Int32} {z : Int} (hI : decode M.2.1 pc = .ok (.ldc_w n, 3)) (hw : Cond.constant M.1.cls n v ∈ lw_tbl) (hr : xiR z) (hv : v = Int32.ofInt z) (k : xwp G M d (pc + 3) L (xI z :: S) h Q X) : xwp G M d pc L S h Q X := x_pure k (fun hS _ => xac (hr) hS) (fun p e R s m args below meth c H locs cells slots Z ls F hL hS kk => by
  exact (by subst hv; exact lv_ldcw F.1 F.2.1 F.2.2.2.2.2.1 (F.word hw rfl) hI (kk ls hL)))
abbrev m_M_reckon : XM := (⟨"BeaconIndexModel", "reckon", "()V"⟩, prog_14_method_63_code, 7, none, [])
theorem d_M_reckon_0 : decode prog_14_method_63_code 0 = .ok (.aload_n 0, 1) := by decide +kernel
theorem d_M_reckon_1 : decode prog_14_method_63_code 1 = .ok (.getfield 200, 3) := by decide +kernel
theorem d_M_reckon_4 : decode prog_14_method_63_code 4 = .ok (.ifCond .eq 4, 3) := by decide +kernel
theorem d_M_reckon_8 : decode prog_14_method_63_code 8 = .ok (.aload_n 0, 1) := by decide +kernel
theorem d_M_reckon_9 : decode prog_14_method_63_code 9 = .ok (.iconst 1, 1) := by decide +kernel
theorem d_M_reckon_10 : decode prog_14_method_63_code 10 = .ok (.putfield 200, 3) := by decide +kernel
theorem d_M_reckon_13 : decode prog_14_method_63_code 13 = .ok (.aload_n 0, 1) := by decide +kernel
theorem d_M_reckon_14 : decode prog_14_method_63_code 14 = .ok (.invokevirtual 191, 3) := by decide +kernel
theorem d_M_reckon_7 : decode prog_14_method_63_code 7 = .ok (.return_, 1) := by decide +kernel
theorem v_M_reckon_0 {G : XG} {d : Nat} {h : XH} {Q : XV → XH → Prop} {X : Nat → XH → Prop} (F : xFix h) (hyp : (((xpl h 53 26) = 0 → (xFix (xst h 53 26 1) → xwp G m_M_inSegments (d + 3) 0 [xR 53] [] (xst h 53 26 1) (fun v9 h9 => xwp G m_M_reckon (d + 4) 17 [xR 53, xZ, xZ, xZ, xZ, xZ, xZ] (xpush v9 []) h9 Q X) X)) ∧ (¬ (xpl h 53 26) = 0 → (Q xN h)))) : xwp G m_M_reckon (d + 4) 0 [xR 53, xZ, xZ, xZ, xZ, xZ, xZ] [] h Q X := by
  have hnx9 : (93 : Int) ≤ xnx h := F.2.2
  refine xr_aload_n (pc := 0) (i := 0) (hI := d_M_reckon_0) (hi := rfl) (hl := rfl) ?_
  refine xg_getfZ (pc := 1) (ci := 11) (k := 26) (N := 38) (v := (xpl h 53 26)) (T := xF11) (hI := d_M_reckon_1) (hw := w_1613) rfl xi11 (Or.inl rfl) (Nat.le_of_ble_eq_true rfl) (Nat.le_of_ble_eq_true rfl) rfl (ft_53 F) rfl (fun f1_ => ?_)
  replace f1_ : 0 ≤ (xpl h 53 26) ∧ (xpl h 53 26) ≤ 1 := f1_
  refine xr_if_eq (pc := 4) (tgt := 8) (hI := d_M_reckon_4) (ht := by decide) (fun q9 => ?_) (fun q9 => ?_)
  · replace hyp := hyp.1 q9
    have q2_ := q9
    clear q9
    refine xr_aload_n (pc := 8) (i := 0) (hI := d_M_reckon_8) (hi := rfl) (hl := rfl) ?_
    refine xr_iconst (pc := 9) (hI := d_M_reckon_9) (hr := by decide) ?_
    refine xr_putf (pc := 10) (ci := 11) (k := 26) (N := 38) (v9 := 0) (T := xF11) (tF := xT11) (hI := d_M_reckon_10) (hw := w_1613) rfl xi11 xt11 xn11 (Or.inl rfl) (Nat.le_of_ble_eq_true rfl) (Nat.le_of_ble_eq_true rfl) rfl xfit_z rfl (ft_53 F) (by decide) (fun _ => (by decide : (0 : Int) ≤ 1 ∧ (1 : Int) ≤ 1)) ?_
    have F3_ : xFix (xst h 53 26 1) := F.stL xfk_53_26
    refine xr_aload_n (pc := 13) (i := 0) (hI := d_M_reckon_13) (hi := rfl) (hl := rfl) ?_
    exact xq_callV (pc := 14) (index := 191) (K := m_M_inSegments) (As := []) (S := []) (L0 := [xR 53]) (hI := d_M_reckon_14) (hK := k_M_inSegments) (hlk := w_1732) (hnoM := rfl) (hS8 := Nat.le_of_ble_eq_true rfl) (ci := 11) (N := 38) (C := "BeaconIndexModel") (T := xF11) (hc := rfl) (hci := Nat.le_of_ble_eq_true rfl) (htb := (ft_53 F3_)) (hinst := w_1734) (hsel := sel_M_inSegments) (hlen := Nat.le_of_ble_eq_true rfl) (hst := rfl) (hL0 := rfl)  (hyp F3_)
  · replace hyp := hyp.2 q9
    have q2_ := q9
    clear q9
    refine xr_return (S := []) (pc := 7) (hI := d_M_reckon_7) (hr := rfl) ?_
    exact hyp
theorem d_M_reckon_17 : decode prog_14_method_63_code 17 = .ok (.istore_n 1, 1) := by decide +kernel
theorem d_M_reckon_18 : decode prog_14_method_63_code 18 = .ok (.iconst 0, 1) := by decide +kernel
theorem d_M_reckon_19 : decode prog_14_method_63_code 19 = .ok (.istore_n 2, 1) := by decide +kernel
theorem v_M_reckon_17 {G : XG} {d : Nat} {h : XH} {Q : XV → XH → Prop} {X : Nat → XH → Prop} {s0 : Int} (F : xFix h) (hyp : (xwp G m_M_reckon (d + 4) 20 [xR 53, xI s0, xI 0, xZ, xZ, xZ, xZ] [] h Q X)) : xwp G m_M_reckon (d + 4) 17 [xR 53, xZ, xZ, xZ, xZ, xZ, xZ] [xI s0] h Q X := by
  have hnx9 : (93 : Int) ≤ xnx h := F.2.2
  refine xr_okS (fun hs9 => ?_)
  have r_s0 : -2147483648 ≤ s0 ∧ s0 ≤ 2147483647 := hs9 (xI s0) (.head _)
  refine xr_istore_n (pc := 17) (i := 1) (L9 := [xR 53, xI s0, xZ, xZ, xZ, xZ, xZ]) (hI := d_M_reckon_17) (hi := rfl) (hn := Nat.le_of_ble_eq_true rfl) (hL9 := rfl) ?_
  refine xr_iconst (pc := 18) (hI := d_M_reckon_18) (hr := by decide) ?_
  refine xr_istore_n (pc := 19) (i := 2) (L9 := [xR 53, xI s0, xI 0, xZ, xZ, xZ, xZ]) (hI := d_M_reckon_19) (hi := rfl) (hn := Nat.le_of_ble_eq_true rfl) (hL9 := rfl) ?_
  exact hyp
theorem d_M_reckon_20 : decode prog_14_method_63_code 20 = .ok (.iload_n 2, 1) := by decide +kernel
theorem d_M_reckon_21 : decode prog_14_method_63_code 21 = .ok (.iconst 1, 1) := by decide +kernel
theorem d_M_reckon_22 : decode prog_14_method_63_code 22 = .ok (.if_icmp .gt 158, 3) := by decide +kernel
theorem d_M_reckon_180 : decode prog_14_method_63_code 180 = .ok (.return_, 1) := by decide +kernel
theorem d_M_reckon_25 : decode prog_14_method_63_code 25 = .ok (.iconst 0, 1) := by decide +kernel
theorem d_M_reckon_26 : decode prog_14_method_63_code 26 = .ok (.istore_n 3, 1) := by decide +kernel
theorem d_M_reckon_27 : decode prog_14_method_63_code 27 = .ok (.iconst 0, 1) := by decide +kernel
theorem d_M_reckon_28 : decode prog_14_method_63_code 28 = .ok (.istore 4, 2) := by decide +kernel
theorem v_M_reckon_20 {G : XG} {d : Nat} {h : XH} {Q : XV → XH → Prop} {X : Nat → XH → Prop} {x1 x2 : Int} (F : xFix h) (hyp : (((1 : Int) < x2 → (Q xN h)) ∧ (¬ (1 : Int) < x2 → (xwp G m_M_reckon (d + 4) 30 [xR 53, xI x1, xI x2, xI 0, xI 0, xZ, xZ] [] h Q X)))) : xwp G m_M_reckon (d + 4) 20 [xR 53, xI x1, xI x2, xZ, xZ, xZ, xZ] [] h Q X := by
  have hnx9 : (93 : Int) ≤ xnx h := F.2.2
  refine xr_okL (fun hl9 => ?_)
  have r_x1 : -2147483648 ≤ x1 ∧ x1 ≤ 2147483647 := hl9 (xI x1) (.tail _ (.head _)) (Nat.le_of_ble_eq_true rfl)
  have r_x2 : -2147483648 ≤ x2 ∧ x2 ≤ 2147483647 := hl9 (xI x2) (.tail _ (.tail _ (.head _))) (Nat.le_of_ble_eq_true rfl)
  refine xr_iload_n (pc := 20) (i := 2) (hI := d_M_reckon_20) (hi := rfl) (hl := rfl) ?_
  refine xr_iconst (pc := 21) (hI := d_M_reckon_21) (hr := by decide) ?_
  refine xr_icmp_gt (pc := 22) (tgt := 180) (hI := d_M_reckon_22) (ht := by decide) (fun q9 => ?_) (fun q9 => ?_)
  · replace hyp := hyp.1 q9
    have q1_ := q9
    clear q9
    refine xr_return (S := []) (pc := 180) (hI := d_M_reckon_180) (hr := rfl) ?_
    exact hyp
  · replace hyp := hyp.2 q9
    have q1_ := q9
    clear q9
    refine xr_iconst (pc := 25) (hI := d_M_reckon_25) (hr := by decide) ?_
    refine xr_istore_n (pc := 26) (i := 3) (L9 := [xR 53, xI x1, xI x2, xI 0, xZ, xZ, xZ]) (hI := d_M_reckon_26) (hi := rfl) (hn := Nat.le_of_ble_eq_true rfl) (hL9 := rfl) ?_
    refine xr_iconst (pc := 27) (hI := d_M_reckon_27) (hr := by decide) ?_
    refine xr_istore (pc := 28) (i := 4) (L9 := [xR 53, xI x1, xI x2, xI 0, xI 0, xZ, xZ]) (hI := d_M_reckon_28) (hn := Nat.le_of_ble_eq_true rfl) (hL9 := rfl) ?_
    exact hyp
theorem d_M_reckon_30 : decode prog_14_method_63_code 30 = .ok (.iload 4, 2) := by decide +kernel
theorem d_M_reckon_32 : decode prog_14_method_63_code 32 = .ok (.iload_n 1, 1) := by decide +kernel
theorem d_M_reckon_33 : decode prog_14_method_63_code 33 = .ok (.if_icmp .ge 28, 3) := by decide +kernel
theorem d_M_reckon_61 : decode prog_14_method_63_code 61 = .ok (.aload_n 0, 1) := by decide +kernel
theorem d_M_reckon_62 : decode prog_14_method_63_code 62 = .ok (.getfield 76, 3) := by decide +kernel
theorem w_1617 : Cond.fieldLink "BeaconIndexModel" 76 "BeaconIndexModel" "mean" "[I" ∈ lw_tbl := List.mem_append_right _ (List.mem_of_getElem? (i := 1617) (by decide +kernel))
theorem d_M_reckon_65 : decode prog_14_method_63_code 65 = .ok (.iload_n 2, 1) := by decide +kernel
theorem d_M_reckon_66 : decode prog_14_method_63_code 66 = .ok (.iload_n 1, 1) := by decide +kernel
theorem d_M_reckon_67 : decode prog_14_method_63_code 67 = .ok (.ifCond .ne 7, 3) := by decide +kernel
theorem d_M_reckon_74 : decode prog_14_method_63_code 74 = .ok (.iconst 1, 1) := by decide +kernel
theorem d_M_reckon_75 : decode prog_14_method_63_code 75 = .ok (.iload_n 3, 1) := by decide +kernel
theorem d_M_reckon_76 : decode prog_14_method_63_code 76 = .ok (.iload_n 1, 1) := by decide +kernel
theorem d_M_reckon_77 : decode prog_14_method_63_code 77 = .ok (.idiv, 1) := by decide +kernel
theorem d_M_reckon_78 : decode prog_14_method_63_code 78 = .ok (.invokestatic 363, 3) := by decide +kernel
theorem w_2376 : Cond.methodLink "BeaconIndexModel" 363 ⟨"java/lang/Math", "max", "(II)I"⟩ ∈ lw_tbl := List.mem_append_right _ (List.mem_of_getElem? (i := 2376) (by decide +kernel))
theorem d_M_reckon_81 : decode prog_14_method_63_code 81 = .ok (.iastore, 1) := by decide +kernel
theorem xfa_84 : xfreeA 84 = true := by decide +kernel
theorem d_M_reckon_82 : decode prog_14_method_63_code 82 = .ok (.iconst 0, 1) := by decide +kernel
theorem d_M_reckon_83 : decode prog_14_method_63_code 83 = .ok (.istore 4, 2) := by decide +kernel
theorem d_M_reckon_70 : decode prog_14_method_63_code 70 = .ok (.iconst 1, 1) := by decide +kernel
theorem d_M_reckon_71 : decode prog_14_method_63_code 71 = .ok (.goto 10, 3) := by decide +kernel
theorem d_M_reckon_36 : decode prog_14_method_63_code 36 = .ok (.iload_n 3, 1) := by decide +kernel
theorem d_M_reckon_37 : decode prog_14_method_63_code 37 = .ok (.aload_n 0, 1) := by decide +kernel
theorem d_M_reckon_38 : decode prog_14_method_63_code 38 = .ok (.getfield 32, 3) := by decide +kernel
theorem d_M_reckon_41 : decode prog_14_method_63_code 41 = .ok (.iconst 2, 1) := by decide +kernel
theorem d_M_reckon_42 : decode prog_14_method_63_code 42 = .ok (.aload_n 0, 1) := by decide +kernel
theorem d_M_reckon_43 : decode prog_14_method_63_code 43 = .ok (.getfield 13, 3) := by decide +kernel
theorem d_M_reckon_46 : decode prog_14_method_63_code 46 = .ok (.iload 4, 2) := by decide +kernel
theorem d_M_reckon_48 : decode prog_14_method_63_code 48 = .ok (.iaload, 1) := by decide +kernel
theorem d_M_reckon_49 : decode prog_14_method_63_code 49 = .ok (.imul, 1) := by decide +kernel
theorem d_M_reckon_50 : decode prog_14_method_63_code 50 = .ok (.iload_n 2, 1) := by decide +kernel
theorem d_M_reckon_51 : decode prog_14_method_63_code 51 = .ok (.iadd, 1) := by decide +kernel
theorem d_M_reckon_52 : decode prog_14_method_63_code 52 = .ok (.iaload, 1) := by decide +kernel
theorem d_M_reckon_53 : decode prog_14_method_63_code 53 = .ok (.iadd, 1) := by decide +kernel
theorem d_M_reckon_54 : decode prog_14_method_63_code 54 = .ok (.istore_n 3, 1) := by decide +kernel
theorem d_M_reckon_55 : decode prog_14_method_63_code 55 = .ok (.iinc 4 1, 3) := by decide +kernel
theorem d_M_reckon_58 : decode prog_14_method_63_code 58 = .ok (.goto (-28), 3) := by decide +kernel
theorem v_M_reckon_30 {G : XG} {d : Nat} {h : XH} {Q : XV → XH → Prop} {X : Nat → XH → Prop} {x1 x2 x3 x4 : Int} (F : xFix h) (hyp : ((x1 ≤ x4 → ((x1 = 0 → 0 ≤ x2 ∧ x2 < 2 ∧ (xFix (xst h 84 x2 1) → xwp G m_M_reckon (d + 4) 85 [xR 53, xI x1, xI x2, xZ, xI 0, xZ, xZ] [] (xst h 84 x2 1) Q X)) ∧ (¬ x1 = 0 → (0 : Int) < x1 ∧ 0 ≤ x2 ∧ x2 < 2 ∧ (xFix (xst h 84 x2 (max 1 (Int.tdiv x3 x1))) → xwp G m_M_reckon (d + 4) 85 [xR 53, xI x1, xI x2, xZ, xI 0, xZ, xZ] [] (xst h 84 x2 (max 1 (Int.tdiv x3 x1))) Q X)))) ∧ (¬ x1 ≤ x4 → 0 ≤ x4 ∧ x4 < 60 ∧ xiR (2 * (xpl h 55 x4)) ∧ xiR ((2 * (xpl h 55 x4)) + x2) ∧ 0 ≤ ((2 * (xpl h 55 x4)) + x2) ∧ ((2 * (xpl h 55 x4)) + x2) < 120 ∧ xiR (x3 + (xpl h 61 ((2 * (xpl h 55 x4)) + x2))) ∧ (xwp G m_M_reckon (d + 4) 30 [xR 53, xI x1, xI x2, xI (x3 + (xpl h 61 ((2 * (xpl h 55 x4)) + x2))), xI (x4 + 1), xZ, xZ] [] h Q X)))) : xwp G m_M_reckon (d + 4) 30 [xR 53, xI x1, xI x2, xI x3, xI x4, xZ, xZ] [] h Q X := by
  have hnx9 : (93 : Int) ≤ xnx h := F.2.2
  refine xr_okL (fun hl9 => ?_)
  have r_x1 : -2147483648 ≤ x1 ∧ x1 ≤ 2147483647 := hl9 (xI x1) (.tail _ (.head _)) (Nat.le_of_ble_eq_true rfl)
  have r_x2 : -2147483648 ≤ x2 ∧ x2 ≤ 2147483647 := hl9 (xI x2) (.tail _ (.tail _ (.head _))) (Nat.le_of_ble_eq_true rfl)
  have r_x3 : -2147483648 ≤ x3 ∧ x3 ≤ 2147483647 := hl9 (xI x3) (.tail _ (.tail _ (.tail _ (.head _)))) (Nat.le_of_ble_eq_true rfl)
  have r_x4 : -2147483648 ≤ x4 ∧ x4 ≤ 2147483647 := hl9 (xI x4) (.tail _ (.tail _ (.tail _ (.tail _ (.head _))))) (Nat.le_of_ble_eq_true rfl)
  refine xr_iload (pc := 30) (i := 4) (hI := d_M_reckon_30) (hl := rfl) ?_
  refine xr_iload_n (pc := 32) (i := 1) (hI := d_M_reckon_32) (hi := rfl) (hl := rfl) ?_
  refine xr_icmp_ge (pc := 33) (tgt := 61) (hI := d_M_reckon_33) (ht := by decide) (fun q9 => ?_) (fun q9 => ?_)
  · replace hyp := hyp.1 q9
    have q1_ := q9
    clear q9
    refine xr_aload_n (pc := 61) (i := 0) (hI := d_M_reckon_61) (hi := rfl) (hl := rfl) ?_
    refine xg_getf (pc := 62) (ci := 11) (k := 30) (N := 38) (v9 := 2) (v := 84) (T := xF11) (hI := d_M_reckon_62) (hw := w_1617) rfl xi11 (Or.inl rfl) (Nat.le_of_ble_eq_true rfl) (Nat.le_of_ble_eq_true rfl) rfl (ft_53 F) (fp_53_30 F) (fun f2_ => ?_)
    clear f2_
    refine xr_iload_n (pc := 65) (i := 2) (hI := d_M_reckon_65) (hi := rfl) (hl := rfl) ?_
    refine xr_iload_n (pc := 66) (i := 1) (hI := d_M_reckon_66) (hi := rfl) (hl := rfl) ?_
    refine xr_if_ne (pc := 67) (tgt := 74) (hI := d_M_reckon_67) (ht := by decide) (fun q9 => ?_) (fun q9 => ?_)
    · replace hyp := hyp.2 q9
      have q3_ := q9
      clear q9
      refine xr_iconst (pc := 74) (hI := d_M_reckon_74) (hr := by decide) ?_
      refine xr_iload_n (pc := 75) (i := 3) (hI := d_M_reckon_75) (hi := rfl) (hl := rfl) ?_
      refine xr_iload_n (pc := 76) (i := 1) (hI := d_M_reckon_76) (hi := rfl) (hl := rfl) ?_
      obtain ⟨c9, hyp⟩ := hyp
      refine xr_idiv (pc := 77) (hI := d_M_reckon_77) (h0 := c9) ?_
      refine xr_mmax (pc := 78) (index := 363) (hI := d_M_reckon_78) w_2376 w_502 w_25 w_mmax (Nat.le_add_left_of_le (by decide)) (Nat.le_of_ble_eq_true rfl) ?_
      have f4_ : 1 ≤ (max 1 (Int.tdiv x3 x1)) := (by clear hyp; omega)
      have f5_ : (Int.tdiv x3 x1) ≤ (max 1 (Int.tdiv x3 x1)) := (by clear hyp; omega)
      obtain ⟨c6_, hyp⟩ := hyp
      obtain ⟨c7_, hyp⟩ := hyp
      refine xr_iastore (pc := 81) (hI := d_M_reckon_81) (ft_84 F) (by decide) c6_ (xlt_of (fl_84 F) c7_) ?_
      have F8_ : xFix (xst h 84 x2 (max 1 (Int.tdiv x3 x1))) := F.stA xfa_84
      refine xr_iconst (pc := 82) (hI := d_M_reckon_82) (hr := by decide) ?_
      refine xr_istore (pc := 83) (i := 4) (L9 := [xR 53, xI x1, xI x2, xI x3, xI 0, xZ, xZ]) (hI := d_M_reckon_83) (hn := Nat.le_of_ble_eq_true rfl) (hL9 := rfl) ?_
      exact xr_drop (L9 := [xR 53, xI x1, xI x2, xZ, xI 0, xZ, xZ]) (xdrs (xdrs (xdrs (xdrz (xdrs (xdrs (xdrs xdr0))))))) (hyp F8_)
    · replace hyp := hyp.1 q9
      have q3_ := q9
      clear q9
      refine xr_iconst (pc := 70) (hI := d_M_reckon_70) (hr := by decide) ?_
      refine xr_goto (pc := 71) (tgt := 81) (hI := d_M_reckon_71) (ht := by decide) ?_
      obtain ⟨c9_, hyp⟩ := hyp
      obtain ⟨c10_, hyp⟩ := hyp
      refine xr_iastore (pc := 81) (hI := d_M_reckon_81) (ft_84 F) (by decide) c9_ (xlt_of (fl_84 F) c10_) ?_
      have F11_ : xFix (xst h 84 x2 1) := F.stA xfa_84
      refine xr_iconst (pc := 82) (hI := d_M_reckon_82) (hr := by decide) ?_
      refine xr_istore (pc := 83) (i := 4) (L9 := [xR 53, xI x1, xI x2, xI x3, xI 0, xZ, xZ]) (hI := d_M_reckon_83) (hn := Nat.le_of_ble_eq_true rfl) (hL9 := rfl) ?_
      exact xr_drop (L9 := [xR 53, xI x1, xI x2, xZ, xI 0, xZ, xZ]) (xdrs (xdrs (xdrs (xdrz (xdrs (xdrs (xdrs xdr0))))))) (hyp F11_)
  · replace hyp := hyp.2 q9
    have q1_ := q9
    clear q9
    refine xr_iload_n (pc := 36) (i := 3) (hI := d_M_reckon_36) (hi := rfl) (hl := rfl) ?_
    refine xr_aload_n (pc := 37) (i := 0) (hI := d_M_reckon_37) (hi := rfl) (hl := rfl) ?_
    refine xg_getf (pc := 38) (ci := 11) (k := 12) (N := 38) (v9 := 2) (v := 61) (T := xF11) (hI := d_M_reckon_38) (hw := w_1599) rfl xi11 (Or.inl rfl) (Nat.le_of_ble_eq_true rfl) (Nat.le_of_ble_eq_true rfl) rfl (ft_53 F) (fp_53_12 F) (fun f12_ => ?_)
    clear f12_
    refine xr_iconst (pc := 41) (hI := d_M_reckon_41) (hr := by decide) ?_
    refine xr_aload_n (pc := 42) (i := 0) (hI := d_M_reckon_42) (hi := rfl) (hl := rfl) ?_
    refine xg_getf (pc := 43) (ci := 11) (k := 3) (N := 38) (v9 := 2) (v := 55) (T := xF11) (hI := d_M_reckon_43) (hw := w_1590) rfl xi11 (Or.inl rfl) (Nat.le_of_ble_eq_true rfl) (Nat.le_of_ble_eq_true rfl) rfl (ft_53 F) (fp_53_3 F) (fun f13_ => ?_)
    clear f13_
    refine xr_iload (pc := 46) (i := 4) (hI := d_M_reckon_46) (hl := rfl) ?_
    obtain ⟨c14_, hyp⟩ := hyp
    obtain ⟨c15_, hyp⟩ := hyp
    refine xg_iaload (pc := 48) (v := (xpl h 55 x4)) (hI := d_M_reckon_48) (ft_55 F) c14_ (xlt_of (fl_55 F) c15_) rfl (fun f16_ => ?_)
    replace f16_ : -2147483648 ≤ (xpl h 55 x4) ∧ (xpl h 55 x4) ≤ 2147483647 := f16_
    obtain ⟨c9, hyp⟩ := hyp
    refine xr_imul (pc := 49) (hI := d_M_reckon_49) (hr := c9) ?_
    refine xr_iload_n (pc := 50) (i := 2) (hI := d_M_reckon_50) (hi := rfl) (hl := rfl) ?_
    obtain ⟨c9, hyp⟩ := hyp
    refine xr_iadd (pc := 51) (hI := d_M_reckon_51) (hr := c9) ?_
    obtain ⟨c17_, hyp⟩ := hyp
    obtain ⟨c18_, hyp⟩ := hyp
    refine xg_iaload (pc := 52) (v := (xpl h 61 ((2 * (xpl h 55 x4)) + x2))) (hI := d_M_reckon_52) (ft_61 F) c17_ (xlt_of (fl_61 F) c18_) rfl (fun f19_ => ?_)
    replace f19_ : -2147483648 ≤ (xpl h 61 ((2 * (xpl h 55 x4)) + x2)) ∧ (xpl h 61 ((2 * (xpl h 55 x4)) + x2)) ≤ 2147483647 := f19_
    obtain ⟨c9, hyp⟩ := hyp
    refine xr_iadd (pc := 53) (hI := d_M_reckon_53) (hr := c9) ?_
    refine xr_istore_n (pc := 54) (i := 3) (L9 := [xR 53, xI x1, xI x2, xI (x3 + (xpl h 61 ((2 * (xpl h 55 x4)) + x2))), xI x4, xZ, xZ]) (hI := d_M_reckon_54) (hi := rfl) (hn := Nat.le_of_ble_eq_true rfl) (hL9 := rfl) ?_
    refine xr_iinc (pc := 55) (i := 4) (L9 := [xR 53, xI x1, xI x2, xI (x3 + (xpl h 61 ((2 * (xpl h 55 x4)) + x2))), xI (x4 + 1), xZ, xZ]) (hI := d_M_reckon_55) (hl := rfl) (hn := Nat.le_of_ble_eq_true rfl) (hr := ⟨by clear hyp; omega, by clear hyp; omega⟩) (hL9 := rfl) ?_
    refine xr_goto (pc := 58) (tgt := 30) (hI := d_M_reckon_58) (ht := by decide) ?_
    exact hyp
theorem d_M_reckon_85 : decode prog_14_method_63_code 85 = .ok (.iload 4, 2) := by decide +kernel
theorem d_M_reckon_87 : decode prog_14_method_63_code 87 = .ok (.aload_n 0, 1) := by decide +kernel
theorem d_M_reckon_88 : decode prog_14_method_63_code 88 = .ok (.getfield 51, 3) := by decide +kernel
theorem d_M_reckon_91 : decode prog_14_method_63_code 91 = .ok (.getfield 271, 3) := by decide +kernel
theorem d_M_reckon_94 : decode prog_14_method_63_code 94 = .ok (.if_icmp .ge 80, 3) := by decide +kernel
theorem d_M_reckon_174 : decode prog_14_method_63_code 174 = .ok (.iinc 2 1, 3) := by decide +kernel
theorem d_M_reckon_177 : decode prog_14_method_63_code 177 = .ok (.goto (-157), 3) := by decide +kernel
theorem d_M_reckon_97 : decode prog_14_method_63_code 97 = .ok (.iconst 0, 1) := by decide +kernel
theorem d_M_reckon_98 : decode prog_14_method_63_code 98 = .ok (.istore 5, 2) := by decide +kernel
theorem d_M_reckon_100 : decode prog_14_method_63_code 100 = .ok (.iconst 0, 1) := by decide +kernel
theorem d_M_reckon_101 : decode prog_14_method_63_code 101 = .ok (.istore 6, 2) := by decide +kernel
theorem v_M_reckon_85 {G : XG} {d : Nat} {h : XH} {Q : XV → XH → Prop} {X : Nat → XH → Prop} {x1 x2 x4 : Int} (F : xFix h) (hyp : xtg h (xpl h 53 19) = 12 ∧ (((xpl h (xpl h 53 19) 0) ≤ x4 → xiR (x2 + 1) ∧ (xwp G m_M_reckon (d + 4) 20 [xR 53, xI x1, xI (x2 + 1), xZ, xZ, xZ, xZ] [] h Q X)) ∧ (¬ (xpl h (xpl h 53 19) 0) ≤ x4 → (xwp G m_M_reckon (d + 4) 103 [xR 53, xI x1, xI x2, xZ, xI x4, xI 0, xI 0] [] h Q X)))) : xwp G m_M_reckon (d + 4) 85 [xR 53, xI x1, xI x2, xZ, xI x4, xZ, xZ] [] h Q X := by
  have hnx9 : (93 : Int) ≤ xnx h := F.2.2
  refine xr_okL (fun hl9 => ?_)
  have r_x1 : -2147483648 ≤ x1 ∧ x1 ≤ 2147483647 := hl9 (xI x1) (.tail _ (.head _)) (Nat.le_of_ble_eq_true rfl)
  have r_x2 : -2147483648 ≤ x2 ∧ x2 ≤ 2147483647 := hl9 (xI x2) (.tail _ (.tail _ (.head _))) (Nat.le_of_ble_eq_true rfl)
  have r_x4 : -2147483648 ≤ x4 ∧ x4 ≤ 2147483647 := hl9 (xI x4) (.tail _ (.tail _ (.tail _ (.tail _ (.head _))))) (Nat.le_of_ble_eq_true rfl)
  refine xr_iload (pc := 85) (i := 4) (hI := d_M_reckon_85) (hl := rfl) ?_
  refine xr_aload_n (pc := 87) (i := 0) (hI := d_M_reckon_87) (hi := rfl) (hl := rfl) ?_
  refine xg_getf (pc := 88) (ci := 11) (k := 19) (N := 38) (v9 := 2) (v := (xpl h 53 19)) (T := xF11) (hI := d_M_reckon_88) (hw := w_1606) rfl xi11 (Or.inl rfl) (Nat.le_of_ble_eq_true rfl) (Nat.le_of_ble_eq_true rfl) rfl (ft_53 F) rfl (fun f1_ => ?_)
  clear f1_
  obtain ⟨c9, hyp⟩ := hyp
  have t2_ := c9
  clear c9
  refine xg_getfN (pc := 91) (ci := 12) (k := 0) (N := 13) (v9 := 0) (v := (xpl h (xpl h 53 19) 0)) (T := xF12) (hI := d_M_reckon_91) (hw := w_1536) rfl xi12 (Or.inl rfl) (Nat.le_of_ble_eq_true rfl) (Nat.le_of_ble_eq_true rfl) rfl t2_ rfl (fun f3_ => ?_)
  replace f3_ : -2147483648 ≤ (xpl h (xpl h 53 19) 0) ∧ (xpl h (xpl h 53 19) 0) ≤ 2147483647 := f3_
  refine xr_icmp_ge (pc := 94) (tgt := 174) (hI := d_M_reckon_94) (ht := by decide) (fun q9 => ?_) (fun q9 => ?_)
  · replace hyp := hyp.1 q9
    have q4_ := q9
    clear q9
    obtain ⟨c9, hyp⟩ := hyp
    refine xr_iinc (pc := 174) (i := 2) (L9 := [xR 53, xI x1, xI (x2 + 1), xZ, xI x4, xZ, xZ]) (hI := d_M_reckon_174) (hl := rfl) (hn := Nat.le_of_ble_eq_true rfl) (hr := c9) (hL9 := rfl) ?_
    refine xr_goto (pc := 177) (tgt := 20) (hI := d_M_reckon_177) (ht := by decide) ?_
    exact xr_drop (L9 := [xR 53, xI x1, xI (x2 + 1), xZ, xZ, xZ, xZ]) (xdrs (xdrs (xdrs (xdrs (xdrz (xdrs (xdrs xdr0))))))) hyp
  · replace hyp := hyp.2 q9
    have q4_ := q9
    clear q9
    refine xr_iconst (pc := 97) (hI := d_M_reckon_97) (hr := by decide) ?_
    refine xr_istore (pc := 98) (i := 5) (L9 := [xR 53, xI x1, xI x2, xZ, xI x4, xI 0, xZ]) (hI := d_M_reckon_98) (hn := Nat.le_of_ble_eq_true rfl) (hL9 := rfl) ?_
    refine xr_iconst (pc := 100) (hI := d_M_reckon_100) (hr := by decide) ?_
    refine xr_istore (pc := 101) (i := 6) (L9 := [xR 53, xI x1, xI x2, xZ, xI x4, xI 0, xI 0]) (hI := d_M_reckon_101) (hn := Nat.le_of_ble_eq_true rfl) (hL9 := rfl) ?_
    exact hyp
theorem d_M_reckon_103 : decode prog_14_method_63_code 103 = .ok (.iload 6, 2) := by decide +kernel
theorem d_M_reckon_105 : decode prog_14_method_63_code 105 = .ok (.iload_n 1, 1) := by decide +kernel
theorem d_M_reckon_106 : decode prog_14_method_63_code 106 = .ok (.if_icmp .ge 45, 3) := by decide +kernel
theorem d_M_reckon_151 : decode prog_14_method_63_code 151 = .ok (.aload_n 0, 1) := by decide +kernel
theorem d_M_reckon_152 : decode prog_14_method_63_code 152 = .ok (.getfield 73, 3) := by decide +kernel
theorem w_1616 : Cond.fieldLink "BeaconIndexModel" 73 "BeaconIndexModel" "rare" "[I" ∈ lw_tbl := List.mem_append_right _ (List.mem_of_getElem? (i := 1616) (by decide +kernel))
theorem d_M_reckon_155 : decode prog_14_method_63_code 155 = .ok (.iconst 2, 1) := by decide +kernel
theorem d_M_reckon_156 : decode prog_14_method_63_code 156 = .ok (.iload 4, 2) := by decide +kernel
theorem d_M_reckon_158 : decode prog_14_method_63_code 158 = .ok (.imul, 1) := by decide +kernel
theorem d_M_reckon_159 : decode prog_14_method_63_code 159 = .ok (.iload_n 2, 1) := by decide +kernel
theorem d_M_reckon_160 : decode prog_14_method_63_code 160 = .ok (.iadd, 1) := by decide +kernel
theorem d_M_reckon_161 : decode prog_14_method_63_code 161 = .ok (.aload_n 0, 1) := by decide +kernel
theorem d_M_reckon_162 : decode prog_14_method_63_code 162 = .ok (.iload 5, 2) := by decide +kernel
theorem d_M_reckon_164 : decode prog_14_method_63_code 164 = .ok (.invokevirtual 370, 3) := by decide +kernel
theorem d_M_reckon_109 : decode prog_14_method_63_code 109 = .ok (.aload_n 0, 1) := by decide +kernel
theorem d_M_reckon_110 : decode prog_14_method_63_code 110 = .ok (.iload 4, 2) := by decide +kernel
theorem d_M_reckon_112 : decode prog_14_method_63_code 112 = .ok (.iload 6, 2) := by decide +kernel
theorem d_M_reckon_114 : decode prog_14_method_63_code 114 = .ok (.iload_n 2, 1) := by decide +kernel
theorem d_M_reckon_115 : decode prog_14_method_63_code 115 = .ok (.invokevirtual 366, 3) := by decide +kernel
theorem k_M_seek : xCal m_M_seek 3 := ⟨List.mem_append_right _ (List.mem_of_getElem? (i := 2380) (by decide +kernel)), w_15, Nat.le_of_ble_eq_true rfl, ⟨by decide +kernel, by decide +kernel⟩, by decide +kernel, by decide +kernel, rfl⟩
theorem w_2377 : Cond.methodLink "BeaconIndexModel" 366 ⟨"BeaconIndexModel", "seek", "(III)V"⟩ ∈ lw_tbl := List.mem_append_right _ (List.mem_of_getElem? (i := 2377) (by decide +kernel))
theorem w_2379 : Cond.instanceMethod ⟨"BeaconIndexModel", "seek", "(III)V"⟩ ∈ lw_tbl := List.mem_append_right _ (List.mem_of_getElem? (i := 2379) (by decide +kernel))
theorem sel_M_seek : Cond.selects "BeaconIndexModel" ⟨"BeaconIndexModel", "seek", "(III)V"⟩ ⟨"BeaconIndexModel", "seek", "(III)V"⟩ ∈ lw_tbl := List.mem_append_left _ (by decide +kernel)
theorem v_M_reckon_103 {G : XG} {d : Nat} {h : XH} {Q : XV → XH → Prop} {X : Nat → XH → Prop} {x1 x2 x4 x5 x6 : Int} (F : xFix h) (hyp : ((x1 ≤ x6 → xiR (2 * x4) ∧ xiR ((2 * x4) + x2) ∧ (xwp G m_M_rarityOf (d + 3) 0 [xR 53, xI x5] [] h (fun v9 h9 => xwp G m_M_reckon (d + 4) 167 [xR 53, xI x1, xI x2, xZ, xI x4, xZ, xZ] (xpush v9 [xI ((2 * x4) + x2), xR 83]) h9 Q X) X)) ∧ (¬ x1 ≤ x6 → (xwp G m_M_seek (d + 3) 0 [xR 53, xI x4, xI x6, xI x2, xZ, xZ, xZ, xZ] [] h (fun v9 h9 => xwp G m_M_reckon (d + 4) 118 [xR 53, xI x1, xI x2, xZ, xI x4, xI x5, xI x6] (xpush v9 []) h9 Q X) X)))) : xwp G m_M_reckon (d + 4) 103 [xR 53, xI x1, xI x2, xZ, xI x4, xI x5, xI x6] [] h Q X := by
  have hnx9 : (93 : Int) ≤ xnx h := F.2.2
  refine xr_okL (fun hl9 => ?_)
  have r_x1 : -2147483648 ≤ x1 ∧ x1 ≤ 2147483647 := hl9 (xI x1) (.tail _ (.head _)) (Nat.le_of_ble_eq_true rfl)
  have r_x2 : -2147483648 ≤ x2 ∧ x2 ≤ 2147483647 := hl9 (xI x2) (.tail _ (.tail _ (.head _))) (Nat.le_of_ble_eq_true rfl)
  have r_x4 : -2147483648 ≤ x4 ∧ x4 ≤ 2147483647 := hl9 (xI x4) (.tail _ (.tail _ (.tail _ (.tail _ (.head _))))) (Nat.le_of_ble_eq_true rfl)
  have r_x5 : -2147483648 ≤ x5 ∧ x5 ≤ 2147483647 := hl9 (xI x5) (.tail _ (.tail _ (.tail _ (.tail _ (.tail _ (.head _)))))) (Nat.le_of_ble_eq_true rfl)
  have r_x6 : -2147483648 ≤ x6 ∧ x6 ≤ 2147483647 := hl9 (xI x6) (.tail _ (.tail _ (.tail _ (.tail _ (.tail _ (.tail _ (.head _))))))) (Nat.le_of_ble_eq_true rfl)
  refine xr_iload (pc := 103) (i := 6) (hI := d_M_reckon_103) (hl := rfl) ?_
  refine xr_iload_n (pc := 105) (i := 1) (hI := d_M_reckon_105) (hi := rfl) (hl := rfl) ?_
  refine xr_icmp_ge (pc := 106) (tgt := 151) (hI := d_M_reckon_106) (ht := by decide) (fun q9 => ?_) (fun q9 => ?_)
  · replace hyp := hyp.1 q9
    have q1_ := q9
    clear q9
    refine xr_aload_n (pc := 151) (i := 0) (hI := d_M_reckon_151) (hi := rfl) (hl := rfl) ?_
    refine xg_getf (pc := 152) (ci := 11) (k := 29) (N := 38) (v9 := 2) (v := 83) (T := xF11) (hI := d_M_reckon_152) (hw := w_1616) rfl xi11 (Or.inl rfl) (Nat.le_of_ble_eq_true rfl) (Nat.le_of_ble_eq_true rfl) rfl (ft_53 F) (fp_53_29 F) (fun f2_ => ?_)
    clear f2_
    refine xr_iconst (pc := 155) (hI := d_M_reckon_155) (hr := by decide) ?_
    refine xr_iload (pc := 156) (i := 4) (hI := d_M_reckon_156) (hl := rfl) ?_
    obtain ⟨c9, hyp⟩ := hyp
    refine xr_imul (pc := 158) (hI := d_M_reckon_158) (hr := c9) ?_
    refine xr_iload_n (pc := 159) (i := 2) (hI := d_M_reckon_159) (hi := rfl) (hl := rfl) ?_
    obtain ⟨c9, hyp⟩ := hyp
    refine xr_iadd (pc := 160) (hI := d_M_reckon_160) (hr := c9) ?_
    refine xr_aload_n (pc := 161) (i := 0) (hI := d_M_reckon_161) (hi := rfl) (hl := rfl) ?_
    refine xr_iload (pc := 162) (i := 5) (hI := d_M_reckon_162) (hl := rfl) ?_
    exact xq_callV (pc := 164) (index := 370) (K := m_M_rarityOf) (As := [xI x5]) (S := [xI ((2 * x4) + x2), xR 83]) (L0 := [xR 53, xI x5]) (hI := d_M_reckon_164) (hK := k_M_rarityOf) (hlk := w_2240) (hnoM := rfl) (hS8 := Nat.le_of_ble_eq_true rfl) (ci := 11) (N := 38) (C := "BeaconIndexModel") (T := xF11) (hc := rfl) (hci := Nat.le_of_ble_eq_true rfl) (htb := (ft_53 F)) (hinst := w_2242) (hsel := sel_M_rarityOf) (hlen := Nat.le_of_ble_eq_true rfl) (hst := rfl) (hL0 := rfl)  (xwp_mono hyp (fun v9 h9 q9 => xr_drop (L9 := [xR 53, xI x1, xI x2, xZ, xI x4, xZ, xZ]) (xdrs (xdrs (xdrs (xdrs (xdrs (xdrz (xdrz xdr0))))))) q9) (fun _ _ z9 => z9))
  · replace hyp := hyp.2 q9
    have q1_ := q9
    clear q9
    refine xr_aload_n (pc := 109) (i := 0) (hI := d_M_reckon_109) (hi := rfl) (hl := rfl) ?_
    refine xr_iload (pc := 110) (i := 4) (hI := d_M_reckon_110) (hl := rfl) ?_
    refine xr_iload (pc := 112) (i := 6) (hI := d_M_reckon_112) (hl := rfl) ?_
    refine xr_iload_n (pc := 114) (i := 2) (hI := d_M_reckon_114) (hi := rfl) (hl := rfl) ?_
    exact xq_callV (pc := 115) (index := 366) (K := m_M_seek) (As := [xI x4, xI x6, xI x2]) (S := []) (L0 := [xR 53, xI x4, xI x6, xI x2, xZ, xZ, xZ, xZ]) (hI := d_M_reckon_115) (hK := k_M_seek) (hlk := w_2377) (hnoM := rfl) (hS8 := Nat.le_of_ble_eq_true rfl) (ci := 11) (N := 38) (C := "BeaconIndexModel") (T := xF11) (hc := rfl) (hci := Nat.le_of_ble_eq_true rfl) (htb := (ft_53 F)) (hinst := w_2379) (hsel := sel_M_seek) (hlen := Nat.le_of_ble_eq_true rfl) (hst := rfl) (hL0 := rfl)  hyp
theorem d_M_reckon_118 : decode prog_14_method_63_code 118 = .ok (.iload 5, 2) := by decide +kernel
theorem d_M_reckon_120 : decode prog_14_method_63_code 120 = .ok (.aload_n 0, 1) := by decide +kernel
theorem d_M_reckon_121 : decode prog_14_method_63_code 121 = .ok (.getfield 67, 3) := by decide +kernel
theorem d_M_reckon_124 : decode prog_14_method_63_code 124 = .ok (.aload_n 0, 1) := by decide +kernel
theorem d_M_reckon_125 : decode prog_14_method_63_code 125 = .ok (.iload 4, 2) := by decide +kernel
theorem d_M_reckon_127 : decode prog_14_method_63_code 127 = .ok (.iload 6, 2) := by decide +kernel
theorem d_M_reckon_129 : decode prog_14_method_63_code 129 = .ok (.iload_n 2, 1) := by decide +kernel
theorem d_M_reckon_130 : decode prog_14_method_63_code 130 = .ok (.invokevirtual 352, 3) := by decide +kernel
theorem d_M_reckon_133 : decode prog_14_method_63_code 133 = .ok (.iaload, 1) := by decide +kernel
theorem d_M_reckon_134 : decode prog_14_method_63_code 134 = .ok (.ifCond .le 7, 3) := by decide +kernel
theorem d_M_reckon_141 : decode prog_14_method_63_code 141 = .ok (.iconst 0, 1) := by decide +kernel
theorem d_M_reckon_142 : decode prog_14_method_63_code 142 = .ok (.iadd, 1) := by decide +kernel
theorem d_M_reckon_143 : decode prog_14_method_63_code 143 = .ok (.istore 5, 2) := by decide +kernel
theorem d_M_reckon_145 : decode prog_14_method_63_code 145 = .ok (.iinc 6 1, 3) := by decide +kernel
theorem d_M_reckon_148 : decode prog_14_method_63_code 148 = .ok (.goto (-45), 3) := by decide +kernel
theorem d_M_reckon_137 : decode prog_14_method_63_code 137 = .ok (.iconst 1, 1) := by decide +kernel
theorem d_M_reckon_138 : decode prog_14_method_63_code 138 = .ok (.goto 4, 3) := by decide +kernel
theorem v_M_reckon_118 {G : XG} {d : Nat} {h : XH} {Q : XV → XH → Prop} {X : Nat → XH → Prop} {x1 x2 x4 x5 x6 : Int} (F : xFix h) (hyp : xiR (60 * x4) ∧ xiR ((60 * x4) + x6) ∧ xiR (2 * ((60 * x4) + x6)) ∧ xiR ((2 * ((60 * x4) + x6)) + x2) ∧ 0 ≤ ((2 * ((60 * x4) + x6)) + x2) ∧ ((2 * ((60 * x4) + x6)) + x2) < 4920 ∧ (((xpl h 81 ((2 * ((60 * x4) + x6)) + x2)) ≤ 0 → xiR (x6 + 1) ∧ (xwp G m_M_reckon (d + 4) 103 [xR 53, xI x1, xI x2, xZ, xI x4, xI (x5 + 0), xI (x6 + 1)] [] h Q X)) ∧ (¬ (xpl h 81 ((2 * ((60 * x4) + x6)) + x2)) ≤ 0 → xiR (x5 + 1) ∧ xiR (x6 + 1) ∧ (xwp G m_M_reckon (d + 4) 103 [xR 53, xI x1, xI x2, xZ, xI x4, xI (x5 + 1), xI (x6 + 1)] [] h Q X)))) : xwp G m_M_reckon (d + 4) 118 [xR 53, xI x1, xI x2, xZ, xI x4, xI x5, xI x6] [] h Q X := by
  have hnx9 : (93 : Int) ≤ xnx h := F.2.2
  refine xr_okL (fun hl9 => ?_)
  have r_x1 : -2147483648 ≤ x1 ∧ x1 ≤ 2147483647 := hl9 (xI x1) (.tail _ (.head _)) (Nat.le_of_ble_eq_true rfl)
  have r_x2 : -2147483648 ≤ x2 ∧ x2 ≤ 2147483647 := hl9 (xI x2) (.tail _ (.tail _ (.head _))) (Nat.le_of_ble_eq_true rfl)
  have r_x4 : -2147483648 ≤ x4 ∧ x4 ≤ 2147483647 := hl9 (xI x4) (.tail _ (.tail _ (.tail _ (.tail _ (.head _))))) (Nat.le_of_ble_eq_true rfl)
  have r_x5 : -2147483648 ≤ x5 ∧ x5 ≤ 2147483647 := hl9 (xI x5) (.tail _ (.tail _ (.tail _ (.tail _ (.tail _ (.head _)))))) (Nat.le_of_ble_eq_true rfl)
  have r_x6 : -2147483648 ≤ x6 ∧ x6 ≤ 2147483647 := hl9 (xI x6) (.tail _ (.tail _ (.tail _ (.tail _ (.tail _ (.tail _ (.head _))))))) (Nat.le_of_ble_eq_true rfl)
  refine xr_iload (pc := 118) (i := 5) (hI := d_M_reckon_118) (hl := rfl) ?_
  refine xr_aload_n (pc := 120) (i := 0) (hI := d_M_reckon_120) (hi := rfl) (hl := rfl) ?_
  refine xg_getf (pc := 121) (ci := 11) (k := 27) (N := 38) (v9 := 2) (v := 81) (T := xF11) (hI := d_M_reckon_121) (hw := w_1614) rfl xi11 (Or.inl rfl) (Nat.le_of_ble_eq_true rfl) (Nat.le_of_ble_eq_true rfl) rfl (ft_53 F) (fp_53_27 F) (fun f1_ => ?_)
  clear f1_
  refine xr_aload_n (pc := 124) (i := 0) (hI := d_M_reckon_124) (hi := rfl) (hl := rfl) ?_
  refine xr_iload (pc := 125) (i := 4) (hI := d_M_reckon_125) (hl := rfl) ?_
  refine xr_iload (pc := 127) (i := 6) (hI := d_M_reckon_127) (hl := rfl) ?_
  refine xr_iload_n (pc := 129) (i := 2) (hI := d_M_reckon_129) (hi := rfl) (hl := rfl) ?_
  refine xq_callV (pc := 130) (index := 352) (K := m_M_cellOf) (As := [xI x4, xI x6, xI x2]) (S := [xR 81, xI x5]) (L0 := [xR 53, xI x4, xI x6, xI x2]) (hI := d_M_reckon_130) (hK := k_M_cellOf) (hlk := w_2381) (hnoM := rfl) (hS8 := Nat.le_of_ble_eq_true rfl) (ci := 11) (N := 38) (C := "BeaconIndexModel") (T := xF11) (hc := rfl) (hci := Nat.le_of_ble_eq_true rfl) (htb := (ft_53 F)) (hinst := w_2383) (hsel := sel_M_cellOf) (hlen := Nat.le_of_ble_eq_true rfl) (hst := rfl) (hL0 := rfl)  ?_
  refine xr_iconst (pc := 0) (hI := d_M_cellOf_0) (hr := by decide) ?_
  refine xr_bipush (pc := 1) (hI := d_M_cellOf_1) (hr := by decide) (hv := by decide) ?_
  refine xr_iload_n (pc := 3) (i := 1) (hI := d_M_cellOf_3) (hi := rfl) (hl := rfl) ?_
  obtain ⟨c9, hyp⟩ := hyp
  refine xr_imul (pc := 4) (hI := d_M_cellOf_4) (hr := c9) ?_
  refine xr_iload_n (pc := 5) (i := 2) (hI := d_M_cellOf_5) (hi := rfl) (hl := rfl) ?_
  obtain ⟨c9, hyp⟩ := hyp
  refine xr_iadd (pc := 6) (hI := d_M_cellOf_6) (hr := c9) ?_
  obtain ⟨c9, hyp⟩ := hyp
  refine xr_imul (pc := 7) (hI := d_M_cellOf_7) (hr := c9) ?_
  refine xr_iload_n (pc := 8) (i := 3) (hI := d_M_cellOf_8) (hi := rfl) (hl := rfl) ?_
  obtain ⟨c9, hyp⟩ := hyp
  refine xr_iadd (pc := 9) (hI := d_M_cellOf_9) (hr := c9) ?_
  refine xr_ireturn (S := []) (pc := 10) (hI := d_M_cellOf_10) (hr := rfl) ?_
  show xwp G m_M_reckon (d + 4) 133 [xR 53, xI x1, xI x2, xZ, xI x4, xI x5, xI x6] [xI ((2 * ((60 * x4) + x6)) + x2), xR 81, xI x5] _ _ _
  obtain ⟨c2_, hyp⟩ := hyp
  obtain ⟨c3_, hyp⟩ := hyp
  refine xg_iaload (pc := 133) (v := (xpl h 81 ((2 * ((60 * x4) + x6)) + x2))) (hI := d_M_reckon_133) (ft_81 F) c2_ (xlt_of (fl_81 F) c3_) rfl (fun f4_ => ?_)
  replace f4_ : -2147483648 ≤ (xpl h 81 ((2 * ((60 * x4) + x6)) + x2)) ∧ (xpl h 81 ((2 * ((60 * x4) + x6)) + x2)) ≤ 2147483647 := f4_
  refine xr_if_le (pc := 134) (tgt := 141) (hI := d_M_reckon_134) (ht := by decide) (fun q9 => ?_) (fun q9 => ?_)
  · replace hyp := hyp.1 q9
    have q5_ := q9
    clear q9
    refine xr_iconst (pc := 141) (hI := d_M_reckon_141) (hr := by decide) ?_
    refine xr_iadd (pc := 142) (hI := d_M_reckon_142) (hr := ⟨by clear hyp; omega, by clear hyp; omega⟩) ?_
    refine xr_istore (pc := 143) (i := 5) (L9 := [xR 53, xI x1, xI x2, xZ, xI x4, xI (x5 + 0), xI x6]) (hI := d_M_reckon_143) (hn := Nat.le_of_ble_eq_true rfl) (hL9 := rfl) ?_
    obtain ⟨c9, hyp⟩ := hyp
    refine xr_iinc (pc := 145) (i := 6) (L9 := [xR 53, xI x1, xI x2, xZ, xI x4, xI (x5 + 0), xI (x6 + 1)]) (hI := d_M_reckon_145) (hl := rfl) (hn := Nat.le_of_ble_eq_true rfl) (hr := c9) (hL9 := rfl) ?_
    refine xr_goto (pc := 148) (tgt := 103) (hI := d_M_reckon_148) (ht := by decide) ?_
    exact hyp
  · replace hyp := hyp.2 q9
    have q5_ := q9
    clear q9
    refine xr_iconst (pc := 137) (hI := d_M_reckon_137) (hr := by decide) ?_
    refine xr_goto (pc := 138) (tgt := 142) (hI := d_M_reckon_138) (ht := by decide) ?_
    obtain ⟨c9, hyp⟩ := hyp
    refine xr_iadd (pc := 142) (hI := d_M_reckon_142) (hr := c9) ?_
    refine xr_istore (pc := 143) (i := 5) (L9 := [xR 53, xI x1, xI x2, xZ, xI x4, xI (x5 + 1), xI x6]) (hI := d_M_reckon_143) (hn := Nat.le_of_ble_eq_true rfl) (hL9 := rfl) ?_
    obtain ⟨c9, hyp⟩ := hyp
    refine xr_iinc (pc := 145) (i := 6) (L9 := [xR 53, xI x1, xI x2, xZ, xI x4, xI (x5 + 1), xI (x6 + 1)]) (hI := d_M_reckon_145) (hl := rfl) (hn := Nat.le_of_ble_eq_true rfl) (hr := c9) (hL9 := rfl) ?_
    refine xr_goto (pc := 148) (tgt := 103) (hI := d_M_reckon_148) (ht := by decide) ?_
    exact hyp
theorem d_M_reckon_167 : decode prog_14_method_63_code 167 = .ok (.iastore, 1) := by decide +kernel
theorem d_M_reckon_168 : decode prog_14_method_63_code 168 = .ok (.iinc 4 1, 3) := by decide +kernel
theorem d_M_reckon_171 : decode prog_14_method_63_code 171 = .ok (.goto (-86), 3) := by decide +kernel
theorem v_M_reckon_167 {G : XG} {d : Nat} {h : XH} {Q : XV → XH → Prop} {X : Nat → XH → Prop} {x1 x2 x4 s0 s1 s2 : Int} (F : xFix h) (hyp : xtg h s2 = 100 ∧ 0 ≤ s2 ∧ 0 ≤ s1 ∧ s1 < (xln h s2) ∧ xiR (x4 + 1) ∧ (xFix (xst h s2 s1 s0) → xwp G m_M_reckon (d + 4) 85 [xR 53, xI x1, xI x2, xZ, xI (x4 + 1), xZ, xZ] [] (xst h s2 s1 s0) Q X)) : xwp G m_M_reckon (d + 4) 167 [xR 53, xI x1, xI x2, xZ, xI x4, xZ, xZ] [xI s0, xI s1, xR s2] h Q X := by
  have hnx9 : (93 : Int) ≤ xnx h := F.2.2
  refine xr_okL (fun hl9 => ?_)
  have r_x1 : -2147483648 ≤ x1 ∧ x1 ≤ 2147483647 := hl9 (xI x1) (.tail _ (.head _)) (Nat.le_of_ble_eq_true rfl)
  have r_x2 : -2147483648 ≤ x2 ∧ x2 ≤ 2147483647 := hl9 (xI x2) (.tail _ (.tail _ (.head _))) (Nat.le_of_ble_eq_true rfl)
  have r_x4 : -2147483648 ≤ x4 ∧ x4 ≤ 2147483647 := hl9 (xI x4) (.tail _ (.tail _ (.tail _ (.tail _ (.head _))))) (Nat.le_of_ble_eq_true rfl)
  refine xr_okS (fun hs9 => ?_)
  have r_s0 : -2147483648 ≤ s0 ∧ s0 ≤ 2147483647 := hs9 (xI s0) (.head _)
  have r_s1 : -2147483648 ≤ s1 ∧ s1 ≤ 2147483647 := hs9 (xI s1) (.tail _ (.head _))
  obtain ⟨c9, hyp⟩ := hyp
  have t1_ := c9
  clear c9
  obtain ⟨c2_, hyp⟩ := hyp
  obtain ⟨c3_, hyp⟩ := hyp
  obtain ⟨c4_, hyp⟩ := hyp
  refine xr_iastore (pc := 167) (hI := d_M_reckon_167) t1_ c2_ c3_ (xlt_of rfl c4_) ?_
  have F5_ : xFix (xst h s2 s1 s0) := F.stTA (t := 100) c2_ t1_ xta_100
  obtain ⟨c9, hyp⟩ := hyp
  refine xr_iinc (pc := 168) (i := 4) (L9 := [xR 53, xI x1, xI x2, xZ, xI (x4 + 1), xZ, xZ]) (hI := d_M_reckon_168) (hl := rfl) (hn := Nat.le_of_ble_eq_true rfl) (hr := c9) (hL9 := rfl) ?_
  refine xr_goto (pc := 171) (tgt := 85) (hI := d_M_reckon_171) (ht := by decide) ?_
  exact (hyp F5_)
abbrev m_M_weightIn : XM := (⟨"BeaconIndexModel", "weightIn", "(III)I"⟩, prog_14_method_64_code, 6, (some .int), [])
theorem d_M_weightIn_0 : decode prog_14_method_64_code 0 = .ok (.aload_n 0, 1) := by decide +kernel
theorem d_M_weightIn_1 : decode prog_14_method_64_code 1 = .ok (.getfield 67, 3) := by decide +kernel
theorem d_M_weightIn_4 : decode prog_14_method_64_code 4 = .ok (.aload_n 0, 1) := by decide +kernel
theorem d_M_weightIn_5 : decode prog_14_method_64_code 5 = .ok (.iload_n 1, 1) := by decide +kernel
theorem d_M_weightIn_6 : decode prog_14_method_64_code 6 = .ok (.iload_n 2, 1) := by decide +kernel
theorem d_M_weightIn_7 : decode prog_14_method_64_code 7 = .ok (.iload_n 3, 1) := by decide +kernel
theorem d_M_weightIn_8 : decode prog_14_method_64_code 8 = .ok (.invokevirtual 352, 3) := by decide +kernel
theorem d_M_weightIn_11 : decode prog_14_method_64_code 11 = .ok (.iaload, 1) := by decide +kernel
theorem d_M_weightIn_12 : decode prog_14_method_64_code 12 = .ok (.istore 4, 2) := by decide +kernel
theorem d_M_weightIn_14 : decode prog_14_method_64_code 14 = .ok (.aload_n 0, 1) := by decide +kernel
theorem d_M_weightIn_15 : decode prog_14_method_64_code 15 = .ok (.getfield 73, 3) := by decide +kernel
theorem d_M_weightIn_18 : decode prog_14_method_64_code 18 = .ok (.iconst 2, 1) := by decide +kernel
theorem d_M_weightIn_19 : decode prog_14_method_64_code 19 = .ok (.iload_n 1, 1) := by decide +kernel
theorem d_M_weightIn_20 : decode prog_14_method_64_code 20 = .ok (.imul, 1) := by decide +kernel
theorem d_M_weightIn_21 : decode prog_14_method_64_code 21 = .ok (.iload_n 3, 1) := by decide +kernel
theorem d_M_weightIn_22 : decode prog_14_method_64_code 22 = .ok (.iadd, 1) := by decide +kernel
theorem d_M_weightIn_23 : decode prog_14_method_64_code 23 = .ok (.iaload, 1) := by decide +kernel
theorem d_M_weightIn_24 : decode prog_14_method_64_code 24 = .ok (.bipush 22, 2) := by decide +kernel
theorem d_M_weightIn_26 : decode prog_14_method_64_code 26 = .ok (.imul, 1) := by decide +kernel
theorem d_M_weightIn_27 : decode prog_14_method_64_code 27 = .ok (.iload 4, 2) := by decide +kernel
theorem d_M_weightIn_29 : decode prog_14_method_64_code 29 = .ok (.imul, 1) := by decide +kernel
theorem d_M_weightIn_30 : decode prog_14_method_64_code 30 = .ok (.bipush 10, 2) := by decide +kernel
theorem d_M_weightIn_32 : decode prog_14_method_64_code 32 = .ok (.iload 4, 2) := by decide +kernel
theorem d_M_weightIn_34 : decode prog_14_method_64_code 34 = .ok (.imul, 1) := by decide +kernel
theorem d_M_weightIn_35 : decode prog_14_method_64_code 35 = .ok (.iconst 3, 1) := by decide +kernel
theorem d_M_weightIn_36 : decode prog_14_method_64_code 36 = .ok (.iadd, 1) := by decide +kernel
theorem d_M_weightIn_37 : decode prog_14_method_64_code 37 = .ok (.bipush 9, 2) := by decide +kernel
theorem d_M_weightIn_39 : decode prog_14_method_64_code 39 = .ok (.aload_n 0, 1) := by decide +kernel
theorem d_M_weightIn_40 : decode prog_14_method_64_code 40 = .ok (.getfield 32, 3) := by decide +kernel
theorem d_M_weightIn_43 : decode prog_14_method_64_code 43 = .ok (.iconst 2, 1) := by decide +kernel
theorem d_M_weightIn_44 : decode prog_14_method_64_code 44 = .ok (.aload_n 0, 1) := by decide +kernel
theorem d_M_weightIn_45 : decode prog_14_method_64_code 45 = .ok (.getfield 13, 3) := by decide +kernel
theorem d_M_weightIn_48 : decode prog_14_method_64_code 48 = .ok (.iload_n 2, 1) := by decide +kernel
theorem d_M_weightIn_49 : decode prog_14_method_64_code 49 = .ok (.iaload, 1) := by decide +kernel
theorem d_M_weightIn_50 : decode prog_14_method_64_code 50 = .ok (.imul, 1) := by decide +kernel
theorem d_M_weightIn_51 : decode prog_14_method_64_code 51 = .ok (.iload_n 3, 1) := by decide +kernel
theorem d_M_weightIn_52 : decode prog_14_method_64_code 52 = .ok (.iadd, 1) := by decide +kernel
theorem d_M_weightIn_53 : decode prog_14_method_64_code 53 = .ok (.iaload, 1) := by decide +kernel
theorem d_M_weightIn_54 : decode prog_14_method_64_code 54 = .ok (.imul, 1) := by decide +kernel
theorem d_M_weightIn_55 : decode prog_14_method_64_code 55 = .ok (.aload_n 0, 1) := by decide +kernel
theorem d_M_weightIn_56 : decode prog_14_method_64_code 56 = .ok (.getfield 76, 3) := by decide +kernel
theorem d_M_weightIn_59 : decode prog_14_method_64_code 59 = .ok (.iload_n 3, 1) := by decide +kernel
theorem d_M_weightIn_60 : decode prog_14_method_64_code 60 = .ok (.iaload, 1) := by decide +kernel
theorem d_M_weightIn_61 : decode prog_14_method_64_code 61 = .ok (.idiv, 1) := by decide +kernel
theorem d_M_weightIn_62 : decode prog_14_method_64_code 62 = .ok (.iadd, 1) := by decide +kernel
theorem d_M_weightIn_63 : decode prog_14_method_64_code 63 = .ok (.idiv, 1) := by decide +kernel
theorem d_M_weightIn_64 : decode prog_14_method_64_code 64 = .ok (.istore 5, 2) := by decide +kernel
theorem d_M_weightIn_66 : decode prog_14_method_64_code 66 = .ok (.iload_n 3, 1) := by decide +kernel
theorem d_M_weightIn_67 : decode prog_14_method_64_code 67 = .ok (.ifCond .ne 10, 3) := by decide +kernel
theorem d_M_weightIn_77 : decode prog_14_method_64_code 77 = .ok (.iload 5, 2) := by decide +kernel
theorem d_M_weightIn_79 : decode prog_14_method_64_code 79 = .ok (.ireturn, 1) := by decide +kernel
theorem d_M_weightIn_70 : decode prog_14_method_64_code 70 = .ok (.iconst 2, 1) := by decide +kernel
theorem d_M_weightIn_71 : decode prog_14_method_64_code 71 = .ok (.iload 5, 2) := by decide +kernel
theorem d_M_weightIn_73 : decode prog_14_method_64_code 73 = .ok (.imul, 1) := by decide +kernel
theorem d_M_weightIn_74 : decode prog_14_method_64_code 74 = .ok (.goto 5, 3) := by decide +kernel
theorem v_M_weightIn_0 {G : XG} {d : Nat} {h : XH} {Q : XV → XH → Prop} {X : Nat → XH → Prop} {x1 x2 x3 : Int} (F : xFix h) (hyp : xiR (60 * x1) ∧ xiR ((60 * x1) + x2) ∧ xiR (2 * ((60 * x1) + x2)) ∧ xiR ((2 * ((60 * x1) + x2)) + x3) ∧ 0 ≤ ((2 * ((60 * x1) + x2)) + x3) ∧ ((2 * ((60 * x1) + x2)) + x3) < 4920 ∧ xiR ((2 * x1) + x3) ∧ 0 ≤ ((2 * x1) + x3) ∧ ((2 * x1) + x3) < 82 ∧ xiR ((xpl h 83 ((2 * x1) + x3)) * 22) ∧ xiR (((xpl h 83 ((2 * x1) + x3)) * 22) * (xpl h 81 ((2 * ((60 * x1) + x2)) + x3))) ∧ xiR (10 * (xpl h 81 ((2 * ((60 * x1) + x2)) + x3))) ∧ 0 ≤ x2 ∧ x2 < 60 ∧ xiR (2 * (xpl h 55 x2)) ∧ xiR ((2 * (xpl h 55 x2)) + x3) ∧ 0 ≤ ((2 * (xpl h 55 x2)) + x3) ∧ ((2 * (xpl h 55 x2)) + x3) < 120 ∧ xiR (9 * (xpl h 61 ((2 * (xpl h 55 x2)) + x3))) ∧ 0 ≤ x3 ∧ x3 < 2 ∧ (0 : Int) < (xpl h 84 x3) ∧ xiR (((10 * (xpl h 81 ((2 * ((60 * x1) + x2)) + x3))) + 3) + (Int.tdiv (9 * (xpl h 61 ((2 * (xpl h 55 x2)) + x3))) (xpl h 84 x3))) ∧ (0 : Int) < (((10 * (xpl h 81 ((2 * ((60 * x1) + x2)) + x3))) + 3) + (Int.tdiv (9 * (xpl h 61 ((2 * (xpl h 55 x2)) + x3))) (xpl h 84 x3))) ∧ ((x3 = 0 → xiR (2 * (Int.tdiv (((xpl h 83 ((2 * x1) + x3)) * 22) * (xpl h 81 ((2 * ((60 * x1) + x2)) + x3))) (((10 * (xpl h 81 ((2 * ((60 * x1) + x2)) + x3))) + 3) + (Int.tdiv (9 * (xpl h 61 ((2 * (xpl h 55 x2)) + x3))) (xpl h 84 x3))))) ∧ (Q (xI (2 * (Int.tdiv (((xpl h 83 ((2 * x1) + x3)) * 22) * (xpl h 81 ((2 * ((60 * x1) + x2)) + x3))) (((10 * (xpl h 81 ((2 * ((60 * x1) + x2)) + x3))) + 3) + (Int.tdiv (9 * (xpl h 61 ((2 * (xpl h 55 x2)) + x3))) (xpl h 84 x3)))))) h)) ∧ (¬ x3 = 0 → (Q (xI (Int.tdiv (((xpl h 83 ((2 * x1) + x3)) * 22) * (xpl h 81 ((2 * ((60 * x1) + x2)) + x3))) (((10 * (xpl h 81 ((2 * ((60 * x1) + x2)) + x3))) + 3) + (Int.tdiv (9 * (xpl h 61 ((2 * (xpl h 55 x2)) + x3))) (xpl h 84 x3))))) h)))) : xwp G m_M_weightIn (d + 2) 0 [xR 53, xI x1, xI x2, xI x3, xZ, xZ] [] h Q X := by
  have hnx9 : (93 : Int) ≤ xnx h := F.2.2
  refine xr_okL (fun hl9 => ?_)
  have r_x1 : -2147483648 ≤ x1 ∧ x1 ≤ 2147483647 := hl9 (xI x1) (.tail _ (.head _)) (Nat.le_of_ble_eq_true rfl)
  have r_x2 : -2147483648 ≤ x2 ∧ x2 ≤ 2147483647 := hl9 (xI x2) (.tail _ (.tail _ (.head _))) (Nat.le_of_ble_eq_true rfl)
  have r_x3 : -2147483648 ≤ x3 ∧ x3 ≤ 2147483647 := hl9 (xI x3) (.tail _ (.tail _ (.tail _ (.head _)))) (Nat.le_of_ble_eq_true rfl)
  refine xr_aload_n (pc := 0) (i := 0) (hI := d_M_weightIn_0) (hi := rfl) (hl := rfl) ?_
  refine xg_getf (pc := 1) (ci := 11) (k := 27) (N := 38) (v9 := 2) (v := 81) (T := xF11) (hI := d_M_weightIn_1) (hw := w_1614) rfl xi11 (Or.inl rfl) (Nat.le_of_ble_eq_true rfl) (Nat.le_of_ble_eq_true rfl) rfl (ft_53 F) (fp_53_27 F) (fun f1_ => ?_)
  clear f1_
  refine xr_aload_n (pc := 4) (i := 0) (hI := d_M_weightIn_4) (hi := rfl) (hl := rfl) ?_
  refine xr_iload_n (pc := 5) (i := 1) (hI := d_M_weightIn_5) (hi := rfl) (hl := rfl) ?_
  refine xr_iload_n (pc := 6) (i := 2) (hI := d_M_weightIn_6) (hi := rfl) (hl := rfl) ?_
  refine xr_iload_n (pc := 7) (i := 3) (hI := d_M_weightIn_7) (hi := rfl) (hl := rfl) ?_
  refine xq_callV (pc := 8) (index := 352) (K := m_M_cellOf) (As := [xI x1, xI x2, xI x3]) (S := [xR 81]) (L0 := [xR 53, xI x1, xI x2, xI x3]) (hI := d_M_weightIn_8) (hK := k_M_cellOf) (hlk := w_2381) (hnoM := rfl) (hS8 := Nat.le_of_ble_eq_true rfl) (ci := 11) (N := 38) (C := "BeaconIndexModel") (T := xF11) (hc := rfl) (hci := Nat.le_of_ble_eq_true rfl) (htb := (ft_53 F)) (hinst := w_2383) (hsel := sel_M_cellOf) (hlen := Nat.le_of_ble_eq_true rfl) (hst := rfl) (hL0 := rfl)  ?_
  refine xr_iconst (pc := 0) (hI := d_M_cellOf_0) (hr := by decide) ?_
  refine xr_bipush (pc := 1) (hI := d_M_cellOf_1) (hr := by decide) (hv := by decide) ?_
  refine xr_iload_n (pc := 3) (i := 1) (hI := d_M_cellOf_3) (hi := rfl) (hl := rfl) ?_
  obtain ⟨c9, hyp⟩ := hyp
  refine xr_imul (pc := 4) (hI := d_M_cellOf_4) (hr := c9) ?_
  refine xr_iload_n (pc := 5) (i := 2) (hI := d_M_cellOf_5) (hi := rfl) (hl := rfl) ?_
  obtain ⟨c9, hyp⟩ := hyp
  refine xr_iadd (pc := 6) (hI := d_M_cellOf_6) (hr := c9) ?_
  obtain ⟨c9, hyp⟩ := hyp
  refine xr_imul (pc := 7) (hI := d_M_cellOf_7) (hr := c9) ?_
  refine xr_iload_n (pc := 8) (i := 3) (hI := d_M_cellOf_8) (hi := rfl) (hl := rfl) ?_
  obtain ⟨c9, hyp⟩ := hyp
  refine xr_iadd (pc := 9) (hI := d_M_cellOf_9) (hr := c9) ?_
  refine xr_ireturn (S := []) (pc := 10) (hI := d_M_cellOf_10) (hr := rfl) ?_
  show xwp G m_M_weightIn (d + 2) 11 [xR 53, xI x1, xI x2, xI x3, xZ, xZ] [xI ((2 * ((60 * x1) + x2)) + x3), xR 81] _ _ _
  obtain ⟨c2_, hyp⟩ := hyp
  obtain ⟨c3_, hyp⟩ := hyp
  refine xg_iaload (pc := 11) (v := (xpl h 81 ((2 * ((60 * x1) + x2)) + x3))) (hI := d_M_weightIn_11) (ft_81 F) c2_ (xlt_of (fl_81 F) c3_) rfl (fun f4_ => ?_)
  replace f4_ : -2147483648 ≤ (xpl h 81 ((2 * ((60 * x1) + x2)) + x3)) ∧ (xpl h 81 ((2 * ((60 * x1) + x2)) + x3)) ≤ 2147483647 := f4_
  refine xr_istore (pc := 12) (i := 4) (L9 := [xR 53, xI x1, xI x2, xI x3, xI (xpl h 81 ((2 * ((60 * x1) + x2)) + x3)), xZ]) (hI := d_M_weightIn_12) (hn := Nat.le_of_ble_eq_true rfl) (hL9 := rfl) ?_
  refine xr_aload_n (pc := 14) (i := 0) (hI := d_M_weightIn_14) (hi := rfl) (hl := rfl) ?_
  refine xg_getf (pc := 15) (ci := 11) (k := 29) (N := 38) (v9 := 2) (v := 83) (T := xF11) (hI := d_M_weightIn_15) (hw := w_1616) rfl xi11 (Or.inl rfl) (Nat.le_of_ble_eq_true rfl) (Nat.le_of_ble_eq_true rfl) rfl (ft_53 F) (fp_53_29 F) (fun f5_ => ?_)
  clear f5_
  refine xr_iconst (pc := 18) (hI := d_M_weightIn_18) (hr := by decide) ?_
  refine xr_iload_n (pc := 19) (i := 1) (hI := d_M_weightIn_19) (hi := rfl) (hl := rfl) ?_
  refine xr_imul (pc := 20) (hI := d_M_weightIn_20) (hr := ⟨by clear hyp; omega, by clear hyp; omega⟩) ?_
  refine xr_iload_n (pc := 21) (i := 3) (hI := d_M_weightIn_21) (hi := rfl) (hl := rfl) ?_
  obtain ⟨c9, hyp⟩ := hyp
  refine xr_iadd (pc := 22) (hI := d_M_weightIn_22) (hr := c9) ?_
  obtain ⟨c6_, hyp⟩ := hyp
  obtain ⟨c7_, hyp⟩ := hyp
  refine xg_iaload (pc := 23) (v := (xpl h 83 ((2 * x1) + x3))) (hI := d_M_weightIn_23) (ft_83 F) c6_ (xlt_of (fl_83 F) c7_) rfl (fun f8_ => ?_)
  replace f8_ : -2147483648 ≤ (xpl h 83 ((2 * x1) + x3)) ∧ (xpl h 83 ((2 * x1) + x3)) ≤ 2147483647 := f8_
  refine xr_bipush (pc := 24) (hI := d_M_weightIn_24) (hr := by decide) (hv := by decide) ?_
  obtain ⟨c9, hyp⟩ := hyp
  refine xr_imul (pc := 26) (hI := d_M_weightIn_26) (hr := c9) ?_
  refine xr_iload (pc := 27) (i := 4) (hI := d_M_weightIn_27) (hl := rfl) ?_
  obtain ⟨c9, hyp⟩ := hyp
  refine xr_imul (pc := 29) (hI := d_M_weightIn_29) (hr := c9) ?_
  refine xr_bipush (pc := 30) (hI := d_M_weightIn_30) (hr := by decide) (hv := by decide) ?_
  refine xr_iload (pc := 32) (i := 4) (hI := d_M_weightIn_32) (hl := rfl) ?_
  obtain ⟨c9, hyp⟩ := hyp
  refine xr_imul (pc := 34) (hI := d_M_weightIn_34) (hr := c9) ?_
  refine xr_iconst (pc := 35) (hI := d_M_weightIn_35) (hr := by decide) ?_
  refine xr_iadd (pc := 36) (hI := d_M_weightIn_36) (hr := ⟨by clear hyp; omega, by clear hyp; omega⟩) ?_
  refine xr_bipush (pc := 37) (hI := d_M_weightIn_37) (hr := by decide) (hv := by decide) ?_
  refine xr_aload_n (pc := 39) (i := 0) (hI := d_M_weightIn_39) (hi := rfl) (hl := rfl) ?_
  refine xg_getf (pc := 40) (ci := 11) (k := 12) (N := 38) (v9 := 2) (v := 61) (T := xF11) (hI := d_M_weightIn_40) (hw := w_1599) rfl xi11 (Or.inl rfl) (Nat.le_of_ble_eq_true rfl) (Nat.le_of_ble_eq_true rfl) rfl (ft_53 F) (fp_53_12 F) (fun f9_ => ?_)
  clear f9_
  refine xr_iconst (pc := 43) (hI := d_M_weightIn_43) (hr := by decide) ?_
  refine xr_aload_n (pc := 44) (i := 0) (hI := d_M_weightIn_44) (hi := rfl) (hl := rfl) ?_
  refine xg_getf (pc := 45) (ci := 11) (k := 3) (N := 38) (v9 := 2) (v := 55) (T := xF11) (hI := d_M_weightIn_45) (hw := w_1590) rfl xi11 (Or.inl rfl) (Nat.le_of_ble_eq_true rfl) (Nat.le_of_ble_eq_true rfl) rfl (ft_53 F) (fp_53_3 F) (fun f10_ => ?_)
  clear f10_
  refine xr_iload_n (pc := 48) (i := 2) (hI := d_M_weightIn_48) (hi := rfl) (hl := rfl) ?_
  obtain ⟨c11_, hyp⟩ := hyp
  obtain ⟨c12_, hyp⟩ := hyp
  refine xg_iaload (pc := 49) (v := (xpl h 55 x2)) (hI := d_M_weightIn_49) (ft_55 F) c11_ (xlt_of (fl_55 F) c12_) rfl (fun f13_ => ?_)
  replace f13_ : -2147483648 ≤ (xpl h 55 x2) ∧ (xpl h 55 x2) ≤ 2147483647 := f13_
  obtain ⟨c9, hyp⟩ := hyp
  refine xr_imul (pc := 50) (hI := d_M_weightIn_50) (hr := c9) ?_
  refine xr_iload_n (pc := 51) (i := 3) (hI := d_M_weightIn_51) (hi := rfl) (hl := rfl) ?_
  obtain ⟨c9, hyp⟩ := hyp
  refine xr_iadd (pc := 52) (hI := d_M_weightIn_52) (hr := c9) ?_
  obtain ⟨c14_, hyp⟩ := hyp
  obtain ⟨c15_, hyp⟩ := hyp
  refine xg_iaload (pc := 53) (v := (xpl h 61 ((2 * (xpl h 55 x2)) + x3))) (hI := d_M_weightIn_53) (ft_61 F) c14_ (xlt_of (fl_61 F) c15_) rfl (fun f16_ => ?_)
  replace f16_ : -2147483648 ≤ (xpl h 61 ((2 * (xpl h 55 x2)) + x3)) ∧ (xpl h 61 ((2 * (xpl h 55 x2)) + x3)) ≤ 2147483647 := f16_
  obtain ⟨c9, hyp⟩ := hyp
  refine xr_imul (pc := 54) (hI := d_M_weightIn_54) (hr := c9) ?_
  refine xr_aload_n (pc := 55) (i := 0) (hI := d_M_weightIn_55) (hi := rfl) (hl := rfl) ?_
  refine xg_getf (pc := 56) (ci := 11) (k := 30) (N := 38) (v9 := 2) (v := 84) (T := xF11) (hI := d_M_weightIn_56) (hw := w_1617) rfl xi11 (Or.inl rfl) (Nat.le_of_ble_eq_true rfl) (Nat.le_of_ble_eq_true rfl) rfl (ft_53 F) (fp_53_30 F) (fun f17_ => ?_)
  clear f17_
  refine xr_iload_n (pc := 59) (i := 3) (hI := d_M_weightIn_59) (hi := rfl) (hl := rfl) ?_
  obtain ⟨c18_, hyp⟩ := hyp
  obtain ⟨c19_, hyp⟩ := hyp
  refine xg_iaload (pc := 60) (v := (xpl h 84 x3)) (hI := d_M_weightIn_60) (ft_84 F) c18_ (xlt_of (fl_84 F) c19_) rfl (fun f20_ => ?_)
  replace f20_ : -2147483648 ≤ (xpl h 84 x3) ∧ (xpl h 84 x3) ≤ 2147483647 := f20_
  obtain ⟨c9, hyp⟩ := hyp
  refine xr_idiv (pc := 61) (hI := d_M_weightIn_61) (h0 := c9) ?_
  obtain ⟨c9, hyp⟩ := hyp
  refine xr_iadd (pc := 62) (hI := d_M_weightIn_62) (hr := c9) ?_
  obtain ⟨c9, hyp⟩ := hyp
  refine xr_idiv (pc := 63) (hI := d_M_weightIn_63) (h0 := c9) ?_
  refine xr_istore (pc := 64) (i := 5) (L9 := [xR 53, xI x1, xI x2, xI x3, xI (xpl h 81 ((2 * ((60 * x1) + x2)) + x3)), xI (Int.tdiv (((xpl h 83 ((2 * x1) + x3)) * 22) * (xpl h 81 ((2 * ((60 * x1) + x2)) + x3))) (((10 * (xpl h 81 ((2 * ((60 * x1) + x2)) + x3))) + 3) + (Int.tdiv (9 * (xpl h 61 ((2 * (xpl h 55 x2)) + x3))) (xpl h 84 x3))))]) (hI := d_M_weightIn_64) (hn := Nat.le_of_ble_eq_true rfl) (hL9 := rfl) ?_
  refine xr_iload_n (pc := 66) (i := 3) (hI := d_M_weightIn_66) (hi := rfl) (hl := rfl) ?_
  refine xr_if_ne (pc := 67) (tgt := 77) (hI := d_M_weightIn_67) (ht := by decide) (fun q9 => ?_) (fun q9 => ?_)
  · replace hyp := hyp.2 q9
    have q21_ := q9
    clear q9
    refine xr_iload (pc := 77) (i := 5) (hI := d_M_weightIn_77) (hl := rfl) ?_
    refine xr_ireturn (S := []) (pc := 79) (hI := d_M_weightIn_79) (hr := rfl) ?_
    exact hyp
  · replace hyp := hyp.1 q9
    have q21_ := q9
    clear q9
    refine xr_iconst (pc := 70) (hI := d_M_weightIn_70) (hr := by decide) ?_
    refine xr_iload (pc := 71) (i := 5) (hI := d_M_weightIn_71) (hl := rfl) ?_
    obtain ⟨c9, hyp⟩ := hyp
    refine xr_imul (pc := 73) (hI := d_M_weightIn_73) (hr := c9) ?_
    refine xr_goto (pc := 74) (tgt := 79) (hI := d_M_weightIn_74) (ht := by decide) ?_
    refine xr_ireturn (S := []) (pc := 79) (hI := d_M_weightIn_79) (hr := rfl) ?_
    exact hyp
abbrev m_M_finds : XM := (⟨"BeaconIndexModel", "finds", "(II)Z"⟩, prog_14_method_65_code, 7, (some .boolean), [])
theorem d_M_finds_0 : decode prog_14_method_65_code 0 = .ok (.iconst 0, 1) := by decide +kernel
theorem d_M_finds_1 : decode prog_14_method_65_code 1 = .ok (.istore_n 3, 1) := by decide +kernel
theorem d_M_finds_2 : decode prog_14_method_65_code 2 = .ok (.iconst 0, 1) := by decide +kernel
theorem d_M_finds_3 : decode prog_14_method_65_code 3 = .ok (.istore 4, 2) := by decide +kernel
theorem d_M_finds_5 : decode prog_14_method_65_code 5 = .ok (.iload_n 1, 1) := by decide +kernel
theorem d_M_finds_6 : decode prog_14_method_65_code 6 = .ok (.iconst 1, 1) := by decide +kernel
theorem d_M_finds_7 : decode prog_14_method_65_code 7 = .ok (.iadd, 1) := by decide +kernel
theorem d_M_finds_8 : decode prog_14_method_65_code 8 = .ok (.istore 5, 2) := by decide +kernel
theorem v_M_finds_0 {G : XG} {d : Nat} {h : XH} {Q : XV → XH → Prop} {X : Nat → XH → Prop} {x1 x2 : Int} (F : xFix h) (hyp : xiR (x1 + 1) ∧ (xwp G m_M_finds (d + 1) 10 [xR 53, xI x1, xI x2, xI 0, xI 0, xI (x1 + 1), xZ] [] h Q X)) : xwp G m_M_finds (d + 1) 0 [xR 53, xI x1, xI x2, xZ, xZ, xZ, xZ] [] h Q X := by
  have hnx9 : (93 : Int) ≤ xnx h := F.2.2
  refine xr_okL (fun hl9 => ?_)
  have r_x1 : -2147483648 ≤ x1 ∧ x1 ≤ 2147483647 := hl9 (xI x1) (.tail _ (.head _)) (Nat.le_of_ble_eq_true rfl)
  have r_x2 : -2147483648 ≤ x2 ∧ x2 ≤ 2147483647 := hl9 (xI x2) (.tail _ (.tail _ (.head _))) (Nat.le_of_ble_eq_true rfl)
  refine xr_iconst (pc := 0) (hI := d_M_finds_0) (hr := by decide) ?_
  refine xr_istore_n (pc := 1) (i := 3) (L9 := [xR 53, xI x1, xI x2, xI 0, xZ, xZ, xZ]) (hI := d_M_finds_1) (hi := rfl) (hn := Nat.le_of_ble_eq_true rfl) (hL9 := rfl) ?_
  refine xr_iconst (pc := 2) (hI := d_M_finds_2) (hr := by decide) ?_
  refine xr_istore (pc := 3) (i := 4) (L9 := [xR 53, xI x1, xI x2, xI 0, xI 0, xZ, xZ]) (hI := d_M_finds_3) (hn := Nat.le_of_ble_eq_true rfl) (hL9 := rfl) ?_
  refine xr_iload_n (pc := 5) (i := 1) (hI := d_M_finds_5) (hi := rfl) (hl := rfl) ?_
  refine xr_iconst (pc := 6) (hI := d_M_finds_6) (hr := by decide) ?_
  obtain ⟨c9, hyp⟩ := hyp
  refine xr_iadd (pc := 7) (hI := d_M_finds_7) (hr := c9) ?_
  refine xr_istore (pc := 8) (i := 5) (L9 := [xR 53, xI x1, xI x2, xI 0, xI 0, xI (x1 + 1), xZ]) (hI := d_M_finds_8) (hn := Nat.le_of_ble_eq_true rfl) (hL9 := rfl) ?_
  exact hyp
theorem d_M_finds_10 : decode prog_14_method_65_code 10 = .ok (.iload 5, 2) := by decide +kernel
theorem d_M_finds_12 : decode prog_14_method_65_code 12 = .ok (.aload_n 0, 1) := by decide +kernel
theorem d_M_finds_13 : decode prog_14_method_65_code 13 = .ok (.getfield 51, 3) := by decide +kernel
theorem d_M_finds_16 : decode prog_14_method_65_code 16 = .ok (.getfield 271, 3) := by decide +kernel
theorem d_M_finds_19 : decode prog_14_method_65_code 19 = .ok (.if_icmp .ge 125, 3) := by decide +kernel
theorem d_M_finds_144 : decode prog_14_method_65_code 144 = .ok (.iload 4, 2) := by decide +kernel
theorem d_M_finds_146 : decode prog_14_method_65_code 146 = .ok (.ifCond .ne 7, 3) := by decide +kernel
theorem d_M_finds_153 : decode prog_14_method_65_code 153 = .ok (.iconst 1, 1) := by decide +kernel
theorem d_M_finds_154 : decode prog_14_method_65_code 154 = .ok (.goto 4, 3) := by decide +kernel
theorem d_M_finds_158 : decode prog_14_method_65_code 158 = .ok (.ireturn, 1) := by decide +kernel
theorem d_M_finds_149 : decode prog_14_method_65_code 149 = .ok (.iload_n 3, 1) := by decide +kernel
theorem d_M_finds_150 : decode prog_14_method_65_code 150 = .ok (.ifCond .eq 7, 3) := by decide +kernel
theorem d_M_finds_157 : decode prog_14_method_65_code 157 = .ok (.iconst 0, 1) := by decide +kernel
theorem d_M_finds_22 : decode prog_14_method_65_code 22 = .ok (.aload_n 0, 1) := by decide +kernel
theorem d_M_finds_23 : decode prog_14_method_65_code 23 = .ok (.getfield 51, 3) := by decide +kernel
theorem d_M_finds_26 : decode prog_14_method_65_code 26 = .ok (.getfield 274, 3) := by decide +kernel
theorem d_M_finds_29 : decode prog_14_method_65_code 29 = .ok (.iload 5, 2) := by decide +kernel
theorem d_M_finds_31 : decode prog_14_method_65_code 31 = .ok (.iaload, 1) := by decide +kernel
theorem d_M_finds_32 : decode prog_14_method_65_code 32 = .ok (.iload_n 1, 1) := by decide +kernel
theorem d_M_finds_33 : decode prog_14_method_65_code 33 = .ok (.if_icmp .ne 105, 3) := by decide +kernel
theorem d_M_finds_138 : decode prog_14_method_65_code 138 = .ok (.iinc 5 1, 3) := by decide +kernel
theorem d_M_finds_141 : decode prog_14_method_65_code 141 = .ok (.goto (-131), 3) := by decide +kernel
theorem d_M_finds_36 : decode prog_14_method_65_code 36 = .ok (.iload 5, 2) := by decide +kernel
theorem d_M_finds_38 : decode prog_14_method_65_code 38 = .ok (.iload_n 2, 1) := by decide +kernel
theorem d_M_finds_39 : decode prog_14_method_65_code 39 = .ok (.if_icmp .ne 6, 3) := by decide +kernel
theorem d_M_finds_45 : decode prog_14_method_65_code 45 = .ok (.aload_n 0, 1) := by decide +kernel
theorem d_M_finds_46 : decode prog_14_method_65_code 46 = .ok (.getfield 51, 3) := by decide +kernel
theorem d_M_finds_49 : decode prog_14_method_65_code 49 = .ok (.getfield 284, 3) := by decide +kernel
theorem d_M_finds_52 : decode prog_14_method_65_code 52 = .ok (.iload 5, 2) := by decide +kernel
theorem d_M_finds_54 : decode prog_14_method_65_code 54 = .ok (.iaload, 1) := by decide +kernel
theorem d_M_finds_55 : decode prog_14_method_65_code 55 = .ok (.istore 6, 2) := by decide +kernel
theorem d_M_finds_57 : decode prog_14_method_65_code 57 = .ok (.iload 6, 2) := by decide +kernel
theorem d_M_finds_59 : decode prog_14_method_65_code 59 = .ok (.bipush 45, 2) := by decide +kernel
theorem d_M_finds_61 : decode prog_14_method_65_code 61 = .ok (.if_icmp .ne 16, 3) := by decide +kernel
theorem d_M_finds_77 : decode prog_14_method_65_code 77 = .ok (.iload 6, 2) := by decide +kernel
theorem d_M_finds_79 : decode prog_14_method_65_code 79 = .ok (.bipush 43, 2) := by decide +kernel
theorem d_M_finds_81 : decode prog_14_method_65_code 81 = .ok (.if_icmp .ne 15, 3) := by decide +kernel
theorem d_M_finds_84 : decode prog_14_method_65_code 84 = .ok (.aload_n 0, 1) := by decide +kernel
theorem d_M_finds_85 : decode prog_14_method_65_code 85 = .ok (.getfield 79, 3) := by decide +kernel
theorem w_1618 : Cond.fieldLink "BeaconIndexModel" 79 "BeaconIndexModel" "isIn" "[Z" ∈ lw_tbl := List.mem_append_right _ (List.mem_of_getElem? (i := 1618) (by decide +kernel))
theorem d_M_finds_88 : decode prog_14_method_65_code 88 = .ok (.iload 5, 2) := by decide +kernel
theorem d_M_finds_90 : decode prog_14_method_65_code 90 = .ok (.baload, 1) := by decide +kernel
theorem d_M_finds_91 : decode prog_14_method_65_code 91 = .ok (.ifCond .ne 5, 3) := by decide +kernel
theorem d_M_finds_94 : decode prog_14_method_65_code 94 = .ok (.iconst 0, 1) := by decide +kernel
theorem d_M_finds_95 : decode prog_14_method_65_code 95 = .ok (.ireturn, 1) := by decide +kernel
theorem d_M_finds_64 : decode prog_14_method_65_code 64 = .ok (.aload_n 0, 1) := by decide +kernel
theorem d_M_finds_65 : decode prog_14_method_65_code 65 = .ok (.getfield 79, 3) := by decide +kernel
theorem d_M_finds_68 : decode prog_14_method_65_code 68 = .ok (.iload 5, 2) := by decide +kernel
theorem d_M_finds_70 : decode prog_14_method_65_code 70 = .ok (.baload, 1) := by decide +kernel
theorem d_M_finds_71 : decode prog_14_method_65_code 71 = .ok (.ifCond .eq 25, 3) := by decide +kernel
theorem d_M_finds_74 : decode prog_14_method_65_code 74 = .ok (.goto 20, 3) := by decide +kernel
theorem d_M_finds_42 : decode prog_14_method_65_code 42 = .ok (.goto 96, 3) := by decide +kernel
theorem v_M_finds_10 {G : XG} {d : Nat} {h : XH} {Q : XV → XH → Prop} {X : Nat → XH → Prop} {x1 x2 x3 x4 x5 : Int} (F : xFix h) (hyp : xtg h (xpl h 53 19) = 12 ∧ (((xpl h (xpl h 53 19) 0) ≤ x5 → ((x4 = 0 → ((x3 = 0 → (Q (xI 0) h)) ∧ (¬ x3 = 0 → (Q (xI 1) h)))) ∧ (¬ x4 = 0 → (Q (xI 1) h)))) ∧ (¬ (xpl h (xpl h 53 19) 0) ≤ x5 → xtg h (xpl h (xpl h 53 19) 1) = 100 ∧ 0 ≤ x5 ∧ x5 < (xln h (xpl h (xpl h 53 19) 1)) ∧ (((xpl h (xpl h (xpl h 53 19) 1) x5) = x1 → ((x5 = x2 → (xwp G m_M_finds (d + 1) 10 [xR 53, xI x1, xI x2, xI x3, xI x4, xI (x5 + 1), xZ] [] h Q X)) ∧ (¬ x5 = x2 → xtg h (xpl h (xpl h 53 19) 2) = 100 ∧ x5 < (xln h (xpl h (xpl h 53 19) 2)) ∧ (((xpl h (xpl h (xpl h 53 19) 2) x5) = 45 → x5 < 41 ∧ (((xpl h 85 x5) = 0 → (xwp G m_M_finds (d + 1) 96 [xR 53, xI x1, xI x2, xI x3, xI x4, xI x5, xI (xpl h (xpl h (xpl h 53 19) 2) x5)] [] h Q X)) ∧ (¬ (xpl h 85 x5) = 0 → (Q (xI 0) h)))) ∧ (¬ (xpl h (xpl h (xpl h 53 19) 2) x5) = 45 → (((xpl h (xpl h (xpl h 53 19) 2) x5) = 43 → x5 < 41 ∧ (((xpl h 85 x5) = 0 → (Q (xI 0) h)) ∧ (¬ (xpl h 85 x5) = 0 → (xwp G m_M_finds (d + 1) 96 [xR 53, xI x1, xI x2, xI x3, xI x4, xI x5, xI (xpl h (xpl h (xpl h 53 19) 2) x5)] [] h Q X)))) ∧ (¬ (xpl h (xpl h (xpl h 53 19) 2) x5) = 43 → (xwp G m_M_finds (d + 1) 96 [xR 53, xI x1, xI x2, xI x3, xI x4, xI x5, xI (xpl h (xpl h (xpl h 53 19) 2) x5)] [] h Q X)))))))) ∧ (¬ (xpl h (xpl h (xpl h 53 19) 1) x5) = x1 → (xwp G m_M_finds (d + 1) 10 [xR 53, xI x1, xI x2, xI x3, xI x4, xI (x5 + 1), xZ] [] h Q X)))))) : xwp G m_M_finds (d + 1) 10 [xR 53, xI x1, xI x2, xI x3, xI x4, xI x5, xZ] [] h Q X := by
  have hnx9 : (93 : Int) ≤ xnx h := F.2.2
  refine xr_okL (fun hl9 => ?_)
  have r_x1 : -2147483648 ≤ x1 ∧ x1 ≤ 2147483647 := hl9 (xI x1) (.tail _ (.head _)) (Nat.le_of_ble_eq_true rfl)
  have r_x2 : -2147483648 ≤ x2 ∧ x2 ≤ 2147483647 := hl9 (xI x2) (.tail _ (.tail _ (.head _))) (Nat.le_of_ble_eq_true rfl)
  have r_x3 : -2147483648 ≤ x3 ∧ x3 ≤ 2147483647 := hl9 (xI x3) (.tail _ (.tail _ (.tail _ (.head _)))) (Nat.le_of_ble_eq_true rfl)
  have r_x4 : -2147483648 ≤ x4 ∧ x4 ≤ 2147483647 := hl9 (xI x4) (.tail _ (.tail _ (.tail _ (.tail _ (.head _))))) (Nat.le_of_ble_eq_true rfl)
  have r_x5 : -2147483648 ≤ x5 ∧ x5 ≤ 2147483647 := hl9 (xI x5) (.tail _ (.tail _ (.tail _ (.tail _ (.tail _ (.head _)))))) (Nat.le_of_ble_eq_true rfl)
  refine xr_iload (pc := 10) (i := 5) (hI := d_M_finds_10) (hl := rfl) ?_
  refine xr_aload_n (pc := 12) (i := 0) (hI := d_M_finds_12) (hi := rfl) (hl := rfl) ?_
  refine xg_getf (pc := 13) (ci := 11) (k := 19) (N := 38) (v9 := 2) (v := (xpl h 53 19)) (T := xF11) (hI := d_M_finds_13) (hw := w_1606) rfl xi11 (Or.inl rfl) (Nat.le_of_ble_eq_true rfl) (Nat.le_of_ble_eq_true rfl) rfl (ft_53 F) rfl (fun f1_ => ?_)
  clear f1_
  obtain ⟨c9, hyp⟩ := hyp
  have t2_ := c9
  clear c9
  refine xg_getfN (pc := 16) (ci := 12) (k := 0) (N := 13) (v9 := 0) (v := (xpl h (xpl h 53 19) 0)) (T := xF12) (hI := d_M_finds_16) (hw := w_1536) rfl xi12 (Or.inl rfl) (Nat.le_of_ble_eq_true rfl) (Nat.le_of_ble_eq_true rfl) rfl t2_ rfl (fun f3_ => ?_)
  replace f3_ : -2147483648 ≤ (xpl h (xpl h 53 19) 0) ∧ (xpl h (xpl h 53 19) 0) ≤ 2147483647 := f3_
  refine xr_icmp_ge (pc := 19) (tgt := 144) (hI := d_M_finds_19) (ht := by decide) (fun q9 => ?_) (fun q9 => ?_)
  · replace hyp := hyp.1 q9
    have q4_ := q9
    clear q9
    refine xr_iload (pc := 144) (i := 4) (hI := d_M_finds_144) (hl := rfl) ?_
    refine xr_if_ne (pc := 146) (tgt := 153) (hI := d_M_finds_146) (ht := by decide) (fun q9 => ?_) (fun q9 => ?_)
    · replace hyp := hyp.2 q9
      have q5_ := q9
      clear q9
      refine xr_iconst (pc := 153) (hI := d_M_finds_153) (hr := by decide) ?_
      refine xr_goto (pc := 154) (tgt := 158) (hI := d_M_finds_154) (ht := by decide) ?_
      refine xr_ireturnT (S := []) (pc := 158) (hI := d_M_finds_158) (hr := rfl) (xnar_z (by decide)) ?_
      exact hyp
    · replace hyp := hyp.1 q9
      have q5_ := q9
      clear q9
      refine xr_iload_n (pc := 149) (i := 3) (hI := d_M_finds_149) (hi := rfl) (hl := rfl) ?_
      refine xr_if_eq (pc := 150) (tgt := 157) (hI := d_M_finds_150) (ht := by decide) (fun q9 => ?_) (fun q9 => ?_)
      · replace hyp := hyp.1 q9
        have q6_ := q9
        clear q9
        refine xr_iconst (pc := 157) (hI := d_M_finds_157) (hr := by decide) ?_
        refine xr_ireturnT (S := []) (pc := 158) (hI := d_M_finds_158) (hr := rfl) (xnar_z (by decide)) ?_
        exact hyp
      · replace hyp := hyp.2 q9
        have q6_ := q9
        clear q9
        refine xr_iconst (pc := 153) (hI := d_M_finds_153) (hr := by decide) ?_
        refine xr_goto (pc := 154) (tgt := 158) (hI := d_M_finds_154) (ht := by decide) ?_
        refine xr_ireturnT (S := []) (pc := 158) (hI := d_M_finds_158) (hr := rfl) (xnar_z (by decide)) ?_
        exact hyp
  · replace hyp := hyp.2 q9
    have q4_ := q9
    clear q9
    refine xr_aload_n (pc := 22) (i := 0) (hI := d_M_finds_22) (hi := rfl) (hl := rfl) ?_
    refine xg_getf (pc := 23) (ci := 11) (k := 19) (N := 38) (v9 := 2) (v := (xpl h 53 19)) (T := xF11) (hI := d_M_finds_23) (hw := w_1606) rfl xi11 (Or.inl rfl) (Nat.le_of_ble_eq_true rfl) (Nat.le_of_ble_eq_true rfl) rfl (ft_53 F) rfl (fun f7_ => ?_)
    clear f7_
    refine xg_getfN (pc := 26) (ci := 12) (k := 1) (N := 13) (v9 := 2) (v := (xpl h (xpl h 53 19) 1)) (T := xF12) (hI := d_M_finds_26) (hw := w_1538) rfl xi12 (Or.inl rfl) (Nat.le_of_ble_eq_true rfl) (Nat.le_of_ble_eq_true rfl) rfl t2_ rfl (fun f8_ => ?_)
    clear f8_
    refine xr_iload (pc := 29) (i := 5) (hI := d_M_finds_29) (hl := rfl) ?_
    obtain ⟨c9, hyp⟩ := hyp
    have t9_ := c9
    clear c9
    obtain ⟨c10_, hyp⟩ := hyp
    obtain ⟨c11_, hyp⟩ := hyp
    refine xg_iaload (pc := 31) (v := (xpl h (xpl h (xpl h 53 19) 1) x5)) (hI := d_M_finds_31) t9_ c10_ (xlt_of rfl c11_) rfl (fun f12_ => ?_)
    replace f12_ : -2147483648 ≤ (xpl h (xpl h (xpl h 53 19) 1) x5) ∧ (xpl h (xpl h (xpl h 53 19) 1) x5) ≤ 2147483647 := f12_
    refine xr_iload_n (pc := 32) (i := 1) (hI := d_M_finds_32) (hi := rfl) (hl := rfl) ?_
    refine xr_icmp_ne (pc := 33) (tgt := 138) (hI := d_M_finds_33) (ht := by decide) (fun q9 => ?_) (fun q9 => ?_)
    · replace hyp := hyp.2 q9
      have q13_ := q9
      clear q9
      refine xr_iinc (pc := 138) (i := 5) (L9 := [xR 53, xI x1, xI x2, xI x3, xI x4, xI (x5 + 1), xZ]) (hI := d_M_finds_138) (hl := rfl) (hn := Nat.le_of_ble_eq_true rfl) (hr := ⟨by clear hyp; omega, by clear hyp; omega⟩) (hL9 := rfl) ?_
      refine xr_goto (pc := 141) (tgt := 10) (hI := d_M_finds_141) (ht := by decide) ?_
      exact hyp
    · replace hyp := hyp.1 q9
      have q13_ := q9
      clear q9
      refine xr_iload (pc := 36) (i := 5) (hI := d_M_finds_36) (hl := rfl) ?_
      refine xr_iload_n (pc := 38) (i := 2) (hI := d_M_finds_38) (hi := rfl) (hl := rfl) ?_
      refine xr_icmp_ne (pc := 39) (tgt := 45) (hI := d_M_finds_39) (ht := by decide) (fun q9 => ?_) (fun q9 => ?_)
      · replace hyp := hyp.2 q9
        have q14_ := q9
        clear q9
        refine xr_aload_n (pc := 45) (i := 0) (hI := d_M_finds_45) (hi := rfl) (hl := rfl) ?_
        refine xg_getf (pc := 46) (ci := 11) (k := 19) (N := 38) (v9 := 2) (v := (xpl h 53 19)) (T := xF11) (hI := d_M_finds_46) (hw := w_1606) rfl xi11 (Or.inl rfl) (Nat.le_of_ble_eq_true rfl) (Nat.le_of_ble_eq_true rfl) rfl (ft_53 F) rfl (fun f15_ => ?_)
        clear f15_
        refine xg_getfN (pc := 49) (ci := 12) (k := 2) (N := 13) (v9 := 2) (v := (xpl h (xpl h 53 19) 2)) (T := xF12) (hI := d_M_finds_49) (hw := w_1540) rfl xi12 (Or.inl rfl) (Nat.le_of_ble_eq_true rfl) (Nat.le_of_ble_eq_true rfl) rfl t2_ rfl (fun f16_ => ?_)
        clear f16_
        refine xr_iload (pc := 52) (i := 5) (hI := d_M_finds_52) (hl := rfl) ?_
        obtain ⟨c9, hyp⟩ := hyp
        have t17_ := c9
        clear c9
        obtain ⟨c18_, hyp⟩ := hyp
        refine xg_iaload (pc := 54) (v := (xpl h (xpl h (xpl h 53 19) 2) x5)) (hI := d_M_finds_54) t17_ (by clear hyp; omega) (xlt_of rfl c18_) rfl (fun f19_ => ?_)
        replace f19_ : -2147483648 ≤ (xpl h (xpl h (xpl h 53 19) 2) x5) ∧ (xpl h (xpl h (xpl h 53 19) 2) x5) ≤ 2147483647 := f19_
        refine xr_istore (pc := 55) (i := 6) (L9 := [xR 53, xI x1, xI x2, xI x3, xI x4, xI x5, xI (xpl h (xpl h (xpl h 53 19) 2) x5)]) (hI := d_M_finds_55) (hn := Nat.le_of_ble_eq_true rfl) (hL9 := rfl) ?_
        refine xr_iload (pc := 57) (i := 6) (hI := d_M_finds_57) (hl := rfl) ?_
        refine xr_bipush (pc := 59) (hI := d_M_finds_59) (hr := by decide) (hv := by decide) ?_
        refine xr_icmp_ne (pc := 61) (tgt := 77) (hI := d_M_finds_61) (ht := by decide) (fun q9 => ?_) (fun q9 => ?_)
        · replace hyp := hyp.2 q9
          have q20_ := q9
          clear q9
          refine xr_iload (pc := 77) (i := 6) (hI := d_M_finds_77) (hl := rfl) ?_
          refine xr_bipush (pc := 79) (hI := d_M_finds_79) (hr := by decide) (hv := by decide) ?_
          refine xr_icmp_ne (pc := 81) (tgt := 96) (hI := d_M_finds_81) (ht := by decide) (fun q9 => ?_) (fun q9 => ?_)
          · replace hyp := hyp.2 q9
            have q21_ := q9
            clear q9
            exact hyp
          · replace hyp := hyp.1 q9
            have q21_ := q9
            clear q9
            refine xr_aload_n (pc := 84) (i := 0) (hI := d_M_finds_84) (hi := rfl) (hl := rfl) ?_
            refine xg_getf (pc := 85) (ci := 11) (k := 31) (N := 38) (v9 := 2) (v := 85) (T := xF11) (hI := d_M_finds_85) (hw := w_1618) rfl xi11 (Or.inl rfl) (Nat.le_of_ble_eq_true rfl) (Nat.le_of_ble_eq_true rfl) rfl (ft_53 F) (fp_53_31 F) (fun f22_ => ?_)
            clear f22_
            refine xr_iload (pc := 88) (i := 5) (hI := d_M_finds_88) (hl := rfl) ?_
            obtain ⟨c23_, hyp⟩ := hyp
            refine xg_baloadZ (pc := 90) (v := (xpl h 85 x5)) (hI := d_M_finds_90) (ft_85 F) (by clear hyp; omega) (xlt_of (fl_85 F) c23_) rfl (fun f24_ => ?_)
            replace f24_ : 0 ≤ (xpl h 85 x5) ∧ (xpl h 85 x5) ≤ 1 := f24_
            refine xr_if_ne (pc := 91) (tgt := 96) (hI := d_M_finds_91) (ht := by decide) (fun q9 => ?_) (fun q9 => ?_)
            · replace hyp := hyp.2 q9
              have q25_ := q9
              clear q9
              exact hyp
            · replace hyp := hyp.1 q9
              have q25_ := q9
              clear q9
              refine xr_iconst (pc := 94) (hI := d_M_finds_94) (hr := by decide) ?_
              refine xr_ireturnT (S := []) (pc := 95) (hI := d_M_finds_95) (hr := rfl) (xnar_z (by decide)) ?_
              exact hyp
        · replace hyp := hyp.1 q9
          have q20_ := q9
          clear q9
          refine xr_aload_n (pc := 64) (i := 0) (hI := d_M_finds_64) (hi := rfl) (hl := rfl) ?_
          refine xg_getf (pc := 65) (ci := 11) (k := 31) (N := 38) (v9 := 2) (v := 85) (T := xF11) (hI := d_M_finds_65) (hw := w_1618) rfl xi11 (Or.inl rfl) (Nat.le_of_ble_eq_true rfl) (Nat.le_of_ble_eq_true rfl) rfl (ft_53 F) (fp_53_31 F) (fun f26_ => ?_)
          clear f26_
          refine xr_iload (pc := 68) (i := 5) (hI := d_M_finds_68) (hl := rfl) ?_
          obtain ⟨c27_, hyp⟩ := hyp
          refine xg_baloadZ (pc := 70) (v := (xpl h 85 x5)) (hI := d_M_finds_70) (ft_85 F) (by clear hyp; omega) (xlt_of (fl_85 F) c27_) rfl (fun f28_ => ?_)
          replace f28_ : 0 ≤ (xpl h 85 x5) ∧ (xpl h 85 x5) ≤ 1 := f28_
          refine xr_if_eq (pc := 71) (tgt := 96) (hI := d_M_finds_71) (ht := by decide) (fun q9 => ?_) (fun q9 => ?_)
          · replace hyp := hyp.1 q9
            have q29_ := q9
            clear q9
            exact hyp
          · replace hyp := hyp.2 q9
            have q29_ := q9
            clear q9
            refine xr_goto (pc := 74) (tgt := 94) (hI := d_M_finds_74) (ht := by decide) ?_
            refine xr_iconst (pc := 94) (hI := d_M_finds_94) (hr := by decide) ?_
            refine xr_ireturnT (S := []) (pc := 95) (hI := d_M_finds_95) (hr := rfl) (xnar_z (by decide)) ?_
            exact hyp
      · replace hyp := hyp.1 q9
        have q14_ := q9
        clear q9
        refine xr_goto (pc := 42) (tgt := 138) (hI := d_M_finds_42) (ht := by decide) ?_
        refine xr_iinc (pc := 138) (i := 5) (L9 := [xR 53, xI x1, xI x2, xI x3, xI x4, xI (x5 + 1), xZ]) (hI := d_M_finds_138) (hl := rfl) (hn := Nat.le_of_ble_eq_true rfl) (hr := ⟨by clear hyp; omega, by clear hyp; omega⟩) (hL9 := rfl) ?_
        refine xr_goto (pc := 141) (tgt := 10) (hI := d_M_finds_141) (ht := by decide) ?_
        exact hyp
theorem d_M_finds_96 : decode prog_14_method_65_code 96 = .ok (.iload 4, 2) := by decide +kernel
theorem d_M_finds_98 : decode prog_14_method_65_code 98 = .ok (.iload 6, 2) := by decide +kernel
theorem d_M_finds_100 : decode prog_14_method_65_code 100 = .ok (.bipush 43, 2) := by decide +kernel
theorem d_M_finds_102 : decode prog_14_method_65_code 102 = .ok (.if_icmp .ne 7, 3) := by decide +kernel
theorem d_M_finds_109 : decode prog_14_method_65_code 109 = .ok (.iconst 0, 1) := by decide +kernel
theorem d_M_finds_105 : decode prog_14_method_65_code 105 = .ok (.iconst 1, 1) := by decide +kernel
theorem d_M_finds_106 : decode prog_14_method_65_code 106 = .ok (.goto 4, 3) := by decide +kernel
theorem v_M_finds_96 {G : XG} {d : Nat} {h : XH} {Q : XV → XH → Prop} {X : Nat → XH → Prop} {x1 x2 x3 x4 x5 x6 : Int} (F : xFix h) (hyp : ((x6 = 43 → (xwp G m_M_finds (d + 1) 110 [xR 53, xI x1, xI x2, xI x3, xZ, xI x5, xI x6] [xI 1, xI x4] h Q X)) ∧ (¬ x6 = 43 → (xwp G m_M_finds (d + 1) 110 [xR 53, xI x1, xI x2, xI x3, xZ, xI x5, xI x6] [xI 0, xI x4] h Q X)))) : xwp G m_M_finds (d + 1) 96 [xR 53, xI x1, xI x2, xI x3, xI x4, xI x5, xI x6] [] h Q X := by
  have hnx9 : (93 : Int) ≤ xnx h := F.2.2
  refine xr_okL (fun hl9 => ?_)
  have r_x1 : -2147483648 ≤ x1 ∧ x1 ≤ 2147483647 := hl9 (xI x1) (.tail _ (.head _)) (Nat.le_of_ble_eq_true rfl)
  have r_x2 : -2147483648 ≤ x2 ∧ x2 ≤ 2147483647 := hl9 (xI x2) (.tail _ (.tail _ (.head _))) (Nat.le_of_ble_eq_true rfl)
  have r_x3 : -2147483648 ≤ x3 ∧ x3 ≤ 2147483647 := hl9 (xI x3) (.tail _ (.tail _ (.tail _ (.head _)))) (Nat.le_of_ble_eq_true rfl)
  have r_x4 : -2147483648 ≤ x4 ∧ x4 ≤ 2147483647 := hl9 (xI x4) (.tail _ (.tail _ (.tail _ (.tail _ (.head _))))) (Nat.le_of_ble_eq_true rfl)
  have r_x5 : -2147483648 ≤ x5 ∧ x5 ≤ 2147483647 := hl9 (xI x5) (.tail _ (.tail _ (.tail _ (.tail _ (.tail _ (.head _)))))) (Nat.le_of_ble_eq_true rfl)
  have r_x6 : -2147483648 ≤ x6 ∧ x6 ≤ 2147483647 := hl9 (xI x6) (.tail _ (.tail _ (.tail _ (.tail _ (.tail _ (.tail _ (.head _))))))) (Nat.le_of_ble_eq_true rfl)
  refine xr_iload (pc := 96) (i := 4) (hI := d_M_finds_96) (hl := rfl) ?_
  refine xr_iload (pc := 98) (i := 6) (hI := d_M_finds_98) (hl := rfl) ?_
  refine xr_bipush (pc := 100) (hI := d_M_finds_100) (hr := by decide) (hv := by decide) ?_
  refine xr_icmp_ne (pc := 102) (tgt := 109) (hI := d_M_finds_102) (ht := by decide) (fun q9 => ?_) (fun q9 => ?_)
  · replace hyp := hyp.2 q9
    have q1_ := q9
    clear q9
    refine xr_iconst (pc := 109) (hI := d_M_finds_109) (hr := by decide) ?_
    exact xr_drop (L9 := [xR 53, xI x1, xI x2, xI x3, xZ, xI x5, xI x6]) (xdrs (xdrs (xdrs (xdrs (xdrz (xdrs (xdrs xdr0))))))) hyp
  · replace hyp := hyp.1 q9
    have q1_ := q9
    clear q9
    refine xr_iconst (pc := 105) (hI := d_M_finds_105) (hr := by decide) ?_
    refine xr_goto (pc := 106) (tgt := 110) (hI := d_M_finds_106) (ht := by decide) ?_
    exact xr_drop (L9 := [xR 53, xI x1, xI x2, xI x3, xZ, xI x5, xI x6]) (xdrs (xdrs (xdrs (xdrs (xdrz (xdrs (xdrs xdr0))))))) hyp
theorem d_M_finds_110 : decode prog_14_method_65_code 110 = .ok (.ior, 1) := by decide +kernel
theorem d_M_finds_111 : decode prog_14_method_65_code 111 = .ok (.istore 4, 2) := by decide +kernel
theorem d_M_finds_113 : decode prog_14_method_65_code 113 = .ok (.iload_n 3, 1) := by decide +kernel
theorem d_M_finds_114 : decode prog_14_method_65_code 114 = .ok (.iload 6, 2) := by decide +kernel
theorem d_M_finds_116 : decode prog_14_method_65_code 116 = .ok (.bipush 45, 2) := by decide +kernel
theorem d_M_finds_118 : decode prog_14_method_65_code 118 = .ok (.if_icmp .eq 17, 3) := by decide +kernel
theorem d_M_finds_135 : decode prog_14_method_65_code 135 = .ok (.iconst 0, 1) := by decide +kernel
theorem d_M_finds_136 : decode prog_14_method_65_code 136 = .ok (.ior, 1) := by decide +kernel
theorem d_M_finds_137 : decode prog_14_method_65_code 137 = .ok (.istore_n 3, 1) := by decide +kernel
theorem d_M_finds_121 : decode prog_14_method_65_code 121 = .ok (.aload_n 0, 1) := by decide +kernel
theorem d_M_finds_122 : decode prog_14_method_65_code 122 = .ok (.getfield 79, 3) := by decide +kernel
theorem d_M_finds_125 : decode prog_14_method_65_code 125 = .ok (.iload 5, 2) := by decide +kernel
theorem d_M_finds_127 : decode prog_14_method_65_code 127 = .ok (.baload, 1) := by decide +kernel
theorem d_M_finds_128 : decode prog_14_method_65_code 128 = .ok (.ifCond .eq 7, 3) := by decide +kernel
theorem d_M_finds_131 : decode prog_14_method_65_code 131 = .ok (.iconst 1, 1) := by decide +kernel
theorem d_M_finds_132 : decode prog_14_method_65_code 132 = .ok (.goto 4, 3) := by decide +kernel
theorem v_M_finds_110 {G : XG} {d : Nat} {h : XH} {Q : XV → XH → Prop} {X : Nat → XH → Prop} {x1 x2 x3 x5 x6 s0 s1 : Int} (F : xFix h) (hyp : ((x6 = 45 → xiR (x5 + 1) ∧ (xwp G m_M_finds (d + 1) 10 [xR 53, xI x1, xI x2, xI (xior x3 0), xI (xior s1 s0), xI (x5 + 1), xZ] [] h Q X)) ∧ (¬ x6 = 45 → 0 ≤ x5 ∧ x5 < 41 ∧ (((xpl h 85 x5) = 0 → (xwp G m_M_finds (d + 1) 10 [xR 53, xI x1, xI x2, xI (xior x3 0), xI (xior s1 s0), xI (x5 + 1), xZ] [] h Q X)) ∧ (¬ (xpl h 85 x5) = 0 → (xwp G m_M_finds (d + 1) 10 [xR 53, xI x1, xI x2, xI (xior x3 1), xI (xior s1 s0), xI (x5 + 1), xZ] [] h Q X)))))) : xwp G m_M_finds (d + 1) 110 [xR 53, xI x1, xI x2, xI x3, xZ, xI x5, xI x6] [xI s0, xI s1] h Q X := by
  have hnx9 : (93 : Int) ≤ xnx h := F.2.2
  refine xr_okL (fun hl9 => ?_)
  have r_x1 : -2147483648 ≤ x1 ∧ x1 ≤ 2147483647 := hl9 (xI x1) (.tail _ (.head _)) (Nat.le_of_ble_eq_true rfl)
  have r_x2 : -2147483648 ≤ x2 ∧ x2 ≤ 2147483647 := hl9 (xI x2) (.tail _ (.tail _ (.head _))) (Nat.le_of_ble_eq_true rfl)
  have r_x3 : -2147483648 ≤ x3 ∧ x3 ≤ 2147483647 := hl9 (xI x3) (.tail _ (.tail _ (.tail _ (.head _)))) (Nat.le_of_ble_eq_true rfl)
  have r_x5 : -2147483648 ≤ x5 ∧ x5 ≤ 2147483647 := hl9 (xI x5) (.tail _ (.tail _ (.tail _ (.tail _ (.tail _ (.head _)))))) (Nat.le_of_ble_eq_true rfl)
  have r_x6 : -2147483648 ≤ x6 ∧ x6 ≤ 2147483647 := hl9 (xI x6) (.tail _ (.tail _ (.tail _ (.tail _ (.tail _ (.tail _ (.head _))))))) (Nat.le_of_ble_eq_true rfl)
  refine xr_okS (fun hs9 => ?_)
  have r_s0 : -2147483648 ≤ s0 ∧ s0 ≤ 2147483647 := hs9 (xI s0) (.head _)
  have r_s1 : -2147483648 ≤ s1 ∧ s1 ≤ 2147483647 := hs9 (xI s1) (.tail _ (.head _))
  refine xr_ior (pc := 110) (hI := d_M_finds_110) ?_
  have f1_ : -2147483648 ≤ (xior s1 s0) ∧ (xior s1 s0) ≤ 2147483647 := xi_toR _
  refine xr_istore (pc := 111) (i := 4) (L9 := [xR 53, xI x1, xI x2, xI x3, xI (xior s1 s0), xI x5, xI x6]) (hI := d_M_finds_111) (hn := Nat.le_of_ble_eq_true rfl) (hL9 := rfl) ?_
  refine xr_iload_n (pc := 113) (i := 3) (hI := d_M_finds_113) (hi := rfl) (hl := rfl) ?_
  refine xr_iload (pc := 114) (i := 6) (hI := d_M_finds_114) (hl := rfl) ?_
  refine xr_bipush (pc := 116) (hI := d_M_finds_116) (hr := by decide) (hv := by decide) ?_
  refine xr_icmp_eq (pc := 118) (tgt := 135) (hI := d_M_finds_118) (ht := by decide) (fun q9 => ?_) (fun q9 => ?_)
  · replace hyp := hyp.1 q9
    have q2_ := q9
    clear q9
    refine xr_iconst (pc := 135) (hI := d_M_finds_135) (hr := by decide) ?_
    refine xr_ior (pc := 136) (hI := d_M_finds_136) ?_
    have f3_ : -2147483648 ≤ (xior x3 0) ∧ (xior x3 0) ≤ 2147483647 := xi_toR _
    refine xr_istore_n (pc := 137) (i := 3) (L9 := [xR 53, xI x1, xI x2, xI (xior x3 0), xI (xior s1 s0), xI x5, xI x6]) (hI := d_M_finds_137) (hi := rfl) (hn := Nat.le_of_ble_eq_true rfl) (hL9 := rfl) ?_
    obtain ⟨c9, hyp⟩ := hyp
    refine xr_iinc (pc := 138) (i := 5) (L9 := [xR 53, xI x1, xI x2, xI (xior x3 0), xI (xior s1 s0), xI (x5 + 1), xI x6]) (hI := d_M_finds_138) (hl := rfl) (hn := Nat.le_of_ble_eq_true rfl) (hr := c9) (hL9 := rfl) ?_
    refine xr_goto (pc := 141) (tgt := 10) (hI := d_M_finds_141) (ht := by decide) ?_
    exact xr_drop (L9 := [xR 53, xI x1, xI x2, xI (xior x3 0), xI (xior s1 s0), xI (x5 + 1), xZ]) (xdrs (xdrs (xdrs (xdrs (xdrs (xdrs (xdrz xdr0))))))) hyp
  · replace hyp := hyp.2 q9
    have q2_ := q9
    clear q9
    refine xr_aload_n (pc := 121) (i := 0) (hI := d_M_finds_121) (hi := rfl) (hl := rfl) ?_
    refine xg_getf (pc := 122) (ci := 11) (k := 31) (N := 38) (v9 := 2) (v := 85) (T := xF11) (hI := d_M_finds_122) (hw := w_1618) rfl xi11 (Or.inl rfl) (Nat.le_of_ble_eq_true rfl) (Nat.le_of_ble_eq_true rfl) rfl (ft_53 F) (fp_53_31 F) (fun f4_ => ?_)
    clear f4_
    refine xr_iload (pc := 125) (i := 5) (hI := d_M_finds_125) (hl := rfl) ?_
    obtain ⟨c5_, hyp⟩ := hyp
    obtain ⟨c6_, hyp⟩ := hyp
    refine xg_baloadZ (pc := 127) (v := (xpl h 85 x5)) (hI := d_M_finds_127) (ft_85 F) c5_ (xlt_of (fl_85 F) c6_) rfl (fun f7_ => ?_)
    replace f7_ : 0 ≤ (xpl h 85 x5) ∧ (xpl h 85 x5) ≤ 1 := f7_
    refine xr_if_eq (pc := 128) (tgt := 135) (hI := d_M_finds_128) (ht := by decide) (fun q9 => ?_) (fun q9 => ?_)
    · replace hyp := hyp.1 q9
      have q8_ := q9
      clear q9
      refine xr_iconst (pc := 135) (hI := d_M_finds_135) (hr := by decide) ?_
      refine xr_ior (pc := 136) (hI := d_M_finds_136) ?_
      have f9_ : -2147483648 ≤ (xior x3 0) ∧ (xior x3 0) ≤ 2147483647 := xi_toR _
      refine xr_istore_n (pc := 137) (i := 3) (L9 := [xR 53, xI x1, xI x2, xI (xior x3 0), xI (xior s1 s0), xI x5, xI x6]) (hI := d_M_finds_137) (hi := rfl) (hn := Nat.le_of_ble_eq_true rfl) (hL9 := rfl) ?_
      refine xr_iinc (pc := 138) (i := 5) (L9 := [xR 53, xI x1, xI x2, xI (xior x3 0), xI (xior s1 s0), xI (x5 + 1), xI x6]) (hI := d_M_finds_138) (hl := rfl) (hn := Nat.le_of_ble_eq_true rfl) (hr := ⟨by clear hyp; omega, by clear hyp; omega⟩) (hL9 := rfl) ?_
      refine xr_goto (pc := 141) (tgt := 10) (hI := d_M_finds_141) (ht := by decide) ?_
      exact xr_drop (L9 := [xR 53, xI x1, xI x2, xI (xior x3 0), xI (xior s1 s0), xI (x5 + 1), xZ]) (xdrs (xdrs (xdrs (xdrs (xdrs (xdrs (xdrz xdr0))))))) hyp
    · replace hyp := hyp.2 q9
      have q8_ := q9
      clear q9
      refine xr_iconst (pc := 131) (hI := d_M_finds_131) (hr := by decide) ?_
      refine xr_goto (pc := 132) (tgt := 136) (hI := d_M_finds_132) (ht := by decide) ?_
      refine xr_ior (pc := 136) (hI := d_M_finds_136) ?_
      have f10_ : -2147483648 ≤ (xior x3 1) ∧ (xior x3 1) ≤ 2147483647 := xi_toR _
      refine xr_istore_n (pc := 137) (i := 3) (L9 := [xR 53, xI x1, xI x2, xI (xior x3 1), xI (xior s1 s0), xI x5, xI x6]) (hI := d_M_finds_137) (hi := rfl) (hn := Nat.le_of_ble_eq_true rfl) (hL9 := rfl) ?_
      refine xr_iinc (pc := 138) (i := 5) (L9 := [xR 53, xI x1, xI x2, xI (xior x3 1), xI (xior s1 s0), xI (x5 + 1), xI x6]) (hI := d_M_finds_138) (hl := rfl) (hn := Nat.le_of_ble_eq_true rfl) (hr := ⟨by clear hyp; omega, by clear hyp; omega⟩) (hL9 := rfl) ?_
      refine xr_goto (pc := 141) (tgt := 10) (hI := d_M_finds_141) (ht := by decide) ?_
      exact xr_drop (L9 := [xR 53, xI x1, xI x2, xI (xior x3 1), xI (xior s1 s0), xI (x5 + 1), xZ]) (xdrs (xdrs (xdrs (xdrs (xdrs (xdrs (xdrz xdr0))))))) hyp
abbrev m_M_sum : XM := (⟨"BeaconIndexModel", "sum", "(I)I"⟩, prog_14_method_66_code, 4, (some .int), [])
theorem d_M_sum_0 : decode prog_14_method_66_code 0 = .ok (.iconst 0, 1) := by decide +kernel
theorem d_M_sum_1 : decode prog_14_method_66_code 1 = .ok (.istore_n 2, 1) := by decide +kernel
theorem d_M_sum_2 : decode prog_14_method_66_code 2 = .ok (.iload_n 1, 1) := by decide +kernel
theorem d_M_sum_3 : decode prog_14_method_66_code 3 = .ok (.iconst 1, 1) := by decide +kernel
theorem d_M_sum_4 : decode prog_14_method_66_code 4 = .ok (.iadd, 1) := by decide +kernel
theorem d_M_sum_5 : decode prog_14_method_66_code 5 = .ok (.istore_n 3, 1) := by decide +kernel
theorem v_M_sum_0 {G : XG} {d : Nat} {h : XH} {Q : XV → XH → Prop} {X : Nat → XH → Prop} {x1 : Int} (F : xFix h) (hyp : xiR (x1 + 1) ∧ (xwp G m_M_sum (d + 2) 6 [xR 53, xI x1, xI 0, xI (x1 + 1)] [] h Q X)) : xwp G m_M_sum (d + 2) 0 [xR 53, xI x1, xZ, xZ] [] h Q X := by
  have hnx9 : (93 : Int) ≤ xnx h := F.2.2
  refine xr_okL (fun hl9 => ?_)
  have r_x1 : -2147483648 ≤ x1 ∧ x1 ≤ 2147483647 := hl9 (xI x1) (.tail _ (.head _)) (Nat.le_of_ble_eq_true rfl)
  refine xr_iconst (pc := 0) (hI := d_M_sum_0) (hr := by decide) ?_
  refine xr_istore_n (pc := 1) (i := 2) (L9 := [xR 53, xI x1, xI 0, xZ]) (hI := d_M_sum_1) (hi := rfl) (hn := Nat.le_of_ble_eq_true rfl) (hL9 := rfl) ?_
  refine xr_iload_n (pc := 2) (i := 1) (hI := d_M_sum_2) (hi := rfl) (hl := rfl) ?_
  refine xr_iconst (pc := 3) (hI := d_M_sum_3) (hr := by decide) ?_
  obtain ⟨c9, hyp⟩ := hyp
  refine xr_iadd (pc := 4) (hI := d_M_sum_4) (hr := c9) ?_
  refine xr_istore_n (pc := 5) (i := 3) (L9 := [xR 53, xI x1, xI 0, xI (x1 + 1)]) (hI := d_M_sum_5) (hi := rfl) (hn := Nat.le_of_ble_eq_true rfl) (hL9 := rfl) ?_
  exact hyp
theorem d_M_sum_6 : decode prog_14_method_66_code 6 = .ok (.iload_n 3, 1) := by decide +kernel
theorem d_M_sum_7 : decode prog_14_method_66_code 7 = .ok (.aload_n 0, 1) := by decide +kernel
theorem d_M_sum_8 : decode prog_14_method_66_code 8 = .ok (.getfield 51, 3) := by decide +kernel
theorem d_M_sum_11 : decode prog_14_method_66_code 11 = .ok (.getfield 271, 3) := by decide +kernel
theorem d_M_sum_14 : decode prog_14_method_66_code 14 = .ok (.if_icmp .ge 35, 3) := by decide +kernel
theorem d_M_sum_49 : decode prog_14_method_66_code 49 = .ok (.ldc_w 373, 3) := by decide +kernel
theorem w_2417 : Cond.constant "BeaconIndexModel" 373 (1000000 : Int32) ∈ lw_tbl := List.mem_append_right _ (List.mem_of_getElem? (i := 2417) (by decide +kernel))
theorem d_M_sum_52 : decode prog_14_method_66_code 52 = .ok (.iload_n 2, 1) := by decide +kernel
theorem d_M_sum_53 : decode prog_14_method_66_code 53 = .ok (.invokestatic 146, 3) := by decide +kernel
theorem d_M_sum_56 : decode prog_14_method_66_code 56 = .ok (.ireturn, 1) := by decide +kernel
theorem d_M_sum_17 : decode prog_14_method_66_code 17 = .ok (.iload_n 2, 1) := by decide +kernel
theorem d_M_sum_18 : decode prog_14_method_66_code 18 = .ok (.aload_n 0, 1) := by decide +kernel
theorem d_M_sum_19 : decode prog_14_method_66_code 19 = .ok (.getfield 51, 3) := by decide +kernel
theorem d_M_sum_22 : decode prog_14_method_66_code 22 = .ok (.getfield 274, 3) := by decide +kernel
theorem d_M_sum_25 : decode prog_14_method_66_code 25 = .ok (.iload_n 3, 1) := by decide +kernel
theorem d_M_sum_26 : decode prog_14_method_66_code 26 = .ok (.iaload, 1) := by decide +kernel
theorem d_M_sum_27 : decode prog_14_method_66_code 27 = .ok (.iload_n 1, 1) := by decide +kernel
theorem d_M_sum_28 : decode prog_14_method_66_code 28 = .ok (.if_icmp .ne 12, 3) := by decide +kernel
theorem d_M_sum_40 : decode prog_14_method_66_code 40 = .ok (.iconst 0, 1) := by decide +kernel
theorem d_M_sum_41 : decode prog_14_method_66_code 41 = .ok (.iadd, 1) := by decide +kernel
theorem d_M_sum_42 : decode prog_14_method_66_code 42 = .ok (.istore_n 2, 1) := by decide +kernel
theorem d_M_sum_43 : decode prog_14_method_66_code 43 = .ok (.iinc 3 1, 3) := by decide +kernel
theorem d_M_sum_46 : decode prog_14_method_66_code 46 = .ok (.goto (-40), 3) := by decide +kernel
theorem d_M_sum_31 : decode prog_14_method_66_code 31 = .ok (.aload_n 0, 1) := by decide +kernel
theorem d_M_sum_32 : decode prog_14_method_66_code 32 = .ok (.getfield 82, 3) := by decide +kernel
theorem w_1619 : Cond.fieldLink "BeaconIndexModel" 82 "BeaconIndexModel" "weighs" "[I" ∈ lw_tbl := List.mem_append_right _ (List.mem_of_getElem? (i := 1619) (by decide +kernel))
theorem d_M_sum_35 : decode prog_14_method_66_code 35 = .ok (.iload_n 3, 1) := by decide +kernel
theorem d_M_sum_36 : decode prog_14_method_66_code 36 = .ok (.iaload, 1) := by decide +kernel
theorem d_M_sum_37 : decode prog_14_method_66_code 37 = .ok (.goto 4, 3) := by decide +kernel
theorem v_M_sum_6 {G : XG} {d : Nat} {h : XH} {Q : XV → XH → Prop} {X : Nat → XH → Prop} {x1 x2 x3 : Int} (F : xFix h) (hyp : xtg h (xpl h 53 19) = 12 ∧ (((xpl h (xpl h 53 19) 0) ≤ x3 → (Q (xI (min 1000000 x2)) h)) ∧ (¬ (xpl h (xpl h 53 19) 0) ≤ x3 → xtg h (xpl h (xpl h 53 19) 1) = 100 ∧ 0 ≤ x3 ∧ x3 < (xln h (xpl h (xpl h 53 19) 1)) ∧ (((xpl h (xpl h (xpl h 53 19) 1) x3) = x1 → x3 < 41 ∧ xiR (x2 + (xpl h 86 x3)) ∧ (xwp G m_M_sum (d + 2) 6 [xR 53, xI x1, xI (x2 + (xpl h 86 x3)), xI (x3 + 1)] [] h Q X)) ∧ (¬ (xpl h (xpl h (xpl h 53 19) 1) x3) = x1 → (xwp G m_M_sum (d + 2) 6 [xR 53, xI x1, xI (x2 + 0), xI (x3 + 1)] [] h Q X)))))) : xwp G m_M_sum (d + 2) 6 [xR 53, xI x1, xI x2, xI x3] [] h Q X := by
  have hnx9 : (93 : Int) ≤ xnx h := F.2.2
  refine xr_okL (fun hl9 => ?_)
  have r_x1 : -2147483648 ≤ x1 ∧ x1 ≤ 2147483647 := hl9 (xI x1) (.tail _ (.head _)) (Nat.le_of_ble_eq_true rfl)
  have r_x2 : -2147483648 ≤ x2 ∧ x2 ≤ 2147483647 := hl9 (xI x2) (.tail _ (.tail _ (.head _))) (Nat.le_of_ble_eq_true rfl)
  have r_x3 : -2147483648 ≤ x3 ∧ x3 ≤ 2147483647 := hl9 (xI x3) (.tail _ (.tail _ (.tail _ (.head _)))) (Nat.le_of_ble_eq_true rfl)
  refine xr_iload_n (pc := 6) (i := 3) (hI := d_M_sum_6) (hi := rfl) (hl := rfl) ?_
  refine xr_aload_n (pc := 7) (i := 0) (hI := d_M_sum_7) (hi := rfl) (hl := rfl) ?_
  refine xg_getf (pc := 8) (ci := 11) (k := 19) (N := 38) (v9 := 2) (v := (xpl h 53 19)) (T := xF11) (hI := d_M_sum_8) (hw := w_1606) rfl xi11 (Or.inl rfl) (Nat.le_of_ble_eq_true rfl) (Nat.le_of_ble_eq_true rfl) rfl (ft_53 F) rfl (fun f1_ => ?_)
  clear f1_
  obtain ⟨c9, hyp⟩ := hyp
  have t2_ := c9
  clear c9
  refine xg_getfN (pc := 11) (ci := 12) (k := 0) (N := 13) (v9 := 0) (v := (xpl h (xpl h 53 19) 0)) (T := xF12) (hI := d_M_sum_11) (hw := w_1536) rfl xi12 (Or.inl rfl) (Nat.le_of_ble_eq_true rfl) (Nat.le_of_ble_eq_true rfl) rfl t2_ rfl (fun f3_ => ?_)
  replace f3_ : -2147483648 ≤ (xpl h (xpl h 53 19) 0) ∧ (xpl h (xpl h 53 19) 0) ≤ 2147483647 := f3_
  refine xr_icmp_ge (pc := 14) (tgt := 49) (hI := d_M_sum_14) (ht := by decide) (fun q9 => ?_) (fun q9 => ?_)
  · replace hyp := hyp.1 q9
    have q4_ := q9
    clear q9
    refine xr_ldcw (pc := 49) (z := 1000000) (hI := d_M_sum_49) (hw := w_2417) (hr := by decide) (hv := by decide) ?_
    refine xr_iload_n (pc := 52) (i := 2) (hI := d_M_sum_52) (hi := rfl) (hl := rfl) ?_
    refine xr_mmin (pc := 53) (index := 146) (hI := d_M_sum_53) w_1786 w_542 w_25 w_mmin (Nat.le_add_left_of_le (by decide)) (Nat.le_of_ble_eq_true rfl) ?_
    have f5_ : (min 1000000 x2) ≤ 1000000 := (by clear hyp; omega)
    have f6_ : (min 1000000 x2) ≤ x2 := (by clear hyp; omega)
    have f7_ : (-2147483648) ≤ (min 1000000 x2) := (by clear hyp; omega)
    refine xr_ireturn (S := []) (pc := 56) (hI := d_M_sum_56) (hr := rfl) ?_
    exact hyp
  · replace hyp := hyp.2 q9
    have q4_ := q9
    clear q9
    refine xr_iload_n (pc := 17) (i := 2) (hI := d_M_sum_17) (hi := rfl) (hl := rfl) ?_
    refine xr_aload_n (pc := 18) (i := 0) (hI := d_M_sum_18) (hi := rfl) (hl := rfl) ?_
    refine xg_getf (pc := 19) (ci := 11) (k := 19) (N := 38) (v9 := 2) (v := (xpl h 53 19)) (T := xF11) (hI := d_M_sum_19) (hw := w_1606) rfl xi11 (Or.inl rfl) (Nat.le_of_ble_eq_true rfl) (Nat.le_of_ble_eq_true rfl) rfl (ft_53 F) rfl (fun f8_ => ?_)
    clear f8_
    refine xg_getfN (pc := 22) (ci := 12) (k := 1) (N := 13) (v9 := 2) (v := (xpl h (xpl h 53 19) 1)) (T := xF12) (hI := d_M_sum_22) (hw := w_1538) rfl xi12 (Or.inl rfl) (Nat.le_of_ble_eq_true rfl) (Nat.le_of_ble_eq_true rfl) rfl t2_ rfl (fun f9_ => ?_)
    clear f9_
    refine xr_iload_n (pc := 25) (i := 3) (hI := d_M_sum_25) (hi := rfl) (hl := rfl) ?_
    obtain ⟨c9, hyp⟩ := hyp
    have t10_ := c9
    clear c9
    obtain ⟨c11_, hyp⟩ := hyp
    obtain ⟨c12_, hyp⟩ := hyp
    refine xg_iaload (pc := 26) (v := (xpl h (xpl h (xpl h 53 19) 1) x3)) (hI := d_M_sum_26) t10_ c11_ (xlt_of rfl c12_) rfl (fun f13_ => ?_)
    replace f13_ : -2147483648 ≤ (xpl h (xpl h (xpl h 53 19) 1) x3) ∧ (xpl h (xpl h (xpl h 53 19) 1) x3) ≤ 2147483647 := f13_
    refine xr_iload_n (pc := 27) (i := 1) (hI := d_M_sum_27) (hi := rfl) (hl := rfl) ?_
    refine xr_icmp_ne (pc := 28) (tgt := 40) (hI := d_M_sum_28) (ht := by decide) (fun q9 => ?_) (fun q9 => ?_)
    · replace hyp := hyp.2 q9
      have q14_ := q9
      clear q9
      refine xr_iconst (pc := 40) (hI := d_M_sum_40) (hr := by decide) ?_
      refine xr_iadd (pc := 41) (hI := d_M_sum_41) (hr := ⟨by clear hyp; omega, by clear hyp; omega⟩) ?_
      refine xr_istore_n (pc := 42) (i := 2) (L9 := [xR 53, xI x1, xI (x2 + 0), xI x3]) (hI := d_M_sum_42) (hi := rfl) (hn := Nat.le_of_ble_eq_true rfl) (hL9 := rfl) ?_
      refine xr_iinc (pc := 43) (i := 3) (L9 := [xR 53, xI x1, xI (x2 + 0), xI (x3 + 1)]) (hI := d_M_sum_43) (hl := rfl) (hn := Nat.le_of_ble_eq_true rfl) (hr := ⟨by clear hyp; omega, by clear hyp; omega⟩) (hL9 := rfl) ?_
      refine xr_goto (pc := 46) (tgt := 6) (hI := d_M_sum_46) (ht := by decide) ?_
      exact hyp
    · replace hyp := hyp.1 q9
      have q14_ := q9
      clear q9
      refine xr_aload_n (pc := 31) (i := 0) (hI := d_M_sum_31) (hi := rfl) (hl := rfl) ?_
      refine xg_getf (pc := 32) (ci := 11) (k := 32) (N := 38) (v9 := 2) (v := 86) (T := xF11) (hI := d_M_sum_32) (hw := w_1619) rfl xi11 (Or.inl rfl) (Nat.le_of_ble_eq_true rfl) (Nat.le_of_ble_eq_true rfl) rfl (ft_53 F) (fp_53_32 F) (fun f15_ => ?_)
      clear f15_
      refine xr_iload_n (pc := 35) (i := 3) (hI := d_M_sum_35) (hi := rfl) (hl := rfl) ?_
      obtain ⟨c16_, hyp⟩ := hyp
      refine xg_iaload (pc := 36) (v := (xpl h 86 x3)) (hI := d_M_sum_36) (ft_86 F) (by clear hyp; omega) (xlt_of (fl_86 F) c16_) rfl (fun f17_ => ?_)
      replace f17_ : -2147483648 ≤ (xpl h 86 x3) ∧ (xpl h 86 x3) ≤ 2147483647 := f17_
      refine xr_goto (pc := 37) (tgt := 41) (hI := d_M_sum_37) (ht := by decide) ?_
      obtain ⟨c9, hyp⟩ := hyp
      refine xr_iadd (pc := 41) (hI := d_M_sum_41) (hr := c9) ?_
      refine xr_istore_n (pc := 42) (i := 2) (L9 := [xR 53, xI x1, xI (x2 + (xpl h 86 x3)), xI x3]) (hI := d_M_sum_42) (hi := rfl) (hn := Nat.le_of_ble_eq_true rfl) (hL9 := rfl) ?_
      refine xr_iinc (pc := 43) (i := 3) (L9 := [xR 53, xI x1, xI (x2 + (xpl h 86 x3)), xI (x3 + 1)]) (hI := d_M_sum_43) (hl := rfl) (hn := Nat.le_of_ble_eq_true rfl) (hr := ⟨by clear hyp; omega, by clear hyp; omega⟩) (hL9 := rfl) ?_
      refine xr_goto (pc := 46) (tgt := 6) (hI := d_M_sum_46) (ht := by decide) ?_
      exact hyp
abbrev m_M_look : XM := (⟨"BeaconIndexModel", "look", "(II)Z"⟩, prog_14_method_67_code, 6, (some .boolean), [])
theorem d_M_look_0 : decode prog_14_method_67_code 0 = .ok (.aload_n 0, 1) := by decide +kernel
theorem d_M_look_1 : decode prog_14_method_67_code 1 = .ok (.getfield 51, 3) := by decide +kernel
theorem d_M_look_4 : decode prog_14_method_67_code 4 = .ok (.getfield 271, 3) := by decide +kernel
theorem d_M_look_7 : decode prog_14_method_67_code 7 = .ok (.iconst 1, 1) := by decide +kernel
theorem d_M_look_8 : decode prog_14_method_67_code 8 = .ok (.isub, 1) := by decide +kernel
theorem d_M_look_9 : decode prog_14_method_67_code 9 = .ok (.istore_n 3, 1) := by decide +kernel
theorem v_M_look_0 {G : XG} {d : Nat} {h : XH} {Q : XV → XH → Prop} {X : Nat → XH → Prop} {x1 x2 : Int} (F : xFix h) (hyp : xtg h (xpl h 53 19) = 12 ∧ xiR ((xpl h (xpl h 53 19) 0) - 1) ∧ (xwp G m_M_look (d + 3) 10 [xR 53, xI x1, xI x2, xI ((xpl h (xpl h 53 19) 0) - 1), xZ, xZ] [] h Q X)) : xwp G m_M_look (d + 3) 0 [xR 53, xI x1, xI x2, xZ, xZ, xZ] [] h Q X := by
  have hnx9 : (93 : Int) ≤ xnx h := F.2.2
  refine xr_okL (fun hl9 => ?_)
  have r_x1 : -2147483648 ≤ x1 ∧ x1 ≤ 2147483647 := hl9 (xI x1) (.tail _ (.head _)) (Nat.le_of_ble_eq_true rfl)
  have r_x2 : -2147483648 ≤ x2 ∧ x2 ≤ 2147483647 := hl9 (xI x2) (.tail _ (.tail _ (.head _))) (Nat.le_of_ble_eq_true rfl)
  refine xr_aload_n (pc := 0) (i := 0) (hI := d_M_look_0) (hi := rfl) (hl := rfl) ?_
  refine xg_getf (pc := 1) (ci := 11) (k := 19) (N := 38) (v9 := 2) (v := (xpl h 53 19)) (T := xF11) (hI := d_M_look_1) (hw := w_1606) rfl xi11 (Or.inl rfl) (Nat.le_of_ble_eq_true rfl) (Nat.le_of_ble_eq_true rfl) rfl (ft_53 F) rfl (fun f1_ => ?_)
  clear f1_
  obtain ⟨c9, hyp⟩ := hyp
  have t2_ := c9
  clear c9
  refine xg_getfN (pc := 4) (ci := 12) (k := 0) (N := 13) (v9 := 0) (v := (xpl h (xpl h 53 19) 0)) (T := xF12) (hI := d_M_look_4) (hw := w_1536) rfl xi12 (Or.inl rfl) (Nat.le_of_ble_eq_true rfl) (Nat.le_of_ble_eq_true rfl) rfl t2_ rfl (fun f3_ => ?_)
  replace f3_ : -2147483648 ≤ (xpl h (xpl h 53 19) 0) ∧ (xpl h (xpl h 53 19) 0) ≤ 2147483647 := f3_
  refine xr_iconst (pc := 7) (hI := d_M_look_7) (hr := by decide) ?_
  obtain ⟨c9, hyp⟩ := hyp
  refine xr_isub (pc := 8) (hI := d_M_look_8) (hr := c9) ?_
  refine xr_istore_n (pc := 9) (i := 3) (L9 := [xR 53, xI x1, xI x2, xI ((xpl h (xpl h 53 19) 0) - 1), xZ, xZ]) (hI := d_M_look_9) (hi := rfl) (hn := Nat.le_of_ble_eq_true rfl) (hL9 := rfl) ?_
  exact hyp
theorem d_M_look_10 : decode prog_14_method_67_code 10 = .ok (.iload_n 3, 1) := by decide +kernel
theorem d_M_look_11 : decode prog_14_method_67_code 11 = .ok (.ifCond .lt 169, 3) := by decide +kernel
theorem d_M_look_180 : decode prog_14_method_67_code 180 = .ok (.aload_n 0, 1) := by decide +kernel
theorem d_M_look_181 : decode prog_14_method_67_code 181 = .ok (.getfield 28, 3) := by decide +kernel
theorem d_M_look_184 : decode prog_14_method_67_code 184 = .ok (.aload_n 0, 1) := by decide +kernel
theorem d_M_look_185 : decode prog_14_method_67_code 185 = .ok (.getfield 13, 3) := by decide +kernel
theorem d_M_look_188 : decode prog_14_method_67_code 188 = .ok (.iload_n 1, 1) := by decide +kernel
theorem d_M_look_189 : decode prog_14_method_67_code 189 = .ok (.iaload, 1) := by decide +kernel
theorem d_M_look_190 : decode prog_14_method_67_code 190 = .ok (.baload, 1) := by decide +kernel
theorem d_M_look_191 : decode prog_14_method_67_code 191 = .ok (.ifCond .ne 16, 3) := by decide +kernel
theorem d_M_look_207 : decode prog_14_method_67_code 207 = .ok (.iconst 0, 1) := by decide +kernel
theorem d_M_look_208 : decode prog_14_method_67_code 208 = .ok (.ireturn, 1) := by decide +kernel
theorem d_M_look_194 : decode prog_14_method_67_code 194 = .ok (.aload_n 0, 1) := by decide +kernel
theorem d_M_look_195 : decode prog_14_method_67_code 195 = .ok (.iconst (-1), 1) := by decide +kernel
theorem d_M_look_196 : decode prog_14_method_67_code 196 = .ok (.iload_n 2, 1) := by decide +kernel
theorem d_M_look_197 : decode prog_14_method_67_code 197 = .ok (.invokevirtual 374, 3) := by decide +kernel
theorem k_M_finds : xCal m_M_finds 2 := ⟨List.mem_append_right _ (List.mem_of_getElem? (i := 2412) (by decide +kernel)), w_15, Nat.le_of_ble_eq_true rfl, ⟨by decide +kernel, by decide +kernel⟩, by decide +kernel, by decide +kernel, rfl⟩
theorem w_2409 : Cond.methodLink "BeaconIndexModel" 374 ⟨"BeaconIndexModel", "finds", "(II)Z"⟩ ∈ lw_tbl := List.mem_append_right _ (List.mem_of_getElem? (i := 2409) (by decide +kernel))
theorem w_2411 : Cond.instanceMethod ⟨"BeaconIndexModel", "finds", "(II)Z"⟩ ∈ lw_tbl := List.mem_append_right _ (List.mem_of_getElem? (i := 2411) (by decide +kernel))
theorem sel_M_finds : Cond.selects "BeaconIndexModel" ⟨"BeaconIndexModel", "finds", "(II)Z"⟩ ⟨"BeaconIndexModel", "finds", "(II)Z"⟩ ∈ lw_tbl := List.mem_append_left _ (by decide +kernel)
theorem d_M_look_14 : decode prog_14_method_67_code 14 = .ok (.aload_n 0, 1) := by decide +kernel
theorem d_M_look_15 : decode prog_14_method_67_code 15 = .ok (.getfield 51, 3) := by decide +kernel
theorem d_M_look_18 : decode prog_14_method_67_code 18 = .ok (.getfield 304, 3) := by decide +kernel
theorem d_M_look_21 : decode prog_14_method_67_code 21 = .ok (.iload_n 3, 1) := by decide +kernel
theorem d_M_look_22 : decode prog_14_method_67_code 22 = .ok (.iaload, 1) := by decide +kernel
theorem d_M_look_23 : decode prog_14_method_67_code 23 = .ok (.iconst 2, 1) := by decide +kernel
theorem d_M_look_24 : decode prog_14_method_67_code 24 = .ok (.if_icmp .ne 7, 3) := by decide +kernel
theorem d_M_look_31 : decode prog_14_method_67_code 31 = .ok (.iconst 0, 1) := by decide +kernel
theorem d_M_look_27 : decode prog_14_method_67_code 27 = .ok (.iconst 1, 1) := by decide +kernel
theorem d_M_look_28 : decode prog_14_method_67_code 28 = .ok (.goto 4, 3) := by decide +kernel
theorem v_M_look_10 {G : XG} {d : Nat} {h : XH} {Q : XV → XH → Prop} {X : Nat → XH → Prop} {x1 x2 x3 : Int} (F : xFix h) (hyp : ((x3 < 0 → 0 ≤ x1 ∧ x1 < 60 ∧ 0 ≤ (xpl h 55 x1) ∧ (xpl h 55 x1) < 60 ∧ (((xpl h 60 (xpl h 55 x1)) = 0 → (xwp G m_M_finds (d + 2) 0 [xR 53, xI (-1), xI x2, xZ, xZ, xZ, xZ] [] h (fun v9 h9 => xwp G m_M_look (d + 3) 200 [xZ, xZ, xZ, xZ, xZ, xZ] (xpush v9 []) h9 Q X) X)) ∧ (¬ (xpl h 60 (xpl h 55 x1)) = 0 → (Q (xI 0) h)))) ∧ (¬ x3 < 0 → xtg h (xpl h 53 19) = 12 ∧ xtg h (xpl h (xpl h 53 19) 5) = 100 ∧ x3 < (xln h (xpl h (xpl h 53 19) 5)) ∧ (((xpl h (xpl h (xpl h 53 19) 5) x3) = 2 → (xwp G m_M_look (d + 3) 32 [xR 53, xI x1, xI x2, xI x3, xZ, xZ] [xI 1] h Q X)) ∧ (¬ (xpl h (xpl h (xpl h 53 19) 5) x3) = 2 → (xwp G m_M_look (d + 3) 32 [xR 53, xI x1, xI x2, xI x3, xZ, xZ] [xI 0] h Q X)))))) : xwp G m_M_look (d + 3) 10 [xR 53, xI x1, xI x2, xI x3, xZ, xZ] [] h Q X := by
  have hnx9 : (93 : Int) ≤ xnx h := F.2.2
  refine xr_okL (fun hl9 => ?_)
  have r_x1 : -2147483648 ≤ x1 ∧ x1 ≤ 2147483647 := hl9 (xI x1) (.tail _ (.head _)) (Nat.le_of_ble_eq_true rfl)
  have r_x2 : -2147483648 ≤ x2 ∧ x2 ≤ 2147483647 := hl9 (xI x2) (.tail _ (.tail _ (.head _))) (Nat.le_of_ble_eq_true rfl)
  have r_x3 : -2147483648 ≤ x3 ∧ x3 ≤ 2147483647 := hl9 (xI x3) (.tail _ (.tail _ (.tail _ (.head _)))) (Nat.le_of_ble_eq_true rfl)
  refine xr_iload_n (pc := 10) (i := 3) (hI := d_M_look_10) (hi := rfl) (hl := rfl) ?_
  refine xr_if_lt (pc := 11) (tgt := 180) (hI := d_M_look_11) (ht := by decide) (fun q9 => ?_) (fun q9 => ?_)
  · replace hyp := hyp.1 q9
    have q1_ := q9
    clear q9
    refine xr_aload_n (pc := 180) (i := 0) (hI := d_M_look_180) (hi := rfl) (hl := rfl) ?_
    refine xg_getf (pc := 181) (ci := 11) (k := 11) (N := 38) (v9 := 2) (v := 60) (T := xF11) (hI := d_M_look_181) (hw := w_1598) rfl xi11 (Or.inl rfl) (Nat.le_of_ble_eq_true rfl) (Nat.le_of_ble_eq_true rfl) rfl (ft_53 F) (fp_53_11 F) (fun f2_ => ?_)
    clear f2_
    refine xr_aload_n (pc := 184) (i := 0) (hI := d_M_look_184) (hi := rfl) (hl := rfl) ?_
    refine xg_getf (pc := 185) (ci := 11) (k := 3) (N := 38) (v9 := 2) (v := 55) (T := xF11) (hI := d_M_look_185) (hw := w_1590) rfl xi11 (Or.inl rfl) (Nat.le_of_ble_eq_true rfl) (Nat.le_of_ble_eq_true rfl) rfl (ft_53 F) (fp_53_3 F) (fun f3_ => ?_)
    clear f3_
    refine xr_iload_n (pc := 188) (i := 1) (hI := d_M_look_188) (hi := rfl) (hl := rfl) ?_
    obtain ⟨c4_, hyp⟩ := hyp
    obtain ⟨c5_, hyp⟩ := hyp
    refine xg_iaload (pc := 189) (v := (xpl h 55 x1)) (hI := d_M_look_189) (ft_55 F) c4_ (xlt_of (fl_55 F) c5_) rfl (fun f6_ => ?_)
    replace f6_ : -2147483648 ≤ (xpl h 55 x1) ∧ (xpl h 55 x1) ≤ 2147483647 := f6_
    obtain ⟨c7_, hyp⟩ := hyp
    obtain ⟨c8_, hyp⟩ := hyp
    refine xg_baloadZ (pc := 190) (v := (xpl h 60 (xpl h 55 x1))) (hI := d_M_look_190) (ft_60 F) c7_ (xlt_of (fl_60 F) c8_) rfl (fun f9_ => ?_)
    replace f9_ : 0 ≤ (xpl h 60 (xpl h 55 x1)) ∧ (xpl h 60 (xpl h 55 x1)) ≤ 1 := f9_
    refine xr_if_ne (pc := 191) (tgt := 207) (hI := d_M_look_191) (ht := by decide) (fun q9 => ?_) (fun q9 => ?_)
    · replace hyp := hyp.2 q9
      have q10_ := q9
      clear q9
      refine xr_iconst (pc := 207) (hI := d_M_look_207) (hr := by decide) ?_
      refine xr_ireturnT (S := []) (pc := 208) (hI := d_M_look_208) (hr := rfl) (xnar_z (by decide)) ?_
      exact hyp
    · replace hyp := hyp.1 q9
      have q10_ := q9
      clear q9
      refine xr_aload_n (pc := 194) (i := 0) (hI := d_M_look_194) (hi := rfl) (hl := rfl) ?_
      refine xr_iconst (pc := 195) (hI := d_M_look_195) (hr := by decide) ?_
      refine xr_iload_n (pc := 196) (i := 2) (hI := d_M_look_196) (hi := rfl) (hl := rfl) ?_
      exact xq_callV (pc := 197) (index := 374) (K := m_M_finds) (As := [xI (-1), xI x2]) (S := []) (L0 := [xR 53, xI (-1), xI x2, xZ, xZ, xZ, xZ]) (hI := d_M_look_197) (hK := k_M_finds) (hlk := w_2409) (hnoM := rfl) (hS8 := Nat.le_of_ble_eq_true rfl) (ci := 11) (N := 38) (C := "BeaconIndexModel") (T := xF11) (hc := rfl) (hci := Nat.le_of_ble_eq_true rfl) (htb := (ft_53 F)) (hinst := w_2411) (hsel := sel_M_finds) (hlen := Nat.le_of_ble_eq_true rfl) (hst := rfl) (hL0 := rfl)  (xwp_mono hyp (fun v9 h9 q9 => xr_drop (L9 := [xZ, xZ, xZ, xZ, xZ, xZ]) (xdrz (xdrz (xdrz (xdrz (xdrs (xdrs xdr0)))))) q9) (fun _ _ z9 => z9))
  · replace hyp := hyp.2 q9
    have q1_ := q9
    clear q9
    refine xr_aload_n (pc := 14) (i := 0) (hI := d_M_look_14) (hi := rfl) (hl := rfl) ?_
    refine xg_getf (pc := 15) (ci := 11) (k := 19) (N := 38) (v9 := 2) (v := (xpl h 53 19)) (T := xF11) (hI := d_M_look_15) (hw := w_1606) rfl xi11 (Or.inl rfl) (Nat.le_of_ble_eq_true rfl) (Nat.le_of_ble_eq_true rfl) rfl (ft_53 F) rfl (fun f11_ => ?_)
    clear f11_
    obtain ⟨c9, hyp⟩ := hyp
    have t12_ := c9
    clear c9
    refine xg_getfN (pc := 18) (ci := 12) (k := 5) (N := 13) (v9 := 2) (v := (xpl h (xpl h 53 19) 5)) (T := xF12) (hI := d_M_look_18) (hw := w_1546) rfl xi12 (Or.inl rfl) (Nat.le_of_ble_eq_true rfl) (Nat.le_of_ble_eq_true rfl) rfl t12_ rfl (fun f13_ => ?_)
    clear f13_
    refine xr_iload_n (pc := 21) (i := 3) (hI := d_M_look_21) (hi := rfl) (hl := rfl) ?_
    obtain ⟨c9, hyp⟩ := hyp
    have t14_ := c9
    clear c9
    obtain ⟨c15_, hyp⟩ := hyp
    refine xg_iaload (pc := 22) (v := (xpl h (xpl h (xpl h 53 19) 5) x3)) (hI := d_M_look_22) t14_ (by clear hyp; omega) (xlt_of rfl c15_) rfl (fun f16_ => ?_)
    replace f16_ : -2147483648 ≤ (xpl h (xpl h (xpl h 53 19) 5) x3) ∧ (xpl h (xpl h (xpl h 53 19) 5) x3) ≤ 2147483647 := f16_
    refine xr_iconst (pc := 23) (hI := d_M_look_23) (hr := by decide) ?_
    refine xr_icmp_ne (pc := 24) (tgt := 31) (hI := d_M_look_24) (ht := by decide) (fun q9 => ?_) (fun q9 => ?_)
    · replace hyp := hyp.2 q9
      have q17_ := q9
      clear q9
      refine xr_iconst (pc := 31) (hI := d_M_look_31) (hr := by decide) ?_
      exact hyp
    · replace hyp := hyp.1 q9
      have q17_ := q9
      clear q9
      refine xr_iconst (pc := 27) (hI := d_M_look_27) (hr := by decide) ?_
      refine xr_goto (pc := 28) (tgt := 32) (hI := d_M_look_28) (ht := by decide) ?_
      exact hyp
theorem d_M_look_32 : decode prog_14_method_67_code 32 = .ok (.istore 4, 2) := by decide +kernel
theorem d_M_look_34 : decode prog_14_method_67_code 34 = .ok (.aload_n 0, 1) := by decide +kernel
theorem d_M_look_35 : decode prog_14_method_67_code 35 = .ok (.getfield 79, 3) := by decide +kernel
theorem d_M_look_38 : decode prog_14_method_67_code 38 = .ok (.iload_n 3, 1) := by decide +kernel
theorem d_M_look_39 : decode prog_14_method_67_code 39 = .ok (.iload 4, 2) := by decide +kernel
theorem d_M_look_41 : decode prog_14_method_67_code 41 = .ok (.ifCond .eq 12, 3) := by decide +kernel
theorem d_M_look_53 : decode prog_14_method_67_code 53 = .ok (.aload_n 0, 1) := by decide +kernel
theorem d_M_look_54 : decode prog_14_method_67_code 54 = .ok (.getfield 67, 3) := by decide +kernel
theorem d_M_look_57 : decode prog_14_method_67_code 57 = .ok (.aload_n 0, 1) := by decide +kernel
theorem d_M_look_58 : decode prog_14_method_67_code 58 = .ok (.iload_n 3, 1) := by decide +kernel
theorem d_M_look_59 : decode prog_14_method_67_code 59 = .ok (.iload_n 1, 1) := by decide +kernel
theorem d_M_look_60 : decode prog_14_method_67_code 60 = .ok (.iconst 0, 1) := by decide +kernel
theorem d_M_look_61 : decode prog_14_method_67_code 61 = .ok (.invokevirtual 352, 3) := by decide +kernel
theorem d_M_look_64 : decode prog_14_method_67_code 64 = .ok (.iaload, 1) := by decide +kernel
theorem d_M_look_65 : decode prog_14_method_67_code 65 = .ok (.aload_n 0, 1) := by decide +kernel
theorem d_M_look_66 : decode prog_14_method_67_code 66 = .ok (.getfield 67, 3) := by decide +kernel
theorem d_M_look_69 : decode prog_14_method_67_code 69 = .ok (.aload_n 0, 1) := by decide +kernel
theorem d_M_look_70 : decode prog_14_method_67_code 70 = .ok (.iload_n 3, 1) := by decide +kernel
theorem d_M_look_71 : decode prog_14_method_67_code 71 = .ok (.iload_n 1, 1) := by decide +kernel
theorem d_M_look_72 : decode prog_14_method_67_code 72 = .ok (.iconst 1, 1) := by decide +kernel
theorem d_M_look_73 : decode prog_14_method_67_code 73 = .ok (.invokevirtual 352, 3) := by decide +kernel
theorem d_M_look_76 : decode prog_14_method_67_code 76 = .ok (.iaload, 1) := by decide +kernel
theorem d_M_look_77 : decode prog_14_method_67_code 77 = .ok (.iadd, 1) := by decide +kernel
theorem d_M_look_78 : decode prog_14_method_67_code 78 = .ok (.ifCond .le 7, 3) := by decide +kernel
theorem d_M_look_85 : decode prog_14_method_67_code 85 = .ok (.iconst 0, 1) := by decide +kernel
theorem d_M_look_81 : decode prog_14_method_67_code 81 = .ok (.iconst 1, 1) := by decide +kernel
theorem d_M_look_82 : decode prog_14_method_67_code 82 = .ok (.goto 4, 3) := by decide +kernel
theorem d_M_look_44 : decode prog_14_method_67_code 44 = .ok (.aload_n 0, 1) := by decide +kernel
theorem d_M_look_45 : decode prog_14_method_67_code 45 = .ok (.iload_n 3, 1) := by decide +kernel
theorem d_M_look_46 : decode prog_14_method_67_code 46 = .ok (.iconst (-1), 1) := by decide +kernel
theorem d_M_look_47 : decode prog_14_method_67_code 47 = .ok (.invokevirtual 374, 3) := by decide +kernel
theorem v_M_look_32 {G : XG} {d : Nat} {h : XH} {Q : XV → XH → Prop} {X : Nat → XH → Prop} {x1 x2 x3 s0 : Int} (F : xFix h) (hyp : ((s0 = 0 → xiR (60 * x3) ∧ xiR ((60 * x3) + x1) ∧ xiR (2 * ((60 * x3) + x1)) ∧ 0 ≤ ((2 * ((60 * x3) + x1)) + 0) ∧ ((2 * ((60 * x3) + x1)) + 0) < 4920 ∧ xiR ((xpl h 81 ((2 * ((60 * x3) + x1)) + 0)) + (xpl h 81 ((2 * ((60 * x3) + x1)) + 1))) ∧ ((((xpl h 81 ((2 * ((60 * x3) + x1)) + 0)) + (xpl h 81 ((2 * ((60 * x3) + x1)) + 1))) ≤ 0 → (xwp G m_M_look (d + 3) 86 [xR 53, xI x1, xI x2, xI x3, xI s0, xZ] [xI 0, xI x3, xR 85] h Q X)) ∧ (¬ ((xpl h 81 ((2 * ((60 * x3) + x1)) + 0)) + (xpl h 81 ((2 * ((60 * x3) + x1)) + 1))) ≤ 0 → (xwp G m_M_look (d + 3) 86 [xR 53, xI x1, xI x2, xI x3, xI s0, xZ] [xI 1, xI x3, xR 85] h Q X)))) ∧ (¬ s0 = 0 → (xwp G m_M_finds (d + 2) 0 [xR 53, xI x3, xI (-1), xZ, xZ, xZ, xZ] [] h (fun v9 h9 => xwp G m_M_look (d + 3) 50 [xR 53, xI x1, xI x2, xI x3, xI s0, xZ] (xpush v9 [xI x3, xR 85]) h9 Q X) X)))) : xwp G m_M_look (d + 3) 32 [xR 53, xI x1, xI x2, xI x3, xZ, xZ] [xI s0] h Q X := by
  have hnx9 : (93 : Int) ≤ xnx h := F.2.2
  refine xr_okL (fun hl9 => ?_)
  have r_x1 : -2147483648 ≤ x1 ∧ x1 ≤ 2147483647 := hl9 (xI x1) (.tail _ (.head _)) (Nat.le_of_ble_eq_true rfl)
  have r_x2 : -2147483648 ≤ x2 ∧ x2 ≤ 2147483647 := hl9 (xI x2) (.tail _ (.tail _ (.head _))) (Nat.le_of_ble_eq_true rfl)
  have r_x3 : -2147483648 ≤ x3 ∧ x3 ≤ 2147483647 := hl9 (xI x3) (.tail _ (.tail _ (.tail _ (.head _)))) (Nat.le_of_ble_eq_true rfl)
  refine xr_okS (fun hs9 => ?_)
  have r_s0 : -2147483648 ≤ s0 ∧ s0 ≤ 2147483647 := hs9 (xI s0) (.head _)
  refine xr_istore (pc := 32) (i := 4) (L9 := [xR 53, xI x1, xI x2, xI x3, xI s0, xZ]) (hI := d_M_look_32) (hn := Nat.le_of_ble_eq_true rfl) (hL9 := rfl) ?_
  refine xr_aload_n (pc := 34) (i := 0) (hI := d_M_look_34) (hi := rfl) (hl := rfl) ?_
  refine xg_getf (pc := 35) (ci := 11) (k := 31) (N := 38) (v9 := 2) (v := 85) (T := xF11) (hI := d_M_look_35) (hw := w_1618) rfl xi11 (Or.inl rfl) (Nat.le_of_ble_eq_true rfl) (Nat.le_of_ble_eq_true rfl) rfl (ft_53 F) (fp_53_31 F) (fun f1_ => ?_)
  clear f1_
  refine xr_iload_n (pc := 38) (i := 3) (hI := d_M_look_38) (hi := rfl) (hl := rfl) ?_
  refine xr_iload (pc := 39) (i := 4) (hI := d_M_look_39) (hl := rfl) ?_
  refine xr_if_eq (pc := 41) (tgt := 53) (hI := d_M_look_41) (ht := by decide) (fun q9 => ?_) (fun q9 => ?_)
  · replace hyp := hyp.1 q9
    have q2_ := q9
    clear q9
    refine xr_aload_n (pc := 53) (i := 0) (hI := d_M_look_53) (hi := rfl) (hl := rfl) ?_
    refine xg_getf (pc := 54) (ci := 11) (k := 27) (N := 38) (v9 := 2) (v := 81) (T := xF11) (hI := d_M_look_54) (hw := w_1614) rfl xi11 (Or.inl rfl) (Nat.le_of_ble_eq_true rfl) (Nat.le_of_ble_eq_true rfl) rfl (ft_53 F) (fp_53_27 F) (fun f3_ => ?_)
    clear f3_
    refine xr_aload_n (pc := 57) (i := 0) (hI := d_M_look_57) (hi := rfl) (hl := rfl) ?_
    refine xr_iload_n (pc := 58) (i := 3) (hI := d_M_look_58) (hi := rfl) (hl := rfl) ?_
    refine xr_iload_n (pc := 59) (i := 1) (hI := d_M_look_59) (hi := rfl) (hl := rfl) ?_
    refine xr_iconst (pc := 60) (hI := d_M_look_60) (hr := by decide) ?_
    refine xq_callV (pc := 61) (index := 352) (K := m_M_cellOf) (As := [xI x3, xI x1, xI 0]) (S := [xR 81, xI x3, xR 85]) (L0 := [xR 53, xI x3, xI x1, xI 0]) (hI := d_M_look_61) (hK := k_M_cellOf) (hlk := w_2381) (hnoM := rfl) (hS8 := Nat.le_of_ble_eq_true rfl) (ci := 11) (N := 38) (C := "BeaconIndexModel") (T := xF11) (hc := rfl) (hci := Nat.le_of_ble_eq_true rfl) (htb := (ft_53 F)) (hinst := w_2383) (hsel := sel_M_cellOf) (hlen := Nat.le_of_ble_eq_true rfl) (hst := rfl) (hL0 := rfl)  ?_
    refine xr_iconst (pc := 0) (hI := d_M_cellOf_0) (hr := by decide) ?_
    refine xr_bipush (pc := 1) (hI := d_M_cellOf_1) (hr := by decide) (hv := by decide) ?_
    refine xr_iload_n (pc := 3) (i := 1) (hI := d_M_cellOf_3) (hi := rfl) (hl := rfl) ?_
    obtain ⟨c9, hyp⟩ := hyp
    refine xr_imul (pc := 4) (hI := d_M_cellOf_4) (hr := c9) ?_
    refine xr_iload_n (pc := 5) (i := 2) (hI := d_M_cellOf_5) (hi := rfl) (hl := rfl) ?_
    obtain ⟨c9, hyp⟩ := hyp
    refine xr_iadd (pc := 6) (hI := d_M_cellOf_6) (hr := c9) ?_
    obtain ⟨c9, hyp⟩ := hyp
    refine xr_imul (pc := 7) (hI := d_M_cellOf_7) (hr := c9) ?_
    refine xr_iload_n (pc := 8) (i := 3) (hI := d_M_cellOf_8) (hi := rfl) (hl := rfl) ?_
    refine xr_iadd (pc := 9) (hI := d_M_cellOf_9) (hr := ⟨by clear hyp; omega, by clear hyp; omega⟩) ?_
    refine xr_ireturn (S := []) (pc := 10) (hI := d_M_cellOf_10) (hr := rfl) ?_
    show xwp G m_M_look (d + 3) 64 [xR 53, xI x1, xI x2, xI x3, xI s0, xZ] [xI ((2 * ((60 * x3) + x1)) + 0), xR 81, xI x3, xR 85] _ _ _
    obtain ⟨c4_, hyp⟩ := hyp
    obtain ⟨c5_, hyp⟩ := hyp
    refine xg_iaload (pc := 64) (v := (xpl h 81 ((2 * ((60 * x3) + x1)) + 0))) (hI := d_M_look_64) (ft_81 F) c4_ (xlt_of (fl_81 F) c5_) rfl (fun f6_ => ?_)
    replace f6_ : -2147483648 ≤ (xpl h 81 ((2 * ((60 * x3) + x1)) + 0)) ∧ (xpl h 81 ((2 * ((60 * x3) + x1)) + 0)) ≤ 2147483647 := f6_
    refine xr_aload_n (pc := 65) (i := 0) (hI := d_M_look_65) (hi := rfl) (hl := rfl) ?_
    refine xg_getf (pc := 66) (ci := 11) (k := 27) (N := 38) (v9 := 2) (v := 81) (T := xF11) (hI := d_M_look_66) (hw := w_1614) rfl xi11 (Or.inl rfl) (Nat.le_of_ble_eq_true rfl) (Nat.le_of_ble_eq_true rfl) rfl (ft_53 F) (fp_53_27 F) (fun f7_ => ?_)
    clear f7_
    refine xr_aload_n (pc := 69) (i := 0) (hI := d_M_look_69) (hi := rfl) (hl := rfl) ?_
    refine xr_iload_n (pc := 70) (i := 3) (hI := d_M_look_70) (hi := rfl) (hl := rfl) ?_
    refine xr_iload_n (pc := 71) (i := 1) (hI := d_M_look_71) (hi := rfl) (hl := rfl) ?_
    refine xr_iconst (pc := 72) (hI := d_M_look_72) (hr := by decide) ?_
    refine xq_callV (pc := 73) (index := 352) (K := m_M_cellOf) (As := [xI x3, xI x1, xI 1]) (S := [xR 81, xI (xpl h 81 ((2 * ((60 * x3) + x1)) + 0)), xI x3, xR 85]) (L0 := [xR 53, xI x3, xI x1, xI 1]) (hI := d_M_look_73) (hK := k_M_cellOf) (hlk := w_2381) (hnoM := rfl) (hS8 := Nat.le_of_ble_eq_true rfl) (ci := 11) (N := 38) (C := "BeaconIndexModel") (T := xF11) (hc := rfl) (hci := Nat.le_of_ble_eq_true rfl) (htb := (ft_53 F)) (hinst := w_2383) (hsel := sel_M_cellOf) (hlen := Nat.le_of_ble_eq_true rfl) (hst := rfl) (hL0 := rfl)  ?_
    refine xr_iconst (pc := 0) (hI := d_M_cellOf_0) (hr := by decide) ?_
    refine xr_bipush (pc := 1) (hI := d_M_cellOf_1) (hr := by decide) (hv := by decide) ?_
    refine xr_iload_n (pc := 3) (i := 1) (hI := d_M_cellOf_3) (hi := rfl) (hl := rfl) ?_
    refine xr_imul (pc := 4) (hI := d_M_cellOf_4) (hr := ⟨by clear hyp; omega, by clear hyp; omega⟩) ?_
    refine xr_iload_n (pc := 5) (i := 2) (hI := d_M_cellOf_5) (hi := rfl) (hl := rfl) ?_
    refine xr_iadd (pc := 6) (hI := d_M_cellOf_6) (hr := ⟨by clear hyp; omega, by clear hyp; omega⟩) ?_
    refine xr_imul (pc := 7) (hI := d_M_cellOf_7) (hr := ⟨by clear hyp; omega, by clear hyp; omega⟩) ?_
    refine xr_iload_n (pc := 8) (i := 3) (hI := d_M_cellOf_8) (hi := rfl) (hl := rfl) ?_
    refine xr_iadd (pc := 9) (hI := d_M_cellOf_9) (hr := ⟨by clear hyp; omega, by clear hyp; omega⟩) ?_
    refine xr_ireturn (S := []) (pc := 10) (hI := d_M_cellOf_10) (hr := rfl) ?_
    show xwp G m_M_look (d + 3) 76 [xR 53, xI x1, xI x2, xI x3, xI s0, xZ] [xI ((2 * ((60 * x3) + x1)) + 1), xR 81, xI (xpl h 81 ((2 * ((60 * x3) + x1)) + 0)), xI x3, xR 85] _ _ _
    refine xg_iaload (pc := 76) (v := (xpl h 81 ((2 * ((60 * x3) + x1)) + 1))) (hI := d_M_look_76) (ft_81 F) (by clear hyp; omega) (xlt_of (fl_81 F) (by clear hyp; omega)) rfl (fun f8_ => ?_)
    replace f8_ : -2147483648 ≤ (xpl h 81 ((2 * ((60 * x3) + x1)) + 1)) ∧ (xpl h 81 ((2 * ((60 * x3) + x1)) + 1)) ≤ 2147483647 := f8_
    obtain ⟨c9, hyp⟩ := hyp
    refine xr_iadd (pc := 77) (hI := d_M_look_77) (hr := c9) ?_
    refine xr_if_le (pc := 78) (tgt := 85) (hI := d_M_look_78) (ht := by decide) (fun q9 => ?_) (fun q9 => ?_)
    · replace hyp := hyp.1 q9
      have q9_ := q9
      clear q9
      refine xr_iconst (pc := 85) (hI := d_M_look_85) (hr := by decide) ?_
      exact hyp
    · replace hyp := hyp.2 q9
      have q9_ := q9
      clear q9
      refine xr_iconst (pc := 81) (hI := d_M_look_81) (hr := by decide) ?_
      refine xr_goto (pc := 82) (tgt := 86) (hI := d_M_look_82) (ht := by decide) ?_
      exact hyp
  · replace hyp := hyp.2 q9
    have q2_ := q9
    clear q9
    refine xr_aload_n (pc := 44) (i := 0) (hI := d_M_look_44) (hi := rfl) (hl := rfl) ?_
    refine xr_iload_n (pc := 45) (i := 3) (hI := d_M_look_45) (hi := rfl) (hl := rfl) ?_
    refine xr_iconst (pc := 46) (hI := d_M_look_46) (hr := by decide) ?_
    exact xq_callV (pc := 47) (index := 374) (K := m_M_finds) (As := [xI x3, xI (-1)]) (S := [xI x3, xR 85]) (L0 := [xR 53, xI x3, xI (-1), xZ, xZ, xZ, xZ]) (hI := d_M_look_47) (hK := k_M_finds) (hlk := w_2409) (hnoM := rfl) (hS8 := Nat.le_of_ble_eq_true rfl) (ci := 11) (N := 38) (C := "BeaconIndexModel") (T := xF11) (hc := rfl) (hci := Nat.le_of_ble_eq_true rfl) (htb := (ft_53 F)) (hinst := w_2411) (hsel := sel_M_finds) (hlen := Nat.le_of_ble_eq_true rfl) (hst := rfl) (hL0 := rfl)  hyp
theorem d_M_look_50 : decode prog_14_method_67_code 50 = .ok (.goto 36, 3) := by decide +kernel
theorem v_M_look_50 {G : XG} {d : Nat} {h : XH} {Q : XV → XH → Prop} {X : Nat → XH → Prop} {x1 x2 x3 x4 s0 s1 s2 : Int} (F : xFix h) (hyp : (xwp G m_M_look (d + 3) 86 [xR 53, xI x1, xI x2, xI x3, xI x4, xZ] [xI s0, xI s1, xR s2] h Q X)) : xwp G m_M_look (d + 3) 50 [xR 53, xI x1, xI x2, xI x3, xI x4, xZ] [xI s0, xI s1, xR s2] h Q X := by
  have hnx9 : (93 : Int) ≤ xnx h := F.2.2
  refine xr_okL (fun hl9 => ?_)
  have r_x1 : -2147483648 ≤ x1 ∧ x1 ≤ 2147483647 := hl9 (xI x1) (.tail _ (.head _)) (Nat.le_of_ble_eq_true rfl)
  have r_x2 : -2147483648 ≤ x2 ∧ x2 ≤ 2147483647 := hl9 (xI x2) (.tail _ (.tail _ (.head _))) (Nat.le_of_ble_eq_true rfl)
  have r_x3 : -2147483648 ≤ x3 ∧ x3 ≤ 2147483647 := hl9 (xI x3) (.tail _ (.tail _ (.tail _ (.head _)))) (Nat.le_of_ble_eq_true rfl)
  have r_x4 : -2147483648 ≤ x4 ∧ x4 ≤ 2147483647 := hl9 (xI x4) (.tail _ (.tail _ (.tail _ (.tail _ (.head _))))) (Nat.le_of_ble_eq_true rfl)
  refine xr_okS (fun hs9 => ?_)
  have r_s0 : -2147483648 ≤ s0 ∧ s0 ≤ 2147483647 := hs9 (xI s0) (.head _)
  have r_s1 : -2147483648 ≤ s1 ∧ s1 ≤ 2147483647 := hs9 (xI s1) (.tail _ (.head _))
  refine xr_goto (pc := 50) (tgt := 86) (hI := d_M_look_50) (ht := by decide) ?_
  exact hyp
theorem d_M_look_86 : decode prog_14_method_67_code 86 = .ok (.bastore, 1) := by decide +kernel
theorem xta_102 : xfTA 102 = true := by decide +kernel
theorem d_M_look_87 : decode prog_14_method_67_code 87 = .ok (.iload 4, 2) := by decide +kernel
theorem d_M_look_89 : decode prog_14_method_67_code 89 = .ok (.ifCond .eq 11, 3) := by decide +kernel
theorem d_M_look_100 : decode prog_14_method_67_code 100 = .ok (.ldc_w 373, 3) := by decide +kernel
theorem d_M_look_103 : decode prog_14_method_67_code 103 = .ok (.aload_n 0, 1) := by decide +kernel
theorem d_M_look_104 : decode prog_14_method_67_code 104 = .ok (.iload_n 3, 1) := by decide +kernel
theorem d_M_look_105 : decode prog_14_method_67_code 105 = .ok (.iload_n 1, 1) := by decide +kernel
theorem d_M_look_106 : decode prog_14_method_67_code 106 = .ok (.iconst 0, 1) := by decide +kernel
theorem d_M_look_107 : decode prog_14_method_67_code 107 = .ok (.invokevirtual 380, 3) := by decide +kernel
theorem k_M_weightIn : xCal m_M_weightIn 3 := ⟨List.mem_append_right _ (List.mem_of_getElem? (i := 2421) (by decide +kernel)), w_15, Nat.le_of_ble_eq_true rfl, ⟨by decide +kernel, by decide +kernel⟩, by decide +kernel, by decide +kernel, rfl⟩
theorem w_2418 : Cond.methodLink "BeaconIndexModel" 380 ⟨"BeaconIndexModel", "weightIn", "(III)I"⟩ ∈ lw_tbl := List.mem_append_right _ (List.mem_of_getElem? (i := 2418) (by decide +kernel))
theorem w_2420 : Cond.instanceMethod ⟨"BeaconIndexModel", "weightIn", "(III)I"⟩ ∈ lw_tbl := List.mem_append_right _ (List.mem_of_getElem? (i := 2420) (by decide +kernel))
theorem sel_M_weightIn : Cond.selects "BeaconIndexModel" ⟨"BeaconIndexModel", "weightIn", "(III)I"⟩ ⟨"BeaconIndexModel", "weightIn", "(III)I"⟩ ∈ lw_tbl := List.mem_append_left _ (by decide +kernel)
theorem d_M_look_92 : decode prog_14_method_67_code 92 = .ok (.aload_n 0, 1) := by decide +kernel
theorem d_M_look_93 : decode prog_14_method_67_code 93 = .ok (.iload_n 3, 1) := by decide +kernel
theorem d_M_look_94 : decode prog_14_method_67_code 94 = .ok (.invokevirtual 377, 3) := by decide +kernel
theorem k_M_sum : xCal m_M_sum 1 := ⟨List.mem_append_right _ (List.mem_of_getElem? (i := 2416) (by decide +kernel)), w_15, Nat.le_of_ble_eq_true rfl, ⟨by decide +kernel, by decide +kernel⟩, by decide +kernel, by decide +kernel, rfl⟩
theorem w_2413 : Cond.methodLink "BeaconIndexModel" 377 ⟨"BeaconIndexModel", "sum", "(I)I"⟩ ∈ lw_tbl := List.mem_append_right _ (List.mem_of_getElem? (i := 2413) (by decide +kernel))
theorem w_2415 : Cond.instanceMethod ⟨"BeaconIndexModel", "sum", "(I)I"⟩ ∈ lw_tbl := List.mem_append_right _ (List.mem_of_getElem? (i := 2415) (by decide +kernel))
theorem sel_M_sum : Cond.selects "BeaconIndexModel" ⟨"BeaconIndexModel", "sum", "(I)I"⟩ ⟨"BeaconIndexModel", "sum", "(I)I"⟩ ∈ lw_tbl := List.mem_append_left _ (by decide +kernel)
theorem v_M_look_86 {G : XG} {d : Nat} {h : XH} {Q : XV → XH → Prop} {X : Nat → XH → Prop} {x1 x2 x3 x4 s0 s1 s2 : Int} (F : xFix h) (hyp : xtg h s2 = 102 ∧ 0 ≤ s2 ∧ 0 ≤ s1 ∧ s1 < (xln h s2) ∧ (0 ≤ s0 ∧ s0 ≤ 1) ∧ ((x4 = 0 → (xFix (xst h s2 s1 s0) → xwp G m_M_weightIn (d + 2) 0 [xR 53, xI x3, xI x1, xI 0, xZ, xZ] [] (xst h s2 s1 s0) (fun v9 h9 => xwp G m_M_look (d + 3) 110 [xR 53, xI x1, xI x2, xI x3, xZ, xZ] (xpush v9 [xI 1000000]) h9 Q X) X)) ∧ (¬ x4 = 0 → (xFix (xst h s2 s1 s0) → xwp G m_M_sum (d + 2) 0 [xR 53, xI x3, xZ, xZ] [] (xst h s2 s1 s0) (fun v9 h9 => xwp G m_M_look (d + 3) 97 [xR 53, xI x1, xI x2, xI x3, xZ, xZ] (xpush v9 []) h9 Q X) X)))) : xwp G m_M_look (d + 3) 86 [xR 53, xI x1, xI x2, xI x3, xI x4, xZ] [xI s0, xI s1, xR s2] h Q X := by
  have hnx9 : (93 : Int) ≤ xnx h := F.2.2
  refine xr_okL (fun hl9 => ?_)
  have r_x1 : -2147483648 ≤ x1 ∧ x1 ≤ 2147483647 := hl9 (xI x1) (.tail _ (.head _)) (Nat.le_of_ble_eq_true rfl)
  have r_x2 : -2147483648 ≤ x2 ∧ x2 ≤ 2147483647 := hl9 (xI x2) (.tail _ (.tail _ (.head _))) (Nat.le_of_ble_eq_true rfl)
  have r_x3 : -2147483648 ≤ x3 ∧ x3 ≤ 2147483647 := hl9 (xI x3) (.tail _ (.tail _ (.tail _ (.head _)))) (Nat.le_of_ble_eq_true rfl)
  have r_x4 : -2147483648 ≤ x4 ∧ x4 ≤ 2147483647 := hl9 (xI x4) (.tail _ (.tail _ (.tail _ (.tail _ (.head _))))) (Nat.le_of_ble_eq_true rfl)
  refine xr_okS (fun hs9 => ?_)
  have r_s0 : -2147483648 ≤ s0 ∧ s0 ≤ 2147483647 := hs9 (xI s0) (.head _)
  have r_s1 : -2147483648 ≤ s1 ∧ s1 ≤ 2147483647 := hs9 (xI s1) (.tail _ (.head _))
  obtain ⟨c9, hyp⟩ := hyp
  have t1_ := c9
  clear c9
  obtain ⟨c2_, hyp⟩ := hyp
  obtain ⟨c3_, hyp⟩ := hyp
  obtain ⟨c4_, hyp⟩ := hyp
  obtain ⟨c5_, hyp⟩ := hyp
  refine xr_bastoreZ (pc := 86) (hI := d_M_look_86) t1_ c2_ c3_ (xlt_of rfl c4_) c5_ ?_
  have F6_ : xFix (xst h s2 s1 s0) := F.stTA (t := 102) c2_ t1_ xta_102
  refine xr_iload (pc := 87) (i := 4) (hI := d_M_look_87) (hl := rfl) ?_
  refine xr_if_eq (pc := 89) (tgt := 100) (hI := d_M_look_89) (ht := by decide) (fun q9 => ?_) (fun q9 => ?_)
  · replace hyp := hyp.1 q9
    have q7_ := q9
    clear q9
    refine xr_ldcw (pc := 100) (z := 1000000) (hI := d_M_look_100) (hw := w_2417) (hr := by decide) (hv := by decide) ?_
    refine xr_aload_n (pc := 103) (i := 0) (hI := d_M_look_103) (hi := rfl) (hl := rfl) ?_
    refine xr_iload_n (pc := 104) (i := 3) (hI := d_M_look_104) (hi := rfl) (hl := rfl) ?_
    refine xr_iload_n (pc := 105) (i := 1) (hI := d_M_look_105) (hi := rfl) (hl := rfl) ?_
    refine xr_iconst (pc := 106) (hI := d_M_look_106) (hr := by decide) ?_
    exact xq_callV (pc := 107) (index := 380) (K := m_M_weightIn) (As := [xI x3, xI x1, xI 0]) (S := [xI 1000000]) (L0 := [xR 53, xI x3, xI x1, xI 0, xZ, xZ]) (hI := d_M_look_107) (hK := k_M_weightIn) (hlk := w_2418) (hnoM := rfl) (hS8 := Nat.le_of_ble_eq_true rfl) (ci := 11) (N := 38) (C := "BeaconIndexModel") (T := xF11) (hc := rfl) (hci := Nat.le_of_ble_eq_true rfl) (htb := (ft_53 F6_)) (hinst := w_2420) (hsel := sel_M_weightIn) (hlen := Nat.le_of_ble_eq_true rfl) (hst := rfl) (hL0 := rfl)  (xwp_mono (hyp F6_) (fun v9 h9 q9 => xr_drop (L9 := [xR 53, xI x1, xI x2, xI x3, xZ, xZ]) (xdrs (xdrs (xdrs (xdrs (xdrz (xdrs xdr0)))))) q9) (fun _ _ z9 => z9))
  · replace hyp := hyp.2 q9
    have q7_ := q9
    clear q9
    refine xr_aload_n (pc := 92) (i := 0) (hI := d_M_look_92) (hi := rfl) (hl := rfl) ?_
    refine xr_iload_n (pc := 93) (i := 3) (hI := d_M_look_93) (hi := rfl) (hl := rfl) ?_
    exact xq_callV (pc := 94) (index := 377) (K := m_M_sum) (As := [xI x3]) (S := []) (L0 := [xR 53, xI x3, xZ, xZ]) (hI := d_M_look_94) (hK := k_M_sum) (hlk := w_2413) (hnoM := rfl) (hS8 := Nat.le_of_ble_eq_true rfl) (ci := 11) (N := 38) (C := "BeaconIndexModel") (T := xF11) (hc := rfl) (hci := Nat.le_of_ble_eq_true rfl) (htb := (ft_53 F6_)) (hinst := w_2415) (hsel := sel_M_sum) (hlen := Nat.le_of_ble_eq_true rfl) (hst := rfl) (hL0 := rfl)  (xwp_mono (hyp F6_) (fun v9 h9 q9 => xr_drop (L9 := [xR 53, xI x1, xI x2, xI x3, xZ, xZ]) (xdrs (xdrs (xdrs (xdrs (xdrz (xdrs xdr0)))))) q9) (fun _ _ z9 => z9))
theorem d_M_look_97 : decode prog_14_method_67_code 97 = .ok (.goto 24, 3) := by decide +kernel
theorem v_M_look_97 {G : XG} {d : Nat} {h : XH} {Q : XV → XH → Prop} {X : Nat → XH → Prop} {x1 x2 x3 s0 : Int} (F : xFix h) (hyp : (xwp G m_M_look (d + 3) 121 [xR 53, xI x1, xI x2, xI x3, xZ, xZ] [xI s0] h Q X)) : xwp G m_M_look (d + 3) 97 [xR 53, xI x1, xI x2, xI x3, xZ, xZ] [xI s0] h Q X := by
  have hnx9 : (93 : Int) ≤ xnx h := F.2.2
  refine xr_okL (fun hl9 => ?_)
  have r_x1 : -2147483648 ≤ x1 ∧ x1 ≤ 2147483647 := hl9 (xI x1) (.tail _ (.head _)) (Nat.le_of_ble_eq_true rfl)
  have r_x2 : -2147483648 ≤ x2 ∧ x2 ≤ 2147483647 := hl9 (xI x2) (.tail _ (.tail _ (.head _))) (Nat.le_of_ble_eq_true rfl)
  have r_x3 : -2147483648 ≤ x3 ∧ x3 ≤ 2147483647 := hl9 (xI x3) (.tail _ (.tail _ (.tail _ (.head _)))) (Nat.le_of_ble_eq_true rfl)
  refine xr_okS (fun hs9 => ?_)
  have r_s0 : -2147483648 ≤ s0 ∧ s0 ≤ 2147483647 := hs9 (xI s0) (.head _)
  refine xr_goto (pc := 97) (tgt := 121) (hI := d_M_look_97) (ht := by decide) ?_
  exact hyp
theorem d_M_look_110 : decode prog_14_method_67_code 110 = .ok (.aload_n 0, 1) := by decide +kernel
theorem d_M_look_111 : decode prog_14_method_67_code 111 = .ok (.iload_n 3, 1) := by decide +kernel
theorem d_M_look_112 : decode prog_14_method_67_code 112 = .ok (.iload_n 1, 1) := by decide +kernel
theorem d_M_look_113 : decode prog_14_method_67_code 113 = .ok (.iconst 1, 1) := by decide +kernel
theorem d_M_look_114 : decode prog_14_method_67_code 114 = .ok (.invokevirtual 380, 3) := by decide +kernel
theorem v_M_look_110 {G : XG} {d : Nat} {h : XH} {Q : XV → XH → Prop} {X : Nat → XH → Prop} {x1 x2 x3 s0 s1 : Int} (F : xFix h) (hyp : (xwp G m_M_weightIn (d + 2) 0 [xR 53, xI x3, xI x1, xI 1, xZ, xZ] [] h (fun v9 h9 => xwp G m_M_look (d + 3) 117 [xR 53, xI x1, xI x2, xI x3, xZ, xZ] (xpush v9 [xI s0, xI s1]) h9 Q X) X)) : xwp G m_M_look (d + 3) 110 [xR 53, xI x1, xI x2, xI x3, xZ, xZ] [xI s0, xI s1] h Q X := by
  have hnx9 : (93 : Int) ≤ xnx h := F.2.2
  refine xr_okL (fun hl9 => ?_)
  have r_x1 : -2147483648 ≤ x1 ∧ x1 ≤ 2147483647 := hl9 (xI x1) (.tail _ (.head _)) (Nat.le_of_ble_eq_true rfl)
  have r_x2 : -2147483648 ≤ x2 ∧ x2 ≤ 2147483647 := hl9 (xI x2) (.tail _ (.tail _ (.head _))) (Nat.le_of_ble_eq_true rfl)
  have r_x3 : -2147483648 ≤ x3 ∧ x3 ≤ 2147483647 := hl9 (xI x3) (.tail _ (.tail _ (.tail _ (.head _)))) (Nat.le_of_ble_eq_true rfl)
  refine xr_okS (fun hs9 => ?_)
  have r_s0 : -2147483648 ≤ s0 ∧ s0 ≤ 2147483647 := hs9 (xI s0) (.head _)
  have r_s1 : -2147483648 ≤ s1 ∧ s1 ≤ 2147483647 := hs9 (xI s1) (.tail _ (.head _))
  refine xr_aload_n (pc := 110) (i := 0) (hI := d_M_look_110) (hi := rfl) (hl := rfl) ?_
  refine xr_iload_n (pc := 111) (i := 3) (hI := d_M_look_111) (hi := rfl) (hl := rfl) ?_
  refine xr_iload_n (pc := 112) (i := 1) (hI := d_M_look_112) (hi := rfl) (hl := rfl) ?_
  refine xr_iconst (pc := 113) (hI := d_M_look_113) (hr := by decide) ?_
  exact xq_callV (pc := 114) (index := 380) (K := m_M_weightIn) (As := [xI x3, xI x1, xI 1]) (S := [xI s0, xI s1]) (L0 := [xR 53, xI x3, xI x1, xI 1, xZ, xZ]) (hI := d_M_look_114) (hK := k_M_weightIn) (hlk := w_2418) (hnoM := rfl) (hS8 := Nat.le_of_ble_eq_true rfl) (ci := 11) (N := 38) (C := "BeaconIndexModel") (T := xF11) (hc := rfl) (hci := Nat.le_of_ble_eq_true rfl) (htb := (ft_53 F)) (hinst := w_2420) (hsel := sel_M_weightIn) (hlen := Nat.le_of_ble_eq_true rfl) (hst := rfl) (hL0 := rfl)  hyp
theorem d_M_look_117 : decode prog_14_method_67_code 117 = .ok (.iadd, 1) := by decide +kernel
theorem d_M_look_118 : decode prog_14_method_67_code 118 = .ok (.invokestatic 146, 3) := by decide +kernel
theorem v_M_look_117 {G : XG} {d : Nat} {h : XH} {Q : XV → XH → Prop} {X : Nat → XH → Prop} {x1 x2 x3 s0 s1 s2 : Int} (F : xFix h) (hyp : xiR (s1 + s0) ∧ (xwp G m_M_look (d + 3) 121 [xR 53, xI x1, xI x2, xI x3, xZ, xZ] [xI (min s2 (s1 + s0))] h Q X)) : xwp G m_M_look (d + 3) 117 [xR 53, xI x1, xI x2, xI x3, xZ, xZ] [xI s0, xI s1, xI s2] h Q X := by
  have hnx9 : (93 : Int) ≤ xnx h := F.2.2
  refine xr_okL (fun hl9 => ?_)
  have r_x1 : -2147483648 ≤ x1 ∧ x1 ≤ 2147483647 := hl9 (xI x1) (.tail _ (.head _)) (Nat.le_of_ble_eq_true rfl)
  have r_x2 : -2147483648 ≤ x2 ∧ x2 ≤ 2147483647 := hl9 (xI x2) (.tail _ (.tail _ (.head _))) (Nat.le_of_ble_eq_true rfl)
  have r_x3 : -2147483648 ≤ x3 ∧ x3 ≤ 2147483647 := hl9 (xI x3) (.tail _ (.tail _ (.tail _ (.head _)))) (Nat.le_of_ble_eq_true rfl)
  refine xr_okS (fun hs9 => ?_)
  have r_s0 : -2147483648 ≤ s0 ∧ s0 ≤ 2147483647 := hs9 (xI s0) (.head _)
  have r_s1 : -2147483648 ≤ s1 ∧ s1 ≤ 2147483647 := hs9 (xI s1) (.tail _ (.head _))
  have r_s2 : -2147483648 ≤ s2 ∧ s2 ≤ 2147483647 := hs9 (xI s2) (.tail _ (.tail _ (.head _)))
  obtain ⟨c9, hyp⟩ := hyp
  refine xr_iadd (pc := 117) (hI := d_M_look_117) (hr := c9) ?_
  refine xr_mmin (pc := 118) (index := 146) (hI := d_M_look_118) w_1786 w_542 w_25 w_mmin (Nat.le_add_left_of_le (by decide)) (Nat.le_of_ble_eq_true rfl) ?_
  have f1_ : (min s2 (s1 + s0)) ≤ s2 := (by clear hyp; omega)
  have f2_ : (min s2 (s1 + s0)) ≤ (s1 + s0) := (by clear hyp; omega)
  have f3_ : (-2147483648) ≤ (min s2 (s1 + s0)) := (by clear hyp; omega)
  exact hyp
theorem d_M_look_121 : decode prog_14_method_67_code 121 = .ok (.istore 5, 2) := by decide +kernel
theorem d_M_look_123 : decode prog_14_method_67_code 123 = .ok (.aload_n 0, 1) := by decide +kernel
theorem d_M_look_124 : decode prog_14_method_67_code 124 = .ok (.getfield 82, 3) := by decide +kernel
theorem d_M_look_127 : decode prog_14_method_67_code 127 = .ok (.iload_n 3, 1) := by decide +kernel
theorem d_M_look_128 : decode prog_14_method_67_code 128 = .ok (.aload_n 0, 1) := by decide +kernel
theorem d_M_look_129 : decode prog_14_method_67_code 129 = .ok (.getfield 79, 3) := by decide +kernel
theorem d_M_look_132 : decode prog_14_method_67_code 132 = .ok (.iload_n 3, 1) := by decide +kernel
theorem d_M_look_133 : decode prog_14_method_67_code 133 = .ok (.baload, 1) := by decide +kernel
theorem d_M_look_134 : decode prog_14_method_67_code 134 = .ok (.ifCond .eq 38, 3) := by decide +kernel
theorem d_M_look_172 : decode prog_14_method_67_code 172 = .ok (.iconst 0, 1) := by decide +kernel
theorem d_M_look_173 : decode prog_14_method_67_code 173 = .ok (.iastore, 1) := by decide +kernel
theorem xfa_86 : xfreeA 86 = true := by decide +kernel
theorem d_M_look_174 : decode prog_14_method_67_code 174 = .ok (.iinc 3 (-1), 3) := by decide +kernel
theorem d_M_look_177 : decode prog_14_method_67_code 177 = .ok (.goto (-167), 3) := by decide +kernel
theorem d_M_look_137 : decode prog_14_method_67_code 137 = .ok (.aload_n 0, 1) := by decide +kernel
theorem d_M_look_138 : decode prog_14_method_67_code 138 = .ok (.getfield 51, 3) := by decide +kernel
theorem d_M_look_141 : decode prog_14_method_67_code 141 = .ok (.getfield 284, 3) := by decide +kernel
theorem d_M_look_144 : decode prog_14_method_67_code 144 = .ok (.iload_n 3, 1) := by decide +kernel
theorem d_M_look_145 : decode prog_14_method_67_code 145 = .ok (.iaload, 1) := by decide +kernel
theorem d_M_look_146 : decode prog_14_method_67_code 146 = .ok (.bipush 45, 2) := by decide +kernel
theorem d_M_look_148 : decode prog_14_method_67_code 148 = .ok (.if_icmp .eq 24, 3) := by decide +kernel
theorem d_M_look_151 : decode prog_14_method_67_code 151 = .ok (.ldc_w 373, 3) := by decide +kernel
theorem d_M_look_154 : decode prog_14_method_67_code 154 = .ok (.iload 5, 2) := by decide +kernel
theorem d_M_look_156 : decode prog_14_method_67_code 156 = .ok (.aload_n 0, 1) := by decide +kernel
theorem d_M_look_157 : decode prog_14_method_67_code 157 = .ok (.getfield 51, 3) := by decide +kernel
theorem d_M_look_160 : decode prog_14_method_67_code 160 = .ok (.getfield 277, 3) := by decide +kernel
theorem d_M_look_163 : decode prog_14_method_67_code 163 = .ok (.iload_n 3, 1) := by decide +kernel
theorem d_M_look_164 : decode prog_14_method_67_code 164 = .ok (.iaload, 1) := by decide +kernel
theorem d_M_look_165 : decode prog_14_method_67_code 165 = .ok (.imul, 1) := by decide +kernel
theorem d_M_look_166 : decode prog_14_method_67_code 166 = .ok (.invokestatic 146, 3) := by decide +kernel
theorem d_M_look_169 : decode prog_14_method_67_code 169 = .ok (.goto 4, 3) := by decide +kernel
theorem v_M_look_121 {G : XG} {d : Nat} {h : XH} {Q : XV → XH → Prop} {X : Nat → XH → Prop} {x1 x2 x3 s0 : Int} (F : xFix h) (hyp : 0 ≤ x3 ∧ x3 < 41 ∧ (((xpl h 85 x3) = 0 → (xFix (xst h 86 x3 0) → xwp G m_M_look (d + 3) 10 [xR 53, xI x1, xI x2, xI (x3 + (-1)), xZ, xZ] [] (xst h 86 x3 0) Q X)) ∧ (¬ (xpl h 85 x3) = 0 → xtg h (xpl h 53 19) = 12 ∧ xtg h (xpl h (xpl h 53 19) 2) = 100 ∧ x3 < (xln h (xpl h (xpl h 53 19) 2)) ∧ (((xpl h (xpl h (xpl h 53 19) 2) x3) = 45 → (xFix (xst h 86 x3 0) → xwp G m_M_look (d + 3) 10 [xR 53, xI x1, xI x2, xI (x3 + (-1)), xZ, xZ] [] (xst h 86 x3 0) Q X)) ∧ (¬ (xpl h (xpl h (xpl h 53 19) 2) x3) = 45 → xtg h (xpl h (xpl h 53 19) 3) = 100 ∧ x3 < (xln h (xpl h (xpl h 53 19) 3)) ∧ xiR (s0 * (xpl h (xpl h (xpl h 53 19) 3) x3)) ∧ (xFix (xst h 86 x3 (min 1000000 (s0 * (xpl h (xpl h (xpl h 53 19) 3) x3)))) → xwp G m_M_look (d + 3) 10 [xR 53, xI x1, xI x2, xI (x3 + (-1)), xZ, xZ] [] (xst h 86 x3 (min 1000000 (s0 * (xpl h (xpl h (xpl h 53 19) 3) x3)))) Q X)))))) : xwp G m_M_look (d + 3) 121 [xR 53, xI x1, xI x2, xI x3, xZ, xZ] [xI s0] h Q X := by
  have hnx9 : (93 : Int) ≤ xnx h := F.2.2
  refine xr_okL (fun hl9 => ?_)
  have r_x1 : -2147483648 ≤ x1 ∧ x1 ≤ 2147483647 := hl9 (xI x1) (.tail _ (.head _)) (Nat.le_of_ble_eq_true rfl)
  have r_x2 : -2147483648 ≤ x2 ∧ x2 ≤ 2147483647 := hl9 (xI x2) (.tail _ (.tail _ (.head _))) (Nat.le_of_ble_eq_true rfl)
  have r_x3 : -2147483648 ≤ x3 ∧ x3 ≤ 2147483647 := hl9 (xI x3) (.tail _ (.tail _ (.tail _ (.head _)))) (Nat.le_of_ble_eq_true rfl)
  refine xr_okS (fun hs9 => ?_)
  have r_s0 : -2147483648 ≤ s0 ∧ s0 ≤ 2147483647 := hs9 (xI s0) (.head _)
  refine xr_istore (pc := 121) (i := 5) (L9 := [xR 53, xI x1, xI x2, xI x3, xZ, xI s0]) (hI := d_M_look_121) (hn := Nat.le_of_ble_eq_true rfl) (hL9 := rfl) ?_
  refine xr_aload_n (pc := 123) (i := 0) (hI := d_M_look_123) (hi := rfl) (hl := rfl) ?_
  refine xg_getf (pc := 124) (ci := 11) (k := 32) (N := 38) (v9 := 2) (v := 86) (T := xF11) (hI := d_M_look_124) (hw := w_1619) rfl xi11 (Or.inl rfl) (Nat.le_of_ble_eq_true rfl) (Nat.le_of_ble_eq_true rfl) rfl (ft_53 F) (fp_53_32 F) (fun f1_ => ?_)
  clear f1_
  refine xr_iload_n (pc := 127) (i := 3) (hI := d_M_look_127) (hi := rfl) (hl := rfl) ?_
  refine xr_aload_n (pc := 128) (i := 0) (hI := d_M_look_128) (hi := rfl) (hl := rfl) ?_
  refine xg_getf (pc := 129) (ci := 11) (k := 31) (N := 38) (v9 := 2) (v := 85) (T := xF11) (hI := d_M_look_129) (hw := w_1618) rfl xi11 (Or.inl rfl) (Nat.le_of_ble_eq_true rfl) (Nat.le_of_ble_eq_true rfl) rfl (ft_53 F) (fp_53_31 F) (fun f2_ => ?_)
  clear f2_
  refine xr_iload_n (pc := 132) (i := 3) (hI := d_M_look_132) (hi := rfl) (hl := rfl) ?_
  obtain ⟨c3_, hyp⟩ := hyp
  obtain ⟨c4_, hyp⟩ := hyp
  refine xg_baloadZ (pc := 133) (v := (xpl h 85 x3)) (hI := d_M_look_133) (ft_85 F) c3_ (xlt_of (fl_85 F) c4_) rfl (fun f5_ => ?_)
  replace f5_ : 0 ≤ (xpl h 85 x3) ∧ (xpl h 85 x3) ≤ 1 := f5_
  refine xr_if_eq (pc := 134) (tgt := 172) (hI := d_M_look_134) (ht := by decide) (fun q9 => ?_) (fun q9 => ?_)
  · replace hyp := hyp.1 q9
    have q6_ := q9
    clear q9
    refine xr_iconst (pc := 172) (hI := d_M_look_172) (hr := by decide) ?_
    refine xr_iastore (pc := 173) (hI := d_M_look_173) (ft_86 F) (by decide) (by clear hyp; omega) (xlt_of (fl_86 F) (by clear hyp; omega)) ?_
    have F7_ : xFix (xst h 86 x3 0) := F.stA xfa_86
    refine xr_iinc (pc := 174) (i := 3) (L9 := [xR 53, xI x1, xI x2, xI (x3 + (-1)), xZ, xI s0]) (hI := d_M_look_174) (hl := rfl) (hn := Nat.le_of_ble_eq_true rfl) (hr := ⟨by clear hyp; omega, by clear hyp; omega⟩) (hL9 := rfl) ?_
    refine xr_goto (pc := 177) (tgt := 10) (hI := d_M_look_177) (ht := by decide) ?_
    exact xr_drop (L9 := [xR 53, xI x1, xI x2, xI (x3 + (-1)), xZ, xZ]) (xdrs (xdrs (xdrs (xdrs (xdrs (xdrz xdr0)))))) (hyp F7_)
  · replace hyp := hyp.2 q9
    have q6_ := q9
    clear q9
    refine xr_aload_n (pc := 137) (i := 0) (hI := d_M_look_137) (hi := rfl) (hl := rfl) ?_
    refine xg_getf (pc := 138) (ci := 11) (k := 19) (N := 38) (v9 := 2) (v := (xpl h 53 19)) (T := xF11) (hI := d_M_look_138) (hw := w_1606) rfl xi11 (Or.inl rfl) (Nat.le_of_ble_eq_true rfl) (Nat.le_of_ble_eq_true rfl) rfl (ft_53 F) rfl (fun f8_ => ?_)
    clear f8_
    obtain ⟨c9, hyp⟩ := hyp
    have t9_ := c9
    clear c9
    refine xg_getfN (pc := 141) (ci := 12) (k := 2) (N := 13) (v9 := 2) (v := (xpl h (xpl h 53 19) 2)) (T := xF12) (hI := d_M_look_141) (hw := w_1540) rfl xi12 (Or.inl rfl) (Nat.le_of_ble_eq_true rfl) (Nat.le_of_ble_eq_true rfl) rfl t9_ rfl (fun f10_ => ?_)
    clear f10_
    refine xr_iload_n (pc := 144) (i := 3) (hI := d_M_look_144) (hi := rfl) (hl := rfl) ?_
    obtain ⟨c9, hyp⟩ := hyp
    have t11_ := c9
    clear c9
    obtain ⟨c12_, hyp⟩ := hyp
    refine xg_iaload (pc := 145) (v := (xpl h (xpl h (xpl h 53 19) 2) x3)) (hI := d_M_look_145) t11_ (by clear hyp; omega) (xlt_of rfl c12_) rfl (fun f13_ => ?_)
    replace f13_ : -2147483648 ≤ (xpl h (xpl h (xpl h 53 19) 2) x3) ∧ (xpl h (xpl h (xpl h 53 19) 2) x3) ≤ 2147483647 := f13_
    refine xr_bipush (pc := 146) (hI := d_M_look_146) (hr := by decide) (hv := by decide) ?_
    refine xr_icmp_eq (pc := 148) (tgt := 172) (hI := d_M_look_148) (ht := by decide) (fun q9 => ?_) (fun q9 => ?_)
    · replace hyp := hyp.1 q9
      have q14_ := q9
      clear q9
      refine xr_iconst (pc := 172) (hI := d_M_look_172) (hr := by decide) ?_
      refine xr_iastore (pc := 173) (hI := d_M_look_173) (ft_86 F) (by decide) (by clear hyp; omega) (xlt_of (fl_86 F) (by clear hyp; omega)) ?_
      have F15_ : xFix (xst h 86 x3 0) := F.stA xfa_86
      refine xr_iinc (pc := 174) (i := 3) (L9 := [xR 53, xI x1, xI x2, xI (x3 + (-1)), xZ, xI s0]) (hI := d_M_look_174) (hl := rfl) (hn := Nat.le_of_ble_eq_true rfl) (hr := ⟨by clear hyp; omega, by clear hyp; omega⟩) (hL9 := rfl) ?_
      refine xr_goto (pc := 177) (tgt := 10) (hI := d_M_look_177) (ht := by decide) ?_
      exact xr_drop (L9 := [xR 53, xI x1, xI x2, xI (x3 + (-1)), xZ, xZ]) (xdrs (xdrs (xdrs (xdrs (xdrs (xdrz xdr0)))))) (hyp F15_)
    · replace hyp := hyp.2 q9
      have q14_ := q9
      clear q9
      refine xr_ldcw (pc := 151) (z := 1000000) (hI := d_M_look_151) (hw := w_2417) (hr := by decide) (hv := by decide) ?_
      refine xr_iload (pc := 154) (i := 5) (hI := d_M_look_154) (hl := rfl) ?_
      refine xr_aload_n (pc := 156) (i := 0) (hI := d_M_look_156) (hi := rfl) (hl := rfl) ?_
      refine xg_getf (pc := 157) (ci := 11) (k := 19) (N := 38) (v9 := 2) (v := (xpl h 53 19)) (T := xF11) (hI := d_M_look_157) (hw := w_1606) rfl xi11 (Or.inl rfl) (Nat.le_of_ble_eq_true rfl) (Nat.le_of_ble_eq_true rfl) rfl (ft_53 F) rfl (fun f16_ => ?_)
      clear f16_
      refine xg_getfN (pc := 160) (ci := 12) (k := 3) (N := 13) (v9 := 2) (v := (xpl h (xpl h 53 19) 3)) (T := xF12) (hI := d_M_look_160) (hw := w_1542) rfl xi12 (Or.inl rfl) (Nat.le_of_ble_eq_true rfl) (Nat.le_of_ble_eq_true rfl) rfl t9_ rfl (fun f17_ => ?_)
      clear f17_
      refine xr_iload_n (pc := 163) (i := 3) (hI := d_M_look_163) (hi := rfl) (hl := rfl) ?_
      obtain ⟨c9, hyp⟩ := hyp
      have t18_ := c9
      clear c9
      obtain ⟨c19_, hyp⟩ := hyp
      refine xg_iaload (pc := 164) (v := (xpl h (xpl h (xpl h 53 19) 3) x3)) (hI := d_M_look_164) t18_ (by clear hyp; omega) (xlt_of rfl c19_) rfl (fun f20_ => ?_)
      replace f20_ : -2147483648 ≤ (xpl h (xpl h (xpl h 53 19) 3) x3) ∧ (xpl h (xpl h (xpl h 53 19) 3) x3) ≤ 2147483647 := f20_
      obtain ⟨c9, hyp⟩ := hyp
      refine xr_imul (pc := 165) (hI := d_M_look_165) (hr := c9) ?_
      refine xr_mmin (pc := 166) (index := 146) (hI := d_M_look_166) w_1786 w_542 w_25 w_mmin (Nat.le_add_left_of_le (by decide)) (Nat.le_of_ble_eq_true rfl) ?_
      have f21_ : (min 1000000 (s0 * (xpl h (xpl h (xpl h 53 19) 3) x3))) ≤ 1000000 := (by clear hyp; omega)
      have f22_ : (min 1000000 (s0 * (xpl h (xpl h (xpl h 53 19) 3) x3))) ≤ (s0 * (xpl h (xpl h (xpl h 53 19) 3) x3)) := (by clear hyp; omega)
      have f23_ : (-2147483648) ≤ (min 1000000 (s0 * (xpl h (xpl h (xpl h 53 19) 3) x3))) := (by clear hyp; omega)
      refine xr_goto (pc := 169) (tgt := 173) (hI := d_M_look_169) (ht := by decide) ?_
      refine xr_iastore (pc := 173) (hI := d_M_look_173) (ft_86 F) (by decide) (by clear hyp; omega) (xlt_of (fl_86 F) (by clear hyp; omega)) ?_
      have F24_ : xFix (xst h 86 x3 (min 1000000 (s0 * (xpl h (xpl h (xpl h 53 19) 3) x3)))) := F.stA xfa_86
      refine xr_iinc (pc := 174) (i := 3) (L9 := [xR 53, xI x1, xI x2, xI (x3 + (-1)), xZ, xI s0]) (hI := d_M_look_174) (hl := rfl) (hn := Nat.le_of_ble_eq_true rfl) (hr := ⟨by clear hyp; omega, by clear hyp; omega⟩) (hL9 := rfl) ?_
      refine xr_goto (pc := 177) (tgt := 10) (hI := d_M_look_177) (ht := by decide) ?_
      exact xr_drop (L9 := [xR 53, xI x1, xI x2, xI (x3 + (-1)), xZ, xZ]) (xdrs (xdrs (xdrs (xdrs (xdrs (xdrz xdr0)))))) (hyp F24_)
theorem d_M_look_200 : decode prog_14_method_67_code 200 = .ok (.ifCond .eq 7, 3) := by decide +kernel
theorem d_M_look_203 : decode prog_14_method_67_code 203 = .ok (.iconst 1, 1) := by decide +kernel
theorem d_M_look_204 : decode prog_14_method_67_code 204 = .ok (.goto 4, 3) := by decide +kernel
theorem v_M_look_200 {G : XG} {d : Nat} {h : XH} {Q : XV → XH → Prop} {X : Nat → XH → Prop} {s0 : Int} (F : xFix h) (hyp : ((s0 = 0 → (Q (xI 0) h)) ∧ (¬ s0 = 0 → (Q (xI 1) h)))) : xwp G m_M_look (d + 3) 200 [xZ, xZ, xZ, xZ, xZ, xZ] [xI s0] h Q X := by
  have hnx9 : (93 : Int) ≤ xnx h := F.2.2
  refine xr_okS (fun hs9 => ?_)
  have r_s0 : -2147483648 ≤ s0 ∧ s0 ≤ 2147483647 := hs9 (xI s0) (.head _)
  refine xr_if_eq (pc := 200) (tgt := 207) (hI := d_M_look_200) (ht := by decide) (fun q9 => ?_) (fun q9 => ?_)
  · replace hyp := hyp.1 q9
    have q1_ := q9
    clear q9
    refine xr_iconst (pc := 207) (hI := d_M_look_207) (hr := by decide) ?_
    refine xr_ireturnT (S := []) (pc := 208) (hI := d_M_look_208) (hr := rfl) (xnar_z (by decide)) ?_
    exact hyp
  · replace hyp := hyp.2 q9
    have q1_ := q9
    clear q9
    refine xr_iconst (pc := 203) (hI := d_M_look_203) (hr := by decide) ?_
    refine xr_goto (pc := 204) (tgt := 208) (hI := d_M_look_204) (ht := by decide) ?_
    refine xr_ireturnT (S := []) (pc := 208) (hI := d_M_look_208) (hr := rfl) (xnar_z (by decide)) ?_
    exact hyp
abbrev m_M_isAhead : XM := (⟨"BeaconIndexModel", "isAhead", "(IIII)Z"⟩, prog_14_method_68_code, 5, (some .boolean), [])
theorem d_M_isAhead_0 : decode prog_14_method_68_code 0 = .ok (.iload_n 1, 1) := by decide +kernel
theorem d_M_isAhead_1 : decode prog_14_method_68_code 1 = .ok (.iload_n 3, 1) := by decide +kernel
theorem d_M_isAhead_2 : decode prog_14_method_68_code 2 = .ok (.if_icmp .eq 14, 3) := by decide +kernel
theorem d_M_isAhead_16 : decode prog_14_method_68_code 16 = .ok (.aload_n 0, 1) := by decide +kernel
theorem d_M_isAhead_17 : decode prog_14_method_68_code 17 = .ok (.getfield 25, 3) := by decide +kernel
theorem d_M_isAhead_20 : decode prog_14_method_68_code 20 = .ok (.iload_n 2, 1) := by decide +kernel
theorem d_M_isAhead_21 : decode prog_14_method_68_code 21 = .ok (.iaload, 1) := by decide +kernel
theorem d_M_isAhead_22 : decode prog_14_method_68_code 22 = .ok (.aload_n 0, 1) := by decide +kernel
theorem d_M_isAhead_23 : decode prog_14_method_68_code 23 = .ok (.getfield 25, 3) := by decide +kernel
theorem d_M_isAhead_26 : decode prog_14_method_68_code 26 = .ok (.iload 4, 2) := by decide +kernel
theorem d_M_isAhead_28 : decode prog_14_method_68_code 28 = .ok (.iaload, 1) := by decide +kernel
theorem d_M_isAhead_29 : decode prog_14_method_68_code 29 = .ok (.if_icmp .eq 25, 3) := by decide +kernel
theorem d_M_isAhead_54 : decode prog_14_method_68_code 54 = .ok (.aload_n 0, 1) := by decide +kernel
theorem d_M_isAhead_55 : decode prog_14_method_68_code 55 = .ok (.getfield 19, 3) := by decide +kernel
theorem d_M_isAhead_58 : decode prog_14_method_68_code 58 = .ok (.iload_n 2, 1) := by decide +kernel
theorem d_M_isAhead_59 : decode prog_14_method_68_code 59 = .ok (.iaload, 1) := by decide +kernel
theorem d_M_isAhead_60 : decode prog_14_method_68_code 60 = .ok (.aload_n 0, 1) := by decide +kernel
theorem d_M_isAhead_61 : decode prog_14_method_68_code 61 = .ok (.getfield 19, 3) := by decide +kernel
theorem d_M_isAhead_64 : decode prog_14_method_68_code 64 = .ok (.iload 4, 2) := by decide +kernel
theorem d_M_isAhead_66 : decode prog_14_method_68_code 66 = .ok (.iaload, 1) := by decide +kernel
theorem d_M_isAhead_67 : decode prog_14_method_68_code 67 = .ok (.if_icmp .ge 7, 3) := by decide +kernel
theorem d_M_isAhead_74 : decode prog_14_method_68_code 74 = .ok (.iconst 0, 1) := by decide +kernel
theorem d_M_isAhead_75 : decode prog_14_method_68_code 75 = .ok (.ireturn, 1) := by decide +kernel
theorem d_M_isAhead_70 : decode prog_14_method_68_code 70 = .ok (.iconst 1, 1) := by decide +kernel
theorem d_M_isAhead_71 : decode prog_14_method_68_code 71 = .ok (.goto 4, 3) := by decide +kernel
theorem d_M_isAhead_32 : decode prog_14_method_68_code 32 = .ok (.aload_n 0, 1) := by decide +kernel
theorem d_M_isAhead_33 : decode prog_14_method_68_code 33 = .ok (.getfield 25, 3) := by decide +kernel
theorem d_M_isAhead_36 : decode prog_14_method_68_code 36 = .ok (.iload_n 2, 1) := by decide +kernel
theorem d_M_isAhead_37 : decode prog_14_method_68_code 37 = .ok (.iaload, 1) := by decide +kernel
theorem d_M_isAhead_38 : decode prog_14_method_68_code 38 = .ok (.aload_n 0, 1) := by decide +kernel
theorem d_M_isAhead_39 : decode prog_14_method_68_code 39 = .ok (.getfield 25, 3) := by decide +kernel
theorem d_M_isAhead_42 : decode prog_14_method_68_code 42 = .ok (.iload 4, 2) := by decide +kernel
theorem d_M_isAhead_44 : decode prog_14_method_68_code 44 = .ok (.iaload, 1) := by decide +kernel
theorem d_M_isAhead_45 : decode prog_14_method_68_code 45 = .ok (.if_icmp .le 7, 3) := by decide +kernel
theorem d_M_isAhead_52 : decode prog_14_method_68_code 52 = .ok (.iconst 0, 1) := by decide +kernel
theorem d_M_isAhead_53 : decode prog_14_method_68_code 53 = .ok (.ireturn, 1) := by decide +kernel
theorem d_M_isAhead_48 : decode prog_14_method_68_code 48 = .ok (.iconst 1, 1) := by decide +kernel
theorem d_M_isAhead_49 : decode prog_14_method_68_code 49 = .ok (.goto 4, 3) := by decide +kernel
theorem d_M_isAhead_5 : decode prog_14_method_68_code 5 = .ok (.iload_n 1, 1) := by decide +kernel
theorem d_M_isAhead_6 : decode prog_14_method_68_code 6 = .ok (.iload_n 3, 1) := by decide +kernel
theorem d_M_isAhead_7 : decode prog_14_method_68_code 7 = .ok (.if_icmp .le 7, 3) := by decide +kernel
theorem d_M_isAhead_14 : decode prog_14_method_68_code 14 = .ok (.iconst 0, 1) := by decide +kernel
theorem d_M_isAhead_15 : decode prog_14_method_68_code 15 = .ok (.ireturn, 1) := by decide +kernel
theorem d_M_isAhead_10 : decode prog_14_method_68_code 10 = .ok (.iconst 1, 1) := by decide +kernel
theorem d_M_isAhead_11 : decode prog_14_method_68_code 11 = .ok (.goto 4, 3) := by decide +kernel
theorem v_M_isAhead_0 {G : XG} {d : Nat} {h : XH} {Q : XV → XH → Prop} {X : Nat → XH → Prop} {x1 x2 x3 x4 : Int} (F : xFix h) (hyp : ((x1 = x3 → 0 ≤ x2 ∧ x2 < 60 ∧ 0 ≤ x4 ∧ x4 < 60 ∧ (((xpl h 59 x2) = (xpl h 59 x4) → (((xpl h 57 x4) ≤ (xpl h 57 x2) → (Q (xI 0) h)) ∧ (¬ (xpl h 57 x4) ≤ (xpl h 57 x2) → (Q (xI 1) h)))) ∧ (¬ (xpl h 59 x2) = (xpl h 59 x4) → (((xpl h 59 x2) ≤ (xpl h 59 x4) → (Q (xI 0) h)) ∧ (¬ (xpl h 59 x2) ≤ (xpl h 59 x4) → (Q (xI 1) h)))))) ∧ (¬ x1 = x3 → ((x1 ≤ x3 → (Q (xI 0) h)) ∧ (¬ x1 ≤ x3 → (Q (xI 1) h)))))) : xwp G m_M_isAhead (d + 1) 0 [xR 53, xI x1, xI x2, xI x3, xI x4] [] h Q X := by
  have hnx9 : (93 : Int) ≤ xnx h := F.2.2
  refine xr_okL (fun hl9 => ?_)
  have r_x1 : -2147483648 ≤ x1 ∧ x1 ≤ 2147483647 := hl9 (xI x1) (.tail _ (.head _)) (Nat.le_of_ble_eq_true rfl)
  have r_x2 : -2147483648 ≤ x2 ∧ x2 ≤ 2147483647 := hl9 (xI x2) (.tail _ (.tail _ (.head _))) (Nat.le_of_ble_eq_true rfl)
  have r_x3 : -2147483648 ≤ x3 ∧ x3 ≤ 2147483647 := hl9 (xI x3) (.tail _ (.tail _ (.tail _ (.head _)))) (Nat.le_of_ble_eq_true rfl)
  have r_x4 : -2147483648 ≤ x4 ∧ x4 ≤ 2147483647 := hl9 (xI x4) (.tail _ (.tail _ (.tail _ (.tail _ (.head _))))) (Nat.le_of_ble_eq_true rfl)
  refine xr_iload_n (pc := 0) (i := 1) (hI := d_M_isAhead_0) (hi := rfl) (hl := rfl) ?_
  refine xr_iload_n (pc := 1) (i := 3) (hI := d_M_isAhead_1) (hi := rfl) (hl := rfl) ?_
  refine xr_icmp_eq (pc := 2) (tgt := 16) (hI := d_M_isAhead_2) (ht := by decide) (fun q9 => ?_) (fun q9 => ?_)
  · replace hyp := hyp.1 q9
    have q1_ := q9
    clear q9
    refine xr_aload_n (pc := 16) (i := 0) (hI := d_M_isAhead_16) (hi := rfl) (hl := rfl) ?_
    refine xg_getf (pc := 17) (ci := 11) (k := 10) (N := 38) (v9 := 2) (v := 59) (T := xF11) (hI := d_M_isAhead_17) (hw := w_1597) rfl xi11 (Or.inl rfl) (Nat.le_of_ble_eq_true rfl) (Nat.le_of_ble_eq_true rfl) rfl (ft_53 F) (fp_53_10 F) (fun f2_ => ?_)
    clear f2_
    refine xr_iload_n (pc := 20) (i := 2) (hI := d_M_isAhead_20) (hi := rfl) (hl := rfl) ?_
    obtain ⟨c3_, hyp⟩ := hyp
    obtain ⟨c4_, hyp⟩ := hyp
    refine xg_iaload (pc := 21) (v := (xpl h 59 x2)) (hI := d_M_isAhead_21) (ft_59 F) c3_ (xlt_of (fl_59 F) c4_) rfl (fun f5_ => ?_)
    replace f5_ : -2147483648 ≤ (xpl h 59 x2) ∧ (xpl h 59 x2) ≤ 2147483647 := f5_
    refine xr_aload_n (pc := 22) (i := 0) (hI := d_M_isAhead_22) (hi := rfl) (hl := rfl) ?_
    refine xg_getf (pc := 23) (ci := 11) (k := 10) (N := 38) (v9 := 2) (v := 59) (T := xF11) (hI := d_M_isAhead_23) (hw := w_1597) rfl xi11 (Or.inl rfl) (Nat.le_of_ble_eq_true rfl) (Nat.le_of_ble_eq_true rfl) rfl (ft_53 F) (fp_53_10 F) (fun f6_ => ?_)
    clear f6_
    refine xr_iload (pc := 26) (i := 4) (hI := d_M_isAhead_26) (hl := rfl) ?_
    obtain ⟨c7_, hyp⟩ := hyp
    obtain ⟨c8_, hyp⟩ := hyp
    refine xg_iaload (pc := 28) (v := (xpl h 59 x4)) (hI := d_M_isAhead_28) (ft_59 F) c7_ (xlt_of (fl_59 F) c8_) rfl (fun f9_ => ?_)
    replace f9_ : -2147483648 ≤ (xpl h 59 x4) ∧ (xpl h 59 x4) ≤ 2147483647 := f9_
    refine xr_icmp_eq (pc := 29) (tgt := 54) (hI := d_M_isAhead_29) (ht := by decide) (fun q9 => ?_) (fun q9 => ?_)
    · replace hyp := hyp.1 q9
      have q10_ := q9
      clear q9
      refine xr_aload_n (pc := 54) (i := 0) (hI := d_M_isAhead_54) (hi := rfl) (hl := rfl) ?_
      refine xg_getf (pc := 55) (ci := 11) (k := 8) (N := 38) (v9 := 2) (v := 57) (T := xF11) (hI := d_M_isAhead_55) (hw := w_1595) rfl xi11 (Or.inl rfl) (Nat.le_of_ble_eq_true rfl) (Nat.le_of_ble_eq_true rfl) rfl (ft_53 F) (fp_53_8 F) (fun f11_ => ?_)
      clear f11_
      refine xr_iload_n (pc := 58) (i := 2) (hI := d_M_isAhead_58) (hi := rfl) (hl := rfl) ?_
      refine xg_iaload (pc := 59) (v := (xpl h 57 x2)) (hI := d_M_isAhead_59) (ft_57 F) (by clear hyp; omega) (xlt_of (fl_57 F) (by clear hyp; omega)) rfl (fun f12_ => ?_)
      replace f12_ : -2147483648 ≤ (xpl h 57 x2) ∧ (xpl h 57 x2) ≤ 2147483647 := f12_
      refine xr_aload_n (pc := 60) (i := 0) (hI := d_M_isAhead_60) (hi := rfl) (hl := rfl) ?_
      refine xg_getf (pc := 61) (ci := 11) (k := 8) (N := 38) (v9 := 2) (v := 57) (T := xF11) (hI := d_M_isAhead_61) (hw := w_1595) rfl xi11 (Or.inl rfl) (Nat.le_of_ble_eq_true rfl) (Nat.le_of_ble_eq_true rfl) rfl (ft_53 F) (fp_53_8 F) (fun f13_ => ?_)
      clear f13_
      refine xr_iload (pc := 64) (i := 4) (hI := d_M_isAhead_64) (hl := rfl) ?_
      refine xg_iaload (pc := 66) (v := (xpl h 57 x4)) (hI := d_M_isAhead_66) (ft_57 F) (by clear hyp; omega) (xlt_of (fl_57 F) (by clear hyp; omega)) rfl (fun f14_ => ?_)
      replace f14_ : -2147483648 ≤ (xpl h 57 x4) ∧ (xpl h 57 x4) ≤ 2147483647 := f14_
      refine xr_icmp_ge (pc := 67) (tgt := 74) (hI := d_M_isAhead_67) (ht := by decide) (fun q9 => ?_) (fun q9 => ?_)
      · replace hyp := hyp.1 q9
        have q15_ := q9
        clear q9
        refine xr_iconst (pc := 74) (hI := d_M_isAhead_74) (hr := by decide) ?_
        refine xr_ireturnT (S := []) (pc := 75) (hI := d_M_isAhead_75) (hr := rfl) (xnar_z (by decide)) ?_
        exact hyp
      · replace hyp := hyp.2 q9
        have q15_ := q9
        clear q9
        refine xr_iconst (pc := 70) (hI := d_M_isAhead_70) (hr := by decide) ?_
        refine xr_goto (pc := 71) (tgt := 75) (hI := d_M_isAhead_71) (ht := by decide) ?_
        refine xr_ireturnT (S := []) (pc := 75) (hI := d_M_isAhead_75) (hr := rfl) (xnar_z (by decide)) ?_
        exact hyp
    · replace hyp := hyp.2 q9
      have q10_ := q9
      clear q9
      refine xr_aload_n (pc := 32) (i := 0) (hI := d_M_isAhead_32) (hi := rfl) (hl := rfl) ?_
      refine xg_getf (pc := 33) (ci := 11) (k := 10) (N := 38) (v9 := 2) (v := 59) (T := xF11) (hI := d_M_isAhead_33) (hw := w_1597) rfl xi11 (Or.inl rfl) (Nat.le_of_ble_eq_true rfl) (Nat.le_of_ble_eq_true rfl) rfl (ft_53 F) (fp_53_10 F) (fun f16_ => ?_)
      clear f16_
      refine xr_iload_n (pc := 36) (i := 2) (hI := d_M_isAhead_36) (hi := rfl) (hl := rfl) ?_
      refine xg_iaload (pc := 37) (v := (xpl h 59 x2)) (hI := d_M_isAhead_37) (ft_59 F) (by clear hyp; omega) (xlt_of (fl_59 F) (by clear hyp; omega)) rfl (fun f17_ => ?_)
      replace f17_ : -2147483648 ≤ (xpl h 59 x2) ∧ (xpl h 59 x2) ≤ 2147483647 := f17_
      refine xr_aload_n (pc := 38) (i := 0) (hI := d_M_isAhead_38) (hi := rfl) (hl := rfl) ?_
      refine xg_getf (pc := 39) (ci := 11) (k := 10) (N := 38) (v9 := 2) (v := 59) (T := xF11) (hI := d_M_isAhead_39) (hw := w_1597) rfl xi11 (Or.inl rfl) (Nat.le_of_ble_eq_true rfl) (Nat.le_of_ble_eq_true rfl) rfl (ft_53 F) (fp_53_10 F) (fun f18_ => ?_)
      clear f18_
      refine xr_iload (pc := 42) (i := 4) (hI := d_M_isAhead_42) (hl := rfl) ?_
      refine xg_iaload (pc := 44) (v := (xpl h 59 x4)) (hI := d_M_isAhead_44) (ft_59 F) (by clear hyp; omega) (xlt_of (fl_59 F) (by clear hyp; omega)) rfl (fun f19_ => ?_)
      replace f19_ : -2147483648 ≤ (xpl h 59 x4) ∧ (xpl h 59 x4) ≤ 2147483647 := f19_
      refine xr_icmp_le (pc := 45) (tgt := 52) (hI := d_M_isAhead_45) (ht := by decide) (fun q9 => ?_) (fun q9 => ?_)
      · replace hyp := hyp.1 q9
        have q20_ := q9
        clear q9
        refine xr_iconst (pc := 52) (hI := d_M_isAhead_52) (hr := by decide) ?_
        refine xr_ireturnT (S := []) (pc := 53) (hI := d_M_isAhead_53) (hr := rfl) (xnar_z (by decide)) ?_
        exact hyp
      · replace hyp := hyp.2 q9
        have q20_ := q9
        clear q9
        refine xr_iconst (pc := 48) (hI := d_M_isAhead_48) (hr := by decide) ?_
        refine xr_goto (pc := 49) (tgt := 53) (hI := d_M_isAhead_49) (ht := by decide) ?_
        refine xr_ireturnT (S := []) (pc := 53) (hI := d_M_isAhead_53) (hr := rfl) (xnar_z (by decide)) ?_
        exact hyp
  · replace hyp := hyp.2 q9
    have q1_ := q9
    clear q9
    refine xr_iload_n (pc := 5) (i := 1) (hI := d_M_isAhead_5) (hi := rfl) (hl := rfl) ?_
    refine xr_iload_n (pc := 6) (i := 3) (hI := d_M_isAhead_6) (hi := rfl) (hl := rfl) ?_
    refine xr_icmp_le (pc := 7) (tgt := 14) (hI := d_M_isAhead_7) (ht := by decide) (fun q9 => ?_) (fun q9 => ?_)
    · replace hyp := hyp.1 q9
      have q21_ := q9
      clear q9
      refine xr_iconst (pc := 14) (hI := d_M_isAhead_14) (hr := by decide) ?_
      refine xr_ireturnT (S := []) (pc := 15) (hI := d_M_isAhead_15) (hr := rfl) (xnar_z (by decide)) ?_
      exact hyp
    · replace hyp := hyp.2 q9
      have q21_ := q9
      clear q9
      refine xr_iconst (pc := 10) (hI := d_M_isAhead_10) (hr := by decide) ?_
      refine xr_goto (pc := 11) (tgt := 15) (hI := d_M_isAhead_11) (ht := by decide) ?_
      refine xr_ireturnT (S := []) (pc := 15) (hI := d_M_isAhead_15) (hr := rfl) (xnar_z (by decide)) ?_
      exact hyp
abbrev m_M_answer : XM := (⟨"BeaconIndexModel", "answer", "()I"⟩, prog_14_method_69_code, 5, (some .int), [])
theorem d_M_answer_0 : decode prog_14_method_69_code 0 = .ok (.aload_n 0, 1) := by decide +kernel
theorem d_M_answer_1 : decode prog_14_method_69_code 1 = .ok (.invokevirtual 383, 3) := by decide +kernel
theorem k_M_reckon : xCal m_M_reckon 0 := ⟨List.mem_append_right _ (List.mem_of_getElem? (i := 2375) (by decide +kernel)), w_15, Nat.le_of_ble_eq_true rfl, ⟨by decide +kernel, by decide +kernel⟩, by decide +kernel, by decide +kernel, rfl⟩
theorem w_2372 : Cond.methodLink "BeaconIndexModel" 383 ⟨"BeaconIndexModel", "reckon", "()V"⟩ ∈ lw_tbl := List.mem_append_right _ (List.mem_of_getElem? (i := 2372) (by decide +kernel))
theorem w_2374 : Cond.instanceMethod ⟨"BeaconIndexModel", "reckon", "()V"⟩ ∈ lw_tbl := List.mem_append_right _ (List.mem_of_getElem? (i := 2374) (by decide +kernel))
theorem sel_M_reckon : Cond.selects "BeaconIndexModel" ⟨"BeaconIndexModel", "reckon", "()V"⟩ ⟨"BeaconIndexModel", "reckon", "()V"⟩ ∈ lw_tbl := List.mem_append_left _ (by decide +kernel)
theorem v_M_answer_0 {G : XG} {d : Nat} {h : XH} {Q : XV → XH → Prop} {X : Nat → XH → Prop} (F : xFix h) (hyp : (xwp G m_M_reckon (d + 4) 0 [xR 53, xZ, xZ, xZ, xZ, xZ, xZ] [] h (fun v9 h9 => xwp G m_M_answer (d + 5) 4 [xR 53, xZ, xZ, xZ, xZ] (xpush v9 []) h9 Q X) X)) : xwp G m_M_answer (d + 5) 0 [xR 53, xZ, xZ, xZ, xZ] [] h Q X := by
  have hnx9 : (93 : Int) ≤ xnx h := F.2.2
  refine xr_aload_n (pc := 0) (i := 0) (hI := d_M_answer_0) (hi := rfl) (hl := rfl) ?_
  exact xq_callV (pc := 1) (index := 383) (K := m_M_reckon) (As := []) (S := []) (L0 := [xR 53, xZ, xZ, xZ, xZ, xZ, xZ]) (hI := d_M_answer_1) (hK := k_M_reckon) (hlk := w_2372) (hnoM := rfl) (hS8 := Nat.le_of_ble_eq_true rfl) (ci := 11) (N := 38) (C := "BeaconIndexModel") (T := xF11) (hc := rfl) (hci := Nat.le_of_ble_eq_true rfl) (htb := (ft_53 F)) (hinst := w_2374) (hsel := sel_M_reckon) (hlen := Nat.le_of_ble_eq_true rfl) (hst := rfl) (hL0 := rfl)  hyp
theorem d_M_answer_4 : decode prog_14_method_69_code 4 = .ok (.iconst 0, 1) := by decide +kernel
theorem d_M_answer_5 : decode prog_14_method_69_code 5 = .ok (.istore_n 1, 1) := by decide +kernel
theorem d_M_answer_6 : decode prog_14_method_69_code 6 = .ok (.iconst 0, 1) := by decide +kernel
theorem d_M_answer_7 : decode prog_14_method_69_code 7 = .ok (.istore_n 2, 1) := by decide +kernel
theorem v_M_answer_4 {G : XG} {d : Nat} {h : XH} {Q : XV → XH → Prop} {X : Nat → XH → Prop} (F : xFix h) (hyp : (xwp G m_M_answer (d + 5) 8 [xR 53, xI 0, xI 0, xZ, xZ] [] h Q X)) : xwp G m_M_answer (d + 5) 4 [xR 53, xZ, xZ, xZ, xZ] [] h Q X := by
  have hnx9 : (93 : Int) ≤ xnx h := F.2.2
  refine xr_iconst (pc := 4) (hI := d_M_answer_4) (hr := by decide) ?_
  refine xr_istore_n (pc := 5) (i := 1) (L9 := [xR 53, xI 0, xZ, xZ, xZ]) (hI := d_M_answer_5) (hi := rfl) (hn := Nat.le_of_ble_eq_true rfl) (hL9 := rfl) ?_
  refine xr_iconst (pc := 6) (hI := d_M_answer_6) (hr := by decide) ?_
  refine xr_istore_n (pc := 7) (i := 2) (L9 := [xR 53, xI 0, xI 0, xZ, xZ]) (hI := d_M_answer_7) (hi := rfl) (hn := Nat.le_of_ble_eq_true rfl) (hL9 := rfl) ?_
  exact hyp
theorem d_M_answer_8 : decode prog_14_method_69_code 8 = .ok (.iload_n 2, 1) := by decide +kernel
theorem d_M_answer_9 : decode prog_14_method_69_code 9 = .ok (.aload_n 0, 1) := by decide +kernel
theorem d_M_answer_10 : decode prog_14_method_69_code 10 = .ok (.invokevirtual 191, 3) := by decide +kernel
theorem v_M_answer_8 {G : XG} {d : Nat} {h : XH} {Q : XV → XH → Prop} {X : Nat → XH → Prop} {x1 x2 : Int} (F : xFix h) (hyp : (xwp G m_M_inSegments (d + 4) 0 [xR 53] [] h (fun v9 h9 => xwp G m_M_answer (d + 5) 13 [xR 53, xI x1, xI x2, xZ, xZ] (xpush v9 [xI x2]) h9 Q X) X)) : xwp G m_M_answer (d + 5) 8 [xR 53, xI x1, xI x2, xZ, xZ] [] h Q X := by
  have hnx9 : (93 : Int) ≤ xnx h := F.2.2
  refine xr_okL (fun hl9 => ?_)
  have r_x1 : -2147483648 ≤ x1 ∧ x1 ≤ 2147483647 := hl9 (xI x1) (.tail _ (.head _)) (Nat.le_of_ble_eq_true rfl)
  have r_x2 : -2147483648 ≤ x2 ∧ x2 ≤ 2147483647 := hl9 (xI x2) (.tail _ (.tail _ (.head _))) (Nat.le_of_ble_eq_true rfl)
  refine xr_iload_n (pc := 8) (i := 2) (hI := d_M_answer_8) (hi := rfl) (hl := rfl) ?_
  refine xr_aload_n (pc := 9) (i := 0) (hI := d_M_answer_9) (hi := rfl) (hl := rfl) ?_
  exact xq_callV (pc := 10) (index := 191) (K := m_M_inSegments) (As := []) (S := [xI x2]) (L0 := [xR 53]) (hI := d_M_answer_10) (hK := k_M_inSegments) (hlk := w_1732) (hnoM := rfl) (hS8 := Nat.le_of_ble_eq_true rfl) (ci := 11) (N := 38) (C := "BeaconIndexModel") (T := xF11) (hc := rfl) (hci := Nat.le_of_ble_eq_true rfl) (htb := (ft_53 F)) (hinst := w_1734) (hsel := sel_M_inSegments) (hlen := Nat.le_of_ble_eq_true rfl) (hst := rfl) (hL0 := rfl)  hyp
theorem d_M_answer_13 : decode prog_14_method_69_code 13 = .ok (.if_icmp .ge 129, 3) := by decide +kernel
theorem d_M_answer_142 : decode prog_14_method_69_code 142 = .ok (.iload_n 1, 1) := by decide +kernel
theorem d_M_answer_143 : decode prog_14_method_69_code 143 = .ok (.ireturn, 1) := by decide +kernel
theorem d_M_answer_16 : decode prog_14_method_69_code 16 = .ok (.aload_n 0, 1) := by decide +kernel
theorem d_M_answer_17 : decode prog_14_method_69_code 17 = .ok (.iload_n 2, 1) := by decide +kernel
theorem d_M_answer_18 : decode prog_14_method_69_code 18 = .ok (.iconst (-1), 1) := by decide +kernel
theorem d_M_answer_19 : decode prog_14_method_69_code 19 = .ok (.invokevirtual 386, 3) := by decide +kernel
theorem k_M_look : xCal m_M_look 2 := ⟨List.mem_append_right _ (List.mem_of_getElem? (i := 2408) (by decide +kernel)), w_15, Nat.le_of_ble_eq_true rfl, ⟨by decide +kernel, by decide +kernel⟩, by decide +kernel, by decide +kernel, rfl⟩
theorem w_2405 : Cond.methodLink "BeaconIndexModel" 386 ⟨"BeaconIndexModel", "look", "(II)Z"⟩ ∈ lw_tbl := List.mem_append_right _ (List.mem_of_getElem? (i := 2405) (by decide +kernel))
theorem w_2407 : Cond.instanceMethod ⟨"BeaconIndexModel", "look", "(II)Z"⟩ ∈ lw_tbl := List.mem_append_right _ (List.mem_of_getElem? (i := 2407) (by decide +kernel))
theorem sel_M_look : Cond.selects "BeaconIndexModel" ⟨"BeaconIndexModel", "look", "(II)Z"⟩ ⟨"BeaconIndexModel", "look", "(II)Z"⟩ ∈ lw_tbl := List.mem_append_left _ (by decide +kernel)
theorem v_M_answer_13 {G : XG} {d : Nat} {h : XH} {Q : XV → XH → Prop} {X : Nat → XH → Prop} {x1 x2 s0 s1 : Int} (F : xFix h) (hyp : ((s0 ≤ s1 → (Q (xI x1) h)) ∧ (¬ s0 ≤ s1 → (xwp G m_M_look (d + 4) 0 [xR 53, xI x2, xI (-1), xZ, xZ, xZ] [] h (fun v9 h9 => xwp G m_M_answer (d + 5) 22 [xR 53, xI x1, xI x2, xZ, xZ] (xpush v9 []) h9 Q X) X)))) : xwp G m_M_answer (d + 5) 13 [xR 53, xI x1, xI x2, xZ, xZ] [xI s0, xI s1] h Q X := by
  have hnx9 : (93 : Int) ≤ xnx h := F.2.2
  refine xr_okL (fun hl9 => ?_)
  have r_x1 : -2147483648 ≤ x1 ∧ x1 ≤ 2147483647 := hl9 (xI x1) (.tail _ (.head _)) (Nat.le_of_ble_eq_true rfl)
  have r_x2 : -2147483648 ≤ x2 ∧ x2 ≤ 2147483647 := hl9 (xI x2) (.tail _ (.tail _ (.head _))) (Nat.le_of_ble_eq_true rfl)
  refine xr_okS (fun hs9 => ?_)
  have r_s0 : -2147483648 ≤ s0 ∧ s0 ≤ 2147483647 := hs9 (xI s0) (.head _)
  have r_s1 : -2147483648 ≤ s1 ∧ s1 ≤ 2147483647 := hs9 (xI s1) (.tail _ (.head _))
  refine xr_icmp_ge (pc := 13) (tgt := 142) (hI := d_M_answer_13) (ht := by decide) (fun q9 => ?_) (fun q9 => ?_)
  · replace hyp := hyp.1 q9
    have q1_ := q9
    clear q9
    refine xr_iload_n (pc := 142) (i := 1) (hI := d_M_answer_142) (hi := rfl) (hl := rfl) ?_
    refine xr_ireturn (S := []) (pc := 143) (hI := d_M_answer_143) (hr := rfl) ?_
    exact hyp
  · replace hyp := hyp.2 q9
    have q1_ := q9
    clear q9
    refine xr_aload_n (pc := 16) (i := 0) (hI := d_M_answer_16) (hi := rfl) (hl := rfl) ?_
    refine xr_iload_n (pc := 17) (i := 2) (hI := d_M_answer_17) (hi := rfl) (hl := rfl) ?_
    refine xr_iconst (pc := 18) (hI := d_M_answer_18) (hr := by decide) ?_
    exact xq_callV (pc := 19) (index := 386) (K := m_M_look) (As := [xI x2, xI (-1)]) (S := []) (L0 := [xR 53, xI x2, xI (-1), xZ, xZ, xZ]) (hI := d_M_answer_19) (hK := k_M_look) (hlk := w_2405) (hnoM := rfl) (hS8 := Nat.le_of_ble_eq_true rfl) (ci := 11) (N := 38) (C := "BeaconIndexModel") (T := xF11) (hc := rfl) (hci := Nat.le_of_ble_eq_true rfl) (htb := (ft_53 F)) (hinst := w_2407) (hsel := sel_M_look) (hlen := Nat.le_of_ble_eq_true rfl) (hst := rfl) (hL0 := rfl)  hyp
theorem d_M_answer_22 : decode prog_14_method_69_code 22 = .ok (.ifCond .ne 6, 3) := by decide +kernel
theorem d_M_answer_28 : decode prog_14_method_69_code 28 = .ok (.aload_n 0, 1) := by decide +kernel
theorem d_M_answer_29 : decode prog_14_method_69_code 29 = .ok (.iconst (-1), 1) := by decide +kernel
theorem d_M_answer_30 : decode prog_14_method_69_code 30 = .ok (.invokevirtual 377, 3) := by decide +kernel
theorem d_M_answer_25 : decode prog_14_method_69_code 25 = .ok (.goto 111, 3) := by decide +kernel
theorem d_M_answer_136 : decode prog_14_method_69_code 136 = .ok (.iinc 2 1, 3) := by decide +kernel
theorem d_M_answer_139 : decode prog_14_method_69_code 139 = .ok (.goto (-131), 3) := by decide +kernel
theorem v_M_answer_22 {G : XG} {d : Nat} {h : XH} {Q : XV → XH → Prop} {X : Nat → XH → Prop} {x1 x2 s0 : Int} (F : xFix h) (hyp : ((s0 = 0 → xiR (x2 + 1) ∧ (xwp G m_M_answer (d + 5) 8 [xR 53, xI x1, xI (x2 + 1), xZ, xZ] [] h Q X)) ∧ (¬ s0 = 0 → (xwp G m_M_sum (d + 4) 0 [xR 53, xI (-1), xZ, xZ] [] h (fun v9 h9 => xwp G m_M_answer (d + 5) 33 [xR 53, xI x1, xI x2, xZ, xZ] (xpush v9 []) h9 Q X) X)))) : xwp G m_M_answer (d + 5) 22 [xR 53, xI x1, xI x2, xZ, xZ] [xI s0] h Q X := by
  have hnx9 : (93 : Int) ≤ xnx h := F.2.2
  refine xr_okL (fun hl9 => ?_)
  have r_x1 : -2147483648 ≤ x1 ∧ x1 ≤ 2147483647 := hl9 (xI x1) (.tail _ (.head _)) (Nat.le_of_ble_eq_true rfl)
  have r_x2 : -2147483648 ≤ x2 ∧ x2 ≤ 2147483647 := hl9 (xI x2) (.tail _ (.tail _ (.head _))) (Nat.le_of_ble_eq_true rfl)
  refine xr_okS (fun hs9 => ?_)
  have r_s0 : -2147483648 ≤ s0 ∧ s0 ≤ 2147483647 := hs9 (xI s0) (.head _)
  refine xr_if_ne (pc := 22) (tgt := 28) (hI := d_M_answer_22) (ht := by decide) (fun q9 => ?_) (fun q9 => ?_)
  · replace hyp := hyp.2 q9
    have q1_ := q9
    clear q9
    refine xr_aload_n (pc := 28) (i := 0) (hI := d_M_answer_28) (hi := rfl) (hl := rfl) ?_
    refine xr_iconst (pc := 29) (hI := d_M_answer_29) (hr := by decide) ?_
    exact xq_callV (pc := 30) (index := 377) (K := m_M_sum) (As := [xI (-1)]) (S := []) (L0 := [xR 53, xI (-1), xZ, xZ]) (hI := d_M_answer_30) (hK := k_M_sum) (hlk := w_2413) (hnoM := rfl) (hS8 := Nat.le_of_ble_eq_true rfl) (ci := 11) (N := 38) (C := "BeaconIndexModel") (T := xF11) (hc := rfl) (hci := Nat.le_of_ble_eq_true rfl) (htb := (ft_53 F)) (hinst := w_2415) (hsel := sel_M_sum) (hlen := Nat.le_of_ble_eq_true rfl) (hst := rfl) (hL0 := rfl)  hyp
  · replace hyp := hyp.1 q9
    have q1_ := q9
    clear q9
    refine xr_goto (pc := 25) (tgt := 136) (hI := d_M_answer_25) (ht := by decide) ?_
    obtain ⟨c9, hyp⟩ := hyp
    refine xr_iinc (pc := 136) (i := 2) (L9 := [xR 53, xI x1, xI (x2 + 1), xZ, xZ]) (hI := d_M_answer_136) (hl := rfl) (hn := Nat.le_of_ble_eq_true rfl) (hr := c9) (hL9 := rfl) ?_
    refine xr_goto (pc := 139) (tgt := 8) (hI := d_M_answer_139) (ht := by decide) ?_
    exact hyp
theorem d_M_answer_33 : decode prog_14_method_69_code 33 = .ok (.istore_n 3, 1) := by decide +kernel
theorem d_M_answer_34 : decode prog_14_method_69_code 34 = .ok (.iload_n 1, 1) := by decide +kernel
theorem d_M_answer_35 : decode prog_14_method_69_code 35 = .ok (.istore 4, 2) := by decide +kernel
theorem v_M_answer_33 {G : XG} {d : Nat} {h : XH} {Q : XV → XH → Prop} {X : Nat → XH → Prop} {x1 x2 s0 : Int} (F : xFix h) (hyp : (xwp G m_M_answer (d + 5) 37 [xR 53, xI x1, xI x2, xI s0, xI x1] [] h Q X)) : xwp G m_M_answer (d + 5) 33 [xR 53, xI x1, xI x2, xZ, xZ] [xI s0] h Q X := by
  have hnx9 : (93 : Int) ≤ xnx h := F.2.2
  refine xr_okL (fun hl9 => ?_)
  have r_x1 : -2147483648 ≤ x1 ∧ x1 ≤ 2147483647 := hl9 (xI x1) (.tail _ (.head _)) (Nat.le_of_ble_eq_true rfl)
  have r_x2 : -2147483648 ≤ x2 ∧ x2 ≤ 2147483647 := hl9 (xI x2) (.tail _ (.tail _ (.head _))) (Nat.le_of_ble_eq_true rfl)
  refine xr_okS (fun hs9 => ?_)
  have r_s0 : -2147483648 ≤ s0 ∧ s0 ≤ 2147483647 := hs9 (xI s0) (.head _)
  refine xr_istore_n (pc := 33) (i := 3) (L9 := [xR 53, xI x1, xI x2, xI s0, xZ]) (hI := d_M_answer_33) (hi := rfl) (hn := Nat.le_of_ble_eq_true rfl) (hL9 := rfl) ?_
  refine xr_iload_n (pc := 34) (i := 1) (hI := d_M_answer_34) (hi := rfl) (hl := rfl) ?_
  refine xr_istore (pc := 35) (i := 4) (L9 := [xR 53, xI x1, xI x2, xI s0, xI x1]) (hI := d_M_answer_35) (hn := Nat.le_of_ble_eq_true rfl) (hL9 := rfl) ?_
  exact hyp
theorem d_M_answer_37 : decode prog_14_method_69_code 37 = .ok (.iload 4, 2) := by decide +kernel
theorem d_M_answer_39 : decode prog_14_method_69_code 39 = .ok (.ifCond .le 78, 3) := by decide +kernel
theorem d_M_answer_42 : decode prog_14_method_69_code 42 = .ok (.aload_n 0, 1) := by decide +kernel
theorem d_M_answer_43 : decode prog_14_method_69_code 43 = .ok (.iload_n 3, 1) := by decide +kernel
theorem d_M_answer_44 : decode prog_14_method_69_code 44 = .ok (.aload_n 0, 1) := by decide +kernel
theorem d_M_answer_45 : decode prog_14_method_69_code 45 = .ok (.getfield 13, 3) := by decide +kernel
theorem d_M_answer_48 : decode prog_14_method_69_code 48 = .ok (.iload_n 2, 1) := by decide +kernel
theorem d_M_answer_49 : decode prog_14_method_69_code 49 = .ok (.iaload, 1) := by decide +kernel
theorem d_M_answer_50 : decode prog_14_method_69_code 50 = .ok (.aload_n 0, 1) := by decide +kernel
theorem d_M_answer_51 : decode prog_14_method_69_code 51 = .ok (.getfield 94, 3) := by decide +kernel
theorem w_1624 : Cond.fieldLink "BeaconIndexModel" 94 "BeaconIndexModel" "foundWeight" "[I" ∈ lw_tbl := List.mem_append_right _ (List.mem_of_getElem? (i := 1624) (by decide +kernel))
theorem d_M_answer_54 : decode prog_14_method_69_code 54 = .ok (.iload 4, 2) := by decide +kernel
theorem d_M_answer_56 : decode prog_14_method_69_code 56 = .ok (.iconst 1, 1) := by decide +kernel
theorem d_M_answer_57 : decode prog_14_method_69_code 57 = .ok (.isub, 1) := by decide +kernel
theorem d_M_answer_58 : decode prog_14_method_69_code 58 = .ok (.iaload, 1) := by decide +kernel
theorem d_M_answer_59 : decode prog_14_method_69_code 59 = .ok (.aload_n 0, 1) := by decide +kernel
theorem d_M_answer_60 : decode prog_14_method_69_code 60 = .ok (.getfield 13, 3) := by decide +kernel
theorem d_M_answer_63 : decode prog_14_method_69_code 63 = .ok (.aload_n 0, 1) := by decide +kernel
theorem d_M_answer_64 : decode prog_14_method_69_code 64 = .ok (.getfield 91, 3) := by decide +kernel
theorem w_1623 : Cond.fieldLink "BeaconIndexModel" 91 "BeaconIndexModel" "foundAt" "[I" ∈ lw_tbl := List.mem_append_right _ (List.mem_of_getElem? (i := 1623) (by decide +kernel))
theorem d_M_answer_67 : decode prog_14_method_69_code 67 = .ok (.iload 4, 2) := by decide +kernel
theorem d_M_answer_69 : decode prog_14_method_69_code 69 = .ok (.iconst 1, 1) := by decide +kernel
theorem d_M_answer_70 : decode prog_14_method_69_code 70 = .ok (.isub, 1) := by decide +kernel
theorem d_M_answer_71 : decode prog_14_method_69_code 71 = .ok (.iaload, 1) := by decide +kernel
theorem d_M_answer_72 : decode prog_14_method_69_code 72 = .ok (.iaload, 1) := by decide +kernel
theorem d_M_answer_73 : decode prog_14_method_69_code 73 = .ok (.invokevirtual 389, 3) := by decide +kernel
theorem k_M_isAhead : xCal m_M_isAhead 4 := ⟨List.mem_append_right _ (List.mem_of_getElem? (i := 2425) (by decide +kernel)), w_15, Nat.le_of_ble_eq_true rfl, ⟨by decide +kernel, by decide +kernel⟩, by decide +kernel, by decide +kernel, rfl⟩
theorem w_2422 : Cond.methodLink "BeaconIndexModel" 389 ⟨"BeaconIndexModel", "isAhead", "(IIII)Z"⟩ ∈ lw_tbl := List.mem_append_right _ (List.mem_of_getElem? (i := 2422) (by decide +kernel))
theorem w_2424 : Cond.instanceMethod ⟨"BeaconIndexModel", "isAhead", "(IIII)Z"⟩ ∈ lw_tbl := List.mem_append_right _ (List.mem_of_getElem? (i := 2424) (by decide +kernel))
theorem sel_M_isAhead : Cond.selects "BeaconIndexModel" ⟨"BeaconIndexModel", "isAhead", "(IIII)Z"⟩ ⟨"BeaconIndexModel", "isAhead", "(IIII)Z"⟩ ∈ lw_tbl := List.mem_append_left _ (by decide +kernel)
theorem v_M_answer_37 {G : XG} {d : Nat} {h : XH} {Q : XV → XH → Prop} {X : Nat → XH → Prop} {x1 x2 x3 x4 : Int} (F : xFix h) (hyp : ((x4 ≤ 0 → (xwp G m_M_answer (d + 5) 117 [xR 53, xI x1, xI x2, xI x3, xI x4] [] h Q X)) ∧ (¬ x4 ≤ 0 → 0 ≤ x2 ∧ x2 < 60 ∧ (x4 - 1) < 60 ∧ 0 ≤ (xpl h 89 (x4 - 1)) ∧ (xpl h 89 (x4 - 1)) < 60 ∧ (xwp G m_M_isAhead (d + 4) 0 [xR 53, xI x3, xI (xpl h 55 x2), xI (xpl h 90 (x4 - 1)), xI (xpl h 55 (xpl h 89 (x4 - 1)))] [] h (fun v9 h9 => xwp G m_M_answer (d + 5) 76 [xR 53, xI x1, xI x2, xI x3, xI x4] (xpush v9 []) h9 Q X) X)))) : xwp G m_M_answer (d + 5) 37 [xR 53, xI x1, xI x2, xI x3, xI x4] [] h Q X := by
  have hnx9 : (93 : Int) ≤ xnx h := F.2.2
  refine xr_okL (fun hl9 => ?_)
  have r_x1 : -2147483648 ≤ x1 ∧ x1 ≤ 2147483647 := hl9 (xI x1) (.tail _ (.head _)) (Nat.le_of_ble_eq_true rfl)
  have r_x2 : -2147483648 ≤ x2 ∧ x2 ≤ 2147483647 := hl9 (xI x2) (.tail _ (.tail _ (.head _))) (Nat.le_of_ble_eq_true rfl)
  have r_x3 : -2147483648 ≤ x3 ∧ x3 ≤ 2147483647 := hl9 (xI x3) (.tail _ (.tail _ (.tail _ (.head _)))) (Nat.le_of_ble_eq_true rfl)
  have r_x4 : -2147483648 ≤ x4 ∧ x4 ≤ 2147483647 := hl9 (xI x4) (.tail _ (.tail _ (.tail _ (.tail _ (.head _))))) (Nat.le_of_ble_eq_true rfl)
  refine xr_iload (pc := 37) (i := 4) (hI := d_M_answer_37) (hl := rfl) ?_
  refine xr_if_le (pc := 39) (tgt := 117) (hI := d_M_answer_39) (ht := by decide) (fun q9 => ?_) (fun q9 => ?_)
  · replace hyp := hyp.1 q9
    have q1_ := q9
    clear q9
    exact hyp
  · replace hyp := hyp.2 q9
    have q1_ := q9
    clear q9
    refine xr_aload_n (pc := 42) (i := 0) (hI := d_M_answer_42) (hi := rfl) (hl := rfl) ?_
    refine xr_iload_n (pc := 43) (i := 3) (hI := d_M_answer_43) (hi := rfl) (hl := rfl) ?_
    refine xr_aload_n (pc := 44) (i := 0) (hI := d_M_answer_44) (hi := rfl) (hl := rfl) ?_
    refine xg_getf (pc := 45) (ci := 11) (k := 3) (N := 38) (v9 := 2) (v := 55) (T := xF11) (hI := d_M_answer_45) (hw := w_1590) rfl xi11 (Or.inl rfl) (Nat.le_of_ble_eq_true rfl) (Nat.le_of_ble_eq_true rfl) rfl (ft_53 F) (fp_53_3 F) (fun f2_ => ?_)
    clear f2_
    refine xr_iload_n (pc := 48) (i := 2) (hI := d_M_answer_48) (hi := rfl) (hl := rfl) ?_
    obtain ⟨c3_, hyp⟩ := hyp
    obtain ⟨c4_, hyp⟩ := hyp
    refine xg_iaload (pc := 49) (v := (xpl h 55 x2)) (hI := d_M_answer_49) (ft_55 F) c3_ (xlt_of (fl_55 F) c4_) rfl (fun f5_ => ?_)
    replace f5_ : -2147483648 ≤ (xpl h 55 x2) ∧ (xpl h 55 x2) ≤ 2147483647 := f5_
    refine xr_aload_n (pc := 50) (i := 0) (hI := d_M_answer_50) (hi := rfl) (hl := rfl) ?_
    refine xg_getf (pc := 51) (ci := 11) (k := 37) (N := 38) (v9 := 2) (v := 90) (T := xF11) (hI := d_M_answer_51) (hw := w_1624) rfl xi11 (Or.inl rfl) (Nat.le_of_ble_eq_true rfl) (Nat.le_of_ble_eq_true rfl) rfl (ft_53 F) (fp_53_37 F) (fun f6_ => ?_)
    clear f6_
    refine xr_iload (pc := 54) (i := 4) (hI := d_M_answer_54) (hl := rfl) ?_
    refine xr_iconst (pc := 56) (hI := d_M_answer_56) (hr := by decide) ?_
    refine xr_isub (pc := 57) (hI := d_M_answer_57) (hr := ⟨by clear hyp; omega, by clear hyp; omega⟩) ?_
    obtain ⟨c7_, hyp⟩ := hyp
    refine xg_iaload (pc := 58) (v := (xpl h 90 (x4 - 1))) (hI := d_M_answer_58) (ft_90 F) (by clear hyp; omega) (xlt_of (fl_90 F) c7_) rfl (fun f8_ => ?_)
    replace f8_ : -2147483648 ≤ (xpl h 90 (x4 - 1)) ∧ (xpl h 90 (x4 - 1)) ≤ 2147483647 := f8_
    refine xr_aload_n (pc := 59) (i := 0) (hI := d_M_answer_59) (hi := rfl) (hl := rfl) ?_
    refine xg_getf (pc := 60) (ci := 11) (k := 3) (N := 38) (v9 := 2) (v := 55) (T := xF11) (hI := d_M_answer_60) (hw := w_1590) rfl xi11 (Or.inl rfl) (Nat.le_of_ble_eq_true rfl) (Nat.le_of_ble_eq_true rfl) rfl (ft_53 F) (fp_53_3 F) (fun f9_ => ?_)
    clear f9_
    refine xr_aload_n (pc := 63) (i := 0) (hI := d_M_answer_63) (hi := rfl) (hl := rfl) ?_
    refine xg_getf (pc := 64) (ci := 11) (k := 36) (N := 38) (v9 := 2) (v := 89) (T := xF11) (hI := d_M_answer_64) (hw := w_1623) rfl xi11 (Or.inl rfl) (Nat.le_of_ble_eq_true rfl) (Nat.le_of_ble_eq_true rfl) rfl (ft_53 F) (fp_53_36 F) (fun f10_ => ?_)
    clear f10_
    refine xr_iload (pc := 67) (i := 4) (hI := d_M_answer_67) (hl := rfl) ?_
    refine xr_iconst (pc := 69) (hI := d_M_answer_69) (hr := by decide) ?_
    refine xr_isub (pc := 70) (hI := d_M_answer_70) (hr := ⟨by clear hyp; omega, by clear hyp; omega⟩) ?_
    refine xg_iaload (pc := 71) (v := (xpl h 89 (x4 - 1))) (hI := d_M_answer_71) (ft_89 F) (by clear hyp; omega) (xlt_of (fl_89 F) (by clear hyp; omega)) rfl (fun f11_ => ?_)
    replace f11_ : -2147483648 ≤ (xpl h 89 (x4 - 1)) ∧ (xpl h 89 (x4 - 1)) ≤ 2147483647 := f11_
    obtain ⟨c12_, hyp⟩ := hyp
    obtain ⟨c13_, hyp⟩ := hyp
    refine xg_iaload (pc := 72) (v := (xpl h 55 (xpl h 89 (x4 - 1)))) (hI := d_M_answer_72) (ft_55 F) c12_ (xlt_of (fl_55 F) c13_) rfl (fun f14_ => ?_)
    replace f14_ : -2147483648 ≤ (xpl h 55 (xpl h 89 (x4 - 1))) ∧ (xpl h 55 (xpl h 89 (x4 - 1))) ≤ 2147483647 := f14_
    exact xq_callV (pc := 73) (index := 389) (K := m_M_isAhead) (As := [xI x3, xI (xpl h 55 x2), xI (xpl h 90 (x4 - 1)), xI (xpl h 55 (xpl h 89 (x4 - 1)))]) (S := []) (L0 := [xR 53, xI x3, xI (xpl h 55 x2), xI (xpl h 90 (x4 - 1)), xI (xpl h 55 (xpl h 89 (x4 - 1)))]) (hI := d_M_answer_73) (hK := k_M_isAhead) (hlk := w_2422) (hnoM := rfl) (hS8 := Nat.le_of_ble_eq_true rfl) (ci := 11) (N := 38) (C := "BeaconIndexModel") (T := xF11) (hc := rfl) (hci := Nat.le_of_ble_eq_true rfl) (htb := (ft_53 F)) (hinst := w_2424) (hsel := sel_M_isAhead) (hlen := Nat.le_of_ble_eq_true rfl) (hst := rfl) (hL0 := rfl)  hyp
theorem d_M_answer_76 : decode prog_14_method_69_code 76 = .ok (.ifCond .eq 41, 3) := by decide +kernel
theorem d_M_answer_79 : decode prog_14_method_69_code 79 = .ok (.aload_n 0, 1) := by decide +kernel
theorem d_M_answer_80 : decode prog_14_method_69_code 80 = .ok (.getfield 91, 3) := by decide +kernel
theorem d_M_answer_83 : decode prog_14_method_69_code 83 = .ok (.iload 4, 2) := by decide +kernel
theorem d_M_answer_85 : decode prog_14_method_69_code 85 = .ok (.aload_n 0, 1) := by decide +kernel
theorem d_M_answer_86 : decode prog_14_method_69_code 86 = .ok (.getfield 91, 3) := by decide +kernel
theorem d_M_answer_89 : decode prog_14_method_69_code 89 = .ok (.iload 4, 2) := by decide +kernel
theorem d_M_answer_91 : decode prog_14_method_69_code 91 = .ok (.iconst 1, 1) := by decide +kernel
theorem d_M_answer_92 : decode prog_14_method_69_code 92 = .ok (.isub, 1) := by decide +kernel
theorem d_M_answer_93 : decode prog_14_method_69_code 93 = .ok (.iaload, 1) := by decide +kernel
theorem d_M_answer_94 : decode prog_14_method_69_code 94 = .ok (.iastore, 1) := by decide +kernel
theorem xfa_89 : xfreeA 89 = true := by decide +kernel
theorem d_M_answer_95 : decode prog_14_method_69_code 95 = .ok (.aload_n 0, 1) := by decide +kernel
theorem d_M_answer_96 : decode prog_14_method_69_code 96 = .ok (.getfield 94, 3) := by decide +kernel
theorem d_M_answer_99 : decode prog_14_method_69_code 99 = .ok (.iload 4, 2) := by decide +kernel
theorem d_M_answer_101 : decode prog_14_method_69_code 101 = .ok (.aload_n 0, 1) := by decide +kernel
theorem d_M_answer_102 : decode prog_14_method_69_code 102 = .ok (.getfield 94, 3) := by decide +kernel
theorem d_M_answer_105 : decode prog_14_method_69_code 105 = .ok (.iload 4, 2) := by decide +kernel
theorem d_M_answer_107 : decode prog_14_method_69_code 107 = .ok (.iconst 1, 1) := by decide +kernel
theorem d_M_answer_108 : decode prog_14_method_69_code 108 = .ok (.isub, 1) := by decide +kernel
theorem d_M_answer_109 : decode prog_14_method_69_code 109 = .ok (.iaload, 1) := by decide +kernel
theorem d_M_answer_110 : decode prog_14_method_69_code 110 = .ok (.iastore, 1) := by decide +kernel
theorem xfa_90 : xfreeA 90 = true := by decide +kernel
theorem d_M_answer_111 : decode prog_14_method_69_code 111 = .ok (.iinc 4 (-1), 3) := by decide +kernel
theorem d_M_answer_114 : decode prog_14_method_69_code 114 = .ok (.goto (-77), 3) := by decide +kernel
theorem v_M_answer_76 {G : XG} {d : Nat} {h : XH} {Q : XV → XH → Prop} {X : Nat → XH → Prop} {x1 x2 x3 x4 s0 : Int} (F : xFix h) (hyp : ((s0 = 0 → (xwp G m_M_answer (d + 5) 117 [xR 53, xI x1, xI x2, xI x3, xI x4] [] h Q X)) ∧ (¬ s0 = 0 → xiR (x4 - 1) ∧ 0 ≤ (x4 - 1) ∧ (x4 - 1) < 60 ∧ x4 < 60 ∧ (xFix (xst (xst h 89 x4 (xpl h 89 (x4 - 1))) 90 x4 (xpl h 90 (x4 - 1))) → xwp G m_M_answer (d + 5) 37 [xR 53, xI x1, xI x2, xI x3, xI (x4 + (-1))] [] (xst (xst h 89 x4 (xpl h 89 (x4 - 1))) 90 x4 (xpl h 90 (x4 - 1))) Q X)))) : xwp G m_M_answer (d + 5) 76 [xR 53, xI x1, xI x2, xI x3, xI x4] [xI s0] h Q X := by
  have hnx9 : (93 : Int) ≤ xnx h := F.2.2
  refine xr_okL (fun hl9 => ?_)
  have r_x1 : -2147483648 ≤ x1 ∧ x1 ≤ 2147483647 := hl9 (xI x1) (.tail _ (.head _)) (Nat.le_of_ble_eq_true rfl)
  have r_x2 : -2147483648 ≤ x2 ∧ x2 ≤ 2147483647 := hl9 (xI x2) (.tail _ (.tail _ (.head _))) (Nat.le_of_ble_eq_true rfl)
  have r_x3 : -2147483648 ≤ x3 ∧ x3 ≤ 2147483647 := hl9 (xI x3) (.tail _ (.tail _ (.tail _ (.head _)))) (Nat.le_of_ble_eq_true rfl)
  have r_x4 : -2147483648 ≤ x4 ∧ x4 ≤ 2147483647 := hl9 (xI x4) (.tail _ (.tail _ (.tail _ (.tail _ (.head _))))) (Nat.le_of_ble_eq_true rfl)
  refine xr_okS (fun hs9 => ?_)
  have r_s0 : -2147483648 ≤ s0 ∧ s0 ≤ 2147483647 := hs9 (xI s0) (.head _)
  refine xr_if_eq (pc := 76) (tgt := 117) (hI := d_M_answer_76) (ht := by decide) (fun q9 => ?_) (fun q9 => ?_)
  · replace hyp := hyp.1 q9
    have q1_ := q9
    clear q9
    exact hyp
  · replace hyp := hyp.2 q9
    have q1_ := q9
    clear q9
    refine xr_aload_n (pc := 79) (i := 0) (hI := d_M_answer_79) (hi := rfl) (hl := rfl) ?_
    refine xg_getf (pc := 80) (ci := 11) (k := 36) (N := 38) (v9 := 2) (v := 89) (T := xF11) (hI := d_M_answer_80) (hw := w_1623) rfl xi11 (Or.inl rfl) (Nat.le_of_ble_eq_true rfl) (Nat.le_of_ble_eq_true rfl) rfl (ft_53 F) (fp_53_36 F) (fun f2_ => ?_)
    clear f2_
    refine xr_iload (pc := 83) (i := 4) (hI := d_M_answer_83) (hl := rfl) ?_
    refine xr_aload_n (pc := 85) (i := 0) (hI := d_M_answer_85) (hi := rfl) (hl := rfl) ?_
    refine xg_getf (pc := 86) (ci := 11) (k := 36) (N := 38) (v9 := 2) (v := 89) (T := xF11) (hI := d_M_answer_86) (hw := w_1623) rfl xi11 (Or.inl rfl) (Nat.le_of_ble_eq_true rfl) (Nat.le_of_ble_eq_true rfl) rfl (ft_53 F) (fp_53_36 F) (fun f3_ => ?_)
    clear f3_
    refine xr_iload (pc := 89) (i := 4) (hI := d_M_answer_89) (hl := rfl) ?_
    refine xr_iconst (pc := 91) (hI := d_M_answer_91) (hr := by decide) ?_
    obtain ⟨c9, hyp⟩ := hyp
    refine xr_isub (pc := 92) (hI := d_M_answer_92) (hr := c9) ?_
    obtain ⟨c4_, hyp⟩ := hyp
    obtain ⟨c5_, hyp⟩ := hyp
    refine xg_iaload (pc := 93) (v := (xpl h 89 (x4 - 1))) (hI := d_M_answer_93) (ft_89 F) c4_ (xlt_of (fl_89 F) c5_) rfl (fun f6_ => ?_)
    replace f6_ : -2147483648 ≤ (xpl h 89 (x4 - 1)) ∧ (xpl h 89 (x4 - 1)) ≤ 2147483647 := f6_
    obtain ⟨c7_, hyp⟩ := hyp
    refine xr_iastore (pc := 94) (hI := d_M_answer_94) (ft_89 F) (by decide) (by clear hyp; omega) (xlt_of (fl_89 F) c7_) ?_
    have F8_ : xFix (xst h 89 x4 (xpl h 89 (x4 - 1))) := F.stA xfa_89
    refine xr_aload_n (pc := 95) (i := 0) (hI := d_M_answer_95) (hi := rfl) (hl := rfl) ?_
    refine xg_getf (pc := 96) (ci := 11) (k := 37) (N := 38) (v9 := 2) (v := 90) (T := xF11) (hI := d_M_answer_96) (hw := w_1624) rfl xi11 (Or.inl rfl) (Nat.le_of_ble_eq_true rfl) (Nat.le_of_ble_eq_true rfl) rfl (ft_53 F8_) (fp_53_37 F8_) (fun f9_ => ?_)
    clear f9_
    refine xr_iload (pc := 99) (i := 4) (hI := d_M_answer_99) (hl := rfl) ?_
    refine xr_aload_n (pc := 101) (i := 0) (hI := d_M_answer_101) (hi := rfl) (hl := rfl) ?_
    refine xg_getf (pc := 102) (ci := 11) (k := 37) (N := 38) (v9 := 2) (v := 90) (T := xF11) (hI := d_M_answer_102) (hw := w_1624) rfl xi11 (Or.inl rfl) (Nat.le_of_ble_eq_true rfl) (Nat.le_of_ble_eq_true rfl) rfl (ft_53 F8_) (fp_53_37 F8_) (fun f10_ => ?_)
    clear f10_
    refine xr_iload (pc := 105) (i := 4) (hI := d_M_answer_105) (hl := rfl) ?_
    refine xr_iconst (pc := 107) (hI := d_M_answer_107) (hr := by decide) ?_
    refine xr_isub (pc := 108) (hI := d_M_answer_108) (hr := ⟨by clear hyp; omega, by clear hyp; omega⟩) ?_
    refine xg_iaload (pc := 109) (v := (xpl h 90 (x4 - 1))) (hI := d_M_answer_109) (ft_90 F8_) (by clear hyp; omega) (xlt_of (fl_90 F8_) (by clear hyp; omega)) (xpl_oa (by decide)) (fun f11_ => ?_)
    replace f11_ : -2147483648 ≤ (xpl h 90 (x4 - 1)) ∧ (xpl h 90 (x4 - 1)) ≤ 2147483647 := f11_
    refine xr_iastore (pc := 110) (hI := d_M_answer_110) (ft_90 F8_) (by decide) (by clear hyp; omega) (xlt_of (fl_90 F8_) (by clear hyp; omega)) ?_
    have F12_ : xFix (xst (xst h 89 x4 (xpl h 89 (x4 - 1))) 90 x4 (xpl h 90 (x4 - 1))) := F8_.stA xfa_90
    refine xr_iinc (pc := 111) (i := 4) (L9 := [xR 53, xI x1, xI x2, xI x3, xI (x4 + (-1))]) (hI := d_M_answer_111) (hl := rfl) (hn := Nat.le_of_ble_eq_true rfl) (hr := ⟨by clear hyp; omega, by clear hyp; omega⟩) (hL9 := rfl) ?_
    refine xr_goto (pc := 114) (tgt := 37) (hI := d_M_answer_114) (ht := by decide) ?_
    exact (hyp F12_)
theorem d_M_answer_117 : decode prog_14_method_69_code 117 = .ok (.aload_n 0, 1) := by decide +kernel
theorem d_M_answer_118 : decode prog_14_method_69_code 118 = .ok (.getfield 91, 3) := by decide +kernel
theorem d_M_answer_121 : decode prog_14_method_69_code 121 = .ok (.iload 4, 2) := by decide +kernel
theorem d_M_answer_123 : decode prog_14_method_69_code 123 = .ok (.iload_n 2, 1) := by decide +kernel
theorem d_M_answer_124 : decode prog_14_method_69_code 124 = .ok (.iastore, 1) := by decide +kernel
theorem d_M_answer_125 : decode prog_14_method_69_code 125 = .ok (.aload_n 0, 1) := by decide +kernel
theorem d_M_answer_126 : decode prog_14_method_69_code 126 = .ok (.getfield 94, 3) := by decide +kernel
theorem d_M_answer_129 : decode prog_14_method_69_code 129 = .ok (.iload 4, 2) := by decide +kernel
theorem d_M_answer_131 : decode prog_14_method_69_code 131 = .ok (.iload_n 3, 1) := by decide +kernel
theorem d_M_answer_132 : decode prog_14_method_69_code 132 = .ok (.iastore, 1) := by decide +kernel
theorem d_M_answer_133 : decode prog_14_method_69_code 133 = .ok (.iinc 1 1, 3) := by decide +kernel
theorem v_M_answer_117 {G : XG} {d : Nat} {h : XH} {Q : XV → XH → Prop} {X : Nat → XH → Prop} {x1 x2 x3 x4 : Int} (F : xFix h) (hyp : 0 ≤ x4 ∧ x4 < 60 ∧ xiR (x1 + 1) ∧ xiR (x2 + 1) ∧ (xFix (xst (xst h 89 x4 x2) 90 x4 x3) → xwp G m_M_answer (d + 5) 8 [xR 53, xI (x1 + 1), xI (x2 + 1), xZ, xZ] [] (xst (xst h 89 x4 x2) 90 x4 x3) Q X)) : xwp G m_M_answer (d + 5) 117 [xR 53, xI x1, xI x2, xI x3, xI x4] [] h Q X := by
  have hnx9 : (93 : Int) ≤ xnx h := F.2.2
  refine xr_okL (fun hl9 => ?_)
  have r_x1 : -2147483648 ≤ x1 ∧ x1 ≤ 2147483647 := hl9 (xI x1) (.tail _ (.head _)) (Nat.le_of_ble_eq_true rfl)
  have r_x2 : -2147483648 ≤ x2 ∧ x2 ≤ 2147483647 := hl9 (xI x2) (.tail _ (.tail _ (.head _))) (Nat.le_of_ble_eq_true rfl)
  have r_x3 : -2147483648 ≤ x3 ∧ x3 ≤ 2147483647 := hl9 (xI x3) (.tail _ (.tail _ (.tail _ (.head _)))) (Nat.le_of_ble_eq_true rfl)
  have r_x4 : -2147483648 ≤ x4 ∧ x4 ≤ 2147483647 := hl9 (xI x4) (.tail _ (.tail _ (.tail _ (.tail _ (.head _))))) (Nat.le_of_ble_eq_true rfl)
  refine xr_aload_n (pc := 117) (i := 0) (hI := d_M_answer_117) (hi := rfl) (hl := rfl) ?_
  refine xg_getf (pc := 118) (ci := 11) (k := 36) (N := 38) (v9 := 2) (v := 89) (T := xF11) (hI := d_M_answer_118) (hw := w_1623) rfl xi11 (Or.inl rfl) (Nat.le_of_ble_eq_true rfl) (Nat.le_of_ble_eq_true rfl) rfl (ft_53 F) (fp_53_36 F) (fun f1_ => ?_)
  clear f1_
  refine xr_iload (pc := 121) (i := 4) (hI := d_M_answer_121) (hl := rfl) ?_
  refine xr_iload_n (pc := 123) (i := 2) (hI := d_M_answer_123) (hi := rfl) (hl := rfl) ?_
  obtain ⟨c2_, hyp⟩ := hyp
  obtain ⟨c3_, hyp⟩ := hyp
  refine xr_iastore (pc := 124) (hI := d_M_answer_124) (ft_89 F) (by decide) c2_ (xlt_of (fl_89 F) c3_) ?_
  have F4_ : xFix (xst h 89 x4 x2) := F.stA xfa_89
  refine xr_aload_n (pc := 125) (i := 0) (hI := d_M_answer_125) (hi := rfl) (hl := rfl) ?_
  refine xg_getf (pc := 126) (ci := 11) (k := 37) (N := 38) (v9 := 2) (v := 90) (T := xF11) (hI := d_M_answer_126) (hw := w_1624) rfl xi11 (Or.inl rfl) (Nat.le_of_ble_eq_true rfl) (Nat.le_of_ble_eq_true rfl) rfl (ft_53 F4_) (fp_53_37 F4_) (fun f5_ => ?_)
  clear f5_
  refine xr_iload (pc := 129) (i := 4) (hI := d_M_answer_129) (hl := rfl) ?_
  refine xr_iload_n (pc := 131) (i := 3) (hI := d_M_answer_131) (hi := rfl) (hl := rfl) ?_
  refine xr_iastore (pc := 132) (hI := d_M_answer_132) (ft_90 F4_) (by decide) (by clear hyp; omega) (xlt_of (fl_90 F4_) (by clear hyp; omega)) ?_
  have F6_ : xFix (xst (xst h 89 x4 x2) 90 x4 x3) := F4_.stA xfa_90
  obtain ⟨c9, hyp⟩ := hyp
  refine xr_iinc (pc := 133) (i := 1) (L9 := [xR 53, xI (x1 + 1), xI x2, xI x3, xI x4]) (hI := d_M_answer_133) (hl := rfl) (hn := Nat.le_of_ble_eq_true rfl) (hr := c9) (hL9 := rfl) ?_
  obtain ⟨c9, hyp⟩ := hyp
  refine xr_iinc (pc := 136) (i := 2) (L9 := [xR 53, xI (x1 + 1), xI (x2 + 1), xI x3, xI x4]) (hI := d_M_answer_136) (hl := rfl) (hn := Nat.le_of_ble_eq_true rfl) (hr := c9) (hL9 := rfl) ?_
  refine xr_goto (pc := 139) (tgt := 8) (hI := d_M_answer_139) (ht := by decide) ?_
  exact xr_drop (L9 := [xR 53, xI (x1 + 1), xI (x2 + 1), xZ, xZ]) (xdrs (xdrs (xdrs (xdrz (xdrz xdr0))))) (hyp F6_)
abbrev m_M_manyBut : XM := (⟨"BeaconIndexModel", "manyBut", "(I)I"⟩, prog_14_method_70_code, 4, (some .int), [])
theorem d_M_manyBut_0 : decode prog_14_method_70_code 0 = .ok (.aload_n 0, 1) := by decide +kernel
theorem d_M_manyBut_1 : decode prog_14_method_70_code 1 = .ok (.invokevirtual 383, 3) := by decide +kernel
theorem v_M_manyBut_0 {G : XG} {d : Nat} {h : XH} {Q : XV → XH → Prop} {X : Nat → XH → Prop} {x1 : Int} (F : xFix h) (hyp : (xwp G m_M_reckon (d + 4) 0 [xR 53, xZ, xZ, xZ, xZ, xZ, xZ] [] h (fun v9 h9 => xwp G m_M_manyBut (d + 5) 4 [xR 53, xI x1, xZ, xZ] (xpush v9 []) h9 Q X) X)) : xwp G m_M_manyBut (d + 5) 0 [xR 53, xI x1, xZ, xZ] [] h Q X := by
  have hnx9 : (93 : Int) ≤ xnx h := F.2.2
  refine xr_okL (fun hl9 => ?_)
  have r_x1 : -2147483648 ≤ x1 ∧ x1 ≤ 2147483647 := hl9 (xI x1) (.tail _ (.head _)) (Nat.le_of_ble_eq_true rfl)
  refine xr_aload_n (pc := 0) (i := 0) (hI := d_M_manyBut_0) (hi := rfl) (hl := rfl) ?_
  exact xq_callV (pc := 1) (index := 383) (K := m_M_reckon) (As := []) (S := []) (L0 := [xR 53, xZ, xZ, xZ, xZ, xZ, xZ]) (hI := d_M_manyBut_1) (hK := k_M_reckon) (hlk := w_2372) (hnoM := rfl) (hS8 := Nat.le_of_ble_eq_true rfl) (ci := 11) (N := 38) (C := "BeaconIndexModel") (T := xF11) (hc := rfl) (hci := Nat.le_of_ble_eq_true rfl) (htb := (ft_53 F)) (hinst := w_2374) (hsel := sel_M_reckon) (hlen := Nat.le_of_ble_eq_true rfl) (hst := rfl) (hL0 := rfl)  hyp
theorem d_M_manyBut_4 : decode prog_14_method_70_code 4 = .ok (.iconst 0, 1) := by decide +kernel
theorem d_M_manyBut_5 : decode prog_14_method_70_code 5 = .ok (.istore_n 2, 1) := by decide +kernel
theorem d_M_manyBut_6 : decode prog_14_method_70_code 6 = .ok (.iconst 0, 1) := by decide +kernel
theorem d_M_manyBut_7 : decode prog_14_method_70_code 7 = .ok (.istore_n 3, 1) := by decide +kernel
theorem v_M_manyBut_4 {G : XG} {d : Nat} {h : XH} {Q : XV → XH → Prop} {X : Nat → XH → Prop} {x1 : Int} (F : xFix h) (hyp : (xwp G m_M_manyBut (d + 5) 8 [xR 53, xI x1, xI 0, xI 0] [] h Q X)) : xwp G m_M_manyBut (d + 5) 4 [xR 53, xI x1, xZ, xZ] [] h Q X := by
  have hnx9 : (93 : Int) ≤ xnx h := F.2.2
  refine xr_okL (fun hl9 => ?_)
  have r_x1 : -2147483648 ≤ x1 ∧ x1 ≤ 2147483647 := hl9 (xI x1) (.tail _ (.head _)) (Nat.le_of_ble_eq_true rfl)
  refine xr_iconst (pc := 4) (hI := d_M_manyBut_4) (hr := by decide) ?_
  refine xr_istore_n (pc := 5) (i := 2) (L9 := [xR 53, xI x1, xI 0, xZ]) (hI := d_M_manyBut_5) (hi := rfl) (hn := Nat.le_of_ble_eq_true rfl) (hL9 := rfl) ?_
  refine xr_iconst (pc := 6) (hI := d_M_manyBut_6) (hr := by decide) ?_
  refine xr_istore_n (pc := 7) (i := 3) (L9 := [xR 53, xI x1, xI 0, xI 0]) (hI := d_M_manyBut_7) (hi := rfl) (hn := Nat.le_of_ble_eq_true rfl) (hL9 := rfl) ?_
  exact hyp
theorem d_M_manyBut_8 : decode prog_14_method_70_code 8 = .ok (.iload_n 3, 1) := by decide +kernel
theorem d_M_manyBut_9 : decode prog_14_method_70_code 9 = .ok (.aload_n 0, 1) := by decide +kernel
theorem d_M_manyBut_10 : decode prog_14_method_70_code 10 = .ok (.invokevirtual 191, 3) := by decide +kernel
theorem v_M_manyBut_8 {G : XG} {d : Nat} {h : XH} {Q : XV → XH → Prop} {X : Nat → XH → Prop} {x1 x2 x3 : Int} (F : xFix h) (hyp : (xwp G m_M_inSegments (d + 4) 0 [xR 53] [] h (fun v9 h9 => xwp G m_M_manyBut (d + 5) 13 [xR 53, xI x1, xI x2, xI x3] (xpush v9 [xI x3]) h9 Q X) X)) : xwp G m_M_manyBut (d + 5) 8 [xR 53, xI x1, xI x2, xI x3] [] h Q X := by
  have hnx9 : (93 : Int) ≤ xnx h := F.2.2
  refine xr_okL (fun hl9 => ?_)
  have r_x1 : -2147483648 ≤ x1 ∧ x1 ≤ 2147483647 := hl9 (xI x1) (.tail _ (.head _)) (Nat.le_of_ble_eq_true rfl)
  have r_x2 : -2147483648 ≤ x2 ∧ x2 ≤ 2147483647 := hl9 (xI x2) (.tail _ (.tail _ (.head _))) (Nat.le_of_ble_eq_true rfl)
  have r_x3 : -2147483648 ≤ x3 ∧ x3 ≤ 2147483647 := hl9 (xI x3) (.tail _ (.tail _ (.tail _ (.head _)))) (Nat.le_of_ble_eq_true rfl)
  refine xr_iload_n (pc := 8) (i := 3) (hI := d_M_manyBut_8) (hi := rfl) (hl := rfl) ?_
  refine xr_aload_n (pc := 9) (i := 0) (hI := d_M_manyBut_9) (hi := rfl) (hl := rfl) ?_
  exact xq_callV (pc := 10) (index := 191) (K := m_M_inSegments) (As := []) (S := [xI x3]) (L0 := [xR 53]) (hI := d_M_manyBut_10) (hK := k_M_inSegments) (hlk := w_1732) (hnoM := rfl) (hS8 := Nat.le_of_ble_eq_true rfl) (ci := 11) (N := 38) (C := "BeaconIndexModel") (T := xF11) (hc := rfl) (hci := Nat.le_of_ble_eq_true rfl) (htb := (ft_53 F)) (hinst := w_1734) (hsel := sel_M_inSegments) (hlen := Nat.le_of_ble_eq_true rfl) (hst := rfl) (hL0 := rfl)  hyp
theorem d_M_manyBut_13 : decode prog_14_method_70_code 13 = .ok (.if_icmp .ge 26, 3) := by decide +kernel
theorem d_M_manyBut_39 : decode prog_14_method_70_code 39 = .ok (.iload_n 2, 1) := by decide +kernel
theorem d_M_manyBut_40 : decode prog_14_method_70_code 40 = .ok (.ireturn, 1) := by decide +kernel
theorem d_M_manyBut_16 : decode prog_14_method_70_code 16 = .ok (.iload_n 2, 1) := by decide +kernel
theorem d_M_manyBut_17 : decode prog_14_method_70_code 17 = .ok (.aload_n 0, 1) := by decide +kernel
theorem d_M_manyBut_18 : decode prog_14_method_70_code 18 = .ok (.iload_n 3, 1) := by decide +kernel
theorem d_M_manyBut_19 : decode prog_14_method_70_code 19 = .ok (.iload_n 1, 1) := by decide +kernel
theorem d_M_manyBut_20 : decode prog_14_method_70_code 20 = .ok (.invokevirtual 386, 3) := by decide +kernel
theorem v_M_manyBut_13 {G : XG} {d : Nat} {h : XH} {Q : XV → XH → Prop} {X : Nat → XH → Prop} {x1 x2 x3 s0 s1 : Int} (F : xFix h) (hyp : ((s0 ≤ s1 → (Q (xI x2) h)) ∧ (¬ s0 ≤ s1 → (xwp G m_M_look (d + 4) 0 [xR 53, xI x3, xI x1, xZ, xZ, xZ] [] h (fun v9 h9 => xwp G m_M_manyBut (d + 5) 23 [xR 53, xI x1, xZ, xI x3] (xpush v9 [xI x2]) h9 Q X) X)))) : xwp G m_M_manyBut (d + 5) 13 [xR 53, xI x1, xI x2, xI x3] [xI s0, xI s1] h Q X := by
  have hnx9 : (93 : Int) ≤ xnx h := F.2.2
  refine xr_okL (fun hl9 => ?_)
  have r_x1 : -2147483648 ≤ x1 ∧ x1 ≤ 2147483647 := hl9 (xI x1) (.tail _ (.head _)) (Nat.le_of_ble_eq_true rfl)
  have r_x2 : -2147483648 ≤ x2 ∧ x2 ≤ 2147483647 := hl9 (xI x2) (.tail _ (.tail _ (.head _))) (Nat.le_of_ble_eq_true rfl)
  have r_x3 : -2147483648 ≤ x3 ∧ x3 ≤ 2147483647 := hl9 (xI x3) (.tail _ (.tail _ (.tail _ (.head _)))) (Nat.le_of_ble_eq_true rfl)
  refine xr_okS (fun hs9 => ?_)
  have r_s0 : -2147483648 ≤ s0 ∧ s0 ≤ 2147483647 := hs9 (xI s0) (.head _)
  have r_s1 : -2147483648 ≤ s1 ∧ s1 ≤ 2147483647 := hs9 (xI s1) (.tail _ (.head _))
  refine xr_icmp_ge (pc := 13) (tgt := 39) (hI := d_M_manyBut_13) (ht := by decide) (fun q9 => ?_) (fun q9 => ?_)
  · replace hyp := hyp.1 q9
    have q1_ := q9
    clear q9
    refine xr_iload_n (pc := 39) (i := 2) (hI := d_M_manyBut_39) (hi := rfl) (hl := rfl) ?_
    refine xr_ireturn (S := []) (pc := 40) (hI := d_M_manyBut_40) (hr := rfl) ?_
    exact hyp
  · replace hyp := hyp.2 q9
    have q1_ := q9
    clear q9
    refine xr_iload_n (pc := 16) (i := 2) (hI := d_M_manyBut_16) (hi := rfl) (hl := rfl) ?_
    refine xr_aload_n (pc := 17) (i := 0) (hI := d_M_manyBut_17) (hi := rfl) (hl := rfl) ?_
    refine xr_iload_n (pc := 18) (i := 3) (hI := d_M_manyBut_18) (hi := rfl) (hl := rfl) ?_
    refine xr_iload_n (pc := 19) (i := 1) (hI := d_M_manyBut_19) (hi := rfl) (hl := rfl) ?_
    exact xq_callV (pc := 20) (index := 386) (K := m_M_look) (As := [xI x3, xI x1]) (S := [xI x2]) (L0 := [xR 53, xI x3, xI x1, xZ, xZ, xZ]) (hI := d_M_manyBut_20) (hK := k_M_look) (hlk := w_2405) (hnoM := rfl) (hS8 := Nat.le_of_ble_eq_true rfl) (ci := 11) (N := 38) (C := "BeaconIndexModel") (T := xF11) (hc := rfl) (hci := Nat.le_of_ble_eq_true rfl) (htb := (ft_53 F)) (hinst := w_2407) (hsel := sel_M_look) (hlen := Nat.le_of_ble_eq_true rfl) (hst := rfl) (hL0 := rfl)  (xwp_mono hyp (fun v9 h9 q9 => xr_drop (L9 := [xR 53, xI x1, xZ, xI x3]) (xdrs (xdrs (xdrz (xdrs xdr0)))) q9) (fun _ _ z9 => z9))
theorem d_M_manyBut_23 : decode prog_14_method_70_code 23 = .ok (.ifCond .eq 7, 3) := by decide +kernel
theorem d_M_manyBut_30 : decode prog_14_method_70_code 30 = .ok (.iconst 0, 1) := by decide +kernel
theorem d_M_manyBut_31 : decode prog_14_method_70_code 31 = .ok (.iadd, 1) := by decide +kernel
theorem d_M_manyBut_32 : decode prog_14_method_70_code 32 = .ok (.istore_n 2, 1) := by decide +kernel
theorem d_M_manyBut_33 : decode prog_14_method_70_code 33 = .ok (.iinc 3 1, 3) := by decide +kernel
theorem d_M_manyBut_36 : decode prog_14_method_70_code 36 = .ok (.goto (-28), 3) := by decide +kernel
theorem d_M_manyBut_26 : decode prog_14_method_70_code 26 = .ok (.iconst 1, 1) := by decide +kernel
theorem d_M_manyBut_27 : decode prog_14_method_70_code 27 = .ok (.goto 4, 3) := by decide +kernel
theorem v_M_manyBut_23 {G : XG} {d : Nat} {h : XH} {Q : XV → XH → Prop} {X : Nat → XH → Prop} {x1 x3 s0 s1 : Int} (F : xFix h) (hyp : ((s0 = 0 → xiR (x3 + 1) ∧ (xwp G m_M_manyBut (d + 5) 8 [xR 53, xI x1, xI (s1 + 0), xI (x3 + 1)] [] h Q X)) ∧ (¬ s0 = 0 → xiR (s1 + 1) ∧ xiR (x3 + 1) ∧ (xwp G m_M_manyBut (d + 5) 8 [xR 53, xI x1, xI (s1 + 1), xI (x3 + 1)] [] h Q X)))) : xwp G m_M_manyBut (d + 5) 23 [xR 53, xI x1, xZ, xI x3] [xI s0, xI s1] h Q X := by
  have hnx9 : (93 : Int) ≤ xnx h := F.2.2
  refine xr_okL (fun hl9 => ?_)
  have r_x1 : -2147483648 ≤ x1 ∧ x1 ≤ 2147483647 := hl9 (xI x1) (.tail _ (.head _)) (Nat.le_of_ble_eq_true rfl)
  have r_x3 : -2147483648 ≤ x3 ∧ x3 ≤ 2147483647 := hl9 (xI x3) (.tail _ (.tail _ (.tail _ (.head _)))) (Nat.le_of_ble_eq_true rfl)
  refine xr_okS (fun hs9 => ?_)
  have r_s0 : -2147483648 ≤ s0 ∧ s0 ≤ 2147483647 := hs9 (xI s0) (.head _)
  have r_s1 : -2147483648 ≤ s1 ∧ s1 ≤ 2147483647 := hs9 (xI s1) (.tail _ (.head _))
  refine xr_if_eq (pc := 23) (tgt := 30) (hI := d_M_manyBut_23) (ht := by decide) (fun q9 => ?_) (fun q9 => ?_)
  · replace hyp := hyp.1 q9
    have q1_ := q9
    clear q9
    refine xr_iconst (pc := 30) (hI := d_M_manyBut_30) (hr := by decide) ?_
    refine xr_iadd (pc := 31) (hI := d_M_manyBut_31) (hr := ⟨by clear hyp; omega, by clear hyp; omega⟩) ?_
    refine xr_istore_n (pc := 32) (i := 2) (L9 := [xR 53, xI x1, xI (s1 + 0), xI x3]) (hI := d_M_manyBut_32) (hi := rfl) (hn := Nat.le_of_ble_eq_true rfl) (hL9 := rfl) ?_
    obtain ⟨c9, hyp⟩ := hyp
    refine xr_iinc (pc := 33) (i := 3) (L9 := [xR 53, xI x1, xI (s1 + 0), xI (x3 + 1)]) (hI := d_M_manyBut_33) (hl := rfl) (hn := Nat.le_of_ble_eq_true rfl) (hr := c9) (hL9 := rfl) ?_
    refine xr_goto (pc := 36) (tgt := 8) (hI := d_M_manyBut_36) (ht := by decide) ?_
    exact hyp
  · replace hyp := hyp.2 q9
    have q1_ := q9
    clear q9
    refine xr_iconst (pc := 26) (hI := d_M_manyBut_26) (hr := by decide) ?_
    refine xr_goto (pc := 27) (tgt := 31) (hI := d_M_manyBut_27) (ht := by decide) ?_
    obtain ⟨c9, hyp⟩ := hyp
    refine xr_iadd (pc := 31) (hI := d_M_manyBut_31) (hr := c9) ?_
    refine xr_istore_n (pc := 32) (i := 2) (L9 := [xR 53, xI x1, xI (s1 + 1), xI x3]) (hI := d_M_manyBut_32) (hi := rfl) (hn := Nat.le_of_ble_eq_true rfl) (hL9 := rfl) ?_
    obtain ⟨c9, hyp⟩ := hyp
    refine xr_iinc (pc := 33) (i := 3) (L9 := [xR 53, xI x1, xI (s1 + 1), xI (x3 + 1)]) (hI := d_M_manyBut_33) (hl := rfl) (hn := Nat.le_of_ble_eq_true rfl) (hr := c9) (hL9 := rfl) ?_
    refine xr_goto (pc := 36) (tgt := 8) (hI := d_M_manyBut_36) (ht := by decide) ?_
    exact hyp
abbrev m_M_topParts : XM := (⟨"BeaconIndexModel", "topParts", "()I"⟩, prog_14_method_71_code, 3, (some .int), [])
theorem d_M_topParts_0 : decode prog_14_method_71_code 0 = .ok (.iconst 0, 1) := by decide +kernel
theorem d_M_topParts_1 : decode prog_14_method_71_code 1 = .ok (.istore_n 1, 1) := by decide +kernel
theorem d_M_topParts_2 : decode prog_14_method_71_code 2 = .ok (.iconst 0, 1) := by decide +kernel
theorem d_M_topParts_3 : decode prog_14_method_71_code 3 = .ok (.istore_n 2, 1) := by decide +kernel
theorem v_M_topParts_0 {G : XG} {d : Nat} {h : XH} {Q : XV → XH → Prop} {X : Nat → XH → Prop} (F : xFix h) (hyp : (xwp G m_M_topParts (d + 1) 4 [xR 53, xI 0, xI 0] [] h Q X)) : xwp G m_M_topParts (d + 1) 0 [xR 53, xZ, xZ] [] h Q X := by
  have hnx9 : (93 : Int) ≤ xnx h := F.2.2
  refine xr_iconst (pc := 0) (hI := d_M_topParts_0) (hr := by decide) ?_
  refine xr_istore_n (pc := 1) (i := 1) (L9 := [xR 53, xI 0, xZ]) (hI := d_M_topParts_1) (hi := rfl) (hn := Nat.le_of_ble_eq_true rfl) (hL9 := rfl) ?_
  refine xr_iconst (pc := 2) (hI := d_M_topParts_2) (hr := by decide) ?_
  refine xr_istore_n (pc := 3) (i := 2) (L9 := [xR 53, xI 0, xI 0]) (hI := d_M_topParts_3) (hi := rfl) (hn := Nat.le_of_ble_eq_true rfl) (hL9 := rfl) ?_
  exact hyp
theorem d_M_topParts_4 : decode prog_14_method_71_code 4 = .ok (.iload_n 2, 1) := by decide +kernel
theorem d_M_topParts_5 : decode prog_14_method_71_code 5 = .ok (.aload_n 0, 1) := by decide +kernel
theorem d_M_topParts_6 : decode prog_14_method_71_code 6 = .ok (.getfield 51, 3) := by decide +kernel
theorem d_M_topParts_9 : decode prog_14_method_71_code 9 = .ok (.getfield 271, 3) := by decide +kernel
theorem d_M_topParts_12 : decode prog_14_method_71_code 12 = .ok (.if_icmp .ge 30, 3) := by decide +kernel
theorem d_M_topParts_42 : decode prog_14_method_71_code 42 = .ok (.iload_n 1, 1) := by decide +kernel
theorem d_M_topParts_43 : decode prog_14_method_71_code 43 = .ok (.ireturn, 1) := by decide +kernel
theorem d_M_topParts_15 : decode prog_14_method_71_code 15 = .ok (.iload_n 1, 1) := by decide +kernel
theorem d_M_topParts_16 : decode prog_14_method_71_code 16 = .ok (.aload_n 0, 1) := by decide +kernel
theorem d_M_topParts_17 : decode prog_14_method_71_code 17 = .ok (.getfield 51, 3) := by decide +kernel
theorem d_M_topParts_20 : decode prog_14_method_71_code 20 = .ok (.getfield 274, 3) := by decide +kernel
theorem d_M_topParts_23 : decode prog_14_method_71_code 23 = .ok (.iload_n 2, 1) := by decide +kernel
theorem d_M_topParts_24 : decode prog_14_method_71_code 24 = .ok (.iaload, 1) := by decide +kernel
theorem d_M_topParts_25 : decode prog_14_method_71_code 25 = .ok (.iconst (-1), 1) := by decide +kernel
theorem d_M_topParts_26 : decode prog_14_method_71_code 26 = .ok (.if_icmp .ne 7, 3) := by decide +kernel
theorem d_M_topParts_33 : decode prog_14_method_71_code 33 = .ok (.iconst 0, 1) := by decide +kernel
theorem d_M_topParts_34 : decode prog_14_method_71_code 34 = .ok (.iadd, 1) := by decide +kernel
theorem d_M_topParts_35 : decode prog_14_method_71_code 35 = .ok (.istore_n 1, 1) := by decide +kernel
theorem d_M_topParts_36 : decode prog_14_method_71_code 36 = .ok (.iinc 2 1, 3) := by decide +kernel
theorem d_M_topParts_39 : decode prog_14_method_71_code 39 = .ok (.goto (-35), 3) := by decide +kernel
theorem d_M_topParts_29 : decode prog_14_method_71_code 29 = .ok (.iconst 1, 1) := by decide +kernel
theorem d_M_topParts_30 : decode prog_14_method_71_code 30 = .ok (.goto 4, 3) := by decide +kernel
theorem v_M_topParts_4 {G : XG} {d : Nat} {h : XH} {Q : XV → XH → Prop} {X : Nat → XH → Prop} {x1 x2 : Int} (F : xFix h) (hyp : xtg h (xpl h 53 19) = 12 ∧ (((xpl h (xpl h 53 19) 0) ≤ x2 → (Q (xI x1) h)) ∧ (¬ (xpl h (xpl h 53 19) 0) ≤ x2 → xtg h (xpl h (xpl h 53 19) 1) = 100 ∧ 0 ≤ x2 ∧ x2 < (xln h (xpl h (xpl h 53 19) 1)) ∧ (((xpl h (xpl h (xpl h 53 19) 1) x2) = (-1) → xiR (x1 + 1) ∧ (xwp G m_M_topParts (d + 1) 4 [xR 53, xI (x1 + 1), xI (x2 + 1)] [] h Q X)) ∧ (¬ (xpl h (xpl h (xpl h 53 19) 1) x2) = (-1) → (xwp G m_M_topParts (d + 1) 4 [xR 53, xI (x1 + 0), xI (x2 + 1)] [] h Q X)))))) : xwp G m_M_topParts (d + 1) 4 [xR 53, xI x1, xI x2] [] h Q X := by
  have hnx9 : (93 : Int) ≤ xnx h := F.2.2
  refine xr_okL (fun hl9 => ?_)
  have r_x1 : -2147483648 ≤ x1 ∧ x1 ≤ 2147483647 := hl9 (xI x1) (.tail _ (.head _)) (Nat.le_of_ble_eq_true rfl)
  have r_x2 : -2147483648 ≤ x2 ∧ x2 ≤ 2147483647 := hl9 (xI x2) (.tail _ (.tail _ (.head _))) (Nat.le_of_ble_eq_true rfl)
  refine xr_iload_n (pc := 4) (i := 2) (hI := d_M_topParts_4) (hi := rfl) (hl := rfl) ?_
  refine xr_aload_n (pc := 5) (i := 0) (hI := d_M_topParts_5) (hi := rfl) (hl := rfl) ?_
  refine xg_getf (pc := 6) (ci := 11) (k := 19) (N := 38) (v9 := 2) (v := (xpl h 53 19)) (T := xF11) (hI := d_M_topParts_6) (hw := w_1606) rfl xi11 (Or.inl rfl) (Nat.le_of_ble_eq_true rfl) (Nat.le_of_ble_eq_true rfl) rfl (ft_53 F) rfl (fun f1_ => ?_)
  clear f1_
  obtain ⟨c9, hyp⟩ := hyp
  have t2_ := c9
  clear c9
  refine xg_getfN (pc := 9) (ci := 12) (k := 0) (N := 13) (v9 := 0) (v := (xpl h (xpl h 53 19) 0)) (T := xF12) (hI := d_M_topParts_9) (hw := w_1536) rfl xi12 (Or.inl rfl) (Nat.le_of_ble_eq_true rfl) (Nat.le_of_ble_eq_true rfl) rfl t2_ rfl (fun f3_ => ?_)
  replace f3_ : -2147483648 ≤ (xpl h (xpl h 53 19) 0) ∧ (xpl h (xpl h 53 19) 0) ≤ 2147483647 := f3_
  refine xr_icmp_ge (pc := 12) (tgt := 42) (hI := d_M_topParts_12) (ht := by decide) (fun q9 => ?_) (fun q9 => ?_)
  · replace hyp := hyp.1 q9
    have q4_ := q9
    clear q9
    refine xr_iload_n (pc := 42) (i := 1) (hI := d_M_topParts_42) (hi := rfl) (hl := rfl) ?_
    refine xr_ireturn (S := []) (pc := 43) (hI := d_M_topParts_43) (hr := rfl) ?_
    exact hyp
  · replace hyp := hyp.2 q9
    have q4_ := q9
    clear q9
    refine xr_iload_n (pc := 15) (i := 1) (hI := d_M_topParts_15) (hi := rfl) (hl := rfl) ?_
    refine xr_aload_n (pc := 16) (i := 0) (hI := d_M_topParts_16) (hi := rfl) (hl := rfl) ?_
    refine xg_getf (pc := 17) (ci := 11) (k := 19) (N := 38) (v9 := 2) (v := (xpl h 53 19)) (T := xF11) (hI := d_M_topParts_17) (hw := w_1606) rfl xi11 (Or.inl rfl) (Nat.le_of_ble_eq_true rfl) (Nat.le_of_ble_eq_true rfl) rfl (ft_53 F) rfl (fun f5_ => ?_)
    clear f5_
    refine xg_getfN (pc := 20) (ci := 12) (k := 1) (N := 13) (v9 := 2) (v := (xpl h (xpl h 53 19) 1)) (T := xF12) (hI := d_M_topParts_20) (hw := w_1538) rfl xi12 (Or.inl rfl) (Nat.le_of_ble_eq_true rfl) (Nat.le_of_ble_eq_true rfl) rfl t2_ rfl (fun f6_ => ?_)
    clear f6_
    refine xr_iload_n (pc := 23) (i := 2) (hI := d_M_topParts_23) (hi := rfl) (hl := rfl) ?_
    obtain ⟨c9, hyp⟩ := hyp
    have t7_ := c9
    clear c9
    obtain ⟨c8_, hyp⟩ := hyp
    obtain ⟨c9_, hyp⟩ := hyp
    refine xg_iaload (pc := 24) (v := (xpl h (xpl h (xpl h 53 19) 1) x2)) (hI := d_M_topParts_24) t7_ c8_ (xlt_of rfl c9_) rfl (fun f10_ => ?_)
    replace f10_ : -2147483648 ≤ (xpl h (xpl h (xpl h 53 19) 1) x2) ∧ (xpl h (xpl h (xpl h 53 19) 1) x2) ≤ 2147483647 := f10_
    refine xr_iconst (pc := 25) (hI := d_M_topParts_25) (hr := by decide) ?_
    refine xr_icmp_ne (pc := 26) (tgt := 33) (hI := d_M_topParts_26) (ht := by decide) (fun q9 => ?_) (fun q9 => ?_)
    · replace hyp := hyp.2 q9
      have q11_ := q9
      clear q9
      refine xr_iconst (pc := 33) (hI := d_M_topParts_33) (hr := by decide) ?_
      refine xr_iadd (pc := 34) (hI := d_M_topParts_34) (hr := ⟨by clear hyp; omega, by clear hyp; omega⟩) ?_
      refine xr_istore_n (pc := 35) (i := 1) (L9 := [xR 53, xI (x1 + 0), xI x2]) (hI := d_M_topParts_35) (hi := rfl) (hn := Nat.le_of_ble_eq_true rfl) (hL9 := rfl) ?_
      refine xr_iinc (pc := 36) (i := 2) (L9 := [xR 53, xI (x1 + 0), xI (x2 + 1)]) (hI := d_M_topParts_36) (hl := rfl) (hn := Nat.le_of_ble_eq_true rfl) (hr := ⟨by clear hyp; omega, by clear hyp; omega⟩) (hL9 := rfl) ?_
      refine xr_goto (pc := 39) (tgt := 4) (hI := d_M_topParts_39) (ht := by decide) ?_
      exact hyp
    · replace hyp := hyp.1 q9
      have q11_ := q9
      clear q9
      refine xr_iconst (pc := 29) (hI := d_M_topParts_29) (hr := by decide) ?_
      refine xr_goto (pc := 30) (tgt := 34) (hI := d_M_topParts_30) (ht := by decide) ?_
      obtain ⟨c9, hyp⟩ := hyp
      refine xr_iadd (pc := 34) (hI := d_M_topParts_34) (hr := c9) ?_
      refine xr_istore_n (pc := 35) (i := 1) (L9 := [xR 53, xI (x1 + 1), xI x2]) (hI := d_M_topParts_35) (hi := rfl) (hn := Nat.le_of_ble_eq_true rfl) (hL9 := rfl) ?_
      refine xr_iinc (pc := 36) (i := 2) (L9 := [xR 53, xI (x1 + 1), xI (x2 + 1)]) (hI := d_M_topParts_36) (hl := rfl) (hn := Nat.le_of_ble_eq_true rfl) (hr := ⟨by clear hyp; omega, by clear hyp; omega⟩) (hL9 := rfl) ?_
      refine xr_goto (pc := 39) (tgt := 4) (hI := d_M_topParts_39) (ht := by decide) ?_
      exact hyp
abbrev m_M_topPart : XM := (⟨"BeaconIndexModel", "topPart", "(I)I"⟩, prog_14_method_72_code, 4, (some .int), [])
theorem d_M_topPart_0 : decode prog_14_method_72_code 0 = .ok (.iload_n 1, 1) := by decide +kernel
theorem d_M_topPart_1 : decode prog_14_method_72_code 1 = .ok (.istore_n 2, 1) := by decide +kernel
theorem d_M_topPart_2 : decode prog_14_method_72_code 2 = .ok (.iconst 0, 1) := by decide +kernel
theorem d_M_topPart_3 : decode prog_14_method_72_code 3 = .ok (.istore_n 3, 1) := by decide +kernel
theorem v_M_topPart_0 {G : XG} {d : Nat} {h : XH} {Q : XV → XH → Prop} {X : Nat → XH → Prop} {x1 : Int} (F : xFix h) (hyp : (xwp G m_M_topPart (d + 1) 4 [xR 53, xZ, xI x1, xI 0] [] h Q X)) : xwp G m_M_topPart (d + 1) 0 [xR 53, xI x1, xZ, xZ] [] h Q X := by
  have hnx9 : (93 : Int) ≤ xnx h := F.2.2
  refine xr_okL (fun hl9 => ?_)
  have r_x1 : -2147483648 ≤ x1 ∧ x1 ≤ 2147483647 := hl9 (xI x1) (.tail _ (.head _)) (Nat.le_of_ble_eq_true rfl)
  refine xr_iload_n (pc := 0) (i := 1) (hI := d_M_topPart_0) (hi := rfl) (hl := rfl) ?_
  refine xr_istore_n (pc := 1) (i := 2) (L9 := [xR 53, xI x1, xI x1, xZ]) (hI := d_M_topPart_1) (hi := rfl) (hn := Nat.le_of_ble_eq_true rfl) (hL9 := rfl) ?_
  refine xr_iconst (pc := 2) (hI := d_M_topPart_2) (hr := by decide) ?_
  refine xr_istore_n (pc := 3) (i := 3) (L9 := [xR 53, xI x1, xI x1, xI 0]) (hI := d_M_topPart_3) (hi := rfl) (hn := Nat.le_of_ble_eq_true rfl) (hL9 := rfl) ?_
  exact xr_drop (L9 := [xR 53, xZ, xI x1, xI 0]) (xdrs (xdrz (xdrs (xdrs xdr0)))) hyp
theorem d_M_topPart_4 : decode prog_14_method_72_code 4 = .ok (.iload_n 3, 1) := by decide +kernel
theorem d_M_topPart_5 : decode prog_14_method_72_code 5 = .ok (.aload_n 0, 1) := by decide +kernel
theorem d_M_topPart_6 : decode prog_14_method_72_code 6 = .ok (.getfield 51, 3) := by decide +kernel
theorem d_M_topPart_9 : decode prog_14_method_72_code 9 = .ok (.getfield 271, 3) := by decide +kernel
theorem d_M_topPart_12 : decode prog_14_method_72_code 12 = .ok (.if_icmp .ge 34, 3) := by decide +kernel
theorem d_M_topPart_46 : decode prog_14_method_72_code 46 = .ok (.iconst (-1), 1) := by decide +kernel
theorem d_M_topPart_47 : decode prog_14_method_72_code 47 = .ok (.ireturn, 1) := by decide +kernel
theorem d_M_topPart_15 : decode prog_14_method_72_code 15 = .ok (.aload_n 0, 1) := by decide +kernel
theorem d_M_topPart_16 : decode prog_14_method_72_code 16 = .ok (.getfield 51, 3) := by decide +kernel
theorem d_M_topPart_19 : decode prog_14_method_72_code 19 = .ok (.getfield 274, 3) := by decide +kernel
theorem d_M_topPart_22 : decode prog_14_method_72_code 22 = .ok (.iload_n 3, 1) := by decide +kernel
theorem d_M_topPart_23 : decode prog_14_method_72_code 23 = .ok (.iaload, 1) := by decide +kernel
theorem d_M_topPart_24 : decode prog_14_method_72_code 24 = .ok (.iconst (-1), 1) := by decide +kernel
theorem d_M_topPart_25 : decode prog_14_method_72_code 25 = .ok (.if_icmp .eq 6, 3) := by decide +kernel
theorem d_M_topPart_31 : decode prog_14_method_72_code 31 = .ok (.iload_n 2, 1) := by decide +kernel
theorem d_M_topPart_32 : decode prog_14_method_72_code 32 = .ok (.ifCond .ne 5, 3) := by decide +kernel
theorem d_M_topPart_37 : decode prog_14_method_72_code 37 = .ok (.iinc 2 (-1), 3) := by decide +kernel
theorem d_M_topPart_40 : decode prog_14_method_72_code 40 = .ok (.iinc 3 1, 3) := by decide +kernel
theorem d_M_topPart_43 : decode prog_14_method_72_code 43 = .ok (.goto (-39), 3) := by decide +kernel
theorem d_M_topPart_35 : decode prog_14_method_72_code 35 = .ok (.iload_n 3, 1) := by decide +kernel
theorem d_M_topPart_36 : decode prog_14_method_72_code 36 = .ok (.ireturn, 1) := by decide +kernel
theorem d_M_topPart_28 : decode prog_14_method_72_code 28 = .ok (.goto 12, 3) := by decide +kernel
theorem v_M_topPart_4 {G : XG} {d : Nat} {h : XH} {Q : XV → XH → Prop} {X : Nat → XH → Prop} {x2 x3 : Int} (F : xFix h) (hyp : xtg h (xpl h 53 19) = 12 ∧ (((xpl h (xpl h 53 19) 0) ≤ x3 → (Q (xI (-1)) h)) ∧ (¬ (xpl h (xpl h 53 19) 0) ≤ x3 → xtg h (xpl h (xpl h 53 19) 1) = 100 ∧ 0 ≤ x3 ∧ x3 < (xln h (xpl h (xpl h 53 19) 1)) ∧ (((xpl h (xpl h (xpl h 53 19) 1) x3) = (-1) → ((x2 = 0 → (Q (xI x3) h)) ∧ (¬ x2 = 0 → xiR (x2 + (-1)) ∧ (xwp G m_M_topPart (d + 1) 4 [xR 53, xZ, xI (x2 + (-1)), xI (x3 + 1)] [] h Q X)))) ∧ (¬ (xpl h (xpl h (xpl h 53 19) 1) x3) = (-1) → (xwp G m_M_topPart (d + 1) 4 [xR 53, xZ, xI x2, xI (x3 + 1)] [] h Q X)))))) : xwp G m_M_topPart (d + 1) 4 [xR 53, xZ, xI x2, xI x3] [] h Q X := by
  have hnx9 : (93 : Int) ≤ xnx h := F.2.2
  refine xr_okL (fun hl9 => ?_)
  have r_x2 : -2147483648 ≤ x2 ∧ x2 ≤ 2147483647 := hl9 (xI x2) (.tail _ (.tail _ (.head _))) (Nat.le_of_ble_eq_true rfl)
  have r_x3 : -2147483648 ≤ x3 ∧ x3 ≤ 2147483647 := hl9 (xI x3) (.tail _ (.tail _ (.tail _ (.head _)))) (Nat.le_of_ble_eq_true rfl)
  refine xr_iload_n (pc := 4) (i := 3) (hI := d_M_topPart_4) (hi := rfl) (hl := rfl) ?_
  refine xr_aload_n (pc := 5) (i := 0) (hI := d_M_topPart_5) (hi := rfl) (hl := rfl) ?_
  refine xg_getf (pc := 6) (ci := 11) (k := 19) (N := 38) (v9 := 2) (v := (xpl h 53 19)) (T := xF11) (hI := d_M_topPart_6) (hw := w_1606) rfl xi11 (Or.inl rfl) (Nat.le_of_ble_eq_true rfl) (Nat.le_of_ble_eq_true rfl) rfl (ft_53 F) rfl (fun f1_ => ?_)
  clear f1_
  obtain ⟨c9, hyp⟩ := hyp
  have t2_ := c9
  clear c9
  refine xg_getfN (pc := 9) (ci := 12) (k := 0) (N := 13) (v9 := 0) (v := (xpl h (xpl h 53 19) 0)) (T := xF12) (hI := d_M_topPart_9) (hw := w_1536) rfl xi12 (Or.inl rfl) (Nat.le_of_ble_eq_true rfl) (Nat.le_of_ble_eq_true rfl) rfl t2_ rfl (fun f3_ => ?_)
  replace f3_ : -2147483648 ≤ (xpl h (xpl h 53 19) 0) ∧ (xpl h (xpl h 53 19) 0) ≤ 2147483647 := f3_
  refine xr_icmp_ge (pc := 12) (tgt := 46) (hI := d_M_topPart_12) (ht := by decide) (fun q9 => ?_) (fun q9 => ?_)
  · replace hyp := hyp.1 q9
    have q4_ := q9
    clear q9
    refine xr_iconst (pc := 46) (hI := d_M_topPart_46) (hr := by decide) ?_
    refine xr_ireturn (S := []) (pc := 47) (hI := d_M_topPart_47) (hr := rfl) ?_
    exact hyp
  · replace hyp := hyp.2 q9
    have q4_ := q9
    clear q9
    refine xr_aload_n (pc := 15) (i := 0) (hI := d_M_topPart_15) (hi := rfl) (hl := rfl) ?_
    refine xg_getf (pc := 16) (ci := 11) (k := 19) (N := 38) (v9 := 2) (v := (xpl h 53 19)) (T := xF11) (hI := d_M_topPart_16) (hw := w_1606) rfl xi11 (Or.inl rfl) (Nat.le_of_ble_eq_true rfl) (Nat.le_of_ble_eq_true rfl) rfl (ft_53 F) rfl (fun f5_ => ?_)
    clear f5_
    refine xg_getfN (pc := 19) (ci := 12) (k := 1) (N := 13) (v9 := 2) (v := (xpl h (xpl h 53 19) 1)) (T := xF12) (hI := d_M_topPart_19) (hw := w_1538) rfl xi12 (Or.inl rfl) (Nat.le_of_ble_eq_true rfl) (Nat.le_of_ble_eq_true rfl) rfl t2_ rfl (fun f6_ => ?_)
    clear f6_
    refine xr_iload_n (pc := 22) (i := 3) (hI := d_M_topPart_22) (hi := rfl) (hl := rfl) ?_
    obtain ⟨c9, hyp⟩ := hyp
    have t7_ := c9
    clear c9
    obtain ⟨c8_, hyp⟩ := hyp
    obtain ⟨c9_, hyp⟩ := hyp
    refine xg_iaload (pc := 23) (v := (xpl h (xpl h (xpl h 53 19) 1) x3)) (hI := d_M_topPart_23) t7_ c8_ (xlt_of rfl c9_) rfl (fun f10_ => ?_)
    replace f10_ : -2147483648 ≤ (xpl h (xpl h (xpl h 53 19) 1) x3) ∧ (xpl h (xpl h (xpl h 53 19) 1) x3) ≤ 2147483647 := f10_
    refine xr_iconst (pc := 24) (hI := d_M_topPart_24) (hr := by decide) ?_
    refine xr_icmp_eq (pc := 25) (tgt := 31) (hI := d_M_topPart_25) (ht := by decide) (fun q9 => ?_) (fun q9 => ?_)
    · replace hyp := hyp.1 q9
      have q11_ := q9
      clear q9
      refine xr_iload_n (pc := 31) (i := 2) (hI := d_M_topPart_31) (hi := rfl) (hl := rfl) ?_
      refine xr_if_ne (pc := 32) (tgt := 37) (hI := d_M_topPart_32) (ht := by decide) (fun q9 => ?_) (fun q9 => ?_)
      · replace hyp := hyp.2 q9
        have q12_ := q9
        clear q9
        obtain ⟨c9, hyp⟩ := hyp
        refine xr_iinc (pc := 37) (i := 2) (L9 := [xR 53, xZ, xI (x2 + (-1)), xI x3]) (hI := d_M_topPart_37) (hl := rfl) (hn := Nat.le_of_ble_eq_true rfl) (hr := c9) (hL9 := rfl) ?_
        refine xr_iinc (pc := 40) (i := 3) (L9 := [xR 53, xZ, xI (x2 + (-1)), xI (x3 + 1)]) (hI := d_M_topPart_40) (hl := rfl) (hn := Nat.le_of_ble_eq_true rfl) (hr := ⟨by clear hyp; omega, by clear hyp; omega⟩) (hL9 := rfl) ?_
        refine xr_goto (pc := 43) (tgt := 4) (hI := d_M_topPart_43) (ht := by decide) ?_
        exact hyp
      · replace hyp := hyp.1 q9
        have q12_ := q9
        clear q9
        refine xr_iload_n (pc := 35) (i := 3) (hI := d_M_topPart_35) (hi := rfl) (hl := rfl) ?_
        refine xr_ireturn (S := []) (pc := 36) (hI := d_M_topPart_36) (hr := rfl) ?_
        exact hyp
    · replace hyp := hyp.2 q9
      have q11_ := q9
      clear q9
      refine xr_goto (pc := 28) (tgt := 40) (hI := d_M_topPart_28) (ht := by decide) ?_
      refine xr_iinc (pc := 40) (i := 3) (L9 := [xR 53, xZ, xI x2, xI (x3 + 1)]) (hI := d_M_topPart_40) (hl := rfl) (hn := Nat.le_of_ble_eq_true rfl) (hr := ⟨by clear hyp; omega, by clear hyp; omega⟩) (hL9 := rfl) ?_
      refine xr_goto (pc := 43) (tgt := 4) (hI := d_M_topPart_43) (ht := by decide) ?_
      exact hyp
abbrev m_M_isDenied : XM := (⟨"BeaconIndexModel", "isDenied", "(I)Z"⟩, prog_14_method_73_code, 3, (some .boolean), [])
theorem d_M_isDenied_0 : decode prog_14_method_73_code 0 = .ok (.iload_n 1, 1) := by decide +kernel
theorem d_M_isDenied_1 : decode prog_14_method_73_code 1 = .ok (.istore_n 2, 1) := by decide +kernel
theorem v_M_isDenied_0 {G : XG} {d : Nat} {h : XH} {Q : XV → XH → Prop} {X : Nat → XH → Prop} {x1 : Int} (F : xFix h) (hyp : (xwp G m_M_isDenied (d + 1) 2 [xR 53, xZ, xI x1] [] h Q X)) : xwp G m_M_isDenied (d + 1) 0 [xR 53, xI x1, xZ] [] h Q X := by
  have hnx9 : (93 : Int) ≤ xnx h := F.2.2
  refine xr_okL (fun hl9 => ?_)
  have r_x1 : -2147483648 ≤ x1 ∧ x1 ≤ 2147483647 := hl9 (xI x1) (.tail _ (.head _)) (Nat.le_of_ble_eq_true rfl)
  refine xr_iload_n (pc := 0) (i := 1) (hI := d_M_isDenied_0) (hi := rfl) (hl := rfl) ?_
  refine xr_istore_n (pc := 1) (i := 2) (L9 := [xR 53, xI x1, xI x1]) (hI := d_M_isDenied_1) (hi := rfl) (hn := Nat.le_of_ble_eq_true rfl) (hL9 := rfl) ?_
  exact xr_drop (L9 := [xR 53, xZ, xI x1]) (xdrs (xdrz (xdrs xdr0))) hyp
theorem d_M_isDenied_2 : decode prog_14_method_73_code 2 = .ok (.iload_n 2, 1) := by decide +kernel
theorem d_M_isDenied_3 : decode prog_14_method_73_code 3 = .ok (.iconst (-1), 1) := by decide +kernel
theorem d_M_isDenied_4 : decode prog_14_method_73_code 4 = .ok (.if_icmp .eq 32, 3) := by decide +kernel
theorem d_M_isDenied_36 : decode prog_14_method_73_code 36 = .ok (.iconst 0, 1) := by decide +kernel
theorem d_M_isDenied_37 : decode prog_14_method_73_code 37 = .ok (.ireturn, 1) := by decide +kernel
theorem d_M_isDenied_7 : decode prog_14_method_73_code 7 = .ok (.aload_n 0, 1) := by decide +kernel
theorem d_M_isDenied_8 : decode prog_14_method_73_code 8 = .ok (.getfield 51, 3) := by decide +kernel
theorem d_M_isDenied_11 : decode prog_14_method_73_code 11 = .ok (.getfield 284, 3) := by decide +kernel
theorem d_M_isDenied_14 : decode prog_14_method_73_code 14 = .ok (.iload_n 2, 1) := by decide +kernel
theorem d_M_isDenied_15 : decode prog_14_method_73_code 15 = .ok (.iaload, 1) := by decide +kernel
theorem d_M_isDenied_16 : decode prog_14_method_73_code 16 = .ok (.bipush 45, 2) := by decide +kernel
theorem d_M_isDenied_18 : decode prog_14_method_73_code 18 = .ok (.if_icmp .ne 5, 3) := by decide +kernel
theorem d_M_isDenied_23 : decode prog_14_method_73_code 23 = .ok (.aload_n 0, 1) := by decide +kernel
theorem d_M_isDenied_24 : decode prog_14_method_73_code 24 = .ok (.getfield 51, 3) := by decide +kernel
theorem d_M_isDenied_27 : decode prog_14_method_73_code 27 = .ok (.getfield 274, 3) := by decide +kernel
theorem d_M_isDenied_30 : decode prog_14_method_73_code 30 = .ok (.iload_n 2, 1) := by decide +kernel
theorem d_M_isDenied_31 : decode prog_14_method_73_code 31 = .ok (.iaload, 1) := by decide +kernel
theorem d_M_isDenied_32 : decode prog_14_method_73_code 32 = .ok (.istore_n 2, 1) := by decide +kernel
theorem d_M_isDenied_33 : decode prog_14_method_73_code 33 = .ok (.goto (-31), 3) := by decide +kernel
theorem d_M_isDenied_21 : decode prog_14_method_73_code 21 = .ok (.iconst 1, 1) := by decide +kernel
theorem d_M_isDenied_22 : decode prog_14_method_73_code 22 = .ok (.ireturn, 1) := by decide +kernel
theorem v_M_isDenied_2 {G : XG} {d : Nat} {h : XH} {Q : XV → XH → Prop} {X : Nat → XH → Prop} {x2 : Int} (F : xFix h) (hyp : ((x2 = (-1) → (Q (xI 0) h)) ∧ (¬ x2 = (-1) → xtg h (xpl h 53 19) = 12 ∧ xtg h (xpl h (xpl h 53 19) 2) = 100 ∧ 0 ≤ x2 ∧ x2 < (xln h (xpl h (xpl h 53 19) 2)) ∧ (((xpl h (xpl h (xpl h 53 19) 2) x2) = 45 → (Q (xI 1) h)) ∧ (¬ (xpl h (xpl h (xpl h 53 19) 2) x2) = 45 → xtg h (xpl h (xpl h 53 19) 1) = 100 ∧ x2 < (xln h (xpl h (xpl h 53 19) 1)) ∧ (xwp G m_M_isDenied (d + 1) 2 [xR 53, xZ, xI (xpl h (xpl h (xpl h 53 19) 1) x2)] [] h Q X)))))) : xwp G m_M_isDenied (d + 1) 2 [xR 53, xZ, xI x2] [] h Q X := by
  have hnx9 : (93 : Int) ≤ xnx h := F.2.2
  refine xr_okL (fun hl9 => ?_)
  have r_x2 : -2147483648 ≤ x2 ∧ x2 ≤ 2147483647 := hl9 (xI x2) (.tail _ (.tail _ (.head _))) (Nat.le_of_ble_eq_true rfl)
  refine xr_iload_n (pc := 2) (i := 2) (hI := d_M_isDenied_2) (hi := rfl) (hl := rfl) ?_
  refine xr_iconst (pc := 3) (hI := d_M_isDenied_3) (hr := by decide) ?_
  refine xr_icmp_eq (pc := 4) (tgt := 36) (hI := d_M_isDenied_4) (ht := by decide) (fun q9 => ?_) (fun q9 => ?_)
  · replace hyp := hyp.1 q9
    have q1_ := q9
    clear q9
    refine xr_iconst (pc := 36) (hI := d_M_isDenied_36) (hr := by decide) ?_
    refine xr_ireturnT (S := []) (pc := 37) (hI := d_M_isDenied_37) (hr := rfl) (xnar_z (by decide)) ?_
    exact hyp
  · replace hyp := hyp.2 q9
    have q1_ := q9
    clear q9
    refine xr_aload_n (pc := 7) (i := 0) (hI := d_M_isDenied_7) (hi := rfl) (hl := rfl) ?_
    refine xg_getf (pc := 8) (ci := 11) (k := 19) (N := 38) (v9 := 2) (v := (xpl h 53 19)) (T := xF11) (hI := d_M_isDenied_8) (hw := w_1606) rfl xi11 (Or.inl rfl) (Nat.le_of_ble_eq_true rfl) (Nat.le_of_ble_eq_true rfl) rfl (ft_53 F) rfl (fun f2_ => ?_)
    clear f2_
    obtain ⟨c9, hyp⟩ := hyp
    have t3_ := c9
    clear c9
    refine xg_getfN (pc := 11) (ci := 12) (k := 2) (N := 13) (v9 := 2) (v := (xpl h (xpl h 53 19) 2)) (T := xF12) (hI := d_M_isDenied_11) (hw := w_1540) rfl xi12 (Or.inl rfl) (Nat.le_of_ble_eq_true rfl) (Nat.le_of_ble_eq_true rfl) rfl t3_ rfl (fun f4_ => ?_)
    clear f4_
    refine xr_iload_n (pc := 14) (i := 2) (hI := d_M_isDenied_14) (hi := rfl) (hl := rfl) ?_
    obtain ⟨c9, hyp⟩ := hyp
    have t5_ := c9
    clear c9
    obtain ⟨c6_, hyp⟩ := hyp
    obtain ⟨c7_, hyp⟩ := hyp
    refine xg_iaload (pc := 15) (v := (xpl h (xpl h (xpl h 53 19) 2) x2)) (hI := d_M_isDenied_15) t5_ c6_ (xlt_of rfl c7_) rfl (fun f8_ => ?_)
    replace f8_ : -2147483648 ≤ (xpl h (xpl h (xpl h 53 19) 2) x2) ∧ (xpl h (xpl h (xpl h 53 19) 2) x2) ≤ 2147483647 := f8_
    refine xr_bipush (pc := 16) (hI := d_M_isDenied_16) (hr := by decide) (hv := by decide) ?_
    refine xr_icmp_ne (pc := 18) (tgt := 23) (hI := d_M_isDenied_18) (ht := by decide) (fun q9 => ?_) (fun q9 => ?_)
    · replace hyp := hyp.2 q9
      have q9_ := q9
      clear q9
      refine xr_aload_n (pc := 23) (i := 0) (hI := d_M_isDenied_23) (hi := rfl) (hl := rfl) ?_
      refine xg_getf (pc := 24) (ci := 11) (k := 19) (N := 38) (v9 := 2) (v := (xpl h 53 19)) (T := xF11) (hI := d_M_isDenied_24) (hw := w_1606) rfl xi11 (Or.inl rfl) (Nat.le_of_ble_eq_true rfl) (Nat.le_of_ble_eq_true rfl) rfl (ft_53 F) rfl (fun f10_ => ?_)
      clear f10_
      refine xg_getfN (pc := 27) (ci := 12) (k := 1) (N := 13) (v9 := 2) (v := (xpl h (xpl h 53 19) 1)) (T := xF12) (hI := d_M_isDenied_27) (hw := w_1538) rfl xi12 (Or.inl rfl) (Nat.le_of_ble_eq_true rfl) (Nat.le_of_ble_eq_true rfl) rfl t3_ rfl (fun f11_ => ?_)
      clear f11_
      refine xr_iload_n (pc := 30) (i := 2) (hI := d_M_isDenied_30) (hi := rfl) (hl := rfl) ?_
      obtain ⟨c9, hyp⟩ := hyp
      have t12_ := c9
      clear c9
      obtain ⟨c13_, hyp⟩ := hyp
      refine xg_iaload (pc := 31) (v := (xpl h (xpl h (xpl h 53 19) 1) x2)) (hI := d_M_isDenied_31) t12_ (by clear hyp; omega) (xlt_of rfl c13_) rfl (fun f14_ => ?_)
      replace f14_ : -2147483648 ≤ (xpl h (xpl h (xpl h 53 19) 1) x2) ∧ (xpl h (xpl h (xpl h 53 19) 1) x2) ≤ 2147483647 := f14_
      refine xr_istore_n (pc := 32) (i := 2) (L9 := [xR 53, xZ, xI (xpl h (xpl h (xpl h 53 19) 1) x2)]) (hI := d_M_isDenied_32) (hi := rfl) (hn := Nat.le_of_ble_eq_true rfl) (hL9 := rfl) ?_
      refine xr_goto (pc := 33) (tgt := 2) (hI := d_M_isDenied_33) (ht := by decide) ?_
      exact hyp
    · replace hyp := hyp.1 q9
      have q9_ := q9
      clear q9
      refine xr_iconst (pc := 21) (hI := d_M_isDenied_21) (hr := by decide) ?_
      refine xr_ireturnT (S := []) (pc := 22) (hI := d_M_isDenied_22) (hr := rfl) (xnar_z (by decide)) ?_
      exact hyp
abbrev m_M_first : XM := (⟨"BeaconIndexModel", "first", "(II)I"⟩, prog_14_method_74_code, 6, (some .int), [])
theorem d_M_first_0 : decode prog_14_method_74_code 0 = .ok (.aload_n 0, 1) := by decide +kernel
theorem d_M_first_1 : decode prog_14_method_74_code 1 = .ok (.invokevirtual 383, 3) := by decide +kernel
theorem v_M_first_0 {G : XG} {d : Nat} {h : XH} {Q : XV → XH → Prop} {X : Nat → XH → Prop} {x1 x2 : Int} (F : xFix h) (hyp : (xwp G m_M_reckon (d + 4) 0 [xR 53, xZ, xZ, xZ, xZ, xZ, xZ] [] h (fun v9 h9 => xwp G m_M_first (d + 5) 4 [xR 53, xI x1, xI x2, xZ, xZ, xZ] (xpush v9 []) h9 Q X) X)) : xwp G m_M_first (d + 5) 0 [xR 53, xI x1, xI x2, xZ, xZ, xZ] [] h Q X := by
  have hnx9 : (93 : Int) ≤ xnx h := F.2.2
  refine xr_okL (fun hl9 => ?_)
  have r_x1 : -2147483648 ≤ x1 ∧ x1 ≤ 2147483647 := hl9 (xI x1) (.tail _ (.head _)) (Nat.le_of_ble_eq_true rfl)
  have r_x2 : -2147483648 ≤ x2 ∧ x2 ≤ 2147483647 := hl9 (xI x2) (.tail _ (.tail _ (.head _))) (Nat.le_of_ble_eq_true rfl)
  refine xr_aload_n (pc := 0) (i := 0) (hI := d_M_first_0) (hi := rfl) (hl := rfl) ?_
  exact xq_callV (pc := 1) (index := 383) (K := m_M_reckon) (As := []) (S := []) (L0 := [xR 53, xZ, xZ, xZ, xZ, xZ, xZ]) (hI := d_M_first_1) (hK := k_M_reckon) (hlk := w_2372) (hnoM := rfl) (hS8 := Nat.le_of_ble_eq_true rfl) (ci := 11) (N := 38) (C := "BeaconIndexModel") (T := xF11) (hc := rfl) (hci := Nat.le_of_ble_eq_true rfl) (htb := (ft_53 F)) (hinst := w_2374) (hsel := sel_M_reckon) (hlen := Nat.le_of_ble_eq_true rfl) (hst := rfl) (hL0 := rfl)  hyp
theorem d_M_first_4 : decode prog_14_method_74_code 4 = .ok (.iconst (-1), 1) := by decide +kernel
theorem d_M_first_5 : decode prog_14_method_74_code 5 = .ok (.istore_n 3, 1) := by decide +kernel
theorem d_M_first_6 : decode prog_14_method_74_code 6 = .ok (.iconst 0, 1) := by decide +kernel
theorem d_M_first_7 : decode prog_14_method_74_code 7 = .ok (.istore 4, 2) := by decide +kernel
theorem v_M_first_4 {G : XG} {d : Nat} {h : XH} {Q : XV → XH → Prop} {X : Nat → XH → Prop} {x1 x2 : Int} (F : xFix h) (hyp : (xwp G m_M_first (d + 5) 9 [xR 53, xI x1, xI x2, xI (-1), xI 0, xZ] [] h Q X)) : xwp G m_M_first (d + 5) 4 [xR 53, xI x1, xI x2, xZ, xZ, xZ] [] h Q X := by
  have hnx9 : (93 : Int) ≤ xnx h := F.2.2
  refine xr_okL (fun hl9 => ?_)
  have r_x1 : -2147483648 ≤ x1 ∧ x1 ≤ 2147483647 := hl9 (xI x1) (.tail _ (.head _)) (Nat.le_of_ble_eq_true rfl)
  have r_x2 : -2147483648 ≤ x2 ∧ x2 ≤ 2147483647 := hl9 (xI x2) (.tail _ (.tail _ (.head _))) (Nat.le_of_ble_eq_true rfl)
  refine xr_iconst (pc := 4) (hI := d_M_first_4) (hr := by decide) ?_
  refine xr_istore_n (pc := 5) (i := 3) (L9 := [xR 53, xI x1, xI x2, xI (-1), xZ, xZ]) (hI := d_M_first_5) (hi := rfl) (hn := Nat.le_of_ble_eq_true rfl) (hL9 := rfl) ?_
  refine xr_iconst (pc := 6) (hI := d_M_first_6) (hr := by decide) ?_
  refine xr_istore (pc := 7) (i := 4) (L9 := [xR 53, xI x1, xI x2, xI (-1), xI 0, xZ]) (hI := d_M_first_7) (hn := Nat.le_of_ble_eq_true rfl) (hL9 := rfl) ?_
  exact hyp
theorem d_M_first_9 : decode prog_14_method_74_code 9 = .ok (.iload 4, 2) := by decide +kernel
theorem d_M_first_11 : decode prog_14_method_74_code 11 = .ok (.aload_n 0, 1) := by decide +kernel
theorem d_M_first_12 : decode prog_14_method_74_code 12 = .ok (.getfield 51, 3) := by decide +kernel
theorem d_M_first_15 : decode prog_14_method_74_code 15 = .ok (.getfield 271, 3) := by decide +kernel
theorem d_M_first_18 : decode prog_14_method_74_code 18 = .ok (.if_icmp .ge 53, 3) := by decide +kernel
theorem d_M_first_71 : decode prog_14_method_74_code 71 = .ok (.iload_n 3, 1) := by decide +kernel
theorem d_M_first_72 : decode prog_14_method_74_code 72 = .ok (.ireturn, 1) := by decide +kernel
theorem d_M_first_21 : decode prog_14_method_74_code 21 = .ok (.aload_n 0, 1) := by decide +kernel
theorem d_M_first_22 : decode prog_14_method_74_code 22 = .ok (.getfield 70, 3) := by decide +kernel
theorem d_M_first_25 : decode prog_14_method_74_code 25 = .ok (.aload_n 0, 1) := by decide +kernel
theorem d_M_first_26 : decode prog_14_method_74_code 26 = .ok (.iload 4, 2) := by decide +kernel
theorem d_M_first_28 : decode prog_14_method_74_code 28 = .ok (.iload_n 1, 1) := by decide +kernel
theorem d_M_first_29 : decode prog_14_method_74_code 29 = .ok (.iload_n 2, 1) := by decide +kernel
theorem d_M_first_30 : decode prog_14_method_74_code 30 = .ok (.invokevirtual 352, 3) := by decide +kernel
theorem d_M_first_33 : decode prog_14_method_74_code 33 = .ok (.iaload, 1) := by decide +kernel
theorem d_M_first_34 : decode prog_14_method_74_code 34 = .ok (.istore 5, 2) := by decide +kernel
theorem d_M_first_36 : decode prog_14_method_74_code 36 = .ok (.iload 5, 2) := by decide +kernel
theorem d_M_first_38 : decode prog_14_method_74_code 38 = .ok (.iconst (-1), 1) := by decide +kernel
theorem d_M_first_39 : decode prog_14_method_74_code 39 = .ok (.if_icmp .eq 26, 3) := by decide +kernel
theorem d_M_first_65 : decode prog_14_method_74_code 65 = .ok (.iinc 4 1, 3) := by decide +kernel
theorem d_M_first_68 : decode prog_14_method_74_code 68 = .ok (.goto (-59), 3) := by decide +kernel
theorem d_M_first_42 : decode prog_14_method_74_code 42 = .ok (.aload_n 0, 1) := by decide +kernel
theorem d_M_first_43 : decode prog_14_method_74_code 43 = .ok (.iload 4, 2) := by decide +kernel
theorem d_M_first_45 : decode prog_14_method_74_code 45 = .ok (.invokevirtual 392, 3) := by decide +kernel
theorem k_M_isDenied : xCal m_M_isDenied 1 := ⟨List.mem_append_right _ (List.mem_of_getElem? (i := 2473) (by decide +kernel)), w_15, Nat.le_of_ble_eq_true rfl, ⟨by decide +kernel, by decide +kernel⟩, by decide +kernel, by decide +kernel, rfl⟩
theorem w_2470 : Cond.methodLink "BeaconIndexModel" 392 ⟨"BeaconIndexModel", "isDenied", "(I)Z"⟩ ∈ lw_tbl := List.mem_append_right _ (List.mem_of_getElem? (i := 2470) (by decide +kernel))
theorem w_2472 : Cond.instanceMethod ⟨"BeaconIndexModel", "isDenied", "(I)Z"⟩ ∈ lw_tbl := List.mem_append_right _ (List.mem_of_getElem? (i := 2472) (by decide +kernel))
theorem sel_M_isDenied : Cond.selects "BeaconIndexModel" ⟨"BeaconIndexModel", "isDenied", "(I)Z"⟩ ⟨"BeaconIndexModel", "isDenied", "(I)Z"⟩ ∈ lw_tbl := List.mem_append_left _ (by decide +kernel)
theorem v_M_first_9 {G : XG} {d : Nat} {h : XH} {Q : XV → XH → Prop} {X : Nat → XH → Prop} {x1 x2 x3 x4 : Int} (F : xFix h) (hyp : xtg h (xpl h 53 19) = 12 ∧ (((xpl h (xpl h 53 19) 0) ≤ x4 → (Q (xI x3) h)) ∧ (¬ (xpl h (xpl h 53 19) 0) ≤ x4 → xiR (60 * x4) ∧ xiR ((60 * x4) + x1) ∧ xiR (2 * ((60 * x4) + x1)) ∧ xiR ((2 * ((60 * x4) + x1)) + x2) ∧ 0 ≤ ((2 * ((60 * x4) + x1)) + x2) ∧ ((2 * ((60 * x4) + x1)) + x2) < 4920 ∧ (((xpl h 82 ((2 * ((60 * x4) + x1)) + x2)) = (-1) → (xwp G m_M_first (d + 5) 9 [xR 53, xI x1, xI x2, xI x3, xI (x4 + 1), xZ] [] h Q X)) ∧ (¬ (xpl h 82 ((2 * ((60 * x4) + x1)) + x2)) = (-1) → (xwp G m_M_isDenied (d + 4) 0 [xR 53, xI x4, xZ] [] h (fun v9 h9 => xwp G m_M_first (d + 5) 48 [xR 53, xI x1, xI x2, xI x3, xI x4, xI (xpl h 82 ((2 * ((60 * x4) + x1)) + x2))] (xpush v9 []) h9 Q X) X)))))) : xwp G m_M_first (d + 5) 9 [xR 53, xI x1, xI x2, xI x3, xI x4, xZ] [] h Q X := by
  have hnx9 : (93 : Int) ≤ xnx h := F.2.2
  refine xr_okL (fun hl9 => ?_)
  have r_x1 : -2147483648 ≤ x1 ∧ x1 ≤ 2147483647 := hl9 (xI x1) (.tail _ (.head _)) (Nat.le_of_ble_eq_true rfl)
  have r_x2 : -2147483648 ≤ x2 ∧ x2 ≤ 2147483647 := hl9 (xI x2) (.tail _ (.tail _ (.head _))) (Nat.le_of_ble_eq_true rfl)
  have r_x3 : -2147483648 ≤ x3 ∧ x3 ≤ 2147483647 := hl9 (xI x3) (.tail _ (.tail _ (.tail _ (.head _)))) (Nat.le_of_ble_eq_true rfl)
  have r_x4 : -2147483648 ≤ x4 ∧ x4 ≤ 2147483647 := hl9 (xI x4) (.tail _ (.tail _ (.tail _ (.tail _ (.head _))))) (Nat.le_of_ble_eq_true rfl)
  refine xr_iload (pc := 9) (i := 4) (hI := d_M_first_9) (hl := rfl) ?_
  refine xr_aload_n (pc := 11) (i := 0) (hI := d_M_first_11) (hi := rfl) (hl := rfl) ?_
  refine xg_getf (pc := 12) (ci := 11) (k := 19) (N := 38) (v9 := 2) (v := (xpl h 53 19)) (T := xF11) (hI := d_M_first_12) (hw := w_1606) rfl xi11 (Or.inl rfl) (Nat.le_of_ble_eq_true rfl) (Nat.le_of_ble_eq_true rfl) rfl (ft_53 F) rfl (fun f1_ => ?_)
  clear f1_
  obtain ⟨c9, hyp⟩ := hyp
  have t2_ := c9
  clear c9
  refine xg_getfN (pc := 15) (ci := 12) (k := 0) (N := 13) (v9 := 0) (v := (xpl h (xpl h 53 19) 0)) (T := xF12) (hI := d_M_first_15) (hw := w_1536) rfl xi12 (Or.inl rfl) (Nat.le_of_ble_eq_true rfl) (Nat.le_of_ble_eq_true rfl) rfl t2_ rfl (fun f3_ => ?_)
  replace f3_ : -2147483648 ≤ (xpl h (xpl h 53 19) 0) ∧ (xpl h (xpl h 53 19) 0) ≤ 2147483647 := f3_
  refine xr_icmp_ge (pc := 18) (tgt := 71) (hI := d_M_first_18) (ht := by decide) (fun q9 => ?_) (fun q9 => ?_)
  · replace hyp := hyp.1 q9
    have q4_ := q9
    clear q9
    refine xr_iload_n (pc := 71) (i := 3) (hI := d_M_first_71) (hi := rfl) (hl := rfl) ?_
    refine xr_ireturn (S := []) (pc := 72) (hI := d_M_first_72) (hr := rfl) ?_
    exact hyp
  · replace hyp := hyp.2 q9
    have q4_ := q9
    clear q9
    refine xr_aload_n (pc := 21) (i := 0) (hI := d_M_first_21) (hi := rfl) (hl := rfl) ?_
    refine xg_getf (pc := 22) (ci := 11) (k := 28) (N := 38) (v9 := 2) (v := 82) (T := xF11) (hI := d_M_first_22) (hw := w_1615) rfl xi11 (Or.inl rfl) (Nat.le_of_ble_eq_true rfl) (Nat.le_of_ble_eq_true rfl) rfl (ft_53 F) (fp_53_28 F) (fun f5_ => ?_)
    clear f5_
    refine xr_aload_n (pc := 25) (i := 0) (hI := d_M_first_25) (hi := rfl) (hl := rfl) ?_
    refine xr_iload (pc := 26) (i := 4) (hI := d_M_first_26) (hl := rfl) ?_
    refine xr_iload_n (pc := 28) (i := 1) (hI := d_M_first_28) (hi := rfl) (hl := rfl) ?_
    refine xr_iload_n (pc := 29) (i := 2) (hI := d_M_first_29) (hi := rfl) (hl := rfl) ?_
    refine xq_callV (pc := 30) (index := 352) (K := m_M_cellOf) (As := [xI x4, xI x1, xI x2]) (S := [xR 82]) (L0 := [xR 53, xI x4, xI x1, xI x2]) (hI := d_M_first_30) (hK := k_M_cellOf) (hlk := w_2381) (hnoM := rfl) (hS8 := Nat.le_of_ble_eq_true rfl) (ci := 11) (N := 38) (C := "BeaconIndexModel") (T := xF11) (hc := rfl) (hci := Nat.le_of_ble_eq_true rfl) (htb := (ft_53 F)) (hinst := w_2383) (hsel := sel_M_cellOf) (hlen := Nat.le_of_ble_eq_true rfl) (hst := rfl) (hL0 := rfl)  ?_
    refine xr_iconst (pc := 0) (hI := d_M_cellOf_0) (hr := by decide) ?_
    refine xr_bipush (pc := 1) (hI := d_M_cellOf_1) (hr := by decide) (hv := by decide) ?_
    refine xr_iload_n (pc := 3) (i := 1) (hI := d_M_cellOf_3) (hi := rfl) (hl := rfl) ?_
    obtain ⟨c9, hyp⟩ := hyp
    refine xr_imul (pc := 4) (hI := d_M_cellOf_4) (hr := c9) ?_
    refine xr_iload_n (pc := 5) (i := 2) (hI := d_M_cellOf_5) (hi := rfl) (hl := rfl) ?_
    obtain ⟨c9, hyp⟩ := hyp
    refine xr_iadd (pc := 6) (hI := d_M_cellOf_6) (hr := c9) ?_
    obtain ⟨c9, hyp⟩ := hyp
    refine xr_imul (pc := 7) (hI := d_M_cellOf_7) (hr := c9) ?_
    refine xr_iload_n (pc := 8) (i := 3) (hI := d_M_cellOf_8) (hi := rfl) (hl := rfl) ?_
    obtain ⟨c9, hyp⟩ := hyp
    refine xr_iadd (pc := 9) (hI := d_M_cellOf_9) (hr := c9) ?_
    refine xr_ireturn (S := []) (pc := 10) (hI := d_M_cellOf_10) (hr := rfl) ?_
    show xwp G m_M_first (d + 5) 33 [xR 53, xI x1, xI x2, xI x3, xI x4, xZ] [xI ((2 * ((60 * x4) + x1)) + x2), xR 82] _ _ _
    obtain ⟨c6_, hyp⟩ := hyp
    obtain ⟨c7_, hyp⟩ := hyp
    refine xg_iaload (pc := 33) (v := (xpl h 82 ((2 * ((60 * x4) + x1)) + x2))) (hI := d_M_first_33) (ft_82 F) c6_ (xlt_of (fl_82 F) c7_) rfl (fun f8_ => ?_)
    replace f8_ : -2147483648 ≤ (xpl h 82 ((2 * ((60 * x4) + x1)) + x2)) ∧ (xpl h 82 ((2 * ((60 * x4) + x1)) + x2)) ≤ 2147483647 := f8_
    refine xr_istore (pc := 34) (i := 5) (L9 := [xR 53, xI x1, xI x2, xI x3, xI x4, xI (xpl h 82 ((2 * ((60 * x4) + x1)) + x2))]) (hI := d_M_first_34) (hn := Nat.le_of_ble_eq_true rfl) (hL9 := rfl) ?_
    refine xr_iload (pc := 36) (i := 5) (hI := d_M_first_36) (hl := rfl) ?_
    refine xr_iconst (pc := 38) (hI := d_M_first_38) (hr := by decide) ?_
    refine xr_icmp_eq (pc := 39) (tgt := 65) (hI := d_M_first_39) (ht := by decide) (fun q9 => ?_) (fun q9 => ?_)
    · replace hyp := hyp.1 q9
      have q9_ := q9
      clear q9
      refine xr_iinc (pc := 65) (i := 4) (L9 := [xR 53, xI x1, xI x2, xI x3, xI (x4 + 1), xI (xpl h 82 ((2 * ((60 * x4) + x1)) + x2))]) (hI := d_M_first_65) (hl := rfl) (hn := Nat.le_of_ble_eq_true rfl) (hr := ⟨by clear hyp; omega, by clear hyp; omega⟩) (hL9 := rfl) ?_
      refine xr_goto (pc := 68) (tgt := 9) (hI := d_M_first_68) (ht := by decide) ?_
      exact xr_drop (L9 := [xR 53, xI x1, xI x2, xI x3, xI (x4 + 1), xZ]) (xdrs (xdrs (xdrs (xdrs (xdrs (xdrz xdr0)))))) hyp
    · replace hyp := hyp.2 q9
      have q9_ := q9
      clear q9
      refine xr_aload_n (pc := 42) (i := 0) (hI := d_M_first_42) (hi := rfl) (hl := rfl) ?_
      refine xr_iload (pc := 43) (i := 4) (hI := d_M_first_43) (hl := rfl) ?_
      exact xq_callV (pc := 45) (index := 392) (K := m_M_isDenied) (As := [xI x4]) (S := []) (L0 := [xR 53, xI x4, xZ]) (hI := d_M_first_45) (hK := k_M_isDenied) (hlk := w_2470) (hnoM := rfl) (hS8 := Nat.le_of_ble_eq_true rfl) (ci := 11) (N := 38) (C := "BeaconIndexModel") (T := xF11) (hc := rfl) (hci := Nat.le_of_ble_eq_true rfl) (htb := (ft_53 F)) (hinst := w_2472) (hsel := sel_M_isDenied) (hlen := Nat.le_of_ble_eq_true rfl) (hst := rfl) (hL0 := rfl)  hyp
theorem d_M_first_48 : decode prog_14_method_74_code 48 = .ok (.ifCond .ne 17, 3) := by decide +kernel
theorem d_M_first_51 : decode prog_14_method_74_code 51 = .ok (.iload_n 3, 1) := by decide +kernel
theorem d_M_first_52 : decode prog_14_method_74_code 52 = .ok (.iconst (-1), 1) := by decide +kernel
theorem d_M_first_53 : decode prog_14_method_74_code 53 = .ok (.if_icmp .eq 9, 3) := by decide +kernel
theorem d_M_first_62 : decode prog_14_method_74_code 62 = .ok (.iload 5, 2) := by decide +kernel
theorem d_M_first_64 : decode prog_14_method_74_code 64 = .ok (.istore_n 3, 1) := by decide +kernel
theorem d_M_first_56 : decode prog_14_method_74_code 56 = .ok (.iload 5, 2) := by decide +kernel
theorem d_M_first_58 : decode prog_14_method_74_code 58 = .ok (.iload_n 3, 1) := by decide +kernel
theorem d_M_first_59 : decode prog_14_method_74_code 59 = .ok (.if_icmp .ge 6, 3) := by decide +kernel
theorem v_M_first_48 {G : XG} {d : Nat} {h : XH} {Q : XV → XH → Prop} {X : Nat → XH → Prop} {x1 x2 x3 x4 x5 s0 : Int} (F : xFix h) (hyp : ((s0 = 0 → ((x3 = (-1) → xiR (x4 + 1) ∧ (xwp G m_M_first (d + 5) 9 [xR 53, xI x1, xI x2, xI x5, xI (x4 + 1), xZ] [] h Q X)) ∧ (¬ x3 = (-1) → ((x3 ≤ x5 → xiR (x4 + 1) ∧ (xwp G m_M_first (d + 5) 9 [xR 53, xI x1, xI x2, xI x3, xI (x4 + 1), xZ] [] h Q X)) ∧ (¬ x3 ≤ x5 → xiR (x4 + 1) ∧ (xwp G m_M_first (d + 5) 9 [xR 53, xI x1, xI x2, xI x5, xI (x4 + 1), xZ] [] h Q X)))))) ∧ (¬ s0 = 0 → xiR (x4 + 1) ∧ (xwp G m_M_first (d + 5) 9 [xR 53, xI x1, xI x2, xI x3, xI (x4 + 1), xZ] [] h Q X)))) : xwp G m_M_first (d + 5) 48 [xR 53, xI x1, xI x2, xI x3, xI x4, xI x5] [xI s0] h Q X := by
  have hnx9 : (93 : Int) ≤ xnx h := F.2.2
  refine xr_okL (fun hl9 => ?_)
  have r_x1 : -2147483648 ≤ x1 ∧ x1 ≤ 2147483647 := hl9 (xI x1) (.tail _ (.head _)) (Nat.le_of_ble_eq_true rfl)
  have r_x2 : -2147483648 ≤ x2 ∧ x2 ≤ 2147483647 := hl9 (xI x2) (.tail _ (.tail _ (.head _))) (Nat.le_of_ble_eq_true rfl)
  have r_x3 : -2147483648 ≤ x3 ∧ x3 ≤ 2147483647 := hl9 (xI x3) (.tail _ (.tail _ (.tail _ (.head _)))) (Nat.le_of_ble_eq_true rfl)
  have r_x4 : -2147483648 ≤ x4 ∧ x4 ≤ 2147483647 := hl9 (xI x4) (.tail _ (.tail _ (.tail _ (.tail _ (.head _))))) (Nat.le_of_ble_eq_true rfl)
  have r_x5 : -2147483648 ≤ x5 ∧ x5 ≤ 2147483647 := hl9 (xI x5) (.tail _ (.tail _ (.tail _ (.tail _ (.tail _ (.head _)))))) (Nat.le_of_ble_eq_true rfl)
  refine xr_okS (fun hs9 => ?_)
  have r_s0 : -2147483648 ≤ s0 ∧ s0 ≤ 2147483647 := hs9 (xI s0) (.head _)
  refine xr_if_ne (pc := 48) (tgt := 65) (hI := d_M_first_48) (ht := by decide) (fun q9 => ?_) (fun q9 => ?_)
  · replace hyp := hyp.2 q9
    have q1_ := q9
    clear q9
    obtain ⟨c9, hyp⟩ := hyp
    refine xr_iinc (pc := 65) (i := 4) (L9 := [xR 53, xI x1, xI x2, xI x3, xI (x4 + 1), xI x5]) (hI := d_M_first_65) (hl := rfl) (hn := Nat.le_of_ble_eq_true rfl) (hr := c9) (hL9 := rfl) ?_
    refine xr_goto (pc := 68) (tgt := 9) (hI := d_M_first_68) (ht := by decide) ?_
    exact xr_drop (L9 := [xR 53, xI x1, xI x2, xI x3, xI (x4 + 1), xZ]) (xdrs (xdrs (xdrs (xdrs (xdrs (xdrz xdr0)))))) hyp
  · replace hyp := hyp.1 q9
    have q1_ := q9
    clear q9
    refine xr_iload_n (pc := 51) (i := 3) (hI := d_M_first_51) (hi := rfl) (hl := rfl) ?_
    refine xr_iconst (pc := 52) (hI := d_M_first_52) (hr := by decide) ?_
    refine xr_icmp_eq (pc := 53) (tgt := 62) (hI := d_M_first_53) (ht := by decide) (fun q9 => ?_) (fun q9 => ?_)
    · replace hyp := hyp.1 q9
      have q2_ := q9
      clear q9
      refine xr_iload (pc := 62) (i := 5) (hI := d_M_first_62) (hl := rfl) ?_
      refine xr_istore_n (pc := 64) (i := 3) (L9 := [xR 53, xI x1, xI x2, xI x5, xI x4, xI x5]) (hI := d_M_first_64) (hi := rfl) (hn := Nat.le_of_ble_eq_true rfl) (hL9 := rfl) ?_
      obtain ⟨c9, hyp⟩ := hyp
      refine xr_iinc (pc := 65) (i := 4) (L9 := [xR 53, xI x1, xI x2, xI x5, xI (x4 + 1), xI x5]) (hI := d_M_first_65) (hl := rfl) (hn := Nat.le_of_ble_eq_true rfl) (hr := c9) (hL9 := rfl) ?_
      refine xr_goto (pc := 68) (tgt := 9) (hI := d_M_first_68) (ht := by decide) ?_
      exact xr_drop (L9 := [xR 53, xI x1, xI x2, xI x5, xI (x4 + 1), xZ]) (xdrs (xdrs (xdrs (xdrs (xdrs (xdrz xdr0)))))) hyp
    · replace hyp := hyp.2 q9
      have q2_ := q9
      clear q9
      refine xr_iload (pc := 56) (i := 5) (hI := d_M_first_56) (hl := rfl) ?_
      refine xr_iload_n (pc := 58) (i := 3) (hI := d_M_first_58) (hi := rfl) (hl := rfl) ?_
      refine xr_icmp_ge (pc := 59) (tgt := 65) (hI := d_M_first_59) (ht := by decide) (fun q9 => ?_) (fun q9 => ?_)
      · replace hyp := hyp.1 q9
        have q3_ := q9
        clear q9
        obtain ⟨c9, hyp⟩ := hyp
        refine xr_iinc (pc := 65) (i := 4) (L9 := [xR 53, xI x1, xI x2, xI x3, xI (x4 + 1), xI x5]) (hI := d_M_first_65) (hl := rfl) (hn := Nat.le_of_ble_eq_true rfl) (hr := c9) (hL9 := rfl) ?_
        refine xr_goto (pc := 68) (tgt := 9) (hI := d_M_first_68) (ht := by decide) ?_
        exact xr_drop (L9 := [xR 53, xI x1, xI x2, xI x3, xI (x4 + 1), xZ]) (xdrs (xdrs (xdrs (xdrs (xdrs (xdrz xdr0)))))) hyp
      · replace hyp := hyp.2 q9
        have q3_ := q9
        clear q9
        refine xr_iload (pc := 62) (i := 5) (hI := d_M_first_62) (hl := rfl) ?_
        refine xr_istore_n (pc := 64) (i := 3) (L9 := [xR 53, xI x1, xI x2, xI x5, xI x4, xI x5]) (hI := d_M_first_64) (hi := rfl) (hn := Nat.le_of_ble_eq_true rfl) (hL9 := rfl) ?_
        obtain ⟨c9, hyp⟩ := hyp
        refine xr_iinc (pc := 65) (i := 4) (L9 := [xR 53, xI x1, xI x2, xI x5, xI (x4 + 1), xI x5]) (hI := d_M_first_65) (hl := rfl) (hn := Nat.le_of_ble_eq_true rfl) (hr := c9) (hL9 := rfl) ?_
        refine xr_goto (pc := 68) (tgt := 9) (hI := d_M_first_68) (ht := by decide) ?_
        exact xr_drop (L9 := [xR 53, xI x1, xI x2, xI x5, xI (x4 + 1), xZ]) (xdrs (xdrs (xdrs (xdrs (xdrs (xdrz xdr0)))))) hyp

end
