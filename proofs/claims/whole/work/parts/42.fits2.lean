/-! ===== fits2 ===== -/
section
abbrev m_Fits_meanLength : XM := (⟨"BeaconIndex$Fits", "meanLength", "(Ljava/util/ArrayList;I)I"⟩, prog_3_method_4_code, 4, (some .int), [])
theorem d_Fits_meanLength_0 : decode prog_3_method_4_code 0 = .ok (.aload_n 0, 1) := by decide +kernel
theorem d_Fits_meanLength_1 : decode prog_3_method_4_code 1 = .ok (.invokevirtual 71, 3) := by decide +kernel
theorem w_606 : Cond.methodLink "BeaconIndex$Fits" 71 ⟨"java/util/ArrayList", "isEmpty", "()Z"⟩ ∈ lw_tbl := List.mem_append_right _ (List.mem_of_getElem? (i := 606) (by decide +kernel))
theorem d_Fits_meanLength_4 : decode prog_3_method_4_code 4 = .ok (.ifCond .eq 5, 3) := by decide +kernel
theorem d_Fits_meanLength_9 : decode prog_3_method_4_code 9 = .ok (.iconst 0, 1) := by decide +kernel
theorem d_Fits_meanLength_10 : decode prog_3_method_4_code 10 = .ok (.istore_n 2, 1) := by decide +kernel
theorem d_Fits_meanLength_11 : decode prog_3_method_4_code 11 = .ok (.iconst 0, 1) := by decide +kernel
theorem d_Fits_meanLength_12 : decode prog_3_method_4_code 12 = .ok (.istore_n 3, 1) := by decide +kernel
theorem d_Fits_meanLength_7 : decode prog_3_method_4_code 7 = .ok (.iconst 1, 1) := by decide +kernel
theorem d_Fits_meanLength_8 : decode prog_3_method_4_code 8 = .ok (.ireturn, 1) := by decide +kernel
theorem v_Fits_meanLength_0 {G : XG} {d : Nat} {h : XH} {Q : XV → XH → Prop} {X : Nat → XH → Prop} {x0 x1 : Int} (F : xFix h) (hyp : xtg h x0 = 13 ∧ alok h x0 ∧ ((((decide (als h x0 = 0)) = true) → (Q (xI 1) h)) ∧ (¬ ((decide (als h x0 = 0)) = true) → (xwp G m_Fits_meanLength (d + 4) 13 [xR x0, xI x1, xI 0, xI 0] [] h Q X)))) : xwp G m_Fits_meanLength (d + 4) 0 [xR x0, xI x1, xZ, xZ] [] h Q X := by
  have hnx9 : (93 : Int) ≤ xnx h := F.2.2
  refine xr_okL (fun hl9 => ?_)
  have r_x1 : -2147483648 ≤ x1 ∧ x1 ≤ 2147483647 := hl9 (xI x1) (.tail _ (.head _)) (Nat.le_of_ble_eq_true rfl)
  refine xr_aload_n (pc := 0) (i := 0) (hI := d_Fits_meanLength_0) (hi := rfl) (hl := rfl) ?_
  obtain ⟨c9, hyp⟩ := hyp
  have t1_ := c9
  clear c9
  obtain ⟨c2_, hyp⟩ := hyp
  refine xq_callV (pc := 1) (index := 71) (K := m_ArrayList_isEmpty) (As := []) (S := []) (L0 := [xR x0]) (hI := d_Fits_meanLength_1) (hK := k_ArrayList_isEmpty) (hlk := w_606) (hnoM := rfl) (hS8 := Nat.le_of_ble_eq_true rfl) (ci := 13) (N := 3) (C := "java/util/ArrayList") (T := xF13) (hc := rfl) (hci := Nat.le_of_ble_eq_true rfl) (htb := t1_) (hinst := w_461) (hsel := w_462) (hlen := Nat.le_of_ble_eq_true rfl) (hst := rfl) (hL0 := rfl)  (p_AL_isEmpty F c2_ ?_)
  show xwp G m_Fits_meanLength (d + 4) 4 [xR x0, xI x1, xZ, xZ] [xI (b2i (decide (als h x0 = 0)))] _ _ _
  refine xr_if_eq (pc := 4) (tgt := 9) (hI := d_Fits_meanLength_4) (ht := by decide) (fun q9 => ?_) (fun q9 => ?_)
  · replace hyp := hyp.2 (b2i_0.mp q9)
    have q3_ := b2i_0.mp q9
    clear q9
    refine xr_iconst (pc := 9) (hI := d_Fits_meanLength_9) (hr := by decide) ?_
    refine xr_istore_n (pc := 10) (i := 2) (L9 := [xR x0, xI x1, xI 0, xZ]) (hI := d_Fits_meanLength_10) (hi := rfl) (hn := Nat.le_of_ble_eq_true rfl) (hL9 := rfl) ?_
    refine xr_iconst (pc := 11) (hI := d_Fits_meanLength_11) (hr := by decide) ?_
    refine xr_istore_n (pc := 12) (i := 3) (L9 := [xR x0, xI x1, xI 0, xI 0]) (hI := d_Fits_meanLength_12) (hi := rfl) (hn := Nat.le_of_ble_eq_true rfl) (hL9 := rfl) ?_
    exact hyp
  · replace hyp := hyp.1 (b2i_1.mp q9)
    have q3_ := b2i_1.mp q9
    clear q9
    refine xr_iconst (pc := 7) (hI := d_Fits_meanLength_7) (hr := by decide) ?_
    refine xr_ireturn (S := []) (pc := 8) (hI := d_Fits_meanLength_8) (hr := rfl) ?_
    exact hyp
theorem d_Fits_meanLength_13 : decode prog_3_method_4_code 13 = .ok (.iload_n 3, 1) := by decide +kernel
theorem d_Fits_meanLength_14 : decode prog_3_method_4_code 14 = .ok (.aload_n 0, 1) := by decide +kernel
theorem d_Fits_meanLength_15 : decode prog_3_method_4_code 15 = .ok (.invokevirtual 38, 3) := by decide +kernel
theorem w_607 : Cond.methodLink "BeaconIndex$Fits" 38 ⟨"java/util/ArrayList", "size", "()I"⟩ ∈ lw_tbl := List.mem_append_right _ (List.mem_of_getElem? (i := 607) (by decide +kernel))
theorem d_Fits_meanLength_18 : decode prog_3_method_4_code 18 = .ok (.if_icmp .ge 25, 3) := by decide +kernel
theorem d_Fits_meanLength_43 : decode prog_3_method_4_code 43 = .ok (.iconst 1, 1) := by decide +kernel
theorem d_Fits_meanLength_44 : decode prog_3_method_4_code 44 = .ok (.iload_n 2, 1) := by decide +kernel
theorem d_Fits_meanLength_45 : decode prog_3_method_4_code 45 = .ok (.aload_n 0, 1) := by decide +kernel
theorem d_Fits_meanLength_46 : decode prog_3_method_4_code 46 = .ok (.invokevirtual 38, 3) := by decide +kernel
theorem d_Fits_meanLength_49 : decode prog_3_method_4_code 49 = .ok (.idiv, 1) := by decide +kernel
theorem d_Fits_meanLength_50 : decode prog_3_method_4_code 50 = .ok (.invokestatic 81, 3) := by decide +kernel
theorem d_Fits_meanLength_53 : decode prog_3_method_4_code 53 = .ok (.ireturn, 1) := by decide +kernel
theorem d_Fits_meanLength_21 : decode prog_3_method_4_code 21 = .ok (.iload_n 2, 1) := by decide +kernel
theorem d_Fits_meanLength_22 : decode prog_3_method_4_code 22 = .ok (.aload_n 0, 1) := by decide +kernel
theorem d_Fits_meanLength_23 : decode prog_3_method_4_code 23 = .ok (.iload_n 3, 1) := by decide +kernel
theorem d_Fits_meanLength_24 : decode prog_3_method_4_code 24 = .ok (.invokevirtual 44, 3) := by decide +kernel
theorem w_608 : Cond.methodLink "BeaconIndex$Fits" 44 ⟨"java/util/ArrayList", "get", "(I)Ljava/lang/Object;"⟩ ∈ lw_tbl := List.mem_append_right _ (List.mem_of_getElem? (i := 608) (by decide +kernel))
theorem d_Fits_meanLength_27 : decode prog_3_method_4_code 27 = .ok (.checkcast 75, 3) := by decide +kernel
theorem w_609 : Cond.classLink "BeaconIndex$Fits" 75 "BeaconIndex$Text" ∈ lw_tbl := List.mem_append_right _ (List.mem_of_getElem? (i := 609) (by decide +kernel))
theorem d_Fits_meanLength_30 : decode prog_3_method_4_code 30 = .ok (.iload_n 1, 1) := by decide +kernel
theorem d_Fits_meanLength_31 : decode prog_3_method_4_code 31 = .ok (.invokevirtual 77, 3) := by decide +kernel
theorem w_610 : Cond.methodLink "BeaconIndex$Fits" 77 ⟨"BeaconIndex$Text", "row", "(I)[J"⟩ ∈ lw_tbl := List.mem_append_right _ (List.mem_of_getElem? (i := 610) (by decide +kernel))
theorem d_Fits_meanLength_34 : decode prog_3_method_4_code 34 = .ok (.arraylength, 1) := by decide +kernel
theorem d_Fits_meanLength_35 : decode prog_3_method_4_code 35 = .ok (.iadd, 1) := by decide +kernel
theorem d_Fits_meanLength_36 : decode prog_3_method_4_code 36 = .ok (.istore_n 2, 1) := by decide +kernel
theorem d_Fits_meanLength_37 : decode prog_3_method_4_code 37 = .ok (.iinc 3 1, 3) := by decide +kernel
theorem d_Fits_meanLength_40 : decode prog_3_method_4_code 40 = .ok (.goto (-27), 3) := by decide +kernel
theorem v_Fits_meanLength_13 {G : XG} {d : Nat} {h : XH} {Q : XV → XH → Prop} {X : Nat → XH → Prop} {x0 x1 x2 x3 : Int} (F : xFix h) (hyp : xtg h x0 = 13 ∧ alok h x0 ∧ (((als h x0) ≤ x3 → (0 : Int) < (als h x0) ∧ (Q (xI (max 1 (Int.tdiv x2 (als h x0)))) h)) ∧ (¬ (als h x0) ≤ x3 → 0 ≤ x3 ∧ xtg h (alg h x0 x3) = 9 ∧ xtg h (txr h (alg h x0 x3) x1) = 101 ∧ xiR (x2 + (xln h (txr h (alg h x0 x3) x1))) ∧ (xwp G m_Fits_meanLength (d + 4) 13 [xR x0, xI x1, xI (x2 + (xln h (txr h (alg h x0 x3) x1))), xI (x3 + 1)] [] h Q X)))) : xwp G m_Fits_meanLength (d + 4) 13 [xR x0, xI x1, xI x2, xI x3] [] h Q X := by
  have hnx9 : (93 : Int) ≤ xnx h := F.2.2
  refine xr_okL (fun hl9 => ?_)
  have r_x1 : -2147483648 ≤ x1 ∧ x1 ≤ 2147483647 := hl9 (xI x1) (.tail _ (.head _)) (Nat.le_of_ble_eq_true rfl)
  have r_x2 : -2147483648 ≤ x2 ∧ x2 ≤ 2147483647 := hl9 (xI x2) (.tail _ (.tail _ (.head _))) (Nat.le_of_ble_eq_true rfl)
  have r_x3 : -2147483648 ≤ x3 ∧ x3 ≤ 2147483647 := hl9 (xI x3) (.tail _ (.tail _ (.tail _ (.head _)))) (Nat.le_of_ble_eq_true rfl)
  refine xr_iload_n (pc := 13) (i := 3) (hI := d_Fits_meanLength_13) (hi := rfl) (hl := rfl) ?_
  refine xr_aload_n (pc := 14) (i := 0) (hI := d_Fits_meanLength_14) (hi := rfl) (hl := rfl) ?_
  obtain ⟨c9, hyp⟩ := hyp
  have t1_ := c9
  clear c9
  obtain ⟨c2_, hyp⟩ := hyp
  refine xq_callV (pc := 15) (index := 38) (K := m_ArrayList_size) (As := []) (S := [xI x3]) (L0 := [xR x0]) (hI := d_Fits_meanLength_15) (hK := k_ArrayList_size) (hlk := w_607) (hnoM := rfl) (hS8 := Nat.le_of_ble_eq_true rfl) (ci := 13) (N := 3) (C := "java/util/ArrayList") (T := xF13) (hc := rfl) (hci := Nat.le_of_ble_eq_true rfl) (htb := t1_) (hinst := w_465) (hsel := w_466) (hlen := Nat.le_of_ble_eq_true rfl) (hst := rfl) (hL0 := rfl)  (p_AL_size F c2_ ?_)
  show xwp G m_Fits_meanLength (d + 4) 18 [xR x0, xI x1, xI x2, xI x3] [xI (als h x0), xI x3] _ _ _
  have f3_ : 0 ≤ (als h x0) ∧ (als h x0) ≤ 1000000 := ⟨c2_.2.2.1, c2_.2.2.2.2⟩
  refine xr_icmp_ge (pc := 18) (tgt := 43) (hI := d_Fits_meanLength_18) (ht := by decide) (fun q9 => ?_) (fun q9 => ?_)
  · replace hyp := hyp.1 q9
    have q4_ := q9
    clear q9
    refine xr_iconst (pc := 43) (hI := d_Fits_meanLength_43) (hr := by decide) ?_
    refine xr_iload_n (pc := 44) (i := 2) (hI := d_Fits_meanLength_44) (hi := rfl) (hl := rfl) ?_
    refine xr_aload_n (pc := 45) (i := 0) (hI := d_Fits_meanLength_45) (hi := rfl) (hl := rfl) ?_
    refine xq_callV (pc := 46) (index := 38) (K := m_ArrayList_size) (As := []) (S := [xI x2, xI 1]) (L0 := [xR x0]) (hI := d_Fits_meanLength_46) (hK := k_ArrayList_size) (hlk := w_607) (hnoM := rfl) (hS8 := Nat.le_of_ble_eq_true rfl) (ci := 13) (N := 3) (C := "java/util/ArrayList") (T := xF13) (hc := rfl) (hci := Nat.le_of_ble_eq_true rfl) (htb := t1_) (hinst := w_465) (hsel := w_466) (hlen := Nat.le_of_ble_eq_true rfl) (hst := rfl) (hL0 := rfl)  (p_AL_size F c2_ ?_)
    show xwp G m_Fits_meanLength (d + 4) 49 [xR x0, xI x1, xI x2, xI x3] [xI (als h x0), xI x2, xI 1] _ _ _
    have f5_ : 0 ≤ (als h x0) ∧ (als h x0) ≤ 1000000 := ⟨c2_.2.2.1, c2_.2.2.2.2⟩
    obtain ⟨c9, hyp⟩ := hyp
    refine xr_idiv (pc := 49) (hI := d_Fits_meanLength_49) (h0 := c9) ?_
    refine xr_mmax (pc := 50) (index := 81) (hI := d_Fits_meanLength_50) w_614 w_502 w_25 w_mmax (Nat.le_add_left_of_le (by decide)) (Nat.le_of_ble_eq_true rfl) ?_
    have f6_ : 1 ≤ (max 1 (Int.tdiv x2 (als h x0))) := (by clear hyp; omega)
    have f7_ : (Int.tdiv x2 (als h x0)) ≤ (max 1 (Int.tdiv x2 (als h x0))) := (by clear hyp; omega)
    refine xr_ireturn (S := []) (pc := 53) (hI := d_Fits_meanLength_53) (hr := rfl) ?_
    exact hyp
  · replace hyp := hyp.2 q9
    have q4_ := q9
    clear q9
    refine xr_iload_n (pc := 21) (i := 2) (hI := d_Fits_meanLength_21) (hi := rfl) (hl := rfl) ?_
    refine xr_aload_n (pc := 22) (i := 0) (hI := d_Fits_meanLength_22) (hi := rfl) (hl := rfl) ?_
    refine xr_iload_n (pc := 23) (i := 3) (hI := d_Fits_meanLength_23) (hi := rfl) (hl := rfl) ?_
    obtain ⟨c8_, hyp⟩ := hyp
    refine xq_callV (pc := 24) (index := 44) (K := m_ArrayList_get) (As := [xI x3]) (S := [xI x2]) (L0 := [xR x0, xI x3]) (hI := d_Fits_meanLength_24) (hK := k_ArrayList_get) (hlk := w_608) (hnoM := rfl) (hS8 := Nat.le_of_ble_eq_true rfl) (ci := 13) (N := 3) (C := "java/util/ArrayList") (T := xF13) (hc := rfl) (hci := Nat.le_of_ble_eq_true rfl) (htb := t1_) (hinst := w_469) (hsel := w_470) (hlen := Nat.le_of_ble_eq_true rfl) (hst := rfl) (hL0 := rfl)  (p_AL_get F c2_ c8_ (by clear hyp; omega) ?_)
    show xwp G m_Fits_meanLength (d + 4) 27 [xR x0, xI x1, xI x2, xI x3] [xR (alg h x0 x3), xI x2] _ _ _
    obtain ⟨c9, hyp⟩ := hyp
    have t9_ := c9
    clear c9
    refine xr_cast (pc := 27) (ci := 9) (T := xF9) (N := 6) (hI := d_Fits_meanLength_27) w_609 rfl (Nat.le_of_ble_eq_true rfl) t9_ ?_
    refine xr_iload_n (pc := 30) (i := 1) (hI := d_Fits_meanLength_30) (hi := rfl) (hl := rfl) ?_
    refine xq_callV (pc := 31) (index := 77) (K := m_Text_row) (As := [xI x1]) (S := [xI x2]) (L0 := [xR (alg h x0 x3), xI x1]) (hI := d_Fits_meanLength_31) (hK := k_Text_row) (hlk := w_610) (hnoM := rfl) (hS8 := Nat.le_of_ble_eq_true rfl) (ci := 9) (N := 6) (C := "BeaconIndex$Text") (T := xF9) (hc := rfl) (hci := Nat.le_of_ble_eq_true rfl) (htb := t9_) (hinst := w_611) (hsel := w_612) (hlen := Nat.le_of_ble_eq_true rfl) (hst := rfl) (hL0 := rfl)  (p_Text_row F t9_ ?_)
    show xwp G m_Fits_meanLength (d + 4) 34 [xR x0, xI x1, xI x2, xI x3] [xR (txr h (alg h x0 x3) x1), xI x2] _ _ _
    obtain ⟨c9, hyp⟩ := hyp
    have t10_ := c9
    clear c9
    refine xg_alen (pc := 34) (t := 101) (v := (xln h (txr h (alg h x0 x3) x1))) (hI := d_Fits_meanLength_34) t10_ (Nat.le_of_ble_eq_true rfl) (Nat.le_of_ble_eq_true rfl) rfl rfl (fun f11_ f12_ => ?_)
    obtain ⟨c9, hyp⟩ := hyp
    refine xr_iadd (pc := 35) (hI := d_Fits_meanLength_35) (hr := c9) ?_
    refine xr_istore_n (pc := 36) (i := 2) (L9 := [xR x0, xI x1, xI (x2 + (xln h (txr h (alg h x0 x3) x1))), xI x3]) (hI := d_Fits_meanLength_36) (hi := rfl) (hn := Nat.le_of_ble_eq_true rfl) (hL9 := rfl) ?_
    refine xr_iinc (pc := 37) (i := 3) (L9 := [xR x0, xI x1, xI (x2 + (xln h (txr h (alg h x0 x3) x1))), xI (x3 + 1)]) (hI := d_Fits_meanLength_37) (hl := rfl) (hn := Nat.le_of_ble_eq_true rfl) (hr := ⟨by clear hyp; omega, by clear hyp; omega⟩) (hL9 := rfl) ?_
    refine xr_goto (pc := 40) (tgt := 13) (hI := d_Fits_meanLength_40) (ht := by decide) ?_
    exact hyp
abbrev m_Fits_fillPart : XM := (⟨"BeaconIndex$Fits", "fillPart", "(LBeaconIndex$Part;ILjava/util/ArrayList;)I"⟩, prog_3_method_5_code, 6, (some .int), [])
theorem d_Fits_fillPart_0 : decode prog_3_method_5_code 0 = .ok (.iconst 0, 1) := by decide +kernel
theorem d_Fits_fillPart_1 : decode prog_3_method_5_code 1 = .ok (.istore 4, 2) := by decide +kernel
theorem d_Fits_fillPart_3 : decode prog_3_method_5_code 3 = .ok (.iconst 0, 1) := by decide +kernel
theorem d_Fits_fillPart_4 : decode prog_3_method_5_code 4 = .ok (.istore 5, 2) := by decide +kernel
theorem v_Fits_fillPart_0 {G : XG} {d : Nat} {h : XH} {Q : XV → XH → Prop} {X : Nat → XH → Prop} {x1 x2 x3 : Int} (F : xFix h) (hyp : (xwp G m_Fits_fillPart (d + 5) 6 [xR 41, xR x1, xI x2, xR x3, xI 0, xI 0] [] h Q X)) : xwp G m_Fits_fillPart (d + 5) 0 [xR 41, xR x1, xI x2, xR x3, xZ, xZ] [] h Q X := by
  have hnx9 : (93 : Int) ≤ xnx h := F.2.2
  refine xr_okL (fun hl9 => ?_)
  have r_x2 : -2147483648 ≤ x2 ∧ x2 ≤ 2147483647 := hl9 (xI x2) (.tail _ (.tail _ (.head _))) (Nat.le_of_ble_eq_true rfl)
  refine xr_iconst (pc := 0) (hI := d_Fits_fillPart_0) (hr := by decide) ?_
  refine xr_istore (pc := 1) (i := 4) (L9 := [xR 41, xR x1, xI x2, xR x3, xI 0, xZ]) (hI := d_Fits_fillPart_1) (hn := Nat.le_of_ble_eq_true rfl) (hL9 := rfl) ?_
  refine xr_iconst (pc := 3) (hI := d_Fits_fillPart_3) (hr := by decide) ?_
  refine xr_istore (pc := 4) (i := 5) (L9 := [xR 41, xR x1, xI x2, xR x3, xI 0, xI 0]) (hI := d_Fits_fillPart_4) (hn := Nat.le_of_ble_eq_true rfl) (hL9 := rfl) ?_
  exact hyp
theorem d_Fits_fillPart_6 : decode prog_3_method_5_code 6 = .ok (.iload 5, 2) := by decide +kernel
theorem d_Fits_fillPart_8 : decode prog_3_method_5_code 8 = .ok (.aload_n 3, 1) := by decide +kernel
theorem d_Fits_fillPart_9 : decode prog_3_method_5_code 9 = .ok (.invokevirtual 38, 3) := by decide +kernel
theorem d_Fits_fillPart_12 : decode prog_3_method_5_code 12 = .ok (.if_icmp .ge 110, 3) := by decide +kernel
theorem d_Fits_fillPart_122 : decode prog_3_method_5_code 122 = .ok (.iload 4, 2) := by decide +kernel
theorem d_Fits_fillPart_124 : decode prog_3_method_5_code 124 = .ok (.ireturn, 1) := by decide +kernel
theorem d_Fits_fillPart_15 : decode prog_3_method_5_code 15 = .ok (.iload 5, 2) := by decide +kernel
theorem d_Fits_fillPart_17 : decode prog_3_method_5_code 17 = .ok (.bipush 60, 2) := by decide +kernel
theorem d_Fits_fillPart_19 : decode prog_3_method_5_code 19 = .ok (.if_icmp .ge 103, 3) := by decide +kernel
theorem d_Fits_fillPart_22 : decode prog_3_method_5_code 22 = .ok (.aload_n 0, 1) := by decide +kernel
theorem d_Fits_fillPart_23 : decode prog_3_method_5_code 23 = .ok (.getfield 24, 3) := by decide +kernel
theorem w_396 : Cond.fieldLink "BeaconIndex$Fits" 24 "BeaconIndex$Fits" "match" "LBeaconIndex$Match;" ∈ lw_tbl := List.mem_append_right _ (List.mem_of_getElem? (i := 396) (by decide +kernel))
theorem d_Fits_fillPart_26 : decode prog_3_method_5_code 26 = .ok (.invokevirtual 86, 3) := by decide +kernel
theorem k_Match_forget : xCal m_Match_forget 0 := ⟨List.mem_append_right _ (List.mem_of_getElem? (i := 624) (by decide +kernel)), w_14, Nat.le_of_ble_eq_true rfl, ⟨by decide +kernel, by decide +kernel⟩, by decide +kernel, by decide +kernel, rfl⟩
theorem w_621 : Cond.methodLink "BeaconIndex$Fits" 86 ⟨"BeaconIndex$Match", "forget", "()V"⟩ ∈ lw_tbl := List.mem_append_right _ (List.mem_of_getElem? (i := 621) (by decide +kernel))
theorem w_622 : Cond.instanceMethod ⟨"BeaconIndex$Match", "forget", "()V"⟩ ∈ lw_tbl := List.mem_append_right _ (List.mem_of_getElem? (i := 622) (by decide +kernel))
theorem w_623 : Cond.selects "BeaconIndex$Match" ⟨"BeaconIndex$Match", "forget", "()V"⟩ ⟨"BeaconIndex$Match", "forget", "()V"⟩ ∈ lw_tbl := List.mem_append_right _ (List.mem_of_getElem? (i := 623) (by decide +kernel))
theorem v_Fits_fillPart_6 {G : XG} {d : Nat} {h : XH} {Q : XV → XH → Prop} {X : Nat → XH → Prop} {x1 x2 x3 x4 x5 : Int} (F : xFix h) (hyp : xtg h x3 = 13 ∧ alok h x3 ∧ (((als h x3) ≤ x5 → (Q (xI x4) h)) ∧ (¬ (als h x3) ≤ x5 → (((60 : Int) ≤ x5 → (Q (xI x4) h)) ∧ (¬ (60 : Int) ≤ x5 → (xwp G m_Match_forget (d + 4) 0 [xR 45] [] h (fun v9 h9 => xwp G m_Fits_fillPart (d + 5) 29 [xR 41, xR x1, xI x2, xR x3, xI x4, xI x5] (xpush v9 []) h9 Q X) X)))))) : xwp G m_Fits_fillPart (d + 5) 6 [xR 41, xR x1, xI x2, xR x3, xI x4, xI x5] [] h Q X := by
  have hnx9 : (93 : Int) ≤ xnx h := F.2.2
  refine xr_okL (fun hl9 => ?_)
  have r_x2 : -2147483648 ≤ x2 ∧ x2 ≤ 2147483647 := hl9 (xI x2) (.tail _ (.tail _ (.head _))) (Nat.le_of_ble_eq_true rfl)
  have r_x4 : -2147483648 ≤ x4 ∧ x4 ≤ 2147483647 := hl9 (xI x4) (.tail _ (.tail _ (.tail _ (.tail _ (.head _))))) (Nat.le_of_ble_eq_true rfl)
  have r_x5 : -2147483648 ≤ x5 ∧ x5 ≤ 2147483647 := hl9 (xI x5) (.tail _ (.tail _ (.tail _ (.tail _ (.tail _ (.head _)))))) (Nat.le_of_ble_eq_true rfl)
  refine xr_iload (pc := 6) (i := 5) (hI := d_Fits_fillPart_6) (hl := rfl) ?_
  refine xr_aload_n (pc := 8) (i := 3) (hI := d_Fits_fillPart_8) (hi := rfl) (hl := rfl) ?_
  obtain ⟨c9, hyp⟩ := hyp
  have t1_ := c9
  clear c9
  obtain ⟨c2_, hyp⟩ := hyp
  refine xq_callV (pc := 9) (index := 38) (K := m_ArrayList_size) (As := []) (S := [xI x5]) (L0 := [xR x3]) (hI := d_Fits_fillPart_9) (hK := k_ArrayList_size) (hlk := w_607) (hnoM := rfl) (hS8 := Nat.le_of_ble_eq_true rfl) (ci := 13) (N := 3) (C := "java/util/ArrayList") (T := xF13) (hc := rfl) (hci := Nat.le_of_ble_eq_true rfl) (htb := t1_) (hinst := w_465) (hsel := w_466) (hlen := Nat.le_of_ble_eq_true rfl) (hst := rfl) (hL0 := rfl)  (p_AL_size F c2_ ?_)
  show xwp G m_Fits_fillPart (d + 5) 12 [xR 41, xR x1, xI x2, xR x3, xI x4, xI x5] [xI (als h x3), xI x5] _ _ _
  have f3_ : 0 ≤ (als h x3) ∧ (als h x3) ≤ 1000000 := ⟨c2_.2.2.1, c2_.2.2.2.2⟩
  refine xr_icmp_ge (pc := 12) (tgt := 122) (hI := d_Fits_fillPart_12) (ht := by decide) (fun q9 => ?_) (fun q9 => ?_)
  · replace hyp := hyp.1 q9
    have q4_ := q9
    clear q9
    refine xr_iload (pc := 122) (i := 4) (hI := d_Fits_fillPart_122) (hl := rfl) ?_
    refine xr_ireturn (S := []) (pc := 124) (hI := d_Fits_fillPart_124) (hr := rfl) ?_
    exact hyp
  · replace hyp := hyp.2 q9
    have q4_ := q9
    clear q9
    refine xr_iload (pc := 15) (i := 5) (hI := d_Fits_fillPart_15) (hl := rfl) ?_
    refine xr_bipush (pc := 17) (hI := d_Fits_fillPart_17) (hr := by decide) (hv := by decide) ?_
    refine xr_icmp_ge (pc := 19) (tgt := 122) (hI := d_Fits_fillPart_19) (ht := by decide) (fun q9 => ?_) (fun q9 => ?_)
    · replace hyp := hyp.1 q9
      have q5_ := q9
      clear q9
      refine xr_iload (pc := 122) (i := 4) (hI := d_Fits_fillPart_122) (hl := rfl) ?_
      refine xr_ireturn (S := []) (pc := 124) (hI := d_Fits_fillPart_124) (hr := rfl) ?_
      exact hyp
    · replace hyp := hyp.2 q9
      have q5_ := q9
      clear q9
      refine xr_aload_n (pc := 22) (i := 0) (hI := d_Fits_fillPart_22) (hi := rfl) (hl := rfl) ?_
      refine xg_getf (pc := 23) (ci := 2) (k := 3) (N := 4) (v9 := 2) (v := 45) (T := xF2) (hI := d_Fits_fillPart_23) (hw := w_396) rfl xi2 (Or.inl rfl) (Nat.le_of_ble_eq_true rfl) (Nat.le_of_ble_eq_true rfl) rfl (ft_41 F) (fp_41_3 F) (fun f6_ => ?_)
      clear f6_
      exact xq_callV (pc := 26) (index := 86) (K := m_Match_forget) (As := []) (S := []) (L0 := [xR 45]) (hI := d_Fits_fillPart_26) (hK := k_Match_forget) (hlk := w_621) (hnoM := rfl) (hS8 := Nat.le_of_ble_eq_true rfl) (ci := 3) (N := 6) (C := "BeaconIndex$Match") (T := xF3) (hc := rfl) (hci := Nat.le_of_ble_eq_true rfl) (htb := (ft_45 F)) (hinst := w_622) (hsel := w_623) (hlen := Nat.le_of_ble_eq_true rfl) (hst := rfl) (hL0 := rfl)  hyp
theorem d_Fits_fillPart_29 : decode prog_3_method_5_code 29 = .ok (.aload_n 1, 1) := by decide +kernel
theorem d_Fits_fillPart_30 : decode prog_3_method_5_code 30 = .ok (.iload_n 2, 1) := by decide +kernel
theorem d_Fits_fillPart_31 : decode prog_3_method_5_code 31 = .ok (.invokevirtual 89, 3) := by decide +kernel
theorem k_Part_isLookedForIn : xCal m_Part_isLookedForIn 1 := ⟨List.mem_append_right _ (List.mem_of_getElem? (i := 628) (by decide +kernel)), w_10, Nat.le_of_ble_eq_true rfl, ⟨by decide +kernel, by decide +kernel⟩, by decide +kernel, by decide +kernel, rfl⟩
theorem w_625 : Cond.methodLink "BeaconIndex$Fits" 89 ⟨"BeaconIndex$Part", "isLookedForIn", "(I)Z"⟩ ∈ lw_tbl := List.mem_append_right _ (List.mem_of_getElem? (i := 625) (by decide +kernel))
theorem w_626 : Cond.instanceMethod ⟨"BeaconIndex$Part", "isLookedForIn", "(I)Z"⟩ ∈ lw_tbl := List.mem_append_right _ (List.mem_of_getElem? (i := 626) (by decide +kernel))
theorem w_627 : Cond.selects "BeaconIndex$Part" ⟨"BeaconIndex$Part", "isLookedForIn", "(I)Z"⟩ ⟨"BeaconIndex$Part", "isLookedForIn", "(I)Z"⟩ ∈ lw_tbl := List.mem_append_right _ (List.mem_of_getElem? (i := 627) (by decide +kernel))
theorem v_Fits_fillPart_29 {G : XG} {d : Nat} {h : XH} {Q : XV → XH → Prop} {X : Nat → XH → Prop} {x1 x2 x3 x4 x5 : Int} (F : xFix h) (hyp : xtg h x1 = 4 ∧ (xwp G m_Part_isLookedForIn (d + 4) 0 [xR x1, xI x2] [] h (fun v9 h9 => xwp G m_Fits_fillPart (d + 5) 34 [xR 41, xR x1, xI x2, xR x3, xI x4, xI x5] (xpush v9 []) h9 Q X) X)) : xwp G m_Fits_fillPart (d + 5) 29 [xR 41, xR x1, xI x2, xR x3, xI x4, xI x5] [] h Q X := by
  have hnx9 : (93 : Int) ≤ xnx h := F.2.2
  refine xr_okL (fun hl9 => ?_)
  have r_x2 : -2147483648 ≤ x2 ∧ x2 ≤ 2147483647 := hl9 (xI x2) (.tail _ (.tail _ (.head _))) (Nat.le_of_ble_eq_true rfl)
  have r_x4 : -2147483648 ≤ x4 ∧ x4 ≤ 2147483647 := hl9 (xI x4) (.tail _ (.tail _ (.tail _ (.tail _ (.head _))))) (Nat.le_of_ble_eq_true rfl)
  have r_x5 : -2147483648 ≤ x5 ∧ x5 ≤ 2147483647 := hl9 (xI x5) (.tail _ (.tail _ (.tail _ (.tail _ (.tail _ (.head _)))))) (Nat.le_of_ble_eq_true rfl)
  refine xr_aload_n (pc := 29) (i := 1) (hI := d_Fits_fillPart_29) (hi := rfl) (hl := rfl) ?_
  refine xr_iload_n (pc := 30) (i := 2) (hI := d_Fits_fillPart_30) (hi := rfl) (hl := rfl) ?_
  obtain ⟨c9, hyp⟩ := hyp
  have t1_ := c9
  clear c9
  exact xq_callV (pc := 31) (index := 89) (K := m_Part_isLookedForIn) (As := [xI x2]) (S := []) (L0 := [xR x1, xI x2]) (hI := d_Fits_fillPart_31) (hK := k_Part_isLookedForIn) (hlk := w_625) (hnoM := rfl) (hS8 := Nat.le_of_ble_eq_true rfl) (ci := 4) (N := 13) (C := "BeaconIndex$Part") (T := xF4) (hc := rfl) (hci := Nat.le_of_ble_eq_true rfl) (htb := t1_) (hinst := w_626) (hsel := w_627) (hlen := Nat.le_of_ble_eq_true rfl) (hst := rfl) (hL0 := rfl)  hyp
theorem d_Fits_fillPart_34 : decode prog_3_method_5_code 34 = .ok (.ifCond .eq 24, 3) := by decide +kernel
theorem d_Fits_fillPart_37 : decode prog_3_method_5_code 37 = .ok (.aload_n 0, 1) := by decide +kernel
theorem d_Fits_fillPart_38 : decode prog_3_method_5_code 38 = .ok (.getfield 24, 3) := by decide +kernel
theorem d_Fits_fillPart_41 : decode prog_3_method_5_code 41 = .ok (.aload_n 1, 1) := by decide +kernel
theorem d_Fits_fillPart_42 : decode prog_3_method_5_code 42 = .ok (.aload_n 3, 1) := by decide +kernel
theorem d_Fits_fillPart_43 : decode prog_3_method_5_code 43 = .ok (.iload 5, 2) := by decide +kernel
theorem d_Fits_fillPart_45 : decode prog_3_method_5_code 45 = .ok (.invokevirtual 44, 3) := by decide +kernel
theorem d_Fits_fillPart_48 : decode prog_3_method_5_code 48 = .ok (.checkcast 75, 3) := by decide +kernel
theorem d_Fits_fillPart_51 : decode prog_3_method_5_code 51 = .ok (.iload_n 2, 1) := by decide +kernel
theorem d_Fits_fillPart_52 : decode prog_3_method_5_code 52 = .ok (.invokevirtual 77, 3) := by decide +kernel
theorem d_Fits_fillPart_55 : decode prog_3_method_5_code 55 = .ok (.invokevirtual 93, 3) := by decide +kernel
theorem k_Match_look : xCal m_Match_look 2 := ⟨List.mem_append_right _ (List.mem_of_getElem? (i := 632) (by decide +kernel)), w_14, Nat.le_of_ble_eq_true rfl, ⟨by decide +kernel, by decide +kernel⟩, by decide +kernel, by decide +kernel, rfl⟩
theorem w_629 : Cond.methodLink "BeaconIndex$Fits" 93 ⟨"BeaconIndex$Match", "look", "(LBeaconIndex$Part;[J)V"⟩ ∈ lw_tbl := List.mem_append_right _ (List.mem_of_getElem? (i := 629) (by decide +kernel))
theorem w_630 : Cond.instanceMethod ⟨"BeaconIndex$Match", "look", "(LBeaconIndex$Part;[J)V"⟩ ∈ lw_tbl := List.mem_append_right _ (List.mem_of_getElem? (i := 630) (by decide +kernel))
theorem w_631 : Cond.selects "BeaconIndex$Match" ⟨"BeaconIndex$Match", "look", "(LBeaconIndex$Part;[J)V"⟩ ⟨"BeaconIndex$Match", "look", "(LBeaconIndex$Part;[J)V"⟩ ∈ lw_tbl := List.mem_append_right _ (List.mem_of_getElem? (i := 631) (by decide +kernel))
theorem v_Fits_fillPart_34 {G : XG} {d : Nat} {h : XH} {Q : XV → XH → Prop} {X : Nat → XH → Prop} {x1 x2 x3 x4 x5 s0 : Int} (F : xFix h) (hyp : ((s0 = 0 → (xwp G m_Fits_fillPart (d + 5) 58 [xR 41, xR x1, xI x2, xR x3, xI x4, xI x5] [] h Q X)) ∧ (¬ s0 = 0 → xtg h x3 = 13 ∧ alok h x3 ∧ 0 ≤ x5 ∧ x5 < als h x3 ∧ xtg h (alg h x3 x5) = 9 ∧ (xwp G m_Match_look (d + 4) 0 [xR 45, xR x1, xR (txr h (alg h x3 x5) x2)] [] h (fun v9 h9 => xwp G m_Fits_fillPart (d + 5) 58 [xR 41, xR x1, xI x2, xR x3, xI x4, xI x5] (xpush v9 []) h9 Q X) X)))) : xwp G m_Fits_fillPart (d + 5) 34 [xR 41, xR x1, xI x2, xR x3, xI x4, xI x5] [xI s0] h Q X := by
  have hnx9 : (93 : Int) ≤ xnx h := F.2.2
  refine xr_okL (fun hl9 => ?_)
  have r_x2 : -2147483648 ≤ x2 ∧ x2 ≤ 2147483647 := hl9 (xI x2) (.tail _ (.tail _ (.head _))) (Nat.le_of_ble_eq_true rfl)
  have r_x4 : -2147483648 ≤ x4 ∧ x4 ≤ 2147483647 := hl9 (xI x4) (.tail _ (.tail _ (.tail _ (.tail _ (.head _))))) (Nat.le_of_ble_eq_true rfl)
  have r_x5 : -2147483648 ≤ x5 ∧ x5 ≤ 2147483647 := hl9 (xI x5) (.tail _ (.tail _ (.tail _ (.tail _ (.tail _ (.head _)))))) (Nat.le_of_ble_eq_true rfl)
  refine xr_okS (fun hs9 => ?_)
  have r_s0 : -2147483648 ≤ s0 ∧ s0 ≤ 2147483647 := hs9 (xI s0) (.head _)
  refine xr_if_eq (pc := 34) (tgt := 58) (hI := d_Fits_fillPart_34) (ht := by decide) (fun q9 => ?_) (fun q9 => ?_)
  · replace hyp := hyp.1 q9
    have q1_ := q9
    clear q9
    exact hyp
  · replace hyp := hyp.2 q9
    have q1_ := q9
    clear q9
    refine xr_aload_n (pc := 37) (i := 0) (hI := d_Fits_fillPart_37) (hi := rfl) (hl := rfl) ?_
    refine xg_getf (pc := 38) (ci := 2) (k := 3) (N := 4) (v9 := 2) (v := 45) (T := xF2) (hI := d_Fits_fillPart_38) (hw := w_396) rfl xi2 (Or.inl rfl) (Nat.le_of_ble_eq_true rfl) (Nat.le_of_ble_eq_true rfl) rfl (ft_41 F) (fp_41_3 F) (fun f2_ => ?_)
    clear f2_
    refine xr_aload_n (pc := 41) (i := 1) (hI := d_Fits_fillPart_41) (hi := rfl) (hl := rfl) ?_
    refine xr_aload_n (pc := 42) (i := 3) (hI := d_Fits_fillPart_42) (hi := rfl) (hl := rfl) ?_
    refine xr_iload (pc := 43) (i := 5) (hI := d_Fits_fillPart_43) (hl := rfl) ?_
    obtain ⟨c9, hyp⟩ := hyp
    have t3_ := c9
    clear c9
    obtain ⟨c4_, hyp⟩ := hyp
    obtain ⟨c5_, hyp⟩ := hyp
    obtain ⟨c6_, hyp⟩ := hyp
    refine xq_callV (pc := 45) (index := 44) (K := m_ArrayList_get) (As := [xI x5]) (S := [xR x1, xR 45]) (L0 := [xR x3, xI x5]) (hI := d_Fits_fillPart_45) (hK := k_ArrayList_get) (hlk := w_608) (hnoM := rfl) (hS8 := Nat.le_of_ble_eq_true rfl) (ci := 13) (N := 3) (C := "java/util/ArrayList") (T := xF13) (hc := rfl) (hci := Nat.le_of_ble_eq_true rfl) (htb := t3_) (hinst := w_469) (hsel := w_470) (hlen := Nat.le_of_ble_eq_true rfl) (hst := rfl) (hL0 := rfl)  (p_AL_get F c4_ c5_ c6_ ?_)
    show xwp G m_Fits_fillPart (d + 5) 48 [xR 41, xR x1, xI x2, xR x3, xI x4, xI x5] [xR (alg h x3 x5), xR x1, xR 45] _ _ _
    obtain ⟨c9, hyp⟩ := hyp
    have t7_ := c9
    clear c9
    refine xr_cast (pc := 48) (ci := 9) (T := xF9) (N := 6) (hI := d_Fits_fillPart_48) w_609 rfl (Nat.le_of_ble_eq_true rfl) t7_ ?_
    refine xr_iload_n (pc := 51) (i := 2) (hI := d_Fits_fillPart_51) (hi := rfl) (hl := rfl) ?_
    refine xq_callV (pc := 52) (index := 77) (K := m_Text_row) (As := [xI x2]) (S := [xR x1, xR 45]) (L0 := [xR (alg h x3 x5), xI x2]) (hI := d_Fits_fillPart_52) (hK := k_Text_row) (hlk := w_610) (hnoM := rfl) (hS8 := Nat.le_of_ble_eq_true rfl) (ci := 9) (N := 6) (C := "BeaconIndex$Text") (T := xF9) (hc := rfl) (hci := Nat.le_of_ble_eq_true rfl) (htb := t7_) (hinst := w_611) (hsel := w_612) (hlen := Nat.le_of_ble_eq_true rfl) (hst := rfl) (hL0 := rfl)  (p_Text_row F t7_ ?_)
    show xwp G m_Fits_fillPart (d + 5) 55 [xR 41, xR x1, xI x2, xR x3, xI x4, xI x5] [xR (txr h (alg h x3 x5) x2), xR x1, xR 45] _ _ _
    exact xq_callV (pc := 55) (index := 93) (K := m_Match_look) (As := [xR x1, xR (txr h (alg h x3 x5) x2)]) (S := []) (L0 := [xR 45, xR x1, xR (txr h (alg h x3 x5) x2)]) (hI := d_Fits_fillPart_55) (hK := k_Match_look) (hlk := w_629) (hnoM := rfl) (hS8 := Nat.le_of_ble_eq_true rfl) (ci := 3) (N := 6) (C := "BeaconIndex$Match") (T := xF3) (hc := rfl) (hci := Nat.le_of_ble_eq_true rfl) (htb := (ft_45 F)) (hinst := w_630) (hsel := w_631) (hlen := Nat.le_of_ble_eq_true rfl) (hst := rfl) (hL0 := rfl)  hyp
theorem d_Fits_fillPart_58 : decode prog_3_method_5_code 58 = .ok (.aload_n 0, 1) := by decide +kernel
theorem d_Fits_fillPart_59 : decode prog_3_method_5_code 59 = .ok (.getfield 9, 3) := by decide +kernel
theorem w_393 : Cond.fieldLink "BeaconIndex$Fits" 9 "BeaconIndex$Fits" "times" "[I" ∈ lw_tbl := List.mem_append_right _ (List.mem_of_getElem? (i := 393) (by decide +kernel))
theorem d_Fits_fillPart_62 : decode prog_3_method_5_code 62 = .ok (.aload_n 1, 1) := by decide +kernel
theorem d_Fits_fillPart_63 : decode prog_3_method_5_code 63 = .ok (.iload 5, 2) := by decide +kernel
theorem d_Fits_fillPart_65 : decode prog_3_method_5_code 65 = .ok (.iload_n 2, 1) := by decide +kernel
theorem d_Fits_fillPart_66 : decode prog_3_method_5_code 66 = .ok (.invokestatic 97, 3) := by decide +kernel
theorem k_Fits_slot : xCal m_Fits_slot 3 := ⟨List.mem_append_right _ (List.mem_of_getElem? (i := 687) (by decide +kernel)), w_13, Nat.le_of_ble_eq_true rfl, ⟨by decide +kernel, by decide +kernel⟩, by decide +kernel, by decide +kernel, rfl⟩
theorem w_685 : Cond.methodLink "BeaconIndex$Fits" 97 ⟨"BeaconIndex$Fits", "slot", "(LBeaconIndex$Part;II)I"⟩ ∈ lw_tbl := List.mem_append_right _ (List.mem_of_getElem? (i := 685) (by decide +kernel))
theorem w_686 : Cond.static ⟨"BeaconIndex$Fits", "slot", "(LBeaconIndex$Part;II)I"⟩ ∈ lw_tbl := List.mem_append_right _ (List.mem_of_getElem? (i := 686) (by decide +kernel))
theorem d_Fits_fillPart_69 : decode prog_3_method_5_code 69 = .ok (.aload_n 0, 1) := by decide +kernel
theorem d_Fits_fillPart_70 : decode prog_3_method_5_code 70 = .ok (.getfield 24, 3) := by decide +kernel
theorem d_Fits_fillPart_73 : decode prog_3_method_5_code 73 = .ok (.getfield 100, 3) := by decide +kernel
theorem w_377 : Cond.fieldLink "BeaconIndex$Fits" 100 "BeaconIndex$Match" "times" "I" ∈ lw_tbl := List.mem_append_right _ (List.mem_of_getElem? (i := 377) (by decide +kernel))
theorem d_Fits_fillPart_76 : decode prog_3_method_5_code 76 = .ok (.iastore, 1) := by decide +kernel
theorem xfa_42 : xfreeA 42 = true := by decide +kernel
theorem d_Fits_fillPart_77 : decode prog_3_method_5_code 77 = .ok (.aload_n 0, 1) := by decide +kernel
theorem d_Fits_fillPart_78 : decode prog_3_method_5_code 78 = .ok (.getfield 15, 3) := by decide +kernel
theorem w_394 : Cond.fieldLink "BeaconIndex$Fits" 15 "BeaconIndex$Fits" "firsts" "[I" ∈ lw_tbl := List.mem_append_right _ (List.mem_of_getElem? (i := 394) (by decide +kernel))
theorem d_Fits_fillPart_81 : decode prog_3_method_5_code 81 = .ok (.aload_n 1, 1) := by decide +kernel
theorem d_Fits_fillPart_82 : decode prog_3_method_5_code 82 = .ok (.iload 5, 2) := by decide +kernel
theorem d_Fits_fillPart_84 : decode prog_3_method_5_code 84 = .ok (.iload_n 2, 1) := by decide +kernel
theorem d_Fits_fillPart_85 : decode prog_3_method_5_code 85 = .ok (.invokestatic 97, 3) := by decide +kernel
theorem d_Fits_fillPart_88 : decode prog_3_method_5_code 88 = .ok (.aload_n 0, 1) := by decide +kernel
theorem d_Fits_fillPart_89 : decode prog_3_method_5_code 89 = .ok (.getfield 24, 3) := by decide +kernel
theorem d_Fits_fillPart_92 : decode prog_3_method_5_code 92 = .ok (.getfield 102, 3) := by decide +kernel
theorem w_379 : Cond.fieldLink "BeaconIndex$Fits" 102 "BeaconIndex$Match" "first" "I" ∈ lw_tbl := List.mem_append_right _ (List.mem_of_getElem? (i := 379) (by decide +kernel))
theorem d_Fits_fillPart_95 : decode prog_3_method_5_code 95 = .ok (.iastore, 1) := by decide +kernel
theorem xfa_43 : xfreeA 43 = true := by decide +kernel
theorem d_Fits_fillPart_96 : decode prog_3_method_5_code 96 = .ok (.iload 4, 2) := by decide +kernel
theorem d_Fits_fillPart_98 : decode prog_3_method_5_code 98 = .ok (.aload_n 0, 1) := by decide +kernel
theorem d_Fits_fillPart_99 : decode prog_3_method_5_code 99 = .ok (.getfield 24, 3) := by decide +kernel
theorem d_Fits_fillPart_102 : decode prog_3_method_5_code 102 = .ok (.getfield 100, 3) := by decide +kernel
theorem d_Fits_fillPart_105 : decode prog_3_method_5_code 105 = .ok (.ifCond .le 7, 3) := by decide +kernel
theorem d_Fits_fillPart_112 : decode prog_3_method_5_code 112 = .ok (.iconst 0, 1) := by decide +kernel
theorem d_Fits_fillPart_113 : decode prog_3_method_5_code 113 = .ok (.iadd, 1) := by decide +kernel
theorem d_Fits_fillPart_114 : decode prog_3_method_5_code 114 = .ok (.istore 4, 2) := by decide +kernel
theorem d_Fits_fillPart_116 : decode prog_3_method_5_code 116 = .ok (.iinc 5 1, 3) := by decide +kernel
theorem d_Fits_fillPart_119 : decode prog_3_method_5_code 119 = .ok (.goto (-113), 3) := by decide +kernel
theorem d_Fits_fillPart_108 : decode prog_3_method_5_code 108 = .ok (.iconst 1, 1) := by decide +kernel
theorem d_Fits_fillPart_109 : decode prog_3_method_5_code 109 = .ok (.goto 4, 3) := by decide +kernel
theorem v_Fits_fillPart_58 {G : XG} {d : Nat} {h : XH} {Q : XV → XH → Prop} {X : Nat → XH → Prop} {x1 x2 x3 x4 x5 : Int} (F : xFix h) (hyp : xtg h x1 = 4 ∧ (0 ≤ x2 ∧ x2 ≤ 1) ∧ 0 ≤ (((slF (xpl h x1 0) x5) * 2) + x2) ∧ (((slF (xpl h x1 0) x5) * 2) + x2) < 4800 ∧ xtg (xst h 42 (((slF (xpl h x1 0) x5) * 2) + x2) (xpl h 45 4)) x1 = 4 ∧ 0 ≤ (((slF (xpl (xst h 42 (((slF (xpl h x1 0) x5) * 2) + x2) (xpl h 45 4)) x1 0) x5) * 2) + x2) ∧ (((slF (xpl (xst h 42 (((slF (xpl h x1 0) x5) * 2) + x2) (xpl h 45 4)) x1 0) x5) * 2) + x2) < 4800 ∧ (((xpl h 45 4) ≤ 0 → xiR (x5 + 1) ∧ (xFix (xst (xst h 42 (((slF (xpl h x1 0) x5) * 2) + x2) (xpl h 45 4)) 43 (((slF (xpl (xst h 42 (((slF (xpl h x1 0) x5) * 2) + x2) (xpl h 45 4)) x1 0) x5) * 2) + x2) (xpl h 45 5)) → xwp G m_Fits_fillPart (d + 5) 6 [xR 41, xR x1, xI x2, xR x3, xI (x4 + 0), xI (x5 + 1)] [] (xst (xst h 42 (((slF (xpl h x1 0) x5) * 2) + x2) (xpl h 45 4)) 43 (((slF (xpl (xst h 42 (((slF (xpl h x1 0) x5) * 2) + x2) (xpl h 45 4)) x1 0) x5) * 2) + x2) (xpl h 45 5)) Q X)) ∧ (¬ (xpl h 45 4) ≤ 0 → xiR (x4 + 1) ∧ xiR (x5 + 1) ∧ (xFix (xst (xst h 42 (((slF (xpl h x1 0) x5) * 2) + x2) (xpl h 45 4)) 43 (((slF (xpl (xst h 42 (((slF (xpl h x1 0) x5) * 2) + x2) (xpl h 45 4)) x1 0) x5) * 2) + x2) (xpl h 45 5)) → xwp G m_Fits_fillPart (d + 5) 6 [xR 41, xR x1, xI x2, xR x3, xI (x4 + 1), xI (x5 + 1)] [] (xst (xst h 42 (((slF (xpl h x1 0) x5) * 2) + x2) (xpl h 45 4)) 43 (((slF (xpl (xst h 42 (((slF (xpl h x1 0) x5) * 2) + x2) (xpl h 45 4)) x1 0) x5) * 2) + x2) (xpl h 45 5)) Q X)))) : xwp G m_Fits_fillPart (d + 5) 58 [xR 41, xR x1, xI x2, xR x3, xI x4, xI x5] [] h Q X := by
  have hnx9 : (93 : Int) ≤ xnx h := F.2.2
  refine xr_okL (fun hl9 => ?_)
  have r_x2 : -2147483648 ≤ x2 ∧ x2 ≤ 2147483647 := hl9 (xI x2) (.tail _ (.tail _ (.head _))) (Nat.le_of_ble_eq_true rfl)
  have r_x4 : -2147483648 ≤ x4 ∧ x4 ≤ 2147483647 := hl9 (xI x4) (.tail _ (.tail _ (.tail _ (.tail _ (.head _))))) (Nat.le_of_ble_eq_true rfl)
  have r_x5 : -2147483648 ≤ x5 ∧ x5 ≤ 2147483647 := hl9 (xI x5) (.tail _ (.tail _ (.tail _ (.tail _ (.tail _ (.head _)))))) (Nat.le_of_ble_eq_true rfl)
  refine xr_aload_n (pc := 58) (i := 0) (hI := d_Fits_fillPart_58) (hi := rfl) (hl := rfl) ?_
  refine xg_getf (pc := 59) (ci := 2) (k := 0) (N := 4) (v9 := 2) (v := 42) (T := xF2) (hI := d_Fits_fillPart_59) (hw := w_393) rfl xi2 (Or.inl rfl) (Nat.le_of_ble_eq_true rfl) (Nat.le_of_ble_eq_true rfl) rfl (ft_41 F) (fp_41_0 F) (fun f1_ => ?_)
  clear f1_
  refine xr_aload_n (pc := 62) (i := 1) (hI := d_Fits_fillPart_62) (hi := rfl) (hl := rfl) ?_
  refine xr_iload (pc := 63) (i := 5) (hI := d_Fits_fillPart_63) (hl := rfl) ?_
  refine xr_iload_n (pc := 65) (i := 2) (hI := d_Fits_fillPart_65) (hi := rfl) (hl := rfl) ?_
  obtain ⟨c2_, hyp⟩ := hyp
  obtain ⟨c3_, hyp⟩ := hyp
  refine xq_callS (pc := 66) (index := 97) (K := m_Fits_slot) (As := [xR x1, xI x5, xI x2]) (S := [xR 42]) (L0 := [xR x1, xI x5, xI x2]) (hI := d_Fits_fillPart_66) (hK := k_Fits_slot) (hlk := w_685) (hnoM := rfl) (hS8 := Nat.le_of_ble_eq_true rfl) (hstat := w_686) (hlen := Nat.le_of_ble_eq_true rfl) (hst := rfl) (hL0 := rfl)  (p_Fits_slot F c2_ c3_ ?_)
  show xwp G m_Fits_fillPart (d + 5) 69 [xR 41, xR x1, xI x2, xR x3, xI x4, xI x5] [xI (((slF (xpl h x1 0) x5) * 2) + x2), xR 42] _ _ _
  have f4_ : 0 ≤ (slF (xpl h x1 0) x5) ∧ (slF (xpl h x1 0) x5) ≤ 2399 := (slF_rng _ _)
  refine xr_aload_n (pc := 69) (i := 0) (hI := d_Fits_fillPart_69) (hi := rfl) (hl := rfl) ?_
  refine xg_getf (pc := 70) (ci := 2) (k := 3) (N := 4) (v9 := 2) (v := 45) (T := xF2) (hI := d_Fits_fillPart_70) (hw := w_396) rfl xi2 (Or.inl rfl) (Nat.le_of_ble_eq_true rfl) (Nat.le_of_ble_eq_true rfl) rfl (ft_41 F) (fp_41_3 F) (fun f5_ => ?_)
  clear f5_
  refine xg_getf (pc := 73) (ci := 3) (k := 4) (N := 6) (v9 := 0) (v := (xpl h 45 4)) (T := xF3) (hI := d_Fits_fillPart_73) (hw := w_377) rfl xi3 (Or.inl rfl) (Nat.le_of_ble_eq_true rfl) (Nat.le_of_ble_eq_true rfl) rfl (ft_45 F) rfl (fun f6_ => ?_)
  replace f6_ : -2147483648 ≤ (xpl h 45 4) ∧ (xpl h 45 4) ≤ 2147483647 := f6_
  obtain ⟨c7_, hyp⟩ := hyp
  obtain ⟨c8_, hyp⟩ := hyp
  refine xr_iastore (pc := 76) (hI := d_Fits_fillPart_76) (ft_42 F) (by decide) c7_ (xlt_of (fl_42 F) c8_) ?_
  have F9_ : xFix (xst h 42 (((slF (xpl h x1 0) x5) * 2) + x2) (xpl h 45 4)) := F.stA xfa_42
  refine xr_aload_n (pc := 77) (i := 0) (hI := d_Fits_fillPart_77) (hi := rfl) (hl := rfl) ?_
  refine xg_getf (pc := 78) (ci := 2) (k := 1) (N := 4) (v9 := 2) (v := 43) (T := xF2) (hI := d_Fits_fillPart_78) (hw := w_394) rfl xi2 (Or.inl rfl) (Nat.le_of_ble_eq_true rfl) (Nat.le_of_ble_eq_true rfl) rfl (ft_41 F9_) (fp_41_1 F9_) (fun f10_ => ?_)
  clear f10_
  refine xr_aload_n (pc := 81) (i := 1) (hI := d_Fits_fillPart_81) (hi := rfl) (hl := rfl) ?_
  refine xr_iload (pc := 82) (i := 5) (hI := d_Fits_fillPart_82) (hl := rfl) ?_
  refine xr_iload_n (pc := 84) (i := 2) (hI := d_Fits_fillPart_84) (hi := rfl) (hl := rfl) ?_
  obtain ⟨c11_, hyp⟩ := hyp
  refine xq_callS (pc := 85) (index := 97) (K := m_Fits_slot) (As := [xR x1, xI x5, xI x2]) (S := [xR 43]) (L0 := [xR x1, xI x5, xI x2]) (hI := d_Fits_fillPart_85) (hK := k_Fits_slot) (hlk := w_685) (hnoM := rfl) (hS8 := Nat.le_of_ble_eq_true rfl) (hstat := w_686) (hlen := Nat.le_of_ble_eq_true rfl) (hst := rfl) (hL0 := rfl)  (p_Fits_slot F9_ c11_ c3_ ?_)
  show xwp G m_Fits_fillPart (d + 5) 88 [xR 41, xR x1, xI x2, xR x3, xI x4, xI x5] [xI (((slF (xpl (xst h 42 (((slF (xpl h x1 0) x5) * 2) + x2) (xpl h 45 4)) x1 0) x5) * 2) + x2), xR 43] _ _ _
  have f12_ : 0 ≤ (slF (xpl (xst h 42 (((slF (xpl h x1 0) x5) * 2) + x2) (xpl h 45 4)) x1 0) x5) ∧ (slF (xpl (xst h 42 (((slF (xpl h x1 0) x5) * 2) + x2) (xpl h 45 4)) x1 0) x5) ≤ 2399 := (slF_rng _ _)
  refine xr_aload_n (pc := 88) (i := 0) (hI := d_Fits_fillPart_88) (hi := rfl) (hl := rfl) ?_
  refine xg_getf (pc := 89) (ci := 2) (k := 3) (N := 4) (v9 := 2) (v := 45) (T := xF2) (hI := d_Fits_fillPart_89) (hw := w_396) rfl xi2 (Or.inl rfl) (Nat.le_of_ble_eq_true rfl) (Nat.le_of_ble_eq_true rfl) rfl (ft_41 F9_) (fp_41_3 F9_) (fun f13_ => ?_)
  clear f13_
  refine xg_getf (pc := 92) (ci := 3) (k := 5) (N := 6) (v9 := 0) (v := (xpl h 45 5)) (T := xF3) (hI := d_Fits_fillPart_92) (hw := w_379) rfl xi3 (Or.inl rfl) (Nat.le_of_ble_eq_true rfl) (Nat.le_of_ble_eq_true rfl) rfl (ft_45 F9_) (xpl_oa (by decide)) (fun f14_ => ?_)
  replace f14_ : -2147483648 ≤ (xpl h 45 5) ∧ (xpl h 45 5) ≤ 2147483647 := f14_
  obtain ⟨c15_, hyp⟩ := hyp
  obtain ⟨c16_, hyp⟩ := hyp
  refine xr_iastore (pc := 95) (hI := d_Fits_fillPart_95) (ft_43 F9_) (by decide) c15_ (xlt_of (fl_43 F9_) c16_) ?_
  have F17_ : xFix (xst (xst h 42 (((slF (xpl h x1 0) x5) * 2) + x2) (xpl h 45 4)) 43 (((slF (xpl (xst h 42 (((slF (xpl h x1 0) x5) * 2) + x2) (xpl h 45 4)) x1 0) x5) * 2) + x2) (xpl h 45 5)) := F9_.stA xfa_43
  refine xr_iload (pc := 96) (i := 4) (hI := d_Fits_fillPart_96) (hl := rfl) ?_
  refine xr_aload_n (pc := 98) (i := 0) (hI := d_Fits_fillPart_98) (hi := rfl) (hl := rfl) ?_
  refine xg_getf (pc := 99) (ci := 2) (k := 3) (N := 4) (v9 := 2) (v := 45) (T := xF2) (hI := d_Fits_fillPart_99) (hw := w_396) rfl xi2 (Or.inl rfl) (Nat.le_of_ble_eq_true rfl) (Nat.le_of_ble_eq_true rfl) rfl (ft_41 F17_) (fp_41_3 F17_) (fun f18_ => ?_)
  clear f18_
  refine xg_getf (pc := 102) (ci := 3) (k := 4) (N := 6) (v9 := 0) (v := (xpl h 45 4)) (T := xF3) (hI := d_Fits_fillPart_102) (hw := w_377) rfl xi3 (Or.inl rfl) (Nat.le_of_ble_eq_true rfl) (Nat.le_of_ble_eq_true rfl) rfl (ft_45 F17_) (Eq.trans (xpl_oa (by decide)) (xpl_oa (by decide))) (fun f19_ => ?_)
  replace f19_ : -2147483648 ≤ (xpl h 45 4) ∧ (xpl h 45 4) ≤ 2147483647 := f19_
  refine xr_if_le (pc := 105) (tgt := 112) (hI := d_Fits_fillPart_105) (ht := by decide) (fun q9 => ?_) (fun q9 => ?_)
  · replace hyp := hyp.1 q9
    have q20_ := q9
    clear q9
    refine xr_iconst (pc := 112) (hI := d_Fits_fillPart_112) (hr := by decide) ?_
    refine xr_iadd (pc := 113) (hI := d_Fits_fillPart_113) (hr := ⟨by clear hyp; omega, by clear hyp; omega⟩) ?_
    refine xr_istore (pc := 114) (i := 4) (L9 := [xR 41, xR x1, xI x2, xR x3, xI (x4 + 0), xI x5]) (hI := d_Fits_fillPart_114) (hn := Nat.le_of_ble_eq_true rfl) (hL9 := rfl) ?_
    obtain ⟨c9, hyp⟩ := hyp
    refine xr_iinc (pc := 116) (i := 5) (L9 := [xR 41, xR x1, xI x2, xR x3, xI (x4 + 0), xI (x5 + 1)]) (hI := d_Fits_fillPart_116) (hl := rfl) (hn := Nat.le_of_ble_eq_true rfl) (hr := c9) (hL9 := rfl) ?_
    refine xr_goto (pc := 119) (tgt := 6) (hI := d_Fits_fillPart_119) (ht := by decide) ?_
    exact (hyp F17_)
  · replace hyp := hyp.2 q9
    have q20_ := q9
    clear q9
    refine xr_iconst (pc := 108) (hI := d_Fits_fillPart_108) (hr := by decide) ?_
    refine xr_goto (pc := 109) (tgt := 113) (hI := d_Fits_fillPart_109) (ht := by decide) ?_
    obtain ⟨c9, hyp⟩ := hyp
    refine xr_iadd (pc := 113) (hI := d_Fits_fillPart_113) (hr := c9) ?_
    refine xr_istore (pc := 114) (i := 4) (L9 := [xR 41, xR x1, xI x2, xR x3, xI (x4 + 1), xI x5]) (hI := d_Fits_fillPart_114) (hn := Nat.le_of_ble_eq_true rfl) (hL9 := rfl) ?_
    obtain ⟨c9, hyp⟩ := hyp
    refine xr_iinc (pc := 116) (i := 5) (L9 := [xR 41, xR x1, xI x2, xR x3, xI (x4 + 1), xI (x5 + 1)]) (hI := d_Fits_fillPart_116) (hl := rfl) (hn := Nat.le_of_ble_eq_true rfl) (hr := c9) (hL9 := rfl) ?_
    refine xr_goto (pc := 119) (tgt := 6) (hI := d_Fits_fillPart_119) (ht := by decide) ?_
    exact (hyp F17_)
abbrev m_Fits_isIn : XM := (⟨"BeaconIndex$Fits", "isIn", "(LBeaconIndex$Part;I)Z"⟩, prog_3_method_6_code, 3, (some .boolean), [])
theorem d_Fits_isIn_0 : decode prog_3_method_6_code 0 = .ok (.aload_n 0, 1) := by decide +kernel
theorem d_Fits_isIn_1 : decode prog_3_method_6_code 1 = .ok (.getfield 9, 3) := by decide +kernel
theorem d_Fits_isIn_4 : decode prog_3_method_6_code 4 = .ok (.aload_n 1, 1) := by decide +kernel
theorem d_Fits_isIn_5 : decode prog_3_method_6_code 5 = .ok (.iload_n 2, 1) := by decide +kernel
theorem d_Fits_isIn_6 : decode prog_3_method_6_code 6 = .ok (.iconst 0, 1) := by decide +kernel
theorem d_Fits_isIn_7 : decode prog_3_method_6_code 7 = .ok (.invokestatic 97, 3) := by decide +kernel
theorem d_Fits_isIn_10 : decode prog_3_method_6_code 10 = .ok (.iaload, 1) := by decide +kernel
theorem d_Fits_isIn_11 : decode prog_3_method_6_code 11 = .ok (.ifCond .gt 17, 3) := by decide +kernel
theorem d_Fits_isIn_28 : decode prog_3_method_6_code 28 = .ok (.iconst 1, 1) := by decide +kernel
theorem d_Fits_isIn_29 : decode prog_3_method_6_code 29 = .ok (.goto 4, 3) := by decide +kernel
theorem d_Fits_isIn_33 : decode prog_3_method_6_code 33 = .ok (.ireturn, 1) := by decide +kernel
theorem d_Fits_isIn_14 : decode prog_3_method_6_code 14 = .ok (.aload_n 0, 1) := by decide +kernel
theorem d_Fits_isIn_15 : decode prog_3_method_6_code 15 = .ok (.getfield 9, 3) := by decide +kernel
theorem d_Fits_isIn_18 : decode prog_3_method_6_code 18 = .ok (.aload_n 1, 1) := by decide +kernel
theorem d_Fits_isIn_19 : decode prog_3_method_6_code 19 = .ok (.iload_n 2, 1) := by decide +kernel
theorem d_Fits_isIn_20 : decode prog_3_method_6_code 20 = .ok (.iconst 1, 1) := by decide +kernel
theorem d_Fits_isIn_21 : decode prog_3_method_6_code 21 = .ok (.invokestatic 97, 3) := by decide +kernel
theorem d_Fits_isIn_24 : decode prog_3_method_6_code 24 = .ok (.iaload, 1) := by decide +kernel
theorem d_Fits_isIn_25 : decode prog_3_method_6_code 25 = .ok (.ifCond .le 7, 3) := by decide +kernel
theorem d_Fits_isIn_32 : decode prog_3_method_6_code 32 = .ok (.iconst 0, 1) := by decide +kernel
theorem v_Fits_isIn_0 {G : XG} {d : Nat} {h : XH} {Q : XV → XH → Prop} {X : Nat → XH → Prop} {x1 x2 : Int} (F : xFix h) (hyp : xtg h x1 = 4 ∧ (0 ≤ (0 : Int) ∧ (0 : Int) ≤ 1) ∧ (((0 : Int) < (xpl h 42 (((slF (xpl h x1 0) x2) * 2) + 0)) → (Q (xI 1) h)) ∧ (¬ (0 : Int) < (xpl h 42 (((slF (xpl h x1 0) x2) * 2) + 0)) → (0 ≤ (1 : Int) ∧ (1 : Int) ≤ 1) ∧ (((xpl h 42 (((slF (xpl h x1 0) x2) * 2) + 1)) ≤ 0 → (Q (xI 0) h)) ∧ (¬ (xpl h 42 (((slF (xpl h x1 0) x2) * 2) + 1)) ≤ 0 → (Q (xI 1) h)))))) : xwp G m_Fits_isIn (d + 3) 0 [xR 41, xR x1, xI x2] [] h Q X := by
  have hnx9 : (93 : Int) ≤ xnx h := F.2.2
  refine xr_okL (fun hl9 => ?_)
  have r_x2 : -2147483648 ≤ x2 ∧ x2 ≤ 2147483647 := hl9 (xI x2) (.tail _ (.tail _ (.head _))) (Nat.le_of_ble_eq_true rfl)
  refine xr_aload_n (pc := 0) (i := 0) (hI := d_Fits_isIn_0) (hi := rfl) (hl := rfl) ?_
  refine xg_getf (pc := 1) (ci := 2) (k := 0) (N := 4) (v9 := 2) (v := 42) (T := xF2) (hI := d_Fits_isIn_1) (hw := w_393) rfl xi2 (Or.inl rfl) (Nat.le_of_ble_eq_true rfl) (Nat.le_of_ble_eq_true rfl) rfl (ft_41 F) (fp_41_0 F) (fun f1_ => ?_)
  clear f1_
  refine xr_aload_n (pc := 4) (i := 1) (hI := d_Fits_isIn_4) (hi := rfl) (hl := rfl) ?_
  refine xr_iload_n (pc := 5) (i := 2) (hI := d_Fits_isIn_5) (hi := rfl) (hl := rfl) ?_
  refine xr_iconst (pc := 6) (hI := d_Fits_isIn_6) (hr := by decide) ?_
  obtain ⟨c2_, hyp⟩ := hyp
  obtain ⟨c3_, hyp⟩ := hyp
  refine xq_callS (pc := 7) (index := 97) (K := m_Fits_slot) (As := [xR x1, xI x2, xI 0]) (S := [xR 42]) (L0 := [xR x1, xI x2, xI 0]) (hI := d_Fits_isIn_7) (hK := k_Fits_slot) (hlk := w_685) (hnoM := rfl) (hS8 := Nat.le_of_ble_eq_true rfl) (hstat := w_686) (hlen := Nat.le_of_ble_eq_true rfl) (hst := rfl) (hL0 := rfl)  (p_Fits_slot F c2_ c3_ ?_)
  show xwp G m_Fits_isIn (d + 3) 10 [xR 41, xR x1, xI x2] [xI (((slF (xpl h x1 0) x2) * 2) + 0), xR 42] _ _ _
  have f4_ : 0 ≤ (slF (xpl h x1 0) x2) ∧ (slF (xpl h x1 0) x2) ≤ 2399 := (slF_rng _ _)
  refine xg_iaload (pc := 10) (v := (xpl h 42 (((slF (xpl h x1 0) x2) * 2) + 0))) (hI := d_Fits_isIn_10) (ft_42 F) (by clear hyp; omega) (xlt_of (fl_42 F) (by clear hyp; omega)) rfl (fun f5_ => ?_)
  replace f5_ : -2147483648 ≤ (xpl h 42 (((slF (xpl h x1 0) x2) * 2) + 0)) ∧ (xpl h 42 (((slF (xpl h x1 0) x2) * 2) + 0)) ≤ 2147483647 := f5_
  refine xr_if_gt (pc := 11) (tgt := 28) (hI := d_Fits_isIn_11) (ht := by decide) (fun q9 => ?_) (fun q9 => ?_)
  · replace hyp := hyp.1 q9
    have q6_ := q9
    clear q9
    refine xr_iconst (pc := 28) (hI := d_Fits_isIn_28) (hr := by decide) ?_
    refine xr_goto (pc := 29) (tgt := 33) (hI := d_Fits_isIn_29) (ht := by decide) ?_
    refine xr_ireturnT (S := []) (pc := 33) (hI := d_Fits_isIn_33) (hr := rfl) (xnar_z (by decide)) ?_
    exact hyp
  · replace hyp := hyp.2 q9
    have q6_ := q9
    clear q9
    refine xr_aload_n (pc := 14) (i := 0) (hI := d_Fits_isIn_14) (hi := rfl) (hl := rfl) ?_
    refine xg_getf (pc := 15) (ci := 2) (k := 0) (N := 4) (v9 := 2) (v := 42) (T := xF2) (hI := d_Fits_isIn_15) (hw := w_393) rfl xi2 (Or.inl rfl) (Nat.le_of_ble_eq_true rfl) (Nat.le_of_ble_eq_true rfl) rfl (ft_41 F) (fp_41_0 F) (fun f7_ => ?_)
    clear f7_
    refine xr_aload_n (pc := 18) (i := 1) (hI := d_Fits_isIn_18) (hi := rfl) (hl := rfl) ?_
    refine xr_iload_n (pc := 19) (i := 2) (hI := d_Fits_isIn_19) (hi := rfl) (hl := rfl) ?_
    refine xr_iconst (pc := 20) (hI := d_Fits_isIn_20) (hr := by decide) ?_
    obtain ⟨c8_, hyp⟩ := hyp
    refine xq_callS (pc := 21) (index := 97) (K := m_Fits_slot) (As := [xR x1, xI x2, xI 1]) (S := [xR 42]) (L0 := [xR x1, xI x2, xI 1]) (hI := d_Fits_isIn_21) (hK := k_Fits_slot) (hlk := w_685) (hnoM := rfl) (hS8 := Nat.le_of_ble_eq_true rfl) (hstat := w_686) (hlen := Nat.le_of_ble_eq_true rfl) (hst := rfl) (hL0 := rfl)  (p_Fits_slot F c2_ c8_ ?_)
    show xwp G m_Fits_isIn (d + 3) 24 [xR 41, xR x1, xI x2] [xI (((slF (xpl h x1 0) x2) * 2) + 1), xR 42] _ _ _
    have f9_ : 0 ≤ (slF (xpl h x1 0) x2) ∧ (slF (xpl h x1 0) x2) ≤ 2399 := (slF_rng _ _)
    refine xg_iaload (pc := 24) (v := (xpl h 42 (((slF (xpl h x1 0) x2) * 2) + 1))) (hI := d_Fits_isIn_24) (ft_42 F) (by clear hyp; omega) (xlt_of (fl_42 F) (by clear hyp; omega)) rfl (fun f10_ => ?_)
    replace f10_ : -2147483648 ≤ (xpl h 42 (((slF (xpl h x1 0) x2) * 2) + 1)) ∧ (xpl h 42 (((slF (xpl h x1 0) x2) * 2) + 1)) ≤ 2147483647 := f10_
    refine xr_if_le (pc := 25) (tgt := 32) (hI := d_Fits_isIn_25) (ht := by decide) (fun q9 => ?_) (fun q9 => ?_)
    · replace hyp := hyp.1 q9
      have q11_ := q9
      clear q9
      refine xr_iconst (pc := 32) (hI := d_Fits_isIn_32) (hr := by decide) ?_
      refine xr_ireturnT (S := []) (pc := 33) (hI := d_Fits_isIn_33) (hr := rfl) (xnar_z (by decide)) ?_
      exact hyp
    · replace hyp := hyp.2 q9
      have q11_ := q9
      clear q9
      refine xr_iconst (pc := 28) (hI := d_Fits_isIn_28) (hr := by decide) ?_
      refine xr_goto (pc := 29) (tgt := 33) (hI := d_Fits_isIn_29) (ht := by decide) ?_
      refine xr_ireturnT (S := []) (pc := 33) (hI := d_Fits_isIn_33) (hr := rfl) (xnar_z (by decide)) ?_
      exact hyp
abbrev m_Fits_unitWeight : XM := (⟨"BeaconIndex$Fits", "unitWeight", "(LBeaconIndex$Part;ILBeaconIndex$Text;)I"⟩, prog_3_method_7_code, 8, (some .int), [])
theorem d_Fits_unitWeight_0 : decode prog_3_method_7_code 0 = .ok (.aload_n 0, 1) := by decide +kernel
theorem d_Fits_unitWeight_1 : decode prog_3_method_7_code 1 = .ok (.getfield 9, 3) := by decide +kernel
theorem d_Fits_unitWeight_4 : decode prog_3_method_7_code 4 = .ok (.aload_n 1, 1) := by decide +kernel
theorem d_Fits_unitWeight_5 : decode prog_3_method_7_code 5 = .ok (.iload_n 2, 1) := by decide +kernel
theorem d_Fits_unitWeight_6 : decode prog_3_method_7_code 6 = .ok (.iconst 0, 1) := by decide +kernel
theorem d_Fits_unitWeight_7 : decode prog_3_method_7_code 7 = .ok (.invokestatic 97, 3) := by decide +kernel
theorem d_Fits_unitWeight_10 : decode prog_3_method_7_code 10 = .ok (.iaload, 1) := by decide +kernel
theorem d_Fits_unitWeight_11 : decode prog_3_method_7_code 11 = .ok (.istore 4, 2) := by decide +kernel
theorem d_Fits_unitWeight_13 : decode prog_3_method_7_code 13 = .ok (.aload_n 0, 1) := by decide +kernel
theorem d_Fits_unitWeight_14 : decode prog_3_method_7_code 14 = .ok (.getfield 9, 3) := by decide +kernel
theorem d_Fits_unitWeight_17 : decode prog_3_method_7_code 17 = .ok (.aload_n 1, 1) := by decide +kernel
theorem d_Fits_unitWeight_18 : decode prog_3_method_7_code 18 = .ok (.iload_n 2, 1) := by decide +kernel
theorem d_Fits_unitWeight_19 : decode prog_3_method_7_code 19 = .ok (.iconst 1, 1) := by decide +kernel
theorem d_Fits_unitWeight_20 : decode prog_3_method_7_code 20 = .ok (.invokestatic 97, 3) := by decide +kernel
theorem d_Fits_unitWeight_23 : decode prog_3_method_7_code 23 = .ok (.iaload, 1) := by decide +kernel
theorem d_Fits_unitWeight_24 : decode prog_3_method_7_code 24 = .ok (.istore 5, 2) := by decide +kernel
theorem d_Fits_unitWeight_26 : decode prog_3_method_7_code 26 = .ok (.aload_n 1, 1) := by decide +kernel
theorem d_Fits_unitWeight_27 : decode prog_3_method_7_code 27 = .ok (.getfield 64, 3) := by decide +kernel
theorem w_248 : Cond.fieldLink "BeaconIndex$Fits" 64 "BeaconIndex$Part" "titleRarity" "I" ∈ lw_tbl := List.mem_append_right _ (List.mem_of_getElem? (i := 248) (by decide +kernel))
theorem d_Fits_unitWeight_30 : decode prog_3_method_7_code 30 = .ok (.iload 4, 2) := by decide +kernel
theorem d_Fits_unitWeight_32 : decode prog_3_method_7_code 32 = .ok (.aload_n 3, 1) := by decide +kernel
theorem d_Fits_unitWeight_33 : decode prog_3_method_7_code 33 = .ok (.getfield 105, 3) := by decide +kernel
theorem w_128 : Cond.fieldLink "BeaconIndex$Fits" 105 "BeaconIndex$Text" "title" "[J" ∈ lw_tbl := List.mem_append_right _ (List.mem_of_getElem? (i := 128) (by decide +kernel))
theorem d_Fits_unitWeight_36 : decode prog_3_method_7_code 36 = .ok (.arraylength, 1) := by decide +kernel
theorem d_Fits_unitWeight_37 : decode prog_3_method_7_code 37 = .ok (.aload_n 0, 1) := by decide +kernel
theorem d_Fits_unitWeight_38 : decode prog_3_method_7_code 38 = .ok (.getfield 18, 3) := by decide +kernel
theorem w_395 : Cond.fieldLink "BeaconIndex$Fits" 18 "BeaconIndex$Fits" "meanLengths" "[I" ∈ lw_tbl := List.mem_append_right _ (List.mem_of_getElem? (i := 395) (by decide +kernel))
theorem d_Fits_unitWeight_41 : decode prog_3_method_7_code 41 = .ok (.iconst 0, 1) := by decide +kernel
theorem d_Fits_unitWeight_42 : decode prog_3_method_7_code 42 = .ok (.iaload, 1) := by decide +kernel
theorem d_Fits_unitWeight_43 : decode prog_3_method_7_code 43 = .ok (.invokestatic 109, 3) := by decide +kernel
theorem k_Fits_fieldWeight : xCal m_Fits_fieldWeight 4 := ⟨List.mem_append_right _ (List.mem_of_getElem? (i := 720) (by decide +kernel)), w_13, Nat.le_of_ble_eq_true rfl, ⟨by decide +kernel, by decide +kernel⟩, by decide +kernel, by decide +kernel, rfl⟩
theorem w_718 : Cond.methodLink "BeaconIndex$Fits" 109 ⟨"BeaconIndex$Fits", "fieldWeight", "(IIII)I"⟩ ∈ lw_tbl := List.mem_append_right _ (List.mem_of_getElem? (i := 718) (by decide +kernel))
theorem w_719 : Cond.static ⟨"BeaconIndex$Fits", "fieldWeight", "(IIII)I"⟩ ∈ lw_tbl := List.mem_append_right _ (List.mem_of_getElem? (i := 719) (by decide +kernel))
theorem d_Fits_unitWeight_46 : decode prog_3_method_7_code 46 = .ok (.istore 6, 2) := by decide +kernel
theorem d_Fits_unitWeight_48 : decode prog_3_method_7_code 48 = .ok (.aload_n 1, 1) := by decide +kernel
theorem d_Fits_unitWeight_49 : decode prog_3_method_7_code 49 = .ok (.getfield 68, 3) := by decide +kernel
theorem w_250 : Cond.fieldLink "BeaconIndex$Fits" 68 "BeaconIndex$Part" "bodyRarity" "I" ∈ lw_tbl := List.mem_append_right _ (List.mem_of_getElem? (i := 250) (by decide +kernel))
theorem d_Fits_unitWeight_52 : decode prog_3_method_7_code 52 = .ok (.iload 5, 2) := by decide +kernel
theorem d_Fits_unitWeight_54 : decode prog_3_method_7_code 54 = .ok (.aload_n 3, 1) := by decide +kernel
theorem d_Fits_unitWeight_55 : decode prog_3_method_7_code 55 = .ok (.getfield 113, 3) := by decide +kernel
theorem w_130 : Cond.fieldLink "BeaconIndex$Fits" 113 "BeaconIndex$Text" "body" "[J" ∈ lw_tbl := List.mem_append_right _ (List.mem_of_getElem? (i := 130) (by decide +kernel))
theorem d_Fits_unitWeight_58 : decode prog_3_method_7_code 58 = .ok (.arraylength, 1) := by decide +kernel
theorem d_Fits_unitWeight_59 : decode prog_3_method_7_code 59 = .ok (.aload_n 0, 1) := by decide +kernel
theorem d_Fits_unitWeight_60 : decode prog_3_method_7_code 60 = .ok (.getfield 18, 3) := by decide +kernel
theorem d_Fits_unitWeight_63 : decode prog_3_method_7_code 63 = .ok (.iconst 1, 1) := by decide +kernel
theorem d_Fits_unitWeight_64 : decode prog_3_method_7_code 64 = .ok (.iaload, 1) := by decide +kernel
theorem d_Fits_unitWeight_65 : decode prog_3_method_7_code 65 = .ok (.invokestatic 109, 3) := by decide +kernel
theorem d_Fits_unitWeight_68 : decode prog_3_method_7_code 68 = .ok (.istore 7, 2) := by decide +kernel
theorem d_Fits_unitWeight_70 : decode prog_3_method_7_code 70 = .ok (.iconst 2, 1) := by decide +kernel
theorem d_Fits_unitWeight_71 : decode prog_3_method_7_code 71 = .ok (.iload 6, 2) := by decide +kernel
theorem d_Fits_unitWeight_73 : decode prog_3_method_7_code 73 = .ok (.imul, 1) := by decide +kernel
theorem d_Fits_unitWeight_74 : decode prog_3_method_7_code 74 = .ok (.iload 7, 2) := by decide +kernel
theorem d_Fits_unitWeight_76 : decode prog_3_method_7_code 76 = .ok (.iadd, 1) := by decide +kernel
theorem d_Fits_unitWeight_77 : decode prog_3_method_7_code 77 = .ok (.invokestatic 116, 3) := by decide +kernel
theorem k_Fits_capped : xCal m_Fits_capped 1 := ⟨List.mem_append_right _ (List.mem_of_getElem? (i := 723) (by decide +kernel)), w_13, Nat.le_of_ble_eq_true rfl, ⟨by decide +kernel, by decide +kernel⟩, by decide +kernel, by decide +kernel, rfl⟩
theorem w_721 : Cond.methodLink "BeaconIndex$Fits" 116 ⟨"BeaconIndex$Fits", "capped", "(I)I"⟩ ∈ lw_tbl := List.mem_append_right _ (List.mem_of_getElem? (i := 721) (by decide +kernel))
theorem w_722 : Cond.static ⟨"BeaconIndex$Fits", "capped", "(I)I"⟩ ∈ lw_tbl := List.mem_append_right _ (List.mem_of_getElem? (i := 722) (by decide +kernel))
theorem d_Fits_unitWeight_80 : decode prog_3_method_7_code 80 = .ok (.ireturn, 1) := by decide +kernel
theorem v_Fits_unitWeight_0 {G : XG} {d : Nat} {h : XH} {Q : XV → XH → Prop} {X : Nat → XH → Prop} {x1 x2 x3 : Int} (F : xFix h) (hyp : xtg h x1 = 4 ∧ (0 ≤ (0 : Int) ∧ (0 : Int) ≤ 1) ∧ (0 ≤ (1 : Int) ∧ (1 : Int) ≤ 1) ∧ xtg h x1 = 4 ∧ xtg h x3 = 9 ∧ xtg h (xpl h x3 3) = 101 ∧ -16 ≤ (xpl h x1 11) ∧ (xpl h x1 11) ≤ 20000 ∧ 0 ≤ (xpl h 42 (((slF (xpl h x1 0) x2) * 2) + 0)) ∧ (xpl h 42 (((slF (xpl h x1 0) x2) * 2) + 0)) ≤ 200 ∧ 0 ≤ (xln h (xpl h x3 3)) ∧ (xln h (xpl h x3 3)) ≤ 1000 ∧ xtg h (xpl h x3 4) = 101 ∧ -16 ≤ (xpl h x1 12) ∧ (xpl h x1 12) ≤ 20000 ∧ 0 ≤ (xpl h 42 (((slF (xpl h x1 0) x2) * 2) + 1)) ∧ (xpl h 42 (((slF (xpl h x1 0) x2) * 2) + 1)) ≤ 200 ∧ 0 ≤ (xln h (xpl h x3 4)) ∧ (xln h (xpl h x3 4)) ≤ 1000 ∧ xiR (2 * (fwF (xpl h x1 11) (xpl h 42 (((slF (xpl h x1 0) x2) * 2) + 0)) (xln h (xpl h x3 3)) (xpl h 44 0))) ∧ xiR ((2 * (fwF (xpl h x1 11) (xpl h 42 (((slF (xpl h x1 0) x2) * 2) + 0)) (xln h (xpl h x3 3)) (xpl h 44 0))) + (fwF (xpl h x1 12) (xpl h 42 (((slF (xpl h x1 0) x2) * 2) + 1)) (xln h (xpl h x3 4)) (xpl h 44 1))) ∧ (Q (xI (min ((2 * (fwF (xpl h x1 11) (xpl h 42 (((slF (xpl h x1 0) x2) * 2) + 0)) (xln h (xpl h x3 3)) (xpl h 44 0))) + (fwF (xpl h x1 12) (xpl h 42 (((slF (xpl h x1 0) x2) * 2) + 1)) (xln h (xpl h x3 4)) (xpl h 44 1))) 1000000)) h)) : xwp G m_Fits_unitWeight (d + 3) 0 [xR 41, xR x1, xI x2, xR x3, xZ, xZ, xZ, xZ] [] h Q X := by
  have hnx9 : (93 : Int) ≤ xnx h := F.2.2
  refine xr_okL (fun hl9 => ?_)
  have r_x2 : -2147483648 ≤ x2 ∧ x2 ≤ 2147483647 := hl9 (xI x2) (.tail _ (.tail _ (.head _))) (Nat.le_of_ble_eq_true rfl)
  refine xr_aload_n (pc := 0) (i := 0) (hI := d_Fits_unitWeight_0) (hi := rfl) (hl := rfl) ?_
  refine xg_getf (pc := 1) (ci := 2) (k := 0) (N := 4) (v9 := 2) (v := 42) (T := xF2) (hI := d_Fits_unitWeight_1) (hw := w_393) rfl xi2 (Or.inl rfl) (Nat.le_of_ble_eq_true rfl) (Nat.le_of_ble_eq_true rfl) rfl (ft_41 F) (fp_41_0 F) (fun f1_ => ?_)
  clear f1_
  refine xr_aload_n (pc := 4) (i := 1) (hI := d_Fits_unitWeight_4) (hi := rfl) (hl := rfl) ?_
  refine xr_iload_n (pc := 5) (i := 2) (hI := d_Fits_unitWeight_5) (hi := rfl) (hl := rfl) ?_
  refine xr_iconst (pc := 6) (hI := d_Fits_unitWeight_6) (hr := by decide) ?_
  obtain ⟨c2_, hyp⟩ := hyp
  obtain ⟨c3_, hyp⟩ := hyp
  refine xq_callS (pc := 7) (index := 97) (K := m_Fits_slot) (As := [xR x1, xI x2, xI 0]) (S := [xR 42]) (L0 := [xR x1, xI x2, xI 0]) (hI := d_Fits_unitWeight_7) (hK := k_Fits_slot) (hlk := w_685) (hnoM := rfl) (hS8 := Nat.le_of_ble_eq_true rfl) (hstat := w_686) (hlen := Nat.le_of_ble_eq_true rfl) (hst := rfl) (hL0 := rfl)  (p_Fits_slot F c2_ c3_ ?_)
  show xwp G m_Fits_unitWeight (d + 3) 10 [xR 41, xR x1, xI x2, xR x3, xZ, xZ, xZ, xZ] [xI (((slF (xpl h x1 0) x2) * 2) + 0), xR 42] _ _ _
  have f4_ : 0 ≤ (slF (xpl h x1 0) x2) ∧ (slF (xpl h x1 0) x2) ≤ 2399 := (slF_rng _ _)
  refine xg_iaload (pc := 10) (v := (xpl h 42 (((slF (xpl h x1 0) x2) * 2) + 0))) (hI := d_Fits_unitWeight_10) (ft_42 F) (by clear hyp; omega) (xlt_of (fl_42 F) (by clear hyp; omega)) rfl (fun f5_ => ?_)
  replace f5_ : -2147483648 ≤ (xpl h 42 (((slF (xpl h x1 0) x2) * 2) + 0)) ∧ (xpl h 42 (((slF (xpl h x1 0) x2) * 2) + 0)) ≤ 2147483647 := f5_
  refine xr_istore (pc := 11) (i := 4) (L9 := [xR 41, xR x1, xI x2, xR x3, xI (xpl h 42 (((slF (xpl h x1 0) x2) * 2) + 0)), xZ, xZ, xZ]) (hI := d_Fits_unitWeight_11) (hn := Nat.le_of_ble_eq_true rfl) (hL9 := rfl) ?_
  refine xr_aload_n (pc := 13) (i := 0) (hI := d_Fits_unitWeight_13) (hi := rfl) (hl := rfl) ?_
  refine xg_getf (pc := 14) (ci := 2) (k := 0) (N := 4) (v9 := 2) (v := 42) (T := xF2) (hI := d_Fits_unitWeight_14) (hw := w_393) rfl xi2 (Or.inl rfl) (Nat.le_of_ble_eq_true rfl) (Nat.le_of_ble_eq_true rfl) rfl (ft_41 F) (fp_41_0 F) (fun f6_ => ?_)
  clear f6_
  refine xr_aload_n (pc := 17) (i := 1) (hI := d_Fits_unitWeight_17) (hi := rfl) (hl := rfl) ?_
  refine xr_iload_n (pc := 18) (i := 2) (hI := d_Fits_unitWeight_18) (hi := rfl) (hl := rfl) ?_
  refine xr_iconst (pc := 19) (hI := d_Fits_unitWeight_19) (hr := by decide) ?_
  obtain ⟨c7_, hyp⟩ := hyp
  refine xq_callS (pc := 20) (index := 97) (K := m_Fits_slot) (As := [xR x1, xI x2, xI 1]) (S := [xR 42]) (L0 := [xR x1, xI x2, xI 1]) (hI := d_Fits_unitWeight_20) (hK := k_Fits_slot) (hlk := w_685) (hnoM := rfl) (hS8 := Nat.le_of_ble_eq_true rfl) (hstat := w_686) (hlen := Nat.le_of_ble_eq_true rfl) (hst := rfl) (hL0 := rfl)  (p_Fits_slot F c2_ c7_ ?_)
  show xwp G m_Fits_unitWeight (d + 3) 23 [xR 41, xR x1, xI x2, xR x3, xI (xpl h 42 (((slF (xpl h x1 0) x2) * 2) + 0)), xZ, xZ, xZ] [xI (((slF (xpl h x1 0) x2) * 2) + 1), xR 42] _ _ _
  have f8_ : 0 ≤ (slF (xpl h x1 0) x2) ∧ (slF (xpl h x1 0) x2) ≤ 2399 := (slF_rng _ _)
  refine xg_iaload (pc := 23) (v := (xpl h 42 (((slF (xpl h x1 0) x2) * 2) + 1))) (hI := d_Fits_unitWeight_23) (ft_42 F) (by clear hyp; omega) (xlt_of (fl_42 F) (by clear hyp; omega)) rfl (fun f9_ => ?_)
  replace f9_ : -2147483648 ≤ (xpl h 42 (((slF (xpl h x1 0) x2) * 2) + 1)) ∧ (xpl h 42 (((slF (xpl h x1 0) x2) * 2) + 1)) ≤ 2147483647 := f9_
  refine xr_istore (pc := 24) (i := 5) (L9 := [xR 41, xR x1, xI x2, xR x3, xI (xpl h 42 (((slF (xpl h x1 0) x2) * 2) + 0)), xI (xpl h 42 (((slF (xpl h x1 0) x2) * 2) + 1)), xZ, xZ]) (hI := d_Fits_unitWeight_24) (hn := Nat.le_of_ble_eq_true rfl) (hL9 := rfl) ?_
  refine xr_aload_n (pc := 26) (i := 1) (hI := d_Fits_unitWeight_26) (hi := rfl) (hl := rfl) ?_
  obtain ⟨c9, hyp⟩ := hyp
  have t10_ := c9
  clear c9
  refine xg_getf (pc := 27) (ci := 4) (k := 11) (N := 13) (v9 := 0) (v := (xpl h x1 11)) (T := xF4) (hI := d_Fits_unitWeight_27) (hw := w_248) rfl xi4 (Or.inl rfl) (Nat.le_of_ble_eq_true rfl) (Nat.le_of_ble_eq_true rfl) rfl t10_ rfl (fun f11_ => ?_)
  replace f11_ : -2147483648 ≤ (xpl h x1 11) ∧ (xpl h x1 11) ≤ 2147483647 := f11_
  refine xr_iload (pc := 30) (i := 4) (hI := d_Fits_unitWeight_30) (hl := rfl) ?_
  refine xr_aload_n (pc := 32) (i := 3) (hI := d_Fits_unitWeight_32) (hi := rfl) (hl := rfl) ?_
  obtain ⟨c9, hyp⟩ := hyp
  have t12_ := c9
  clear c9
  refine xg_getf (pc := 33) (ci := 9) (k := 3) (N := 6) (v9 := 2) (v := (xpl h x3 3)) (T := xF9) (hI := d_Fits_unitWeight_33) (hw := w_128) rfl xi9 (Or.inl rfl) (Nat.le_of_ble_eq_true rfl) (Nat.le_of_ble_eq_true rfl) rfl t12_ rfl (fun f13_ => ?_)
  clear f13_
  obtain ⟨c9, hyp⟩ := hyp
  have t14_ := c9
  clear c9
  refine xg_alen (pc := 36) (t := 101) (v := (xln h (xpl h x3 3))) (hI := d_Fits_unitWeight_36) t14_ (Nat.le_of_ble_eq_true rfl) (Nat.le_of_ble_eq_true rfl) rfl rfl (fun f15_ f16_ => ?_)
  refine xr_aload_n (pc := 37) (i := 0) (hI := d_Fits_unitWeight_37) (hi := rfl) (hl := rfl) ?_
  refine xg_getf (pc := 38) (ci := 2) (k := 2) (N := 4) (v9 := 2) (v := 44) (T := xF2) (hI := d_Fits_unitWeight_38) (hw := w_395) rfl xi2 (Or.inl rfl) (Nat.le_of_ble_eq_true rfl) (Nat.le_of_ble_eq_true rfl) rfl (ft_41 F) (fp_41_2 F) (fun f17_ => ?_)
  clear f17_
  refine xr_iconst (pc := 41) (hI := d_Fits_unitWeight_41) (hr := by decide) ?_
  refine xg_iaload (pc := 42) (v := (xpl h 44 0)) (hI := d_Fits_unitWeight_42) (ft_44 F) (by decide) (xlt_of (fl_44 F) (by decide)) rfl (fun f18_ => ?_)
  replace f18_ : -2147483648 ≤ (xpl h 44 0) ∧ (xpl h 44 0) ≤ 2147483647 := f18_
  obtain ⟨c19_, hyp⟩ := hyp
  obtain ⟨c20_, hyp⟩ := hyp
  obtain ⟨c21_, hyp⟩ := hyp
  obtain ⟨c22_, hyp⟩ := hyp
  obtain ⟨c23_, hyp⟩ := hyp
  obtain ⟨c24_, hyp⟩ := hyp
  refine xq_callS (pc := 43) (index := 109) (K := m_Fits_fieldWeight) (As := [xI (xpl h x1 11), xI (xpl h 42 (((slF (xpl h x1 0) x2) * 2) + 0)), xI (xln h (xpl h x3 3)), xI (xpl h 44 0)]) (S := []) (L0 := [xI (xpl h x1 11), xI (xpl h 42 (((slF (xpl h x1 0) x2) * 2) + 0)), xI (xln h (xpl h x3 3)), xI (xpl h 44 0), xZ]) (hI := d_Fits_unitWeight_43) (hK := k_Fits_fieldWeight) (hlk := w_718) (hnoM := rfl) (hS8 := Nat.le_of_ble_eq_true rfl) (hstat := w_719) (hlen := Nat.le_of_ble_eq_true rfl) (hst := rfl) (hL0 := rfl)  (p_Fits_fieldWeight F c19_ c20_ c21_ c22_ c23_ c24_ ?_)
  show xwp G m_Fits_unitWeight (d + 3) 46 [xR 41, xR x1, xI x2, xR x3, xI (xpl h 42 (((slF (xpl h x1 0) x2) * 2) + 0)), xI (xpl h 42 (((slF (xpl h x1 0) x2) * 2) + 1)), xZ, xZ] [xI (fwF (xpl h x1 11) (xpl h 42 (((slF (xpl h x1 0) x2) * 2) + 0)) (xln h (xpl h x3 3)) (xpl h 44 0))] _ _ _
  refine xr_istore (pc := 46) (i := 6) (L9 := [xR 41, xR x1, xI x2, xR x3, xI (xpl h 42 (((slF (xpl h x1 0) x2) * 2) + 0)), xI (xpl h 42 (((slF (xpl h x1 0) x2) * 2) + 1)), xI (fwF (xpl h x1 11) (xpl h 42 (((slF (xpl h x1 0) x2) * 2) + 0)) (xln h (xpl h x3 3)) (xpl h 44 0)), xZ]) (hI := d_Fits_unitWeight_46) (hn := Nat.le_of_ble_eq_true rfl) (hL9 := rfl) ?_
  refine xr_aload_n (pc := 48) (i := 1) (hI := d_Fits_unitWeight_48) (hi := rfl) (hl := rfl) ?_
  refine xg_getf (pc := 49) (ci := 4) (k := 12) (N := 13) (v9 := 0) (v := (xpl h x1 12)) (T := xF4) (hI := d_Fits_unitWeight_49) (hw := w_250) rfl xi4 (Or.inl rfl) (Nat.le_of_ble_eq_true rfl) (Nat.le_of_ble_eq_true rfl) rfl t10_ rfl (fun f25_ => ?_)
  replace f25_ : -2147483648 ≤ (xpl h x1 12) ∧ (xpl h x1 12) ≤ 2147483647 := f25_
  refine xr_iload (pc := 52) (i := 5) (hI := d_Fits_unitWeight_52) (hl := rfl) ?_
  refine xr_aload_n (pc := 54) (i := 3) (hI := d_Fits_unitWeight_54) (hi := rfl) (hl := rfl) ?_
  refine xg_getf (pc := 55) (ci := 9) (k := 4) (N := 6) (v9 := 2) (v := (xpl h x3 4)) (T := xF9) (hI := d_Fits_unitWeight_55) (hw := w_130) rfl xi9 (Or.inl rfl) (Nat.le_of_ble_eq_true rfl) (Nat.le_of_ble_eq_true rfl) rfl t12_ rfl (fun f26_ => ?_)
  clear f26_
  obtain ⟨c9, hyp⟩ := hyp
  have t27_ := c9
  clear c9
  refine xg_alen (pc := 58) (t := 101) (v := (xln h (xpl h x3 4))) (hI := d_Fits_unitWeight_58) t27_ (Nat.le_of_ble_eq_true rfl) (Nat.le_of_ble_eq_true rfl) rfl rfl (fun f28_ f29_ => ?_)
  refine xr_aload_n (pc := 59) (i := 0) (hI := d_Fits_unitWeight_59) (hi := rfl) (hl := rfl) ?_
  refine xg_getf (pc := 60) (ci := 2) (k := 2) (N := 4) (v9 := 2) (v := 44) (T := xF2) (hI := d_Fits_unitWeight_60) (hw := w_395) rfl xi2 (Or.inl rfl) (Nat.le_of_ble_eq_true rfl) (Nat.le_of_ble_eq_true rfl) rfl (ft_41 F) (fp_41_2 F) (fun f30_ => ?_)
  clear f30_
  refine xr_iconst (pc := 63) (hI := d_Fits_unitWeight_63) (hr := by decide) ?_
  refine xg_iaload (pc := 64) (v := (xpl h 44 1)) (hI := d_Fits_unitWeight_64) (ft_44 F) (by decide) (xlt_of (fl_44 F) (by decide)) rfl (fun f31_ => ?_)
  replace f31_ : -2147483648 ≤ (xpl h 44 1) ∧ (xpl h 44 1) ≤ 2147483647 := f31_
  obtain ⟨c32_, hyp⟩ := hyp
  obtain ⟨c33_, hyp⟩ := hyp
  obtain ⟨c34_, hyp⟩ := hyp
  obtain ⟨c35_, hyp⟩ := hyp
  obtain ⟨c36_, hyp⟩ := hyp
  obtain ⟨c37_, hyp⟩ := hyp
  refine xq_callS (pc := 65) (index := 109) (K := m_Fits_fieldWeight) (As := [xI (xpl h x1 12), xI (xpl h 42 (((slF (xpl h x1 0) x2) * 2) + 1)), xI (xln h (xpl h x3 4)), xI (xpl h 44 1)]) (S := []) (L0 := [xI (xpl h x1 12), xI (xpl h 42 (((slF (xpl h x1 0) x2) * 2) + 1)), xI (xln h (xpl h x3 4)), xI (xpl h 44 1), xZ]) (hI := d_Fits_unitWeight_65) (hK := k_Fits_fieldWeight) (hlk := w_718) (hnoM := rfl) (hS8 := Nat.le_of_ble_eq_true rfl) (hstat := w_719) (hlen := Nat.le_of_ble_eq_true rfl) (hst := rfl) (hL0 := rfl)  (p_Fits_fieldWeight F c32_ c33_ c34_ c35_ c36_ c37_ ?_)
  show xwp G m_Fits_unitWeight (d + 3) 68 [xR 41, xR x1, xI x2, xR x3, xI (xpl h 42 (((slF (xpl h x1 0) x2) * 2) + 0)), xI (xpl h 42 (((slF (xpl h x1 0) x2) * 2) + 1)), xI (fwF (xpl h x1 11) (xpl h 42 (((slF (xpl h x1 0) x2) * 2) + 0)) (xln h (xpl h x3 3)) (xpl h 44 0)), xZ] [xI (fwF (xpl h x1 12) (xpl h 42 (((slF (xpl h x1 0) x2) * 2) + 1)) (xln h (xpl h x3 4)) (xpl h 44 1))] _ _ _
  refine xr_istore (pc := 68) (i := 7) (L9 := [xR 41, xR x1, xI x2, xR x3, xI (xpl h 42 (((slF (xpl h x1 0) x2) * 2) + 0)), xI (xpl h 42 (((slF (xpl h x1 0) x2) * 2) + 1)), xI (fwF (xpl h x1 11) (xpl h 42 (((slF (xpl h x1 0) x2) * 2) + 0)) (xln h (xpl h x3 3)) (xpl h 44 0)), xI (fwF (xpl h x1 12) (xpl h 42 (((slF (xpl h x1 0) x2) * 2) + 1)) (xln h (xpl h x3 4)) (xpl h 44 1))]) (hI := d_Fits_unitWeight_68) (hn := Nat.le_of_ble_eq_true rfl) (hL9 := rfl) ?_
  refine xr_iconst (pc := 70) (hI := d_Fits_unitWeight_70) (hr := by decide) ?_
  refine xr_iload (pc := 71) (i := 6) (hI := d_Fits_unitWeight_71) (hl := rfl) ?_
  obtain ⟨c9, hyp⟩ := hyp
  refine xr_imul (pc := 73) (hI := d_Fits_unitWeight_73) (hr := c9) ?_
  refine xr_iload (pc := 74) (i := 7) (hI := d_Fits_unitWeight_74) (hl := rfl) ?_
  obtain ⟨c9, hyp⟩ := hyp
  refine xr_iadd (pc := 76) (hI := d_Fits_unitWeight_76) (hr := c9) ?_
  refine xq_callS (pc := 77) (index := 116) (K := m_Fits_capped) (As := [xI ((2 * (fwF (xpl h x1 11) (xpl h 42 (((slF (xpl h x1 0) x2) * 2) + 0)) (xln h (xpl h x3 3)) (xpl h 44 0))) + (fwF (xpl h x1 12) (xpl h 42 (((slF (xpl h x1 0) x2) * 2) + 1)) (xln h (xpl h x3 4)) (xpl h 44 1)))]) (S := []) (L0 := [xI ((2 * (fwF (xpl h x1 11) (xpl h 42 (((slF (xpl h x1 0) x2) * 2) + 0)) (xln h (xpl h x3 3)) (xpl h 44 0))) + (fwF (xpl h x1 12) (xpl h 42 (((slF (xpl h x1 0) x2) * 2) + 1)) (xln h (xpl h x3 4)) (xpl h 44 1)))]) (hI := d_Fits_unitWeight_77) (hK := k_Fits_capped) (hlk := w_721) (hnoM := rfl) (hS8 := Nat.le_of_ble_eq_true rfl) (hstat := w_722) (hlen := Nat.le_of_ble_eq_true rfl) (hst := rfl) (hL0 := rfl)  (p_Fits_capped F  ?_)
  show xwp G m_Fits_unitWeight (d + 3) 80 [xR 41, xR x1, xI x2, xR x3, xI (xpl h 42 (((slF (xpl h x1 0) x2) * 2) + 0)), xI (xpl h 42 (((slF (xpl h x1 0) x2) * 2) + 1)), xI (fwF (xpl h x1 11) (xpl h 42 (((slF (xpl h x1 0) x2) * 2) + 0)) (xln h (xpl h x3 3)) (xpl h 44 0)), xI (fwF (xpl h x1 12) (xpl h 42 (((slF (xpl h x1 0) x2) * 2) + 1)) (xln h (xpl h x3 4)) (xpl h 44 1))] [xI (min ((2 * (fwF (xpl h x1 11) (xpl h 42 (((slF (xpl h x1 0) x2) * 2) + 0)) (xln h (xpl h x3 3)) (xpl h 44 0))) + (fwF (xpl h x1 12) (xpl h 42 (((slF (xpl h x1 0) x2) * 2) + 1)) (xln h (xpl h x3 4)) (xpl h 44 1))) 1000000)] _ _ _
  refine xr_ireturn (S := []) (pc := 80) (hI := d_Fits_unitWeight_80) (hr := rfl) ?_
  exact hyp
abbrev m_Fits_firstOfAll : XM := (⟨"BeaconIndex$Fits", "firstOfAll", "(Ljava/util/ArrayList;II)I"⟩, prog_3_method_9_code, 10, (some .int), [])
theorem d_Fits_firstOfAll_0 : decode prog_3_method_9_code 0 = .ok (.iconst (-1), 1) := by decide +kernel
theorem d_Fits_firstOfAll_1 : decode prog_3_method_9_code 1 = .ok (.istore 4, 2) := by decide +kernel
theorem d_Fits_firstOfAll_3 : decode prog_3_method_9_code 3 = .ok (.iconst 0, 1) := by decide +kernel
theorem d_Fits_firstOfAll_4 : decode prog_3_method_9_code 4 = .ok (.istore 5, 2) := by decide +kernel
theorem v_Fits_firstOfAll_0 {G : XG} {d : Nat} {h : XH} {Q : XV → XH → Prop} {X : Nat → XH → Prop} {x1 x2 x3 : Int} (F : xFix h) (hyp : (xwp G m_Fits_firstOfAll (d + 4) 6 [xR 41, xR x1, xI x2, xI x3, xI (-1), xI 0, xZ, xZ, xZ, xZ] [] h Q X)) : xwp G m_Fits_firstOfAll (d + 4) 0 [xR 41, xR x1, xI x2, xI x3, xZ, xZ, xZ, xZ, xZ, xZ] [] h Q X := by
  have hnx9 : (93 : Int) ≤ xnx h := F.2.2
  refine xr_okL (fun hl9 => ?_)
  have r_x2 : -2147483648 ≤ x2 ∧ x2 ≤ 2147483647 := hl9 (xI x2) (.tail _ (.tail _ (.head _))) (Nat.le_of_ble_eq_true rfl)
  have r_x3 : -2147483648 ≤ x3 ∧ x3 ≤ 2147483647 := hl9 (xI x3) (.tail _ (.tail _ (.tail _ (.head _)))) (Nat.le_of_ble_eq_true rfl)
  refine xr_iconst (pc := 0) (hI := d_Fits_firstOfAll_0) (hr := by decide) ?_
  refine xr_istore (pc := 1) (i := 4) (L9 := [xR 41, xR x1, xI x2, xI x3, xI (-1), xZ, xZ, xZ, xZ, xZ]) (hI := d_Fits_firstOfAll_1) (hn := Nat.le_of_ble_eq_true rfl) (hL9 := rfl) ?_
  refine xr_iconst (pc := 3) (hI := d_Fits_firstOfAll_3) (hr := by decide) ?_
  refine xr_istore (pc := 4) (i := 5) (L9 := [xR 41, xR x1, xI x2, xI x3, xI (-1), xI 0, xZ, xZ, xZ, xZ]) (hI := d_Fits_firstOfAll_4) (hn := Nat.le_of_ble_eq_true rfl) (hL9 := rfl) ?_
  exact hyp
theorem d_Fits_firstOfAll_6 : decode prog_3_method_9_code 6 = .ok (.iload 5, 2) := by decide +kernel
theorem d_Fits_firstOfAll_8 : decode prog_3_method_9_code 8 = .ok (.aload_n 1, 1) := by decide +kernel
theorem d_Fits_firstOfAll_9 : decode prog_3_method_9_code 9 = .ok (.invokevirtual 38, 3) := by decide +kernel
theorem d_Fits_firstOfAll_12 : decode prog_3_method_9_code 12 = .ok (.if_icmp .ge 103, 3) := by decide +kernel
theorem d_Fits_firstOfAll_115 : decode prog_3_method_9_code 115 = .ok (.iload 4, 2) := by decide +kernel
theorem d_Fits_firstOfAll_117 : decode prog_3_method_9_code 117 = .ok (.ireturn, 1) := by decide +kernel
theorem d_Fits_firstOfAll_15 : decode prog_3_method_9_code 15 = .ok (.aload_n 1, 1) := by decide +kernel
theorem d_Fits_firstOfAll_16 : decode prog_3_method_9_code 16 = .ok (.iload 5, 2) := by decide +kernel
theorem d_Fits_firstOfAll_18 : decode prog_3_method_9_code 18 = .ok (.invokevirtual 44, 3) := by decide +kernel
theorem d_Fits_firstOfAll_21 : decode prog_3_method_9_code 21 = .ok (.checkcast 48, 3) := by decide +kernel
theorem w_615 : Cond.classLink "BeaconIndex$Fits" 48 "BeaconIndex$Question" ∈ lw_tbl := List.mem_append_right _ (List.mem_of_getElem? (i := 615) (by decide +kernel))
theorem d_Fits_firstOfAll_24 : decode prog_3_method_9_code 24 = .ok (.getfield 50, 3) := by decide +kernel
theorem w_287 : Cond.fieldLink "BeaconIndex$Fits" 50 "BeaconIndex$Question" "parts" "Ljava/util/ArrayList;" ∈ lw_tbl := List.mem_append_right _ (List.mem_of_getElem? (i := 287) (by decide +kernel))
theorem d_Fits_firstOfAll_27 : decode prog_3_method_9_code 27 = .ok (.astore 6, 2) := by decide +kernel
theorem d_Fits_firstOfAll_29 : decode prog_3_method_9_code 29 = .ok (.iconst 0, 1) := by decide +kernel
theorem d_Fits_firstOfAll_30 : decode prog_3_method_9_code 30 = .ok (.istore 7, 2) := by decide +kernel
theorem v_Fits_firstOfAll_6 {G : XG} {d : Nat} {h : XH} {Q : XV → XH → Prop} {X : Nat → XH → Prop} {x1 x2 x3 x4 x5 : Int} (F : xFix h) (hyp : xtg h x1 = 13 ∧ alok h x1 ∧ (((als h x1) ≤ x5 → (Q (xI x4) h)) ∧ (¬ (als h x1) ≤ x5 → 0 ≤ x5 ∧ xtg h (alg h x1 x5) = 5 ∧ (xwp G m_Fits_firstOfAll (d + 4) 32 [xR 41, xR x1, xI x2, xI x3, xI x4, xI x5, xR (xpl h (alg h x1 x5) 0), xI 0, xZ, xZ] [] h Q X)))) : xwp G m_Fits_firstOfAll (d + 4) 6 [xR 41, xR x1, xI x2, xI x3, xI x4, xI x5, xZ, xZ, xZ, xZ] [] h Q X := by
  have hnx9 : (93 : Int) ≤ xnx h := F.2.2
  refine xr_okL (fun hl9 => ?_)
  have r_x2 : -2147483648 ≤ x2 ∧ x2 ≤ 2147483647 := hl9 (xI x2) (.tail _ (.tail _ (.head _))) (Nat.le_of_ble_eq_true rfl)
  have r_x3 : -2147483648 ≤ x3 ∧ x3 ≤ 2147483647 := hl9 (xI x3) (.tail _ (.tail _ (.tail _ (.head _)))) (Nat.le_of_ble_eq_true rfl)
  have r_x4 : -2147483648 ≤ x4 ∧ x4 ≤ 2147483647 := hl9 (xI x4) (.tail _ (.tail _ (.tail _ (.tail _ (.head _))))) (Nat.le_of_ble_eq_true rfl)
  have r_x5 : -2147483648 ≤ x5 ∧ x5 ≤ 2147483647 := hl9 (xI x5) (.tail _ (.tail _ (.tail _ (.tail _ (.tail _ (.head _)))))) (Nat.le_of_ble_eq_true rfl)
  refine xr_iload (pc := 6) (i := 5) (hI := d_Fits_firstOfAll_6) (hl := rfl) ?_
  refine xr_aload_n (pc := 8) (i := 1) (hI := d_Fits_firstOfAll_8) (hi := rfl) (hl := rfl) ?_
  obtain ⟨c9, hyp⟩ := hyp
  have t1_ := c9
  clear c9
  obtain ⟨c2_, hyp⟩ := hyp
  refine xq_callV (pc := 9) (index := 38) (K := m_ArrayList_size) (As := []) (S := [xI x5]) (L0 := [xR x1]) (hI := d_Fits_firstOfAll_9) (hK := k_ArrayList_size) (hlk := w_607) (hnoM := rfl) (hS8 := Nat.le_of_ble_eq_true rfl) (ci := 13) (N := 3) (C := "java/util/ArrayList") (T := xF13) (hc := rfl) (hci := Nat.le_of_ble_eq_true rfl) (htb := t1_) (hinst := w_465) (hsel := w_466) (hlen := Nat.le_of_ble_eq_true rfl) (hst := rfl) (hL0 := rfl)  (p_AL_size F c2_ ?_)
  show xwp G m_Fits_firstOfAll (d + 4) 12 [xR 41, xR x1, xI x2, xI x3, xI x4, xI x5, xZ, xZ, xZ, xZ] [xI (als h x1), xI x5] _ _ _
  have f3_ : 0 ≤ (als h x1) ∧ (als h x1) ≤ 1000000 := ⟨c2_.2.2.1, c2_.2.2.2.2⟩
  refine xr_icmp_ge (pc := 12) (tgt := 115) (hI := d_Fits_firstOfAll_12) (ht := by decide) (fun q9 => ?_) (fun q9 => ?_)
  · replace hyp := hyp.1 q9
    have q4_ := q9
    clear q9
    refine xr_iload (pc := 115) (i := 4) (hI := d_Fits_firstOfAll_115) (hl := rfl) ?_
    refine xr_ireturn (S := []) (pc := 117) (hI := d_Fits_firstOfAll_117) (hr := rfl) ?_
    exact hyp
  · replace hyp := hyp.2 q9
    have q4_ := q9
    clear q9
    refine xr_aload_n (pc := 15) (i := 1) (hI := d_Fits_firstOfAll_15) (hi := rfl) (hl := rfl) ?_
    refine xr_iload (pc := 16) (i := 5) (hI := d_Fits_firstOfAll_16) (hl := rfl) ?_
    obtain ⟨c5_, hyp⟩ := hyp
    refine xq_callV (pc := 18) (index := 44) (K := m_ArrayList_get) (As := [xI x5]) (S := []) (L0 := [xR x1, xI x5]) (hI := d_Fits_firstOfAll_18) (hK := k_ArrayList_get) (hlk := w_608) (hnoM := rfl) (hS8 := Nat.le_of_ble_eq_true rfl) (ci := 13) (N := 3) (C := "java/util/ArrayList") (T := xF13) (hc := rfl) (hci := Nat.le_of_ble_eq_true rfl) (htb := t1_) (hinst := w_469) (hsel := w_470) (hlen := Nat.le_of_ble_eq_true rfl) (hst := rfl) (hL0 := rfl)  (p_AL_get F c2_ c5_ (by clear hyp; omega) ?_)
    show xwp G m_Fits_firstOfAll (d + 4) 21 [xR 41, xR x1, xI x2, xI x3, xI x4, xI x5, xZ, xZ, xZ, xZ] [xR (alg h x1 x5)] _ _ _
    obtain ⟨c9, hyp⟩ := hyp
    have t6_ := c9
    clear c9
    refine xr_cast (pc := 21) (ci := 5) (T := xF5) (N := 5) (hI := d_Fits_firstOfAll_21) w_615 rfl (Nat.le_of_ble_eq_true rfl) t6_ ?_
    refine xg_getf (pc := 24) (ci := 5) (k := 0) (N := 5) (v9 := 2) (v := (xpl h (alg h x1 x5) 0)) (T := xF5) (hI := d_Fits_firstOfAll_24) (hw := w_287) rfl xi5 (Or.inl rfl) (Nat.le_of_ble_eq_true rfl) (Nat.le_of_ble_eq_true rfl) rfl t6_ rfl (fun f7_ => ?_)
    clear f7_
    refine xr_astore (pc := 27) (i := 6) (L9 := [xR 41, xR x1, xI x2, xI x3, xI x4, xI x5, xR (xpl h (alg h x1 x5) 0), xZ, xZ, xZ]) (hI := d_Fits_firstOfAll_27) (hn := Nat.le_of_ble_eq_true rfl) (hL9 := rfl) ?_
    refine xr_iconst (pc := 29) (hI := d_Fits_firstOfAll_29) (hr := by decide) ?_
    refine xr_istore (pc := 30) (i := 7) (L9 := [xR 41, xR x1, xI x2, xI x3, xI x4, xI x5, xR (xpl h (alg h x1 x5) 0), xI 0, xZ, xZ]) (hI := d_Fits_firstOfAll_30) (hn := Nat.le_of_ble_eq_true rfl) (hL9 := rfl) ?_
    exact hyp
theorem d_Fits_firstOfAll_32 : decode prog_3_method_9_code 32 = .ok (.iload 7, 2) := by decide +kernel
theorem d_Fits_firstOfAll_34 : decode prog_3_method_9_code 34 = .ok (.aload 6, 2) := by decide +kernel
theorem d_Fits_firstOfAll_36 : decode prog_3_method_9_code 36 = .ok (.invokevirtual 38, 3) := by decide +kernel
theorem d_Fits_firstOfAll_39 : decode prog_3_method_9_code 39 = .ok (.if_icmp .ge 70, 3) := by decide +kernel
theorem d_Fits_firstOfAll_109 : decode prog_3_method_9_code 109 = .ok (.iinc 5 1, 3) := by decide +kernel
theorem d_Fits_firstOfAll_112 : decode prog_3_method_9_code 112 = .ok (.goto (-106), 3) := by decide +kernel
theorem d_Fits_firstOfAll_42 : decode prog_3_method_9_code 42 = .ok (.aload 6, 2) := by decide +kernel
theorem d_Fits_firstOfAll_44 : decode prog_3_method_9_code 44 = .ok (.iload 7, 2) := by decide +kernel
theorem d_Fits_firstOfAll_46 : decode prog_3_method_9_code 46 = .ok (.invokevirtual 44, 3) := by decide +kernel
theorem d_Fits_firstOfAll_49 : decode prog_3_method_9_code 49 = .ok (.checkcast 54, 3) := by decide +kernel
theorem w_616 : Cond.classLink "BeaconIndex$Fits" 54 "BeaconIndex$Part" ∈ lw_tbl := List.mem_append_right _ (List.mem_of_getElem? (i := 616) (by decide +kernel))
theorem d_Fits_firstOfAll_52 : decode prog_3_method_9_code 52 = .ok (.astore 8, 2) := by decide +kernel
theorem d_Fits_firstOfAll_54 : decode prog_3_method_9_code 54 = .ok (.aload 8, 2) := by decide +kernel
theorem d_Fits_firstOfAll_56 : decode prog_3_method_9_code 56 = .ok (.getfield 120, 3) := by decide +kernel
theorem w_223 : Cond.fieldLink "BeaconIndex$Fits" 120 "BeaconIndex$Part" "barred" "Z" ∈ lw_tbl := List.mem_append_right _ (List.mem_of_getElem? (i := 223) (by decide +kernel))
theorem d_Fits_firstOfAll_59 : decode prog_3_method_9_code 59 = .ok (.ifCond .eq 7, 3) := by decide +kernel
theorem d_Fits_firstOfAll_66 : decode prog_3_method_9_code 66 = .ok (.aload_n 0, 1) := by decide +kernel
theorem d_Fits_firstOfAll_67 : decode prog_3_method_9_code 67 = .ok (.getfield 15, 3) := by decide +kernel
theorem d_Fits_firstOfAll_70 : decode prog_3_method_9_code 70 = .ok (.aload 8, 2) := by decide +kernel
theorem d_Fits_firstOfAll_72 : decode prog_3_method_9_code 72 = .ok (.iload_n 2, 1) := by decide +kernel
theorem d_Fits_firstOfAll_73 : decode prog_3_method_9_code 73 = .ok (.iload_n 3, 1) := by decide +kernel
theorem d_Fits_firstOfAll_74 : decode prog_3_method_9_code 74 = .ok (.invokestatic 97, 3) := by decide +kernel
theorem d_Fits_firstOfAll_77 : decode prog_3_method_9_code 77 = .ok (.iaload, 1) := by decide +kernel
theorem d_Fits_firstOfAll_62 : decode prog_3_method_9_code 62 = .ok (.iconst (-1), 1) := by decide +kernel
theorem d_Fits_firstOfAll_63 : decode prog_3_method_9_code 63 = .ok (.goto 15, 3) := by decide +kernel
theorem v_Fits_firstOfAll_32 {G : XG} {d : Nat} {h : XH} {Q : XV → XH → Prop} {X : Nat → XH → Prop} {x1 x2 x3 x4 x5 x6 x7 : Int} (F : xFix h) (hyp : xtg h x6 = 13 ∧ alok h x6 ∧ (((als h x6) ≤ x7 → xiR (x5 + 1) ∧ (xwp G m_Fits_firstOfAll (d + 4) 6 [xR 41, xR x1, xI x2, xI x3, xI x4, xI (x5 + 1), xZ, xZ, xZ, xZ] [] h Q X)) ∧ (¬ (als h x6) ≤ x7 → 0 ≤ x7 ∧ xtg h (alg h x6 x7) = 4 ∧ (((xpl h (alg h x6 x7) 3) = 0 → xtg h (alg h x6 x7) = 4 ∧ (0 ≤ x3 ∧ x3 ≤ 1) ∧ 0 ≤ (((slF (xpl h (alg h x6 x7) 0) x2) * 2) + x3) ∧ (((slF (xpl h (alg h x6 x7) 0) x2) * 2) + x3) < 4800 ∧ (xwp G m_Fits_firstOfAll (d + 4) 78 [xR 41, xR x1, xI x2, xI x3, xI x4, xI x5, xR x6, xI x7, xZ, xZ] [xI (xpl h 43 (((slF (xpl h (alg h x6 x7) 0) x2) * 2) + x3))] h Q X)) ∧ (¬ (xpl h (alg h x6 x7) 3) = 0 → (xwp G m_Fits_firstOfAll (d + 4) 78 [xR 41, xR x1, xI x2, xI x3, xI x4, xI x5, xR x6, xI x7, xZ, xZ] [xI (-1)] h Q X)))))) : xwp G m_Fits_firstOfAll (d + 4) 32 [xR 41, xR x1, xI x2, xI x3, xI x4, xI x5, xR x6, xI x7, xZ, xZ] [] h Q X := by
  have hnx9 : (93 : Int) ≤ xnx h := F.2.2
  refine xr_okL (fun hl9 => ?_)
  have r_x2 : -2147483648 ≤ x2 ∧ x2 ≤ 2147483647 := hl9 (xI x2) (.tail _ (.tail _ (.head _))) (Nat.le_of_ble_eq_true rfl)
  have r_x3 : -2147483648 ≤ x3 ∧ x3 ≤ 2147483647 := hl9 (xI x3) (.tail _ (.tail _ (.tail _ (.head _)))) (Nat.le_of_ble_eq_true rfl)
  have r_x4 : -2147483648 ≤ x4 ∧ x4 ≤ 2147483647 := hl9 (xI x4) (.tail _ (.tail _ (.tail _ (.tail _ (.head _))))) (Nat.le_of_ble_eq_true rfl)
  have r_x5 : -2147483648 ≤ x5 ∧ x5 ≤ 2147483647 := hl9 (xI x5) (.tail _ (.tail _ (.tail _ (.tail _ (.tail _ (.head _)))))) (Nat.le_of_ble_eq_true rfl)
  have r_x7 : -2147483648 ≤ x7 ∧ x7 ≤ 2147483647 := hl9 (xI x7) (.tail _ (.tail _ (.tail _ (.tail _ (.tail _ (.tail _ (.tail _ (.head _)))))))) (Nat.le_of_ble_eq_true rfl)
  refine xr_iload (pc := 32) (i := 7) (hI := d_Fits_firstOfAll_32) (hl := rfl) ?_
  refine xr_aload (pc := 34) (i := 6) (hI := d_Fits_firstOfAll_34) (hl := rfl) ?_
  obtain ⟨c9, hyp⟩ := hyp
  have t1_ := c9
  clear c9
  obtain ⟨c2_, hyp⟩ := hyp
  refine xq_callV (pc := 36) (index := 38) (K := m_ArrayList_size) (As := []) (S := [xI x7]) (L0 := [xR x6]) (hI := d_Fits_firstOfAll_36) (hK := k_ArrayList_size) (hlk := w_607) (hnoM := rfl) (hS8 := Nat.le_of_ble_eq_true rfl) (ci := 13) (N := 3) (C := "java/util/ArrayList") (T := xF13) (hc := rfl) (hci := Nat.le_of_ble_eq_true rfl) (htb := t1_) (hinst := w_465) (hsel := w_466) (hlen := Nat.le_of_ble_eq_true rfl) (hst := rfl) (hL0 := rfl)  (p_AL_size F c2_ ?_)
  show xwp G m_Fits_firstOfAll (d + 4) 39 [xR 41, xR x1, xI x2, xI x3, xI x4, xI x5, xR x6, xI x7, xZ, xZ] [xI (als h x6), xI x7] _ _ _
  have f3_ : 0 ≤ (als h x6) ∧ (als h x6) ≤ 1000000 := ⟨c2_.2.2.1, c2_.2.2.2.2⟩
  refine xr_icmp_ge (pc := 39) (tgt := 109) (hI := d_Fits_firstOfAll_39) (ht := by decide) (fun q9 => ?_) (fun q9 => ?_)
  · replace hyp := hyp.1 q9
    have q4_ := q9
    clear q9
    obtain ⟨c9, hyp⟩ := hyp
    refine xr_iinc (pc := 109) (i := 5) (L9 := [xR 41, xR x1, xI x2, xI x3, xI x4, xI (x5 + 1), xR x6, xI x7, xZ, xZ]) (hI := d_Fits_firstOfAll_109) (hl := rfl) (hn := Nat.le_of_ble_eq_true rfl) (hr := c9) (hL9 := rfl) ?_
    refine xr_goto (pc := 112) (tgt := 6) (hI := d_Fits_firstOfAll_112) (ht := by decide) ?_
    exact xr_drop (L9 := [xR 41, xR x1, xI x2, xI x3, xI x4, xI (x5 + 1), xZ, xZ, xZ, xZ]) (xdrs (xdrs (xdrs (xdrs (xdrs (xdrs (xdrz (xdrz (xdrs (xdrs xdr0)))))))))) hyp
  · replace hyp := hyp.2 q9
    have q4_ := q9
    clear q9
    refine xr_aload (pc := 42) (i := 6) (hI := d_Fits_firstOfAll_42) (hl := rfl) ?_
    refine xr_iload (pc := 44) (i := 7) (hI := d_Fits_firstOfAll_44) (hl := rfl) ?_
    obtain ⟨c5_, hyp⟩ := hyp
    refine xq_callV (pc := 46) (index := 44) (K := m_ArrayList_get) (As := [xI x7]) (S := []) (L0 := [xR x6, xI x7]) (hI := d_Fits_firstOfAll_46) (hK := k_ArrayList_get) (hlk := w_608) (hnoM := rfl) (hS8 := Nat.le_of_ble_eq_true rfl) (ci := 13) (N := 3) (C := "java/util/ArrayList") (T := xF13) (hc := rfl) (hci := Nat.le_of_ble_eq_true rfl) (htb := t1_) (hinst := w_469) (hsel := w_470) (hlen := Nat.le_of_ble_eq_true rfl) (hst := rfl) (hL0 := rfl)  (p_AL_get F c2_ c5_ (by clear hyp; omega) ?_)
    show xwp G m_Fits_firstOfAll (d + 4) 49 [xR 41, xR x1, xI x2, xI x3, xI x4, xI x5, xR x6, xI x7, xZ, xZ] [xR (alg h x6 x7)] _ _ _
    obtain ⟨c9, hyp⟩ := hyp
    have t6_ := c9
    clear c9
    refine xr_cast (pc := 49) (ci := 4) (T := xF4) (N := 13) (hI := d_Fits_firstOfAll_49) w_616 rfl (Nat.le_of_ble_eq_true rfl) t6_ ?_
    refine xr_astore (pc := 52) (i := 8) (L9 := [xR 41, xR x1, xI x2, xI x3, xI x4, xI x5, xR x6, xI x7, xR (alg h x6 x7), xZ]) (hI := d_Fits_firstOfAll_52) (hn := Nat.le_of_ble_eq_true rfl) (hL9 := rfl) ?_
    refine xr_aload (pc := 54) (i := 8) (hI := d_Fits_firstOfAll_54) (hl := rfl) ?_
    refine xg_getfZ (pc := 56) (ci := 4) (k := 3) (N := 13) (v := (xpl h (alg h x6 x7) 3)) (T := xF4) (hI := d_Fits_firstOfAll_56) (hw := w_223) rfl xi4 (Or.inl rfl) (Nat.le_of_ble_eq_true rfl) (Nat.le_of_ble_eq_true rfl) rfl t6_ rfl (fun f7_ => ?_)
    refine xr_if_eq (pc := 59) (tgt := 66) (hI := d_Fits_firstOfAll_59) (ht := by decide) (fun q9 => ?_) (fun q9 => ?_)
    · replace hyp := hyp.1 q9
      have q8_ := q9
      clear q9
      refine xr_aload_n (pc := 66) (i := 0) (hI := d_Fits_firstOfAll_66) (hi := rfl) (hl := rfl) ?_
      refine xg_getf (pc := 67) (ci := 2) (k := 1) (N := 4) (v9 := 2) (v := 43) (T := xF2) (hI := d_Fits_firstOfAll_67) (hw := w_394) rfl xi2 (Or.inl rfl) (Nat.le_of_ble_eq_true rfl) (Nat.le_of_ble_eq_true rfl) rfl (ft_41 F) (fp_41_1 F) (fun f9_ => ?_)
      clear f9_
      refine xr_aload (pc := 70) (i := 8) (hI := d_Fits_firstOfAll_70) (hl := rfl) ?_
      refine xr_iload_n (pc := 72) (i := 2) (hI := d_Fits_firstOfAll_72) (hi := rfl) (hl := rfl) ?_
      refine xr_iload_n (pc := 73) (i := 3) (hI := d_Fits_firstOfAll_73) (hi := rfl) (hl := rfl) ?_
      obtain ⟨c10_, hyp⟩ := hyp
      obtain ⟨c11_, hyp⟩ := hyp
      refine xq_callS (pc := 74) (index := 97) (K := m_Fits_slot) (As := [xR (alg h x6 x7), xI x2, xI x3]) (S := [xR 43]) (L0 := [xR (alg h x6 x7), xI x2, xI x3]) (hI := d_Fits_firstOfAll_74) (hK := k_Fits_slot) (hlk := w_685) (hnoM := rfl) (hS8 := Nat.le_of_ble_eq_true rfl) (hstat := w_686) (hlen := Nat.le_of_ble_eq_true rfl) (hst := rfl) (hL0 := rfl)  (p_Fits_slot F c10_ c11_ ?_)
      show xwp G m_Fits_firstOfAll (d + 4) 77 [xR 41, xR x1, xI x2, xI x3, xI x4, xI x5, xR x6, xI x7, xR (alg h x6 x7), xZ] [xI (((slF (xpl h (alg h x6 x7) 0) x2) * 2) + x3), xR 43] _ _ _
      have f12_ : 0 ≤ (slF (xpl h (alg h x6 x7) 0) x2) ∧ (slF (xpl h (alg h x6 x7) 0) x2) ≤ 2399 := (slF_rng _ _)
      obtain ⟨c13_, hyp⟩ := hyp
      obtain ⟨c14_, hyp⟩ := hyp
      refine xg_iaload (pc := 77) (v := (xpl h 43 (((slF (xpl h (alg h x6 x7) 0) x2) * 2) + x3))) (hI := d_Fits_firstOfAll_77) (ft_43 F) c13_ (xlt_of (fl_43 F) c14_) rfl (fun f15_ => ?_)
      replace f15_ : -2147483648 ≤ (xpl h 43 (((slF (xpl h (alg h x6 x7) 0) x2) * 2) + x3)) ∧ (xpl h 43 (((slF (xpl h (alg h x6 x7) 0) x2) * 2) + x3)) ≤ 2147483647 := f15_
      exact xr_drop (L9 := [xR 41, xR x1, xI x2, xI x3, xI x4, xI x5, xR x6, xI x7, xZ, xZ]) (xdrs (xdrs (xdrs (xdrs (xdrs (xdrs (xdrs (xdrs (xdrz (xdrs xdr0)))))))))) hyp
    · replace hyp := hyp.2 q9
      have q8_ := q9
      clear q9
      refine xr_iconst (pc := 62) (hI := d_Fits_firstOfAll_62) (hr := by decide) ?_
      refine xr_goto (pc := 63) (tgt := 78) (hI := d_Fits_firstOfAll_63) (ht := by decide) ?_
      exact xr_drop (L9 := [xR 41, xR x1, xI x2, xI x3, xI x4, xI x5, xR x6, xI x7, xZ, xZ]) (xdrs (xdrs (xdrs (xdrs (xdrs (xdrs (xdrs (xdrs (xdrz (xdrs xdr0)))))))))) hyp
theorem d_Fits_firstOfAll_78 : decode prog_3_method_9_code 78 = .ok (.istore 9, 2) := by decide +kernel
theorem d_Fits_firstOfAll_80 : decode prog_3_method_9_code 80 = .ok (.iload 9, 2) := by decide +kernel
theorem d_Fits_firstOfAll_82 : decode prog_3_method_9_code 82 = .ok (.iconst (-1), 1) := by decide +kernel
theorem d_Fits_firstOfAll_83 : decode prog_3_method_9_code 83 = .ok (.if_icmp .eq 20, 3) := by decide +kernel
theorem d_Fits_firstOfAll_103 : decode prog_3_method_9_code 103 = .ok (.iinc 7 1, 3) := by decide +kernel
theorem d_Fits_firstOfAll_106 : decode prog_3_method_9_code 106 = .ok (.goto (-74), 3) := by decide +kernel
theorem d_Fits_firstOfAll_86 : decode prog_3_method_9_code 86 = .ok (.iload 4, 2) := by decide +kernel
theorem d_Fits_firstOfAll_88 : decode prog_3_method_9_code 88 = .ok (.iconst (-1), 1) := by decide +kernel
theorem d_Fits_firstOfAll_89 : decode prog_3_method_9_code 89 = .ok (.if_icmp .eq 10, 3) := by decide +kernel
theorem d_Fits_firstOfAll_99 : decode prog_3_method_9_code 99 = .ok (.iload 9, 2) := by decide +kernel
theorem d_Fits_firstOfAll_101 : decode prog_3_method_9_code 101 = .ok (.istore 4, 2) := by decide +kernel
theorem d_Fits_firstOfAll_92 : decode prog_3_method_9_code 92 = .ok (.iload 9, 2) := by decide +kernel
theorem d_Fits_firstOfAll_94 : decode prog_3_method_9_code 94 = .ok (.iload 4, 2) := by decide +kernel
theorem d_Fits_firstOfAll_96 : decode prog_3_method_9_code 96 = .ok (.if_icmp .ge 7, 3) := by decide +kernel
theorem v_Fits_firstOfAll_78 {G : XG} {d : Nat} {h : XH} {Q : XV → XH → Prop} {X : Nat → XH → Prop} {x1 x2 x3 x4 x5 x6 x7 s0 : Int} (F : xFix h) (hyp : ((s0 = (-1) → xiR (x7 + 1) ∧ (xwp G m_Fits_firstOfAll (d + 4) 32 [xR 41, xR x1, xI x2, xI x3, xI x4, xI x5, xR x6, xI (x7 + 1), xZ, xZ] [] h Q X)) ∧ (¬ s0 = (-1) → ((x4 = (-1) → xiR (x7 + 1) ∧ (xwp G m_Fits_firstOfAll (d + 4) 32 [xR 41, xR x1, xI x2, xI x3, xI s0, xI x5, xR x6, xI (x7 + 1), xZ, xZ] [] h Q X)) ∧ (¬ x4 = (-1) → ((x4 ≤ s0 → xiR (x7 + 1) ∧ (xwp G m_Fits_firstOfAll (d + 4) 32 [xR 41, xR x1, xI x2, xI x3, xI x4, xI x5, xR x6, xI (x7 + 1), xZ, xZ] [] h Q X)) ∧ (¬ x4 ≤ s0 → xiR (x7 + 1) ∧ (xwp G m_Fits_firstOfAll (d + 4) 32 [xR 41, xR x1, xI x2, xI x3, xI s0, xI x5, xR x6, xI (x7 + 1), xZ, xZ] [] h Q X)))))))) : xwp G m_Fits_firstOfAll (d + 4) 78 [xR 41, xR x1, xI x2, xI x3, xI x4, xI x5, xR x6, xI x7, xZ, xZ] [xI s0] h Q X := by
  have hnx9 : (93 : Int) ≤ xnx h := F.2.2
  refine xr_okL (fun hl9 => ?_)
  have r_x2 : -2147483648 ≤ x2 ∧ x2 ≤ 2147483647 := hl9 (xI x2) (.tail _ (.tail _ (.head _))) (Nat.le_of_ble_eq_true rfl)
  have r_x3 : -2147483648 ≤ x3 ∧ x3 ≤ 2147483647 := hl9 (xI x3) (.tail _ (.tail _ (.tail _ (.head _)))) (Nat.le_of_ble_eq_true rfl)
  have r_x4 : -2147483648 ≤ x4 ∧ x4 ≤ 2147483647 := hl9 (xI x4) (.tail _ (.tail _ (.tail _ (.tail _ (.head _))))) (Nat.le_of_ble_eq_true rfl)
  have r_x5 : -2147483648 ≤ x5 ∧ x5 ≤ 2147483647 := hl9 (xI x5) (.tail _ (.tail _ (.tail _ (.tail _ (.tail _ (.head _)))))) (Nat.le_of_ble_eq_true rfl)
  have r_x7 : -2147483648 ≤ x7 ∧ x7 ≤ 2147483647 := hl9 (xI x7) (.tail _ (.tail _ (.tail _ (.tail _ (.tail _ (.tail _ (.tail _ (.head _)))))))) (Nat.le_of_ble_eq_true rfl)
  refine xr_okS (fun hs9 => ?_)
  have r_s0 : -2147483648 ≤ s0 ∧ s0 ≤ 2147483647 := hs9 (xI s0) (.head _)
  refine xr_istore (pc := 78) (i := 9) (L9 := [xR 41, xR x1, xI x2, xI x3, xI x4, xI x5, xR x6, xI x7, xZ, xI s0]) (hI := d_Fits_firstOfAll_78) (hn := Nat.le_of_ble_eq_true rfl) (hL9 := rfl) ?_
  refine xr_iload (pc := 80) (i := 9) (hI := d_Fits_firstOfAll_80) (hl := rfl) ?_
  refine xr_iconst (pc := 82) (hI := d_Fits_firstOfAll_82) (hr := by decide) ?_
  refine xr_icmp_eq (pc := 83) (tgt := 103) (hI := d_Fits_firstOfAll_83) (ht := by decide) (fun q9 => ?_) (fun q9 => ?_)
  · replace hyp := hyp.1 q9
    have q1_ := q9
    clear q9
    obtain ⟨c9, hyp⟩ := hyp
    refine xr_iinc (pc := 103) (i := 7) (L9 := [xR 41, xR x1, xI x2, xI x3, xI x4, xI x5, xR x6, xI (x7 + 1), xZ, xI s0]) (hI := d_Fits_firstOfAll_103) (hl := rfl) (hn := Nat.le_of_ble_eq_true rfl) (hr := c9) (hL9 := rfl) ?_
    refine xr_goto (pc := 106) (tgt := 32) (hI := d_Fits_firstOfAll_106) (ht := by decide) ?_
    exact xr_drop (L9 := [xR 41, xR x1, xI x2, xI x3, xI x4, xI x5, xR x6, xI (x7 + 1), xZ, xZ]) (xdrs (xdrs (xdrs (xdrs (xdrs (xdrs (xdrs (xdrs (xdrs (xdrz xdr0)))))))))) hyp
  · replace hyp := hyp.2 q9
    have q1_ := q9
    clear q9
    refine xr_iload (pc := 86) (i := 4) (hI := d_Fits_firstOfAll_86) (hl := rfl) ?_
    refine xr_iconst (pc := 88) (hI := d_Fits_firstOfAll_88) (hr := by decide) ?_
    refine xr_icmp_eq (pc := 89) (tgt := 99) (hI := d_Fits_firstOfAll_89) (ht := by decide) (fun q9 => ?_) (fun q9 => ?_)
    · replace hyp := hyp.1 q9
      have q2_ := q9
      clear q9
      refine xr_iload (pc := 99) (i := 9) (hI := d_Fits_firstOfAll_99) (hl := rfl) ?_
      refine xr_istore (pc := 101) (i := 4) (L9 := [xR 41, xR x1, xI x2, xI x3, xI s0, xI x5, xR x6, xI x7, xZ, xI s0]) (hI := d_Fits_firstOfAll_101) (hn := Nat.le_of_ble_eq_true rfl) (hL9 := rfl) ?_
      obtain ⟨c9, hyp⟩ := hyp
      refine xr_iinc (pc := 103) (i := 7) (L9 := [xR 41, xR x1, xI x2, xI x3, xI s0, xI x5, xR x6, xI (x7 + 1), xZ, xI s0]) (hI := d_Fits_firstOfAll_103) (hl := rfl) (hn := Nat.le_of_ble_eq_true rfl) (hr := c9) (hL9 := rfl) ?_
      refine xr_goto (pc := 106) (tgt := 32) (hI := d_Fits_firstOfAll_106) (ht := by decide) ?_
      exact xr_drop (L9 := [xR 41, xR x1, xI x2, xI x3, xI s0, xI x5, xR x6, xI (x7 + 1), xZ, xZ]) (xdrs (xdrs (xdrs (xdrs (xdrs (xdrs (xdrs (xdrs (xdrs (xdrz xdr0)))))))))) hyp
    · replace hyp := hyp.2 q9
      have q2_ := q9
      clear q9
      refine xr_iload (pc := 92) (i := 9) (hI := d_Fits_firstOfAll_92) (hl := rfl) ?_
      refine xr_iload (pc := 94) (i := 4) (hI := d_Fits_firstOfAll_94) (hl := rfl) ?_
      refine xr_icmp_ge (pc := 96) (tgt := 103) (hI := d_Fits_firstOfAll_96) (ht := by decide) (fun q9 => ?_) (fun q9 => ?_)
      · replace hyp := hyp.1 q9
        have q3_ := q9
        clear q9
        obtain ⟨c9, hyp⟩ := hyp
        refine xr_iinc (pc := 103) (i := 7) (L9 := [xR 41, xR x1, xI x2, xI x3, xI x4, xI x5, xR x6, xI (x7 + 1), xZ, xI s0]) (hI := d_Fits_firstOfAll_103) (hl := rfl) (hn := Nat.le_of_ble_eq_true rfl) (hr := c9) (hL9 := rfl) ?_
        refine xr_goto (pc := 106) (tgt := 32) (hI := d_Fits_firstOfAll_106) (ht := by decide) ?_
        exact xr_drop (L9 := [xR 41, xR x1, xI x2, xI x3, xI x4, xI x5, xR x6, xI (x7 + 1), xZ, xZ]) (xdrs (xdrs (xdrs (xdrs (xdrs (xdrs (xdrs (xdrs (xdrs (xdrz xdr0)))))))))) hyp
      · replace hyp := hyp.2 q9
        have q3_ := q9
        clear q9
        refine xr_iload (pc := 99) (i := 9) (hI := d_Fits_firstOfAll_99) (hl := rfl) ?_
        refine xr_istore (pc := 101) (i := 4) (L9 := [xR 41, xR x1, xI x2, xI x3, xI s0, xI x5, xR x6, xI x7, xZ, xI s0]) (hI := d_Fits_firstOfAll_101) (hn := Nat.le_of_ble_eq_true rfl) (hL9 := rfl) ?_
        obtain ⟨c9, hyp⟩ := hyp
        refine xr_iinc (pc := 103) (i := 7) (L9 := [xR 41, xR x1, xI x2, xI x3, xI s0, xI x5, xR x6, xI (x7 + 1), xZ, xI s0]) (hI := d_Fits_firstOfAll_103) (hl := rfl) (hn := Nat.le_of_ble_eq_true rfl) (hr := c9) (hL9 := rfl) ?_
        refine xr_goto (pc := 106) (tgt := 32) (hI := d_Fits_firstOfAll_106) (ht := by decide) ?_
        exact xr_drop (L9 := [xR 41, xR x1, xI x2, xI x3, xI s0, xI x5, xR x6, xI (x7 + 1), xZ, xZ]) (xdrs (xdrs (xdrs (xdrs (xdrs (xdrs (xdrs (xdrs (xdrs (xdrz xdr0)))))))))) hyp
abbrev m_Fits_fill : XM := (⟨"BeaconIndex$Fits", "fill", "(Ljava/util/ArrayList;Ljava/util/ArrayList;)V"⟩, prog_3_method_3_code, 7, none, [])
theorem d_Fits_fill_0 : decode prog_3_method_3_code 0 = .ok (.iconst 0, 1) := by decide +kernel
theorem d_Fits_fill_1 : decode prog_3_method_3_code 1 = .ok (.istore_n 3, 1) := by decide +kernel
theorem v_Fits_fill_0 {G : XG} {d : Nat} {h : XH} {Q : XV → XH → Prop} {X : Nat → XH → Prop} {x1 x2 : Int} (F : xFix h) (hyp : (xwp G m_Fits_fill (d + 6) 2 [xR 41, xR x1, xR x2, xI 0, xZ, xZ, xZ] [] h Q X)) : xwp G m_Fits_fill (d + 6) 0 [xR 41, xR x1, xR x2, xZ, xZ, xZ, xZ] [] h Q X := by
  have hnx9 : (93 : Int) ≤ xnx h := F.2.2
  refine xr_iconst (pc := 0) (hI := d_Fits_fill_0) (hr := by decide) ?_
  refine xr_istore_n (pc := 1) (i := 3) (L9 := [xR 41, xR x1, xR x2, xI 0, xZ, xZ, xZ]) (hI := d_Fits_fill_1) (hi := rfl) (hn := Nat.le_of_ble_eq_true rfl) (hL9 := rfl) ?_
  exact hyp
theorem d_Fits_fill_2 : decode prog_3_method_3_code 2 = .ok (.iload_n 3, 1) := by decide +kernel
theorem d_Fits_fill_3 : decode prog_3_method_3_code 3 = .ok (.iconst 2, 1) := by decide +kernel
theorem d_Fits_fill_4 : decode prog_3_method_3_code 4 = .ok (.if_icmp .ge 20, 3) := by decide +kernel
theorem d_Fits_fill_24 : decode prog_3_method_3_code 24 = .ok (.iconst 0, 1) := by decide +kernel
theorem d_Fits_fill_25 : decode prog_3_method_3_code 25 = .ok (.istore_n 3, 1) := by decide +kernel
theorem d_Fits_fill_7 : decode prog_3_method_3_code 7 = .ok (.aload_n 0, 1) := by decide +kernel
theorem d_Fits_fill_8 : decode prog_3_method_3_code 8 = .ok (.getfield 18, 3) := by decide +kernel
theorem d_Fits_fill_11 : decode prog_3_method_3_code 11 = .ok (.iload_n 3, 1) := by decide +kernel
theorem d_Fits_fill_12 : decode prog_3_method_3_code 12 = .ok (.aload_n 2, 1) := by decide +kernel
theorem d_Fits_fill_13 : decode prog_3_method_3_code 13 = .ok (.iload_n 3, 1) := by decide +kernel
theorem d_Fits_fill_14 : decode prog_3_method_3_code 14 = .ok (.invokestatic 34, 3) := by decide +kernel
theorem k_Fits_meanLength : xCal m_Fits_meanLength 2 := ⟨List.mem_append_right _ (List.mem_of_getElem? (i := 605) (by decide +kernel)), w_13, Nat.le_of_ble_eq_true rfl, ⟨by decide +kernel, by decide +kernel⟩, by decide +kernel, by decide +kernel, rfl⟩
theorem w_603 : Cond.methodLink "BeaconIndex$Fits" 34 ⟨"BeaconIndex$Fits", "meanLength", "(Ljava/util/ArrayList;I)I"⟩ ∈ lw_tbl := List.mem_append_right _ (List.mem_of_getElem? (i := 603) (by decide +kernel))
theorem w_604 : Cond.static ⟨"BeaconIndex$Fits", "meanLength", "(Ljava/util/ArrayList;I)I"⟩ ∈ lw_tbl := List.mem_append_right _ (List.mem_of_getElem? (i := 604) (by decide +kernel))
theorem v_Fits_fill_2 {G : XG} {d : Nat} {h : XH} {Q : XV → XH → Prop} {X : Nat → XH → Prop} {x1 x2 x3 : Int} (F : xFix h) (hyp : (((2 : Int) ≤ x3 → (xwp G m_Fits_fill (d + 6) 26 [xR 41, xR x1, xR x2, xI 0, xZ, xZ, xZ] [] h Q X)) ∧ (¬ (2 : Int) ≤ x3 → (xwp G m_Fits_meanLength (d + 5) 0 [xR x2, xI x3, xZ, xZ] [] h (fun v9 h9 => xwp G m_Fits_fill (d + 6) 17 [xR 41, xR x1, xR x2, xI x3, xZ, xZ, xZ] (xpush v9 [xI x3, xR 44]) h9 Q X) X)))) : xwp G m_Fits_fill (d + 6) 2 [xR 41, xR x1, xR x2, xI x3, xZ, xZ, xZ] [] h Q X := by
  have hnx9 : (93 : Int) ≤ xnx h := F.2.2
  refine xr_okL (fun hl9 => ?_)
  have r_x3 : -2147483648 ≤ x3 ∧ x3 ≤ 2147483647 := hl9 (xI x3) (.tail _ (.tail _ (.tail _ (.head _)))) (Nat.le_of_ble_eq_true rfl)
  refine xr_iload_n (pc := 2) (i := 3) (hI := d_Fits_fill_2) (hi := rfl) (hl := rfl) ?_
  refine xr_iconst (pc := 3) (hI := d_Fits_fill_3) (hr := by decide) ?_
  refine xr_icmp_ge (pc := 4) (tgt := 24) (hI := d_Fits_fill_4) (ht := by decide) (fun q9 => ?_) (fun q9 => ?_)
  · replace hyp := hyp.1 q9
    have q1_ := q9
    clear q9
    refine xr_iconst (pc := 24) (hI := d_Fits_fill_24) (hr := by decide) ?_
    refine xr_istore_n (pc := 25) (i := 3) (L9 := [xR 41, xR x1, xR x2, xI 0, xZ, xZ, xZ]) (hI := d_Fits_fill_25) (hi := rfl) (hn := Nat.le_of_ble_eq_true rfl) (hL9 := rfl) ?_
    exact hyp
  · replace hyp := hyp.2 q9
    have q1_ := q9
    clear q9
    refine xr_aload_n (pc := 7) (i := 0) (hI := d_Fits_fill_7) (hi := rfl) (hl := rfl) ?_
    refine xg_getf (pc := 8) (ci := 2) (k := 2) (N := 4) (v9 := 2) (v := 44) (T := xF2) (hI := d_Fits_fill_8) (hw := w_395) rfl xi2 (Or.inl rfl) (Nat.le_of_ble_eq_true rfl) (Nat.le_of_ble_eq_true rfl) rfl (ft_41 F) (fp_41_2 F) (fun f2_ => ?_)
    clear f2_
    refine xr_iload_n (pc := 11) (i := 3) (hI := d_Fits_fill_11) (hi := rfl) (hl := rfl) ?_
    refine xr_aload_n (pc := 12) (i := 2) (hI := d_Fits_fill_12) (hi := rfl) (hl := rfl) ?_
    refine xr_iload_n (pc := 13) (i := 3) (hI := d_Fits_fill_13) (hi := rfl) (hl := rfl) ?_
    exact xq_callS (pc := 14) (index := 34) (K := m_Fits_meanLength) (As := [xR x2, xI x3]) (S := [xI x3, xR 44]) (L0 := [xR x2, xI x3, xZ, xZ]) (hI := d_Fits_fill_14) (hK := k_Fits_meanLength) (hlk := w_603) (hnoM := rfl) (hS8 := Nat.le_of_ble_eq_true rfl) (hstat := w_604) (hlen := Nat.le_of_ble_eq_true rfl) (hst := rfl) (hL0 := rfl)  hyp
theorem d_Fits_fill_17 : decode prog_3_method_3_code 17 = .ok (.iastore, 1) := by decide +kernel
theorem d_Fits_fill_18 : decode prog_3_method_3_code 18 = .ok (.iinc 3 1, 3) := by decide +kernel
theorem d_Fits_fill_21 : decode prog_3_method_3_code 21 = .ok (.goto (-19), 3) := by decide +kernel
theorem v_Fits_fill_17 {G : XG} {d : Nat} {h : XH} {Q : XV → XH → Prop} {X : Nat → XH → Prop} {x1 x2 x3 s0 s1 s2 : Int} (F : xFix h) (hyp : xtg h s2 = 100 ∧ 0 ≤ s2 ∧ 0 ≤ s1 ∧ s1 < (xln h s2) ∧ xiR (x3 + 1) ∧ (xFix (xst h s2 s1 s0) → xwp G m_Fits_fill (d + 6) 2 [xR 41, xR x1, xR x2, xI (x3 + 1), xZ, xZ, xZ] [] (xst h s2 s1 s0) Q X)) : xwp G m_Fits_fill (d + 6) 17 [xR 41, xR x1, xR x2, xI x3, xZ, xZ, xZ] [xI s0, xI s1, xR s2] h Q X := by
  have hnx9 : (93 : Int) ≤ xnx h := F.2.2
  refine xr_okL (fun hl9 => ?_)
  have r_x3 : -2147483648 ≤ x3 ∧ x3 ≤ 2147483647 := hl9 (xI x3) (.tail _ (.tail _ (.tail _ (.head _)))) (Nat.le_of_ble_eq_true rfl)
  refine xr_okS (fun hs9 => ?_)
  have r_s0 : -2147483648 ≤ s0 ∧ s0 ≤ 2147483647 := hs9 (xI s0) (.head _)
  have r_s1 : -2147483648 ≤ s1 ∧ s1 ≤ 2147483647 := hs9 (xI s1) (.tail _ (.head _))
  obtain ⟨c9, hyp⟩ := hyp
  have t1_ := c9
  clear c9
  obtain ⟨c2_, hyp⟩ := hyp
  obtain ⟨c3_, hyp⟩ := hyp
  obtain ⟨c4_, hyp⟩ := hyp
  refine xr_iastore (pc := 17) (hI := d_Fits_fill_17) t1_ c2_ c3_ (xlt_of rfl c4_) ?_
  have F5_ : xFix (xst h s2 s1 s0) := F.stTA (t := 100) c2_ t1_ xta_100
  obtain ⟨c9, hyp⟩ := hyp
  refine xr_iinc (pc := 18) (i := 3) (L9 := [xR 41, xR x1, xR x2, xI (x3 + 1), xZ, xZ, xZ]) (hI := d_Fits_fill_18) (hl := rfl) (hn := Nat.le_of_ble_eq_true rfl) (hr := c9) (hL9 := rfl) ?_
  refine xr_goto (pc := 21) (tgt := 2) (hI := d_Fits_fill_21) (ht := by decide) ?_
  exact (hyp F5_)
theorem d_Fits_fill_26 : decode prog_3_method_3_code 26 = .ok (.iload_n 3, 1) := by decide +kernel
theorem d_Fits_fill_27 : decode prog_3_method_3_code 27 = .ok (.aload_n 1, 1) := by decide +kernel
theorem d_Fits_fill_28 : decode prog_3_method_3_code 28 = .ok (.invokevirtual 38, 3) := by decide +kernel
theorem d_Fits_fill_31 : decode prog_3_method_3_code 31 = .ok (.if_icmp .ge 93, 3) := by decide +kernel
theorem d_Fits_fill_124 : decode prog_3_method_3_code 124 = .ok (.return_, 1) := by decide +kernel
theorem d_Fits_fill_34 : decode prog_3_method_3_code 34 = .ok (.aload_n 1, 1) := by decide +kernel
theorem d_Fits_fill_35 : decode prog_3_method_3_code 35 = .ok (.iload_n 3, 1) := by decide +kernel
theorem d_Fits_fill_36 : decode prog_3_method_3_code 36 = .ok (.invokevirtual 44, 3) := by decide +kernel
theorem d_Fits_fill_39 : decode prog_3_method_3_code 39 = .ok (.checkcast 48, 3) := by decide +kernel
theorem d_Fits_fill_42 : decode prog_3_method_3_code 42 = .ok (.getfield 50, 3) := by decide +kernel
theorem d_Fits_fill_45 : decode prog_3_method_3_code 45 = .ok (.astore 4, 2) := by decide +kernel
theorem d_Fits_fill_47 : decode prog_3_method_3_code 47 = .ok (.iconst 0, 1) := by decide +kernel
theorem d_Fits_fill_48 : decode prog_3_method_3_code 48 = .ok (.istore 5, 2) := by decide +kernel
theorem v_Fits_fill_26 {G : XG} {d : Nat} {h : XH} {Q : XV → XH → Prop} {X : Nat → XH → Prop} {x1 x2 x3 : Int} (F : xFix h) (hyp : xtg h x1 = 13 ∧ alok h x1 ∧ (((als h x1) ≤ x3 → (Q xN h)) ∧ (¬ (als h x1) ≤ x3 → 0 ≤ x3 ∧ xtg h (alg h x1 x3) = 5 ∧ (xwp G m_Fits_fill (d + 6) 50 [xR 41, xR x1, xR x2, xI x3, xR (xpl h (alg h x1 x3) 0), xI 0, xZ] [] h Q X)))) : xwp G m_Fits_fill (d + 6) 26 [xR 41, xR x1, xR x2, xI x3, xZ, xZ, xZ] [] h Q X := by
  have hnx9 : (93 : Int) ≤ xnx h := F.2.2
  refine xr_okL (fun hl9 => ?_)
  have r_x3 : -2147483648 ≤ x3 ∧ x3 ≤ 2147483647 := hl9 (xI x3) (.tail _ (.tail _ (.tail _ (.head _)))) (Nat.le_of_ble_eq_true rfl)
  refine xr_iload_n (pc := 26) (i := 3) (hI := d_Fits_fill_26) (hi := rfl) (hl := rfl) ?_
  refine xr_aload_n (pc := 27) (i := 1) (hI := d_Fits_fill_27) (hi := rfl) (hl := rfl) ?_
  obtain ⟨c9, hyp⟩ := hyp
  have t1_ := c9
  clear c9
  obtain ⟨c2_, hyp⟩ := hyp
  refine xq_callV (pc := 28) (index := 38) (K := m_ArrayList_size) (As := []) (S := [xI x3]) (L0 := [xR x1]) (hI := d_Fits_fill_28) (hK := k_ArrayList_size) (hlk := w_607) (hnoM := rfl) (hS8 := Nat.le_of_ble_eq_true rfl) (ci := 13) (N := 3) (C := "java/util/ArrayList") (T := xF13) (hc := rfl) (hci := Nat.le_of_ble_eq_true rfl) (htb := t1_) (hinst := w_465) (hsel := w_466) (hlen := Nat.le_of_ble_eq_true rfl) (hst := rfl) (hL0 := rfl)  (p_AL_size F c2_ ?_)
  show xwp G m_Fits_fill (d + 6) 31 [xR 41, xR x1, xR x2, xI x3, xZ, xZ, xZ] [xI (als h x1), xI x3] _ _ _
  have f3_ : 0 ≤ (als h x1) ∧ (als h x1) ≤ 1000000 := ⟨c2_.2.2.1, c2_.2.2.2.2⟩
  refine xr_icmp_ge (pc := 31) (tgt := 124) (hI := d_Fits_fill_31) (ht := by decide) (fun q9 => ?_) (fun q9 => ?_)
  · replace hyp := hyp.1 q9
    have q4_ := q9
    clear q9
    refine xr_return (S := []) (pc := 124) (hI := d_Fits_fill_124) (hr := rfl) ?_
    exact hyp
  · replace hyp := hyp.2 q9
    have q4_ := q9
    clear q9
    refine xr_aload_n (pc := 34) (i := 1) (hI := d_Fits_fill_34) (hi := rfl) (hl := rfl) ?_
    refine xr_iload_n (pc := 35) (i := 3) (hI := d_Fits_fill_35) (hi := rfl) (hl := rfl) ?_
    obtain ⟨c5_, hyp⟩ := hyp
    refine xq_callV (pc := 36) (index := 44) (K := m_ArrayList_get) (As := [xI x3]) (S := []) (L0 := [xR x1, xI x3]) (hI := d_Fits_fill_36) (hK := k_ArrayList_get) (hlk := w_608) (hnoM := rfl) (hS8 := Nat.le_of_ble_eq_true rfl) (ci := 13) (N := 3) (C := "java/util/ArrayList") (T := xF13) (hc := rfl) (hci := Nat.le_of_ble_eq_true rfl) (htb := t1_) (hinst := w_469) (hsel := w_470) (hlen := Nat.le_of_ble_eq_true rfl) (hst := rfl) (hL0 := rfl)  (p_AL_get F c2_ c5_ (by clear hyp; omega) ?_)
    show xwp G m_Fits_fill (d + 6) 39 [xR 41, xR x1, xR x2, xI x3, xZ, xZ, xZ] [xR (alg h x1 x3)] _ _ _
    obtain ⟨c9, hyp⟩ := hyp
    have t6_ := c9
    clear c9
    refine xr_cast (pc := 39) (ci := 5) (T := xF5) (N := 5) (hI := d_Fits_fill_39) w_615 rfl (Nat.le_of_ble_eq_true rfl) t6_ ?_
    refine xg_getf (pc := 42) (ci := 5) (k := 0) (N := 5) (v9 := 2) (v := (xpl h (alg h x1 x3) 0)) (T := xF5) (hI := d_Fits_fill_42) (hw := w_287) rfl xi5 (Or.inl rfl) (Nat.le_of_ble_eq_true rfl) (Nat.le_of_ble_eq_true rfl) rfl t6_ rfl (fun f7_ => ?_)
    clear f7_
    refine xr_astore (pc := 45) (i := 4) (L9 := [xR 41, xR x1, xR x2, xI x3, xR (xpl h (alg h x1 x3) 0), xZ, xZ]) (hI := d_Fits_fill_45) (hn := Nat.le_of_ble_eq_true rfl) (hL9 := rfl) ?_
    refine xr_iconst (pc := 47) (hI := d_Fits_fill_47) (hr := by decide) ?_
    refine xr_istore (pc := 48) (i := 5) (L9 := [xR 41, xR x1, xR x2, xI x3, xR (xpl h (alg h x1 x3) 0), xI 0, xZ]) (hI := d_Fits_fill_48) (hn := Nat.le_of_ble_eq_true rfl) (hL9 := rfl) ?_
    exact hyp
theorem d_Fits_fill_50 : decode prog_3_method_3_code 50 = .ok (.iload 5, 2) := by decide +kernel
theorem d_Fits_fill_52 : decode prog_3_method_3_code 52 = .ok (.aload 4, 2) := by decide +kernel
theorem d_Fits_fill_54 : decode prog_3_method_3_code 54 = .ok (.invokevirtual 38, 3) := by decide +kernel
theorem d_Fits_fill_57 : decode prog_3_method_3_code 57 = .ok (.if_icmp .ge 61, 3) := by decide +kernel
theorem d_Fits_fill_118 : decode prog_3_method_3_code 118 = .ok (.iinc 3 1, 3) := by decide +kernel
theorem d_Fits_fill_121 : decode prog_3_method_3_code 121 = .ok (.goto (-95), 3) := by decide +kernel
theorem d_Fits_fill_60 : decode prog_3_method_3_code 60 = .ok (.aload 4, 2) := by decide +kernel
theorem d_Fits_fill_62 : decode prog_3_method_3_code 62 = .ok (.iload 5, 2) := by decide +kernel
theorem d_Fits_fill_64 : decode prog_3_method_3_code 64 = .ok (.invokevirtual 44, 3) := by decide +kernel
theorem d_Fits_fill_67 : decode prog_3_method_3_code 67 = .ok (.checkcast 54, 3) := by decide +kernel
theorem d_Fits_fill_70 : decode prog_3_method_3_code 70 = .ok (.astore 6, 2) := by decide +kernel
theorem d_Fits_fill_72 : decode prog_3_method_3_code 72 = .ok (.aload 6, 2) := by decide +kernel
theorem d_Fits_fill_74 : decode prog_3_method_3_code 74 = .ok (.aload_n 2, 1) := by decide +kernel
theorem d_Fits_fill_75 : decode prog_3_method_3_code 75 = .ok (.invokevirtual 38, 3) := by decide +kernel
theorem d_Fits_fill_78 : decode prog_3_method_3_code 78 = .ok (.aload_n 0, 1) := by decide +kernel
theorem d_Fits_fill_79 : decode prog_3_method_3_code 79 = .ok (.aload 6, 2) := by decide +kernel
theorem d_Fits_fill_81 : decode prog_3_method_3_code 81 = .ok (.iconst 0, 1) := by decide +kernel
theorem d_Fits_fill_82 : decode prog_3_method_3_code 82 = .ok (.aload_n 2, 1) := by decide +kernel
theorem d_Fits_fill_83 : decode prog_3_method_3_code 83 = .ok (.invokevirtual 56, 3) := by decide +kernel
theorem k_Fits_fillPart : xCal m_Fits_fillPart 3 := ⟨List.mem_append_right _ (List.mem_of_getElem? (i := 620) (by decide +kernel)), w_13, Nat.le_of_ble_eq_true rfl, ⟨by decide +kernel, by decide +kernel⟩, by decide +kernel, by decide +kernel, rfl⟩
theorem w_617 : Cond.methodLink "BeaconIndex$Fits" 56 ⟨"BeaconIndex$Fits", "fillPart", "(LBeaconIndex$Part;ILjava/util/ArrayList;)I"⟩ ∈ lw_tbl := List.mem_append_right _ (List.mem_of_getElem? (i := 617) (by decide +kernel))
theorem w_619 : Cond.instanceMethod ⟨"BeaconIndex$Fits", "fillPart", "(LBeaconIndex$Part;ILjava/util/ArrayList;)I"⟩ ∈ lw_tbl := List.mem_append_right _ (List.mem_of_getElem? (i := 619) (by decide +kernel))
theorem sel_Fits_fillPart : Cond.selects "BeaconIndex$Fits" ⟨"BeaconIndex$Fits", "fillPart", "(LBeaconIndex$Part;ILjava/util/ArrayList;)I"⟩ ⟨"BeaconIndex$Fits", "fillPart", "(LBeaconIndex$Part;ILjava/util/ArrayList;)I"⟩ ∈ lw_tbl := List.mem_append_left _ (by decide +kernel)
theorem v_Fits_fill_50 {G : XG} {d : Nat} {h : XH} {Q : XV → XH → Prop} {X : Nat → XH → Prop} {x1 x2 x3 x4 x5 : Int} (F : xFix h) (hyp : xtg h x4 = 13 ∧ alok h x4 ∧ (((als h x4) ≤ x5 → xiR (x3 + 1) ∧ (xwp G m_Fits_fill (d + 6) 26 [xR 41, xR x1, xR x2, xI (x3 + 1), xZ, xZ, xZ] [] h Q X)) ∧ (¬ (als h x4) ≤ x5 → 0 ≤ x5 ∧ xtg h (alg h x4 x5) = 4 ∧ xtg h x2 = 13 ∧ alok h x2 ∧ (xwp G m_Fits_fillPart (d + 5) 0 [xR 41, xR (alg h x4 x5), xI 0, xR x2, xZ, xZ] [] h (fun v9 h9 => xwp G m_Fits_fill (d + 6) 86 [xR 41, xR x1, xR x2, xI x3, xR x4, xI x5, xR (alg h x4 x5)] (xpush v9 [xI (als h x2), xR (alg h x4 x5)]) h9 Q X) X)))) : xwp G m_Fits_fill (d + 6) 50 [xR 41, xR x1, xR x2, xI x3, xR x4, xI x5, xZ] [] h Q X := by
  have hnx9 : (93 : Int) ≤ xnx h := F.2.2
  refine xr_okL (fun hl9 => ?_)
  have r_x3 : -2147483648 ≤ x3 ∧ x3 ≤ 2147483647 := hl9 (xI x3) (.tail _ (.tail _ (.tail _ (.head _)))) (Nat.le_of_ble_eq_true rfl)
  have r_x5 : -2147483648 ≤ x5 ∧ x5 ≤ 2147483647 := hl9 (xI x5) (.tail _ (.tail _ (.tail _ (.tail _ (.tail _ (.head _)))))) (Nat.le_of_ble_eq_true rfl)
  refine xr_iload (pc := 50) (i := 5) (hI := d_Fits_fill_50) (hl := rfl) ?_
  refine xr_aload (pc := 52) (i := 4) (hI := d_Fits_fill_52) (hl := rfl) ?_
  obtain ⟨c9, hyp⟩ := hyp
  have t1_ := c9
  clear c9
  obtain ⟨c2_, hyp⟩ := hyp
  refine xq_callV (pc := 54) (index := 38) (K := m_ArrayList_size) (As := []) (S := [xI x5]) (L0 := [xR x4]) (hI := d_Fits_fill_54) (hK := k_ArrayList_size) (hlk := w_607) (hnoM := rfl) (hS8 := Nat.le_of_ble_eq_true rfl) (ci := 13) (N := 3) (C := "java/util/ArrayList") (T := xF13) (hc := rfl) (hci := Nat.le_of_ble_eq_true rfl) (htb := t1_) (hinst := w_465) (hsel := w_466) (hlen := Nat.le_of_ble_eq_true rfl) (hst := rfl) (hL0 := rfl)  (p_AL_size F c2_ ?_)
  show xwp G m_Fits_fill (d + 6) 57 [xR 41, xR x1, xR x2, xI x3, xR x4, xI x5, xZ] [xI (als h x4), xI x5] _ _ _
  have f3_ : 0 ≤ (als h x4) ∧ (als h x4) ≤ 1000000 := ⟨c2_.2.2.1, c2_.2.2.2.2⟩
  refine xr_icmp_ge (pc := 57) (tgt := 118) (hI := d_Fits_fill_57) (ht := by decide) (fun q9 => ?_) (fun q9 => ?_)
  · replace hyp := hyp.1 q9
    have q4_ := q9
    clear q9
    obtain ⟨c9, hyp⟩ := hyp
    refine xr_iinc (pc := 118) (i := 3) (L9 := [xR 41, xR x1, xR x2, xI (x3 + 1), xR x4, xI x5, xZ]) (hI := d_Fits_fill_118) (hl := rfl) (hn := Nat.le_of_ble_eq_true rfl) (hr := c9) (hL9 := rfl) ?_
    refine xr_goto (pc := 121) (tgt := 26) (hI := d_Fits_fill_121) (ht := by decide) ?_
    exact xr_drop (L9 := [xR 41, xR x1, xR x2, xI (x3 + 1), xZ, xZ, xZ]) (xdrs (xdrs (xdrs (xdrs (xdrz (xdrz (xdrs xdr0))))))) hyp
  · replace hyp := hyp.2 q9
    have q4_ := q9
    clear q9
    refine xr_aload (pc := 60) (i := 4) (hI := d_Fits_fill_60) (hl := rfl) ?_
    refine xr_iload (pc := 62) (i := 5) (hI := d_Fits_fill_62) (hl := rfl) ?_
    obtain ⟨c5_, hyp⟩ := hyp
    refine xq_callV (pc := 64) (index := 44) (K := m_ArrayList_get) (As := [xI x5]) (S := []) (L0 := [xR x4, xI x5]) (hI := d_Fits_fill_64) (hK := k_ArrayList_get) (hlk := w_608) (hnoM := rfl) (hS8 := Nat.le_of_ble_eq_true rfl) (ci := 13) (N := 3) (C := "java/util/ArrayList") (T := xF13) (hc := rfl) (hci := Nat.le_of_ble_eq_true rfl) (htb := t1_) (hinst := w_469) (hsel := w_470) (hlen := Nat.le_of_ble_eq_true rfl) (hst := rfl) (hL0 := rfl)  (p_AL_get F c2_ c5_ (by clear hyp; omega) ?_)
    show xwp G m_Fits_fill (d + 6) 67 [xR 41, xR x1, xR x2, xI x3, xR x4, xI x5, xZ] [xR (alg h x4 x5)] _ _ _
    obtain ⟨c9, hyp⟩ := hyp
    have t6_ := c9
    clear c9
    refine xr_cast (pc := 67) (ci := 4) (T := xF4) (N := 13) (hI := d_Fits_fill_67) w_616 rfl (Nat.le_of_ble_eq_true rfl) t6_ ?_
    refine xr_astore (pc := 70) (i := 6) (L9 := [xR 41, xR x1, xR x2, xI x3, xR x4, xI x5, xR (alg h x4 x5)]) (hI := d_Fits_fill_70) (hn := Nat.le_of_ble_eq_true rfl) (hL9 := rfl) ?_
    refine xr_aload (pc := 72) (i := 6) (hI := d_Fits_fill_72) (hl := rfl) ?_
    refine xr_aload_n (pc := 74) (i := 2) (hI := d_Fits_fill_74) (hi := rfl) (hl := rfl) ?_
    obtain ⟨c9, hyp⟩ := hyp
    have t7_ := c9
    clear c9
    obtain ⟨c8_, hyp⟩ := hyp
    refine xq_callV (pc := 75) (index := 38) (K := m_ArrayList_size) (As := []) (S := [xR (alg h x4 x5)]) (L0 := [xR x2]) (hI := d_Fits_fill_75) (hK := k_ArrayList_size) (hlk := w_607) (hnoM := rfl) (hS8 := Nat.le_of_ble_eq_true rfl) (ci := 13) (N := 3) (C := "java/util/ArrayList") (T := xF13) (hc := rfl) (hci := Nat.le_of_ble_eq_true rfl) (htb := t7_) (hinst := w_465) (hsel := w_466) (hlen := Nat.le_of_ble_eq_true rfl) (hst := rfl) (hL0 := rfl)  (p_AL_size F c8_ ?_)
    show xwp G m_Fits_fill (d + 6) 78 [xR 41, xR x1, xR x2, xI x3, xR x4, xI x5, xR (alg h x4 x5)] [xI (als h x2), xR (alg h x4 x5)] _ _ _
    have f9_ : 0 ≤ (als h x2) ∧ (als h x2) ≤ 1000000 := ⟨c8_.2.2.1, c8_.2.2.2.2⟩
    refine xr_aload_n (pc := 78) (i := 0) (hI := d_Fits_fill_78) (hi := rfl) (hl := rfl) ?_
    refine xr_aload (pc := 79) (i := 6) (hI := d_Fits_fill_79) (hl := rfl) ?_
    refine xr_iconst (pc := 81) (hI := d_Fits_fill_81) (hr := by decide) ?_
    refine xr_aload_n (pc := 82) (i := 2) (hI := d_Fits_fill_82) (hi := rfl) (hl := rfl) ?_
    exact xq_callV (pc := 83) (index := 56) (K := m_Fits_fillPart) (As := [xR (alg h x4 x5), xI 0, xR x2]) (S := [xI (als h x2), xR (alg h x4 x5)]) (L0 := [xR 41, xR (alg h x4 x5), xI 0, xR x2, xZ, xZ]) (hI := d_Fits_fill_83) (hK := k_Fits_fillPart) (hlk := w_617) (hnoM := rfl) (hS8 := Nat.le_of_ble_eq_true rfl) (ci := 2) (N := 4) (C := "BeaconIndex$Fits") (T := xF2) (hc := rfl) (hci := Nat.le_of_ble_eq_true rfl) (htb := (ft_41 F)) (hinst := w_619) (hsel := sel_Fits_fillPart) (hlen := Nat.le_of_ble_eq_true rfl) (hst := rfl) (hL0 := rfl)  hyp
theorem d_Fits_fill_86 : decode prog_3_method_3_code 86 = .ok (.invokestatic 60, 3) := by decide +kernel
theorem k_Fits_rarityOf : xCal m_Fits_rarityOf 2 := ⟨List.mem_append_right _ (List.mem_of_getElem? (i := 693) (by decide +kernel)), w_13, Nat.le_of_ble_eq_true rfl, ⟨by decide +kernel, by decide +kernel⟩, by decide +kernel, by decide +kernel, rfl⟩
theorem w_691 : Cond.methodLink "BeaconIndex$Fits" 60 ⟨"BeaconIndex$Fits", "rarityOf", "(II)I"⟩ ∈ lw_tbl := List.mem_append_right _ (List.mem_of_getElem? (i := 691) (by decide +kernel))
theorem w_692 : Cond.static ⟨"BeaconIndex$Fits", "rarityOf", "(II)I"⟩ ∈ lw_tbl := List.mem_append_right _ (List.mem_of_getElem? (i := 692) (by decide +kernel))
theorem d_Fits_fill_89 : decode prog_3_method_3_code 89 = .ok (.putfield 64, 3) := by decide +kernel
theorem xtk_4_11 : xfTK 4 11 = true := by decide +kernel
theorem d_Fits_fill_92 : decode prog_3_method_3_code 92 = .ok (.aload 6, 2) := by decide +kernel
theorem d_Fits_fill_94 : decode prog_3_method_3_code 94 = .ok (.aload_n 2, 1) := by decide +kernel
theorem d_Fits_fill_95 : decode prog_3_method_3_code 95 = .ok (.invokevirtual 38, 3) := by decide +kernel
theorem d_Fits_fill_98 : decode prog_3_method_3_code 98 = .ok (.aload_n 0, 1) := by decide +kernel
theorem d_Fits_fill_99 : decode prog_3_method_3_code 99 = .ok (.aload 6, 2) := by decide +kernel
theorem d_Fits_fill_101 : decode prog_3_method_3_code 101 = .ok (.iconst 1, 1) := by decide +kernel
theorem d_Fits_fill_102 : decode prog_3_method_3_code 102 = .ok (.aload_n 2, 1) := by decide +kernel
theorem d_Fits_fill_103 : decode prog_3_method_3_code 103 = .ok (.invokevirtual 56, 3) := by decide +kernel
theorem v_Fits_fill_86 {G : XG} {d : Nat} {h : XH} {Q : XV → XH → Prop} {X : Nat → XH → Prop} {x1 x2 x3 x4 x5 x6 s0 s1 s2 : Int} (F : xFix h) (hyp : 0 ≤ s1 ∧ s1 ≤ 1000 ∧ 0 ≤ s0 ∧ s0 ≤ 1000 ∧ xtg h s2 = 4 ∧ 0 ≤ s2 ∧ xtg h x2 = 13 ∧ alok (xst h s2 11 (rrF s1 s0)) x2 ∧ (xFix (xst h s2 11 (rrF s1 s0)) → xwp G m_Fits_fillPart (d + 5) 0 [xR 41, xR x6, xI 1, xR x2, xZ, xZ] [] (xst h s2 11 (rrF s1 s0)) (fun v9 h9 => xwp G m_Fits_fill (d + 6) 106 [xR 41, xR x1, xR x2, xI x3, xR x4, xI x5, xZ] (xpush v9 [xI (als (xst h s2 11 (rrF s1 s0)) x2), xR x6]) h9 Q X) X)) : xwp G m_Fits_fill (d + 6) 86 [xR 41, xR x1, xR x2, xI x3, xR x4, xI x5, xR x6] [xI s0, xI s1, xR s2] h Q X := by
  have hnx9 : (93 : Int) ≤ xnx h := F.2.2
  refine xr_okL (fun hl9 => ?_)
  have r_x3 : -2147483648 ≤ x3 ∧ x3 ≤ 2147483647 := hl9 (xI x3) (.tail _ (.tail _ (.tail _ (.head _)))) (Nat.le_of_ble_eq_true rfl)
  have r_x5 : -2147483648 ≤ x5 ∧ x5 ≤ 2147483647 := hl9 (xI x5) (.tail _ (.tail _ (.tail _ (.tail _ (.tail _ (.head _)))))) (Nat.le_of_ble_eq_true rfl)
  refine xr_okS (fun hs9 => ?_)
  have r_s0 : -2147483648 ≤ s0 ∧ s0 ≤ 2147483647 := hs9 (xI s0) (.head _)
  have r_s1 : -2147483648 ≤ s1 ∧ s1 ≤ 2147483647 := hs9 (xI s1) (.tail _ (.head _))
  obtain ⟨c1_, hyp⟩ := hyp
  obtain ⟨c2_, hyp⟩ := hyp
  obtain ⟨c3_, hyp⟩ := hyp
  obtain ⟨c4_, hyp⟩ := hyp
  refine xq_callS (pc := 86) (index := 60) (K := m_Fits_rarityOf) (As := [xI s1, xI s0]) (S := [xR s2]) (L0 := [xI s1, xI s0]) (hI := d_Fits_fill_86) (hK := k_Fits_rarityOf) (hlk := w_691) (hnoM := rfl) (hS8 := Nat.le_of_ble_eq_true rfl) (hstat := w_692) (hlen := Nat.le_of_ble_eq_true rfl) (hst := rfl) (hL0 := rfl)  (p_Fits_rarityOf F c1_ c2_ c3_ c4_ ?_)
  show xwp G m_Fits_fill (d + 6) 89 [xR 41, xR x1, xR x2, xI x3, xR x4, xI x5, xR x6] [xI (rrF s1 s0), xR s2] _ _ _
  obtain ⟨c9, hyp⟩ := hyp
  have t5_ := c9
  clear c9
  obtain ⟨c6_, hyp⟩ := hyp
  refine xr_putf (pc := 89) (ci := 4) (k := 11) (N := 13) (v9 := 0) (T := xF4) (tF := xT4) (hI := d_Fits_fill_89) (hw := w_248) rfl xi4 xt4 xn4 (Or.inl rfl) (Nat.le_of_ble_eq_true rfl) (Nat.le_of_ble_eq_true rfl) rfl xfit_i rfl t5_ c6_ (fun z => z) ?_
  have F7_ : xFix (xst h s2 11 (rrF s1 s0)) := F.stT (t := 4) c6_ t5_ xtk_4_11
  refine xr_aload (pc := 92) (i := 6) (hI := d_Fits_fill_92) (hl := rfl) ?_
  refine xr_aload_n (pc := 94) (i := 2) (hI := d_Fits_fill_94) (hi := rfl) (hl := rfl) ?_
  obtain ⟨c9, hyp⟩ := hyp
  have t8_ := c9
  clear c9
  obtain ⟨c9_, hyp⟩ := hyp
  refine xq_callV (pc := 95) (index := 38) (K := m_ArrayList_size) (As := []) (S := [xR x6]) (L0 := [xR x2]) (hI := d_Fits_fill_95) (hK := k_ArrayList_size) (hlk := w_607) (hnoM := rfl) (hS8 := Nat.le_of_ble_eq_true rfl) (ci := 13) (N := 3) (C := "java/util/ArrayList") (T := xF13) (hc := rfl) (hci := Nat.le_of_ble_eq_true rfl) (htb := t8_) (hinst := w_465) (hsel := w_466) (hlen := Nat.le_of_ble_eq_true rfl) (hst := rfl) (hL0 := rfl)  (p_AL_size F7_ c9_ ?_)
  show xwp G m_Fits_fill (d + 6) 98 [xR 41, xR x1, xR x2, xI x3, xR x4, xI x5, xR x6] [xI (als (xst h s2 11 (rrF s1 s0)) x2), xR x6] _ _ _
  have f10_ : 0 ≤ (als (xst h s2 11 (rrF s1 s0)) x2) ∧ (als (xst h s2 11 (rrF s1 s0)) x2) ≤ 1000000 := ⟨c9_.2.2.1, c9_.2.2.2.2⟩
  refine xr_aload_n (pc := 98) (i := 0) (hI := d_Fits_fill_98) (hi := rfl) (hl := rfl) ?_
  refine xr_aload (pc := 99) (i := 6) (hI := d_Fits_fill_99) (hl := rfl) ?_
  refine xr_iconst (pc := 101) (hI := d_Fits_fill_101) (hr := by decide) ?_
  refine xr_aload_n (pc := 102) (i := 2) (hI := d_Fits_fill_102) (hi := rfl) (hl := rfl) ?_
  exact xq_callV (pc := 103) (index := 56) (K := m_Fits_fillPart) (As := [xR x6, xI 1, xR x2]) (S := [xI (als (xst h s2 11 (rrF s1 s0)) x2), xR x6]) (L0 := [xR 41, xR x6, xI 1, xR x2, xZ, xZ]) (hI := d_Fits_fill_103) (hK := k_Fits_fillPart) (hlk := w_617) (hnoM := rfl) (hS8 := Nat.le_of_ble_eq_true rfl) (ci := 2) (N := 4) (C := "BeaconIndex$Fits") (T := xF2) (hc := rfl) (hci := Nat.le_of_ble_eq_true rfl) (htb := (ft_41 F7_)) (hinst := w_619) (hsel := sel_Fits_fillPart) (hlen := Nat.le_of_ble_eq_true rfl) (hst := rfl) (hL0 := rfl)  (xwp_mono (hyp F7_) (fun v9 h9 q9 => xr_drop (L9 := [xR 41, xR x1, xR x2, xI x3, xR x4, xI x5, xZ]) (xdrs (xdrs (xdrs (xdrs (xdrs (xdrs (xdrz xdr0))))))) q9) (fun _ _ z9 => z9))
theorem d_Fits_fill_106 : decode prog_3_method_3_code 106 = .ok (.invokestatic 60, 3) := by decide +kernel
theorem d_Fits_fill_109 : decode prog_3_method_3_code 109 = .ok (.putfield 68, 3) := by decide +kernel
theorem xtk_4_12 : xfTK 4 12 = true := by decide +kernel
theorem d_Fits_fill_112 : decode prog_3_method_3_code 112 = .ok (.iinc 5 1, 3) := by decide +kernel
theorem d_Fits_fill_115 : decode prog_3_method_3_code 115 = .ok (.goto (-65), 3) := by decide +kernel
theorem v_Fits_fill_106 {G : XG} {d : Nat} {h : XH} {Q : XV → XH → Prop} {X : Nat → XH → Prop} {x1 x2 x3 x4 x5 s0 s1 s2 : Int} (F : xFix h) (hyp : 0 ≤ s1 ∧ s1 ≤ 1000 ∧ 0 ≤ s0 ∧ s0 ≤ 1000 ∧ xtg h s2 = 4 ∧ 0 ≤ s2 ∧ xiR (x5 + 1) ∧ (xFix (xst h s2 12 (rrF s1 s0)) → xwp G m_Fits_fill (d + 6) 50 [xR 41, xR x1, xR x2, xI x3, xR x4, xI (x5 + 1), xZ] [] (xst h s2 12 (rrF s1 s0)) Q X)) : xwp G m_Fits_fill (d + 6) 106 [xR 41, xR x1, xR x2, xI x3, xR x4, xI x5, xZ] [xI s0, xI s1, xR s2] h Q X := by
  have hnx9 : (93 : Int) ≤ xnx h := F.2.2
  refine xr_okL (fun hl9 => ?_)
  have r_x3 : -2147483648 ≤ x3 ∧ x3 ≤ 2147483647 := hl9 (xI x3) (.tail _ (.tail _ (.tail _ (.head _)))) (Nat.le_of_ble_eq_true rfl)
  have r_x5 : -2147483648 ≤ x5 ∧ x5 ≤ 2147483647 := hl9 (xI x5) (.tail _ (.tail _ (.tail _ (.tail _ (.tail _ (.head _)))))) (Nat.le_of_ble_eq_true rfl)
  refine xr_okS (fun hs9 => ?_)
  have r_s0 : -2147483648 ≤ s0 ∧ s0 ≤ 2147483647 := hs9 (xI s0) (.head _)
  have r_s1 : -2147483648 ≤ s1 ∧ s1 ≤ 2147483647 := hs9 (xI s1) (.tail _ (.head _))
  obtain ⟨c1_, hyp⟩ := hyp
  obtain ⟨c2_, hyp⟩ := hyp
  obtain ⟨c3_, hyp⟩ := hyp
  obtain ⟨c4_, hyp⟩ := hyp
  refine xq_callS (pc := 106) (index := 60) (K := m_Fits_rarityOf) (As := [xI s1, xI s0]) (S := [xR s2]) (L0 := [xI s1, xI s0]) (hI := d_Fits_fill_106) (hK := k_Fits_rarityOf) (hlk := w_691) (hnoM := rfl) (hS8 := Nat.le_of_ble_eq_true rfl) (hstat := w_692) (hlen := Nat.le_of_ble_eq_true rfl) (hst := rfl) (hL0 := rfl)  (p_Fits_rarityOf F c1_ c2_ c3_ c4_ ?_)
  show xwp G m_Fits_fill (d + 6) 109 [xR 41, xR x1, xR x2, xI x3, xR x4, xI x5, xZ] [xI (rrF s1 s0), xR s2] _ _ _
  obtain ⟨c9, hyp⟩ := hyp
  have t5_ := c9
  clear c9
  obtain ⟨c6_, hyp⟩ := hyp
  refine xr_putf (pc := 109) (ci := 4) (k := 12) (N := 13) (v9 := 0) (T := xF4) (tF := xT4) (hI := d_Fits_fill_109) (hw := w_250) rfl xi4 xt4 xn4 (Or.inl rfl) (Nat.le_of_ble_eq_true rfl) (Nat.le_of_ble_eq_true rfl) rfl xfit_i rfl t5_ c6_ (fun z => z) ?_
  have F7_ : xFix (xst h s2 12 (rrF s1 s0)) := F.stT (t := 4) c6_ t5_ xtk_4_12
  obtain ⟨c9, hyp⟩ := hyp
  refine xr_iinc (pc := 112) (i := 5) (L9 := [xR 41, xR x1, xR x2, xI x3, xR x4, xI (x5 + 1), xZ]) (hI := d_Fits_fill_112) (hl := rfl) (hn := Nat.le_of_ble_eq_true rfl) (hr := c9) (hL9 := rfl) ?_
  refine xr_goto (pc := 115) (tgt := 50) (hI := d_Fits_fill_115) (ht := by decide) ?_
  exact (hyp F7_)
def rwT (t : Txt) (f : Int) : List Int := if f = 0 then t.2.2.2.1 else t.2.2.2.2
theorem TxtR.row {h : XH} {p : Int} {t : Txt} (R : TxtR h p t) (f : Int) : RowOK h (txr h p f) (rwT t f) := by
  unfold txr rwT
  by_cases z : f = 0
  · rw [if_pos z, if_pos z]; exact R.2.2.1
  · rw [if_neg z, if_neg z]; exact R.2.2.2
/-- the filed texts, as the questions read them -/
def FilR (h : XH) (fp : List Int) (f : List (Txt × Bool)) : Prop := ALr h 7 fp ∧ fp.length = f.length ∧ f.length ≤ 60 ∧ ∀ (i : Nat) p t, fp[i]? = some p → f[i]? = some t → TxtR h p t.1 ∧ xpl h p 5 = mkd t.2
theorem StoreR.fil {h : XH} {bp fp : List Int} {b : List Txt} {f : List (Txt × Bool)} {z : List Int} {m : Int} (R : StoreR h bp fp b f z m) : FilR h fp f := ⟨R.1.2.1, R.1.2.2.2.1, R.1.2.2.2.2.2, R.2.2.1⟩
theorem FilR.frame {C : Int → Prop} {h h' : XH} {fp : List Int} {f : List (Txt × Bool)} (R : FilR h fp f) (F : xFix h) (e : xsm C h h') (hC : ∀ c, ALC h 7 c ∨ xtg h c = 9 ∨ (xtg h c = 101 ∧ xpl h c (-1) = 0 ∧ 93 ≤ c) → ¬ C c) : FilR h' fp f := by
  obtain ⟨r1, r2, r3, r4⟩ := R
  refine ⟨r1.frame F e (fun c w => hC c (Or.inl w)), r2, r3, fun i p t hp ht => ?_⟩
  obtain ⟨q1, q2⟩ := r4 i p t hp ht
  have hx := e.pl q1.1.2.1 (hC p (Or.inr (Or.inl q1.1.2.2)))
  exact ⟨q1.frame e (fun k _ _ => hx k) (fun r a b c => hC r (Or.inr (Or.inr ⟨a, b, c⟩))), by rw [hx]; exact q2⟩
theorem FilR.at {h : XH} {fp : List Int} {f : List (Txt × Bool)} (R : FilR h fp f) {i : Nat} (hi : i < f.length) : ∃ t, f[i]? = some t ∧ TxtR h (alg h 7 i) t.1 ∧ xpl h (alg h 7 i) 5 = mkd t.2 := by
  obtain ⟨r1, r2, r3, r4⟩ := R
  refine ⟨f[i], List.getElem?_eq_getElem hi, ?_⟩
  exact r4 i _ _ (r1.at (by omega)) (List.getElem?_eq_getElem hi)
def sumL (fl : Int) : List (Txt × Bool) → Int
  | [] => 0
  | t :: r => (rwT t.1 fl).length + sumL fl r
def mlF (f : List (Txt × Bool)) (fl : Int) : Int := if f.length = 0 then 1 else max 1 ((sumL fl f).tdiv f.length)
theorem p_Fits_meanLength {G : XG} {d : Nat} {h : XH} {Q : XV → XH → Prop} {X : Nat → XH → Prop} {fp : List Int} {f : List (Txt × Bool)} {fl : Int} (F : xFix h) (R : FilR h fp f) (hq : Q (xI (mlF f fl)) h) : xwp G m_Fits_meanLength (d + 4) 0 [xR 7, xI fl, xZ, xZ] [] h Q X := by
  have hs := R.1.sz
  have hn := R.2.1
  have h60 := R.2.2.1
  have ok := R.1.ok
  have hr : ∀ (t : Txt) (p : Int), TxtR h p t → (rwT t fl).length ≤ 200 := fun t p T => (T.row fl).2.2.2.2
  have loop : ∀ (m i : Nat) (s : Int), i + m = f.length → 0 ≤ s → s ≤ 200 * i → s + sumL fl (f.drop i) = sumL fl f → ¬ f.length = 0 → xwp G m_Fits_meanLength (d + 4) 13 [xR 7, xI fl, xI s, xI i] [] h Q X := by
    intro m
    induction m with
    | zero =>
      intro i s e s0 s1 hv hz
      have hv2 : s = sumL fl f := by
        rw [List.drop_eq_nil_of_le (by omega)] at hv
        have : s + 0 = sumL fl f := hv
        omega
      refine v_Fits_meanLength_13 F ?_
      refine ⟨?_, ?_⟩
      · first | exact ft_7 F | exact ok | omega
      · refine ⟨?_, ?_⟩
        · first | exact ft_7 F | exact ok | omega
        · refine ⟨fun q1 => ?_, fun q1 => ?_⟩
          · refine ⟨?_, ?_⟩
            · first | exact ft_7 F | exact ok | omega
            · have e9 : (als h 7) = (f.length : Int) := by omega
              unfold mlF at hq
              rw [if_neg hz, ← hv2, ← e9] at hq
              exact hq
          · refine ⟨?_, ?_⟩
            · first | exact ft_7 F | exact ok | omega
            · refine ⟨?_, ?_⟩
              · first | exact ft_7 F | exact ok | omega
              · refine ⟨?_, ?_⟩
                · first | exact ft_7 F | exact ok | omega
                · refine ⟨?_, ?_⟩
                  · first | exact ft_7 F | exact ok | omega
                  · omega
    | succ m ih =>
      intro i s e s0 s1 hv hz
      obtain ⟨t, ht, T, -⟩ := R.at (i := i) (by omega)
      obtain ⟨a1, a2⟩ := List.getElem?_eq_some_iff.mp ht
      have hrw := T.row fl
      have hl := hrw.2.2.2.1.2.1
      have h2 := hr _ _ T
      rw [List.drop_eq_getElem_cons a1, a2] at hv
      have hv2 : s + ((rwT t.1 fl).length + sumL fl (f.drop (i + 1))) = sumL fl f := hv
      refine v_Fits_meanLength_13 F ?_
      refine ⟨?_, ?_⟩
      · first | exact ft_7 F | exact ok | exact T.1.2.2 | exact hrw.2.2.2.1.1 | exact ⟨by omega, by omega⟩ | omega
      · refine ⟨?_, ?_⟩
        · first | exact ft_7 F | exact ok | exact T.1.2.2 | exact hrw.2.2.2.1.1 | exact ⟨by omega, by omega⟩ | omega
        · refine ⟨fun q1 => ?_, fun q1 => ?_⟩
          · refine ⟨?_, ?_⟩
            · first | exact ft_7 F | exact ok | exact T.1.2.2 | exact hrw.2.2.2.1.1 | exact ⟨by omega, by omega⟩ | omega
            · omega
          · refine ⟨?_, ?_⟩
            · first | exact ft_7 F | exact ok | exact T.1.2.2 | exact hrw.2.2.2.1.1 | exact ⟨by omega, by omega⟩ | omega
            · refine ⟨?_, ?_⟩
              · first | exact ft_7 F | exact ok | exact T.1.2.2 | exact hrw.2.2.2.1.1 | exact ⟨by omega, by omega⟩ | omega
              · refine ⟨?_, ?_⟩
                · first | exact ft_7 F | exact ok | exact T.1.2.2 | exact hrw.2.2.2.1.1 | exact ⟨by omega, by omega⟩ | omega
                · refine ⟨?_, ?_⟩
                  · first | exact ft_7 F | exact ok | exact T.1.2.2 | exact hrw.2.2.2.1.1 | exact ⟨by omega, by omega⟩ | omega
                  · exact ih (i + 1) _ (by omega) (by omega) (by omega) (by omega) hz
  refine v_Fits_meanLength_0 F ?_
  refine ⟨?_, ?_⟩
  · first | exact ft_7 F | exact ok
  · refine ⟨?_, ?_⟩
    · first | exact ft_7 F | exact ok
    · refine ⟨fun q1 => ?_, fun q1 => ?_⟩
      · unfold mlF at hq
        rw [if_pos (by have := of_decide_eq_true q1; omega)] at hq
        exact hq
      · exact loop f.length 0 0 (by omega) (Int.le_refl _) (by omega) (by rw [List.drop_zero]; omega) (fun z => q1 (decide_eq_true (by omega)))

end
