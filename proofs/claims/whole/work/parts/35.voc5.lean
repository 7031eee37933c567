/-! ===== voc5 ===== -/
section
abbrev m_Vocabulary_changes : XM := (⟨"BeaconIndex$Vocabulary", "changes", "(JJ)I"⟩, prog_11_method_9_code, 9, (some .int), [])
theorem d_Vocabulary_changes_0 : decode prog_11_method_9_code 0 = .ok (.lload_n 1, 1) := by decide +kernel
theorem d_Vocabulary_changes_1 : decode prog_11_method_9_code 1 = .ok (.aload_n 0, 1) := by decide +kernel
theorem d_Vocabulary_changes_2 : decode prog_11_method_9_code 2 = .ok (.getfield 31, 3) := by decide +kernel
theorem d_Vocabulary_changes_5 : decode prog_11_method_9_code 5 = .ok (.invokestatic 78, 3) := by decide +kernel
theorem k_Vocabulary_spread : xCal m_Vocabulary_spread 2 := ⟨List.mem_append_right _ (List.mem_of_getElem? (i := 934) (by decide +kernel)), w_8, Nat.le_of_ble_eq_true rfl, ⟨by decide +kernel, by decide +kernel⟩, by decide +kernel, by decide +kernel, rfl⟩
theorem w_932 : Cond.methodLink "BeaconIndex$Vocabulary" 78 ⟨"BeaconIndex$Vocabulary", "spread", "(J[I)I"⟩ ∈ lw_tbl := List.mem_append_right _ (List.mem_of_getElem? (i := 932) (by decide +kernel))
theorem w_933 : Cond.static ⟨"BeaconIndex$Vocabulary", "spread", "(J[I)I"⟩ ∈ lw_tbl := List.mem_append_right _ (List.mem_of_getElem? (i := 933) (by decide +kernel))
theorem v_Vocabulary_changes_0 {G : XG} {d : Nat} {h : XH} {Q : XV → XH → Prop} {X : Nat → XH → Prop} {x1 x3 : Int} (F : xFix h) (hyp : (xwp G m_Vocabulary_spread (d + 4) 0 [xL x1, xZ, xR 30, xZ, xZ] [] h (fun v9 h9 => xwp G m_Vocabulary_changes (d + 5) 8 [xR 12, xZ, xZ, xL x3, xZ, xZ, xZ, xZ, xZ] (xpush v9 []) h9 Q X) X)) : xwp G m_Vocabulary_changes (d + 5) 0 [xR 12, xL x1, xZ, xL x3, xZ, xZ, xZ, xZ, xZ] [] h Q X := by
  have hnx9 : (93 : Int) ≤ xnx h := F.2.2
  refine xr_okL (fun hl9 => ?_)
  have r_x1 : -9223372036854775808 ≤ x1 ∧ x1 ≤ 9223372036854775807 := hl9 (xL x1) (.tail _ (.head _)) (Nat.le_of_ble_eq_true rfl)
  have r_x3 : -9223372036854775808 ≤ x3 ∧ x3 ≤ 9223372036854775807 := hl9 (xL x3) (.tail _ (.tail _ (.tail _ (.head _)))) (Nat.le_of_ble_eq_true rfl)
  refine xr_lload_n (pc := 0) (i := 1) (hI := d_Vocabulary_changes_0) (hi := rfl) (hl := rfl) ?_
  refine xr_aload_n (pc := 1) (i := 0) (hI := d_Vocabulary_changes_1) (hi := rfl) (hl := rfl) ?_
  refine xg_getf (pc := 2) (ci := 10) (k := 5) (N := 7) (v9 := 2) (v := 30) (T := xF10) (hI := d_Vocabulary_changes_2) (hw := w_185) rfl xi10 (Or.inl rfl) (Nat.le_of_ble_eq_true rfl) (Nat.le_of_ble_eq_true rfl) rfl (ft_12 F) (fp_12_5 F) (fun f1_ => ?_)
  clear f1_
  exact xq_callS (pc := 5) (index := 78) (K := m_Vocabulary_spread) (As := [xL x1, xR 30]) (S := []) (L0 := [xL x1, xZ, xR 30, xZ, xZ]) (hI := d_Vocabulary_changes_5) (hK := k_Vocabulary_spread) (hlk := w_932) (hnoM := rfl) (hS8 := Nat.le_of_ble_eq_true rfl) (hstat := w_933) (hlen := Nat.le_of_ble_eq_true rfl) (hst := rfl) (hL0 := rfl)  (xwp_mono hyp (fun v9 h9 q9 => xr_drop (L9 := [xR 12, xZ, xZ, xL x3, xZ, xZ, xZ, xZ, xZ]) (xdrs (xdrz (xdrs (xdrs (xdrs (xdrs (xdrs (xdrs (xdrs xdr0))))))))) q9) (fun _ _ z9 => z9))
theorem d_Vocabulary_changes_8 : decode prog_11_method_9_code 8 = .ok (.istore 5, 2) := by decide +kernel
theorem d_Vocabulary_changes_10 : decode prog_11_method_9_code 10 = .ok (.lload_n 3, 1) := by decide +kernel
theorem d_Vocabulary_changes_11 : decode prog_11_method_9_code 11 = .ok (.aload_n 0, 1) := by decide +kernel
theorem d_Vocabulary_changes_12 : decode prog_11_method_9_code 12 = .ok (.getfield 34, 3) := by decide +kernel
theorem d_Vocabulary_changes_15 : decode prog_11_method_9_code 15 = .ok (.invokestatic 78, 3) := by decide +kernel
theorem v_Vocabulary_changes_8 {G : XG} {d : Nat} {h : XH} {Q : XV → XH → Prop} {X : Nat → XH → Prop} {x3 s0 : Int} (F : xFix h) (hyp : (xwp G m_Vocabulary_spread (d + 4) 0 [xL x3, xZ, xR 31, xZ, xZ] [] h (fun v9 h9 => xwp G m_Vocabulary_changes (d + 5) 18 [xR 12, xZ, xZ, xZ, xZ, xI s0, xZ, xZ, xZ] (xpush v9 []) h9 Q X) X)) : xwp G m_Vocabulary_changes (d + 5) 8 [xR 12, xZ, xZ, xL x3, xZ, xZ, xZ, xZ, xZ] [xI s0] h Q X := by
  have hnx9 : (93 : Int) ≤ xnx h := F.2.2
  refine xr_okL (fun hl9 => ?_)
  have r_x3 : -9223372036854775808 ≤ x3 ∧ x3 ≤ 9223372036854775807 := hl9 (xL x3) (.tail _ (.tail _ (.tail _ (.head _)))) (Nat.le_of_ble_eq_true rfl)
  refine xr_okS (fun hs9 => ?_)
  have r_s0 : -2147483648 ≤ s0 ∧ s0 ≤ 2147483647 := hs9 (xI s0) (.head _)
  refine xr_istore (pc := 8) (i := 5) (L9 := [xR 12, xZ, xZ, xL x3, xZ, xI s0, xZ, xZ, xZ]) (hI := d_Vocabulary_changes_8) (hn := Nat.le_of_ble_eq_true rfl) (hL9 := rfl) ?_
  refine xr_lload_n (pc := 10) (i := 3) (hI := d_Vocabulary_changes_10) (hi := rfl) (hl := rfl) ?_
  refine xr_aload_n (pc := 11) (i := 0) (hI := d_Vocabulary_changes_11) (hi := rfl) (hl := rfl) ?_
  refine xg_getf (pc := 12) (ci := 10) (k := 6) (N := 7) (v9 := 2) (v := 31) (T := xF10) (hI := d_Vocabulary_changes_12) (hw := w_186) rfl xi10 (Or.inl rfl) (Nat.le_of_ble_eq_true rfl) (Nat.le_of_ble_eq_true rfl) rfl (ft_12 F) (fp_12_6 F) (fun f1_ => ?_)
  clear f1_
  exact xq_callS (pc := 15) (index := 78) (K := m_Vocabulary_spread) (As := [xL x3, xR 31]) (S := []) (L0 := [xL x3, xZ, xR 31, xZ, xZ]) (hI := d_Vocabulary_changes_15) (hK := k_Vocabulary_spread) (hlk := w_932) (hnoM := rfl) (hS8 := Nat.le_of_ble_eq_true rfl) (hstat := w_933) (hlen := Nat.le_of_ble_eq_true rfl) (hst := rfl) (hL0 := rfl)  (xwp_mono hyp (fun v9 h9 q9 => xr_drop (L9 := [xR 12, xZ, xZ, xZ, xZ, xI s0, xZ, xZ, xZ]) (xdrs (xdrs (xdrs (xdrz (xdrs (xdrs (xdrs (xdrs (xdrs xdr0))))))))) q9) (fun _ _ z9 => z9))
theorem d_Vocabulary_changes_18 : decode prog_11_method_9_code 18 = .ok (.istore 6, 2) := by decide +kernel
theorem d_Vocabulary_changes_20 : decode prog_11_method_9_code 20 = .ok (.iconst 0, 1) := by decide +kernel
theorem d_Vocabulary_changes_21 : decode prog_11_method_9_code 21 = .ok (.istore 7, 2) := by decide +kernel
theorem v_Vocabulary_changes_18 {G : XG} {d : Nat} {h : XH} {Q : XV → XH → Prop} {X : Nat → XH → Prop} {x5 s0 : Int} (F : xFix h) (hyp : (xwp G m_Vocabulary_changes (d + 5) 23 [xR 12, xZ, xZ, xZ, xZ, xI x5, xI s0, xI 0, xZ] [] h Q X)) : xwp G m_Vocabulary_changes (d + 5) 18 [xR 12, xZ, xZ, xZ, xZ, xI x5, xZ, xZ, xZ] [xI s0] h Q X := by
  have hnx9 : (93 : Int) ≤ xnx h := F.2.2
  refine xr_okL (fun hl9 => ?_)
  have r_x5 : -2147483648 ≤ x5 ∧ x5 ≤ 2147483647 := hl9 (xI x5) (.tail _ (.tail _ (.tail _ (.tail _ (.tail _ (.head _)))))) (Nat.le_of_ble_eq_true rfl)
  refine xr_okS (fun hs9 => ?_)
  have r_s0 : -2147483648 ≤ s0 ∧ s0 ≤ 2147483647 := hs9 (xI s0) (.head _)
  refine xr_istore (pc := 18) (i := 6) (L9 := [xR 12, xZ, xZ, xZ, xZ, xI x5, xI s0, xZ, xZ]) (hI := d_Vocabulary_changes_18) (hn := Nat.le_of_ble_eq_true rfl) (hL9 := rfl) ?_
  refine xr_iconst (pc := 20) (hI := d_Vocabulary_changes_20) (hr := by decide) ?_
  refine xr_istore (pc := 21) (i := 7) (L9 := [xR 12, xZ, xZ, xZ, xZ, xI x5, xI s0, xI 0, xZ]) (hI := d_Vocabulary_changes_21) (hn := Nat.le_of_ble_eq_true rfl) (hL9 := rfl) ?_
  exact hyp
theorem d_Vocabulary_changes_23 : decode prog_11_method_9_code 23 = .ok (.iload 7, 2) := by decide +kernel
theorem d_Vocabulary_changes_25 : decode prog_11_method_9_code 25 = .ok (.iload 5, 2) := by decide +kernel
theorem d_Vocabulary_changes_27 : decode prog_11_method_9_code 27 = .ok (.if_icmp .gt 43, 3) := by decide +kernel
theorem d_Vocabulary_changes_70 : decode prog_11_method_9_code 70 = .ok (.aload_n 0, 1) := by decide +kernel
theorem d_Vocabulary_changes_71 : decode prog_11_method_9_code 71 = .ok (.getfield 28, 3) := by decide +kernel
theorem d_Vocabulary_changes_74 : decode prog_11_method_9_code 74 = .ok (.iload 5, 2) := by decide +kernel
theorem d_Vocabulary_changes_76 : decode prog_11_method_9_code 76 = .ok (.aaload, 1) := by decide +kernel
theorem d_Vocabulary_changes_77 : decode prog_11_method_9_code 77 = .ok (.iload 6, 2) := by decide +kernel
theorem d_Vocabulary_changes_79 : decode prog_11_method_9_code 79 = .ok (.iaload, 1) := by decide +kernel
theorem d_Vocabulary_changes_80 : decode prog_11_method_9_code 80 = .ok (.ireturn, 1) := by decide +kernel
theorem d_Vocabulary_changes_30 : decode prog_11_method_9_code 30 = .ok (.iconst 0, 1) := by decide +kernel
theorem d_Vocabulary_changes_31 : decode prog_11_method_9_code 31 = .ok (.istore 8, 2) := by decide +kernel
theorem v_Vocabulary_changes_23 {G : XG} {d : Nat} {h : XH} {Q : XV → XH → Prop} {X : Nat → XH → Prop} {x5 x6 x7 : Int} (F : xFix h) (hyp : ((x5 < x7 → 0 ≤ x5 ∧ x5 < 13 ∧ xtg h (xpl h 16 x5) = 100 ∧ 0 ≤ x6 ∧ x6 < (xln h (xpl h 16 x5)) ∧ (Q (xI (xpl h (xpl h 16 x5) x6)) h)) ∧ (¬ x5 < x7 → (xwp G m_Vocabulary_changes (d + 5) 33 [xR 12, xZ, xZ, xZ, xZ, xI x5, xI x6, xI x7, xI 0] [] h Q X)))) : xwp G m_Vocabulary_changes (d + 5) 23 [xR 12, xZ, xZ, xZ, xZ, xI x5, xI x6, xI x7, xZ] [] h Q X := by
  have hnx9 : (93 : Int) ≤ xnx h := F.2.2
  refine xr_okL (fun hl9 => ?_)
  have r_x5 : -2147483648 ≤ x5 ∧ x5 ≤ 2147483647 := hl9 (xI x5) (.tail _ (.tail _ (.tail _ (.tail _ (.tail _ (.head _)))))) (Nat.le_of_ble_eq_true rfl)
  have r_x6 : -2147483648 ≤ x6 ∧ x6 ≤ 2147483647 := hl9 (xI x6) (.tail _ (.tail _ (.tail _ (.tail _ (.tail _ (.tail _ (.head _))))))) (Nat.le_of_ble_eq_true rfl)
  have r_x7 : -2147483648 ≤ x7 ∧ x7 ≤ 2147483647 := hl9 (xI x7) (.tail _ (.tail _ (.tail _ (.tail _ (.tail _ (.tail _ (.tail _ (.head _)))))))) (Nat.le_of_ble_eq_true rfl)
  refine xr_iload (pc := 23) (i := 7) (hI := d_Vocabulary_changes_23) (hl := rfl) ?_
  refine xr_iload (pc := 25) (i := 5) (hI := d_Vocabulary_changes_25) (hl := rfl) ?_
  refine xr_icmp_gt (pc := 27) (tgt := 70) (hI := d_Vocabulary_changes_27) (ht := by decide) (fun q9 => ?_) (fun q9 => ?_)
  · replace hyp := hyp.1 q9
    have q1_ := q9
    clear q9
    refine xr_aload_n (pc := 70) (i := 0) (hI := d_Vocabulary_changes_70) (hi := rfl) (hl := rfl) ?_
    refine xg_getf (pc := 71) (ci := 10) (k := 4) (N := 7) (v9 := 2) (v := 16) (T := xF10) (hI := d_Vocabulary_changes_71) (hw := w_184) rfl xi10 (Or.inl rfl) (Nat.le_of_ble_eq_true rfl) (Nat.le_of_ble_eq_true rfl) rfl (ft_12 F) (fp_12_4 F) (fun f2_ => ?_)
    clear f2_
    refine xr_iload (pc := 74) (i := 5) (hI := d_Vocabulary_changes_74) (hl := rfl) ?_
    obtain ⟨c3_, hyp⟩ := hyp
    obtain ⟨c4_, hyp⟩ := hyp
    refine xg_aaload (pc := 76) (t := 111) (v := (xpl h 16 x5)) (hI := d_Vocabulary_changes_76) (ft_16 F) (Nat.le_of_ble_eq_true rfl) rfl (Nat.le_of_ble_eq_true rfl) c3_ (xlt_of (fl_16 F) c4_) rfl ?_
    refine xr_iload (pc := 77) (i := 6) (hI := d_Vocabulary_changes_77) (hl := rfl) ?_
    obtain ⟨c9, hyp⟩ := hyp
    have t5_ := c9
    clear c9
    obtain ⟨c6_, hyp⟩ := hyp
    obtain ⟨c7_, hyp⟩ := hyp
    refine xg_iaload (pc := 79) (v := (xpl h (xpl h 16 x5) x6)) (hI := d_Vocabulary_changes_79) t5_ c6_ (xlt_of rfl c7_) rfl (fun f8_ => ?_)
    replace f8_ : -2147483648 ≤ (xpl h (xpl h 16 x5) x6) ∧ (xpl h (xpl h 16 x5) x6) ≤ 2147483647 := f8_
    refine xr_ireturn (S := []) (pc := 80) (hI := d_Vocabulary_changes_80) (hr := rfl) ?_
    exact hyp
  · replace hyp := hyp.2 q9
    have q1_ := q9
    clear q9
    refine xr_iconst (pc := 30) (hI := d_Vocabulary_changes_30) (hr := by decide) ?_
    refine xr_istore (pc := 31) (i := 8) (L9 := [xR 12, xZ, xZ, xZ, xZ, xI x5, xI x6, xI x7, xI 0]) (hI := d_Vocabulary_changes_31) (hn := Nat.le_of_ble_eq_true rfl) (hL9 := rfl) ?_
    exact hyp
theorem d_Vocabulary_changes_33 : decode prog_11_method_9_code 33 = .ok (.iload 8, 2) := by decide +kernel
theorem d_Vocabulary_changes_35 : decode prog_11_method_9_code 35 = .ok (.iload 6, 2) := by decide +kernel
theorem d_Vocabulary_changes_37 : decode prog_11_method_9_code 37 = .ok (.if_icmp .gt 27, 3) := by decide +kernel
theorem d_Vocabulary_changes_64 : decode prog_11_method_9_code 64 = .ok (.iinc 7 1, 3) := by decide +kernel
theorem d_Vocabulary_changes_67 : decode prog_11_method_9_code 67 = .ok (.goto (-44), 3) := by decide +kernel
theorem d_Vocabulary_changes_40 : decode prog_11_method_9_code 40 = .ok (.aload_n 0, 1) := by decide +kernel
theorem d_Vocabulary_changes_41 : decode prog_11_method_9_code 41 = .ok (.getfield 28, 3) := by decide +kernel
theorem d_Vocabulary_changes_44 : decode prog_11_method_9_code 44 = .ok (.iload 7, 2) := by decide +kernel
theorem d_Vocabulary_changes_46 : decode prog_11_method_9_code 46 = .ok (.aaload, 1) := by decide +kernel
theorem d_Vocabulary_changes_47 : decode prog_11_method_9_code 47 = .ok (.iload 8, 2) := by decide +kernel
theorem d_Vocabulary_changes_49 : decode prog_11_method_9_code 49 = .ok (.aload_n 0, 1) := by decide +kernel
theorem d_Vocabulary_changes_50 : decode prog_11_method_9_code 50 = .ok (.iload 7, 2) := by decide +kernel
theorem d_Vocabulary_changes_52 : decode prog_11_method_9_code 52 = .ok (.iload 8, 2) := by decide +kernel
theorem d_Vocabulary_changes_54 : decode prog_11_method_9_code 54 = .ok (.invokevirtual 82, 3) := by decide +kernel
theorem k_Vocabulary_costAt : xCal m_Vocabulary_costAt 2 := ⟨List.mem_append_right _ (List.mem_of_getElem? (i := 941) (by decide +kernel)), w_8, Nat.le_of_ble_eq_true rfl, ⟨by decide +kernel, by decide +kernel⟩, by decide +kernel, by decide +kernel, rfl⟩
theorem w_938 : Cond.methodLink "BeaconIndex$Vocabulary" 82 ⟨"BeaconIndex$Vocabulary", "costAt", "(II)I"⟩ ∈ lw_tbl := List.mem_append_right _ (List.mem_of_getElem? (i := 938) (by decide +kernel))
theorem w_940 : Cond.instanceMethod ⟨"BeaconIndex$Vocabulary", "costAt", "(II)I"⟩ ∈ lw_tbl := List.mem_append_right _ (List.mem_of_getElem? (i := 940) (by decide +kernel))
theorem sel_Vocabulary_costAt : Cond.selects "BeaconIndex$Vocabulary" ⟨"BeaconIndex$Vocabulary", "costAt", "(II)I"⟩ ⟨"BeaconIndex$Vocabulary", "costAt", "(II)I"⟩ ∈ lw_tbl := List.mem_append_left _ (by decide +kernel)
theorem v_Vocabulary_changes_33 {G : XG} {d : Nat} {h : XH} {Q : XV → XH → Prop} {X : Nat → XH → Prop} {x5 x6 x7 x8 : Int} (F : xFix h) (hyp : ((x6 < x8 → xiR (x7 + 1) ∧ (xwp G m_Vocabulary_changes (d + 5) 23 [xR 12, xZ, xZ, xZ, xZ, xI x5, xI x6, xI (x7 + 1), xZ] [] h Q X)) ∧ (¬ x6 < x8 → 0 ≤ x7 ∧ x7 < 13 ∧ (xwp G m_Vocabulary_costAt (d + 4) 0 [xR 12, xI x7, xI x8, xZ] [] h (fun v9 h9 => xwp G m_Vocabulary_changes (d + 5) 57 [xR 12, xZ, xZ, xZ, xZ, xI x5, xI x6, xI x7, xI x8] (xpush v9 [xI x8, xR (xpl h 16 x7)]) h9 Q X) X)))) : xwp G m_Vocabulary_changes (d + 5) 33 [xR 12, xZ, xZ, xZ, xZ, xI x5, xI x6, xI x7, xI x8] [] h Q X := by
  have hnx9 : (93 : Int) ≤ xnx h := F.2.2
  refine xr_okL (fun hl9 => ?_)
  have r_x5 : -2147483648 ≤ x5 ∧ x5 ≤ 2147483647 := hl9 (xI x5) (.tail _ (.tail _ (.tail _ (.tail _ (.tail _ (.head _)))))) (Nat.le_of_ble_eq_true rfl)
  have r_x6 : -2147483648 ≤ x6 ∧ x6 ≤ 2147483647 := hl9 (xI x6) (.tail _ (.tail _ (.tail _ (.tail _ (.tail _ (.tail _ (.head _))))))) (Nat.le_of_ble_eq_true rfl)
  have r_x7 : -2147483648 ≤ x7 ∧ x7 ≤ 2147483647 := hl9 (xI x7) (.tail _ (.tail _ (.tail _ (.tail _ (.tail _ (.tail _ (.tail _ (.head _)))))))) (Nat.le_of_ble_eq_true rfl)
  have r_x8 : -2147483648 ≤ x8 ∧ x8 ≤ 2147483647 := hl9 (xI x8) (.tail _ (.tail _ (.tail _ (.tail _ (.tail _ (.tail _ (.tail _ (.tail _ (.head _))))))))) (Nat.le_of_ble_eq_true rfl)
  refine xr_iload (pc := 33) (i := 8) (hI := d_Vocabulary_changes_33) (hl := rfl) ?_
  refine xr_iload (pc := 35) (i := 6) (hI := d_Vocabulary_changes_35) (hl := rfl) ?_
  refine xr_icmp_gt (pc := 37) (tgt := 64) (hI := d_Vocabulary_changes_37) (ht := by decide) (fun q9 => ?_) (fun q9 => ?_)
  · replace hyp := hyp.1 q9
    have q1_ := q9
    clear q9
    obtain ⟨c9, hyp⟩ := hyp
    refine xr_iinc (pc := 64) (i := 7) (L9 := [xR 12, xZ, xZ, xZ, xZ, xI x5, xI x6, xI (x7 + 1), xI x8]) (hI := d_Vocabulary_changes_64) (hl := rfl) (hn := Nat.le_of_ble_eq_true rfl) (hr := c9) (hL9 := rfl) ?_
    refine xr_goto (pc := 67) (tgt := 23) (hI := d_Vocabulary_changes_67) (ht := by decide) ?_
    exact xr_drop (L9 := [xR 12, xZ, xZ, xZ, xZ, xI x5, xI x6, xI (x7 + 1), xZ]) (xdrs (xdrs (xdrs (xdrs (xdrs (xdrs (xdrs (xdrs (xdrz xdr0))))))))) hyp
  · replace hyp := hyp.2 q9
    have q1_ := q9
    clear q9
    refine xr_aload_n (pc := 40) (i := 0) (hI := d_Vocabulary_changes_40) (hi := rfl) (hl := rfl) ?_
    refine xg_getf (pc := 41) (ci := 10) (k := 4) (N := 7) (v9 := 2) (v := 16) (T := xF10) (hI := d_Vocabulary_changes_41) (hw := w_184) rfl xi10 (Or.inl rfl) (Nat.le_of_ble_eq_true rfl) (Nat.le_of_ble_eq_true rfl) rfl (ft_12 F) (fp_12_4 F) (fun f2_ => ?_)
    clear f2_
    refine xr_iload (pc := 44) (i := 7) (hI := d_Vocabulary_changes_44) (hl := rfl) ?_
    obtain ⟨c3_, hyp⟩ := hyp
    obtain ⟨c4_, hyp⟩ := hyp
    refine xg_aaload (pc := 46) (t := 111) (v := (xpl h 16 x7)) (hI := d_Vocabulary_changes_46) (ft_16 F) (Nat.le_of_ble_eq_true rfl) rfl (Nat.le_of_ble_eq_true rfl) c3_ (xlt_of (fl_16 F) c4_) rfl ?_
    refine xr_iload (pc := 47) (i := 8) (hI := d_Vocabulary_changes_47) (hl := rfl) ?_
    refine xr_aload_n (pc := 49) (i := 0) (hI := d_Vocabulary_changes_49) (hi := rfl) (hl := rfl) ?_
    refine xr_iload (pc := 50) (i := 7) (hI := d_Vocabulary_changes_50) (hl := rfl) ?_
    refine xr_iload (pc := 52) (i := 8) (hI := d_Vocabulary_changes_52) (hl := rfl) ?_
    exact xq_callV (pc := 54) (index := 82) (K := m_Vocabulary_costAt) (As := [xI x7, xI x8]) (S := [xI x8, xR (xpl h 16 x7)]) (L0 := [xR 12, xI x7, xI x8, xZ]) (hI := d_Vocabulary_changes_54) (hK := k_Vocabulary_costAt) (hlk := w_938) (hnoM := rfl) (hS8 := Nat.le_of_ble_eq_true rfl) (ci := 10) (N := 7) (C := "BeaconIndex$Vocabulary") (T := xF10) (hc := rfl) (hci := Nat.le_of_ble_eq_true rfl) (htb := (ft_12 F)) (hinst := w_940) (hsel := sel_Vocabulary_costAt) (hlen := Nat.le_of_ble_eq_true rfl) (hst := rfl) (hL0 := rfl)  hyp
theorem d_Vocabulary_changes_57 : decode prog_11_method_9_code 57 = .ok (.iastore, 1) := by decide +kernel
theorem d_Vocabulary_changes_58 : decode prog_11_method_9_code 58 = .ok (.iinc 8 1, 3) := by decide +kernel
theorem d_Vocabulary_changes_61 : decode prog_11_method_9_code 61 = .ok (.goto (-28), 3) := by decide +kernel
theorem v_Vocabulary_changes_57 {G : XG} {d : Nat} {h : XH} {Q : XV → XH → Prop} {X : Nat → XH → Prop} {x5 x6 x7 x8 s0 s1 s2 : Int} (F : xFix h) (hyp : xtg h s2 = 100 ∧ 0 ≤ s2 ∧ 0 ≤ s1 ∧ s1 < (xln h s2) ∧ xiR (x8 + 1) ∧ (xFix (xst h s2 s1 s0) → xwp G m_Vocabulary_changes (d + 5) 33 [xR 12, xZ, xZ, xZ, xZ, xI x5, xI x6, xI x7, xI (x8 + 1)] [] (xst h s2 s1 s0) Q X)) : xwp G m_Vocabulary_changes (d + 5) 57 [xR 12, xZ, xZ, xZ, xZ, xI x5, xI x6, xI x7, xI x8] [xI s0, xI s1, xR s2] h Q X := by
  have hnx9 : (93 : Int) ≤ xnx h := F.2.2
  refine xr_okL (fun hl9 => ?_)
  have r_x5 : -2147483648 ≤ x5 ∧ x5 ≤ 2147483647 := hl9 (xI x5) (.tail _ (.tail _ (.tail _ (.tail _ (.tail _ (.head _)))))) (Nat.le_of_ble_eq_true rfl)
  have r_x6 : -2147483648 ≤ x6 ∧ x6 ≤ 2147483647 := hl9 (xI x6) (.tail _ (.tail _ (.tail _ (.tail _ (.tail _ (.tail _ (.head _))))))) (Nat.le_of_ble_eq_true rfl)
  have r_x7 : -2147483648 ≤ x7 ∧ x7 ≤ 2147483647 := hl9 (xI x7) (.tail _ (.tail _ (.tail _ (.tail _ (.tail _ (.tail _ (.tail _ (.head _)))))))) (Nat.le_of_ble_eq_true rfl)
  have r_x8 : -2147483648 ≤ x8 ∧ x8 ≤ 2147483647 := hl9 (xI x8) (.tail _ (.tail _ (.tail _ (.tail _ (.tail _ (.tail _ (.tail _ (.tail _ (.head _))))))))) (Nat.le_of_ble_eq_true rfl)
  refine xr_okS (fun hs9 => ?_)
  have r_s0 : -2147483648 ≤ s0 ∧ s0 ≤ 2147483647 := hs9 (xI s0) (.head _)
  have r_s1 : -2147483648 ≤ s1 ∧ s1 ≤ 2147483647 := hs9 (xI s1) (.tail _ (.head _))
  obtain ⟨c9, hyp⟩ := hyp
  have t1_ := c9
  clear c9
  obtain ⟨c2_, hyp⟩ := hyp
  obtain ⟨c3_, hyp⟩ := hyp
  obtain ⟨c4_, hyp⟩ := hyp
  refine xr_iastore (pc := 57) (hI := d_Vocabulary_changes_57) t1_ c2_ c3_ (xlt_of rfl c4_) ?_
  have F5_ : xFix (xst h s2 s1 s0) := F.stTA (t := 100) c2_ t1_ xta_100
  obtain ⟨c9, hyp⟩ := hyp
  refine xr_iinc (pc := 58) (i := 8) (L9 := [xR 12, xZ, xZ, xZ, xZ, xI x5, xI x6, xI x7, xI (x8 + 1)]) (hI := d_Vocabulary_changes_58) (hl := rfl) (hn := Nat.le_of_ble_eq_true rfl) (hr := c9) (hL9 := rfl) ?_
  refine xr_goto (pc := 61) (tgt := 33) (hI := d_Vocabulary_changes_61) (ht := by decide) ?_
  exact (hyp F5_)
abbrev m_Vocabulary_nearestTo : XM := (⟨"BeaconIndex$Vocabulary", "nearestTo", "(J)I"⟩, prog_11_method_8_code, 8, (some .int), [])
theorem d_Vocabulary_nearestTo_0 : decode prog_11_method_8_code 0 = .ok (.iconst 0, 1) := by decide +kernel
theorem d_Vocabulary_nearestTo_1 : decode prog_11_method_8_code 1 = .ok (.istore_n 3, 1) := by decide +kernel
theorem d_Vocabulary_nearestTo_2 : decode prog_11_method_8_code 2 = .ok (.aload_n 0, 1) := by decide +kernel
theorem d_Vocabulary_nearestTo_3 : decode prog_11_method_8_code 3 = .ok (.lload_n 1, 1) := by decide +kernel
theorem d_Vocabulary_nearestTo_4 : decode prog_11_method_8_code 4 = .ok (.aload_n 0, 1) := by decide +kernel
theorem d_Vocabulary_nearestTo_5 : decode prog_11_method_8_code 5 = .ok (.iconst 0, 1) := by decide +kernel
theorem d_Vocabulary_nearestTo_6 : decode prog_11_method_8_code 6 = .ok (.invokevirtual 47, 3) := by decide +kernel
theorem d_Vocabulary_nearestTo_9 : decode prog_11_method_8_code 9 = .ok (.invokevirtual 70, 3) := by decide +kernel
theorem k_Vocabulary_changes : xCal m_Vocabulary_changes 2 := ⟨List.mem_append_right _ (List.mem_of_getElem? (i := 931) (by decide +kernel)), w_8, Nat.le_of_ble_eq_true rfl, ⟨by decide +kernel, by decide +kernel⟩, by decide +kernel, by decide +kernel, rfl⟩
theorem w_928 : Cond.methodLink "BeaconIndex$Vocabulary" 70 ⟨"BeaconIndex$Vocabulary", "changes", "(JJ)I"⟩ ∈ lw_tbl := List.mem_append_right _ (List.mem_of_getElem? (i := 928) (by decide +kernel))
theorem w_929 : Cond.instanceMethod ⟨"BeaconIndex$Vocabulary", "changes", "(JJ)I"⟩ ∈ lw_tbl := List.mem_append_right _ (List.mem_of_getElem? (i := 929) (by decide +kernel))
theorem w_930 : Cond.selects "BeaconIndex$Vocabulary" ⟨"BeaconIndex$Vocabulary", "changes", "(JJ)I"⟩ ⟨"BeaconIndex$Vocabulary", "changes", "(JJ)I"⟩ ∈ lw_tbl := List.mem_append_right _ (List.mem_of_getElem? (i := 930) (by decide +kernel))
theorem v_Vocabulary_nearestTo_0 {G : XG} {d : Nat} {h : XH} {Q : XV → XH → Prop} {X : Nat → XH → Prop} {x1 : Int} (F : xFix h) (hyp : vok h ∧ (xwp G m_Vocabulary_changes (d + 5) 0 [xR 12, xL x1, xZ, xL (vwa h 0), xZ, xZ, xZ, xZ, xZ] [] h (fun v9 h9 => xwp G m_Vocabulary_nearestTo (d + 6) 12 [xR 12, xL x1, xZ, xI 0, xZ, xZ, xZ, xZ] (xpush v9 []) h9 Q X) X)) : xwp G m_Vocabulary_nearestTo (d + 6) 0 [xR 12, xL x1, xZ, xZ, xZ, xZ, xZ, xZ] [] h Q X := by
  have hnx9 : (93 : Int) ≤ xnx h := F.2.2
  refine xr_okL (fun hl9 => ?_)
  have r_x1 : -9223372036854775808 ≤ x1 ∧ x1 ≤ 9223372036854775807 := hl9 (xL x1) (.tail _ (.head _)) (Nat.le_of_ble_eq_true rfl)
  refine xr_iconst (pc := 0) (hI := d_Vocabulary_nearestTo_0) (hr := by decide) ?_
  refine xr_istore_n (pc := 1) (i := 3) (L9 := [xR 12, xL x1, xZ, xI 0, xZ, xZ, xZ, xZ]) (hI := d_Vocabulary_nearestTo_1) (hi := rfl) (hn := Nat.le_of_ble_eq_true rfl) (hL9 := rfl) ?_
  refine xr_aload_n (pc := 2) (i := 0) (hI := d_Vocabulary_nearestTo_2) (hi := rfl) (hl := rfl) ?_
  refine xr_lload_n (pc := 3) (i := 1) (hI := d_Vocabulary_nearestTo_3) (hi := rfl) (hl := rfl) ?_
  refine xr_aload_n (pc := 4) (i := 0) (hI := d_Vocabulary_nearestTo_4) (hi := rfl) (hl := rfl) ?_
  refine xr_iconst (pc := 5) (hI := d_Vocabulary_nearestTo_5) (hr := by decide) ?_
  obtain ⟨c1_, hyp⟩ := hyp
  refine xq_callV (pc := 6) (index := 47) (K := m_Vocabulary_wordAt) (As := [xI 0]) (S := [xL x1, xR 12]) (L0 := [xR 12, xI 0]) (hI := d_Vocabulary_nearestTo_6) (hK := k_Vocabulary_wordAt) (hlk := w_897) (hnoM := rfl) (hS8 := Nat.le_of_ble_eq_true rfl) (ci := 10) (N := 7) (C := "BeaconIndex$Vocabulary") (T := xF10) (hc := rfl) (hci := Nat.le_of_ble_eq_true rfl) (htb := (ft_12 F)) (hinst := w_898) (hsel := w_899) (hlen := Nat.le_of_ble_eq_true rfl) (hst := rfl) (hL0 := rfl)  (p_Voc_wordAt F c1_ ?_)
  show xwp G m_Vocabulary_nearestTo (d + 6) 9 [xR 12, xL x1, xZ, xI 0, xZ, xZ, xZ, xZ] [xL (vwa h 0), xL x1, xR 12] _ _ _
  exact xq_callV (pc := 9) (index := 70) (K := m_Vocabulary_changes) (As := [xL x1, xL (vwa h 0)]) (S := []) (L0 := [xR 12, xL x1, xZ, xL (vwa h 0), xZ, xZ, xZ, xZ, xZ]) (hI := d_Vocabulary_nearestTo_9) (hK := k_Vocabulary_changes) (hlk := w_928) (hnoM := rfl) (hS8 := Nat.le_of_ble_eq_true rfl) (ci := 10) (N := 7) (C := "BeaconIndex$Vocabulary") (T := xF10) (hc := rfl) (hci := Nat.le_of_ble_eq_true rfl) (htb := (ft_12 F)) (hinst := w_929) (hsel := w_930) (hlen := Nat.le_of_ble_eq_true rfl) (hst := rfl) (hL0 := rfl)  hyp
theorem d_Vocabulary_nearestTo_12 : decode prog_11_method_8_code 12 = .ok (.istore 4, 2) := by decide +kernel
theorem d_Vocabulary_nearestTo_14 : decode prog_11_method_8_code 14 = .ok (.iconst 1, 1) := by decide +kernel
theorem d_Vocabulary_nearestTo_15 : decode prog_11_method_8_code 15 = .ok (.istore 5, 2) := by decide +kernel
theorem v_Vocabulary_nearestTo_12 {G : XG} {d : Nat} {h : XH} {Q : XV → XH → Prop} {X : Nat → XH → Prop} {x1 x3 s0 : Int} (F : xFix h) (hyp : (xwp G m_Vocabulary_nearestTo (d + 6) 17 [xR 12, xL x1, xZ, xI x3, xI s0, xI 1, xZ, xZ] [] h Q X)) : xwp G m_Vocabulary_nearestTo (d + 6) 12 [xR 12, xL x1, xZ, xI x3, xZ, xZ, xZ, xZ] [xI s0] h Q X := by
  have hnx9 : (93 : Int) ≤ xnx h := F.2.2
  refine xr_okL (fun hl9 => ?_)
  have r_x1 : -9223372036854775808 ≤ x1 ∧ x1 ≤ 9223372036854775807 := hl9 (xL x1) (.tail _ (.head _)) (Nat.le_of_ble_eq_true rfl)
  have r_x3 : -2147483648 ≤ x3 ∧ x3 ≤ 2147483647 := hl9 (xI x3) (.tail _ (.tail _ (.tail _ (.head _)))) (Nat.le_of_ble_eq_true rfl)
  refine xr_okS (fun hs9 => ?_)
  have r_s0 : -2147483648 ≤ s0 ∧ s0 ≤ 2147483647 := hs9 (xI s0) (.head _)
  refine xr_istore (pc := 12) (i := 4) (L9 := [xR 12, xL x1, xZ, xI x3, xI s0, xZ, xZ, xZ]) (hI := d_Vocabulary_nearestTo_12) (hn := Nat.le_of_ble_eq_true rfl) (hL9 := rfl) ?_
  refine xr_iconst (pc := 14) (hI := d_Vocabulary_nearestTo_14) (hr := by decide) ?_
  refine xr_istore (pc := 15) (i := 5) (L9 := [xR 12, xL x1, xZ, xI x3, xI s0, xI 1, xZ, xZ]) (hI := d_Vocabulary_nearestTo_15) (hn := Nat.le_of_ble_eq_true rfl) (hL9 := rfl) ?_
  exact hyp
theorem d_Vocabulary_nearestTo_17 : decode prog_11_method_8_code 17 = .ok (.iload 5, 2) := by decide +kernel
theorem d_Vocabulary_nearestTo_19 : decode prog_11_method_8_code 19 = .ok (.aload_n 0, 1) := by decide +kernel
theorem d_Vocabulary_nearestTo_20 : decode prog_11_method_8_code 20 = .ok (.getfield 22, 3) := by decide +kernel
theorem d_Vocabulary_nearestTo_23 : decode prog_11_method_8_code 23 = .ok (.if_icmp .ge 69, 3) := by decide +kernel
theorem d_Vocabulary_nearestTo_92 : decode prog_11_method_8_code 92 = .ok (.iload_n 3, 1) := by decide +kernel
theorem d_Vocabulary_nearestTo_93 : decode prog_11_method_8_code 93 = .ok (.ireturn, 1) := by decide +kernel
theorem d_Vocabulary_nearestTo_26 : decode prog_11_method_8_code 26 = .ok (.aload_n 0, 1) := by decide +kernel
theorem d_Vocabulary_nearestTo_27 : decode prog_11_method_8_code 27 = .ok (.lload_n 1, 1) := by decide +kernel
theorem d_Vocabulary_nearestTo_28 : decode prog_11_method_8_code 28 = .ok (.aload_n 0, 1) := by decide +kernel
theorem d_Vocabulary_nearestTo_29 : decode prog_11_method_8_code 29 = .ok (.iload 5, 2) := by decide +kernel
theorem d_Vocabulary_nearestTo_31 : decode prog_11_method_8_code 31 = .ok (.invokevirtual 47, 3) := by decide +kernel
theorem d_Vocabulary_nearestTo_34 : decode prog_11_method_8_code 34 = .ok (.invokevirtual 70, 3) := by decide +kernel
theorem v_Vocabulary_nearestTo_17 {G : XG} {d : Nat} {h : XH} {Q : XV → XH → Prop} {X : Nat → XH → Prop} {x1 x3 x4 x5 : Int} (F : xFix h) (hyp : (((xpl h 12 3) ≤ x5 → (Q (xI x3) h)) ∧ (¬ (xpl h 12 3) ≤ x5 → vok h ∧ (xwp G m_Vocabulary_changes (d + 5) 0 [xR 12, xL x1, xZ, xL (vwa h x5), xZ, xZ, xZ, xZ, xZ] [] h (fun v9 h9 => xwp G m_Vocabulary_nearestTo (d + 6) 37 [xR 12, xL x1, xZ, xI x3, xI x4, xI x5, xZ, xZ] (xpush v9 []) h9 Q X) X)))) : xwp G m_Vocabulary_nearestTo (d + 6) 17 [xR 12, xL x1, xZ, xI x3, xI x4, xI x5, xZ, xZ] [] h Q X := by
  have hnx9 : (93 : Int) ≤ xnx h := F.2.2
  refine xr_okL (fun hl9 => ?_)
  have r_x1 : -9223372036854775808 ≤ x1 ∧ x1 ≤ 9223372036854775807 := hl9 (xL x1) (.tail _ (.head _)) (Nat.le_of_ble_eq_true rfl)
  have r_x3 : -2147483648 ≤ x3 ∧ x3 ≤ 2147483647 := hl9 (xI x3) (.tail _ (.tail _ (.tail _ (.head _)))) (Nat.le_of_ble_eq_true rfl)
  have r_x4 : -2147483648 ≤ x4 ∧ x4 ≤ 2147483647 := hl9 (xI x4) (.tail _ (.tail _ (.tail _ (.tail _ (.head _))))) (Nat.le_of_ble_eq_true rfl)
  have r_x5 : -2147483648 ≤ x5 ∧ x5 ≤ 2147483647 := hl9 (xI x5) (.tail _ (.tail _ (.tail _ (.tail _ (.tail _ (.head _)))))) (Nat.le_of_ble_eq_true rfl)
  refine xr_iload (pc := 17) (i := 5) (hI := d_Vocabulary_nearestTo_17) (hl := rfl) ?_
  refine xr_aload_n (pc := 19) (i := 0) (hI := d_Vocabulary_nearestTo_19) (hi := rfl) (hl := rfl) ?_
  refine xg_getf (pc := 20) (ci := 10) (k := 3) (N := 7) (v9 := 0) (v := (xpl h 12 3)) (T := xF10) (hI := d_Vocabulary_nearestTo_20) (hw := w_182) rfl xi10 (Or.inl rfl) (Nat.le_of_ble_eq_true rfl) (Nat.le_of_ble_eq_true rfl) rfl (ft_12 F) rfl (fun f1_ => ?_)
  replace f1_ : -2147483648 ≤ (xpl h 12 3) ∧ (xpl h 12 3) ≤ 2147483647 := f1_
  refine xr_icmp_ge (pc := 23) (tgt := 92) (hI := d_Vocabulary_nearestTo_23) (ht := by decide) (fun q9 => ?_) (fun q9 => ?_)
  · replace hyp := hyp.1 q9
    have q2_ := q9
    clear q9
    refine xr_iload_n (pc := 92) (i := 3) (hI := d_Vocabulary_nearestTo_92) (hi := rfl) (hl := rfl) ?_
    refine xr_ireturn (S := []) (pc := 93) (hI := d_Vocabulary_nearestTo_93) (hr := rfl) ?_
    exact hyp
  · replace hyp := hyp.2 q9
    have q2_ := q9
    clear q9
    refine xr_aload_n (pc := 26) (i := 0) (hI := d_Vocabulary_nearestTo_26) (hi := rfl) (hl := rfl) ?_
    refine xr_lload_n (pc := 27) (i := 1) (hI := d_Vocabulary_nearestTo_27) (hi := rfl) (hl := rfl) ?_
    refine xr_aload_n (pc := 28) (i := 0) (hI := d_Vocabulary_nearestTo_28) (hi := rfl) (hl := rfl) ?_
    refine xr_iload (pc := 29) (i := 5) (hI := d_Vocabulary_nearestTo_29) (hl := rfl) ?_
    obtain ⟨c3_, hyp⟩ := hyp
    refine xq_callV (pc := 31) (index := 47) (K := m_Vocabulary_wordAt) (As := [xI x5]) (S := [xL x1, xR 12]) (L0 := [xR 12, xI x5]) (hI := d_Vocabulary_nearestTo_31) (hK := k_Vocabulary_wordAt) (hlk := w_897) (hnoM := rfl) (hS8 := Nat.le_of_ble_eq_true rfl) (ci := 10) (N := 7) (C := "BeaconIndex$Vocabulary") (T := xF10) (hc := rfl) (hci := Nat.le_of_ble_eq_true rfl) (htb := (ft_12 F)) (hinst := w_898) (hsel := w_899) (hlen := Nat.le_of_ble_eq_true rfl) (hst := rfl) (hL0 := rfl)  (p_Voc_wordAt F c3_ ?_)
    show xwp G m_Vocabulary_nearestTo (d + 6) 34 [xR 12, xL x1, xZ, xI x3, xI x4, xI x5, xZ, xZ] [xL (vwa h x5), xL x1, xR 12] _ _ _
    exact xq_callV (pc := 34) (index := 70) (K := m_Vocabulary_changes) (As := [xL x1, xL (vwa h x5)]) (S := []) (L0 := [xR 12, xL x1, xZ, xL (vwa h x5), xZ, xZ, xZ, xZ, xZ]) (hI := d_Vocabulary_nearestTo_34) (hK := k_Vocabulary_changes) (hlk := w_928) (hnoM := rfl) (hS8 := Nat.le_of_ble_eq_true rfl) (ci := 10) (N := 7) (C := "BeaconIndex$Vocabulary") (T := xF10) (hc := rfl) (hci := Nat.le_of_ble_eq_true rfl) (htb := (ft_12 F)) (hinst := w_929) (hsel := w_930) (hlen := Nat.le_of_ble_eq_true rfl) (hst := rfl) (hL0 := rfl)  hyp
theorem d_Vocabulary_nearestTo_37 : decode prog_11_method_8_code 37 = .ok (.istore 6, 2) := by decide +kernel
theorem d_Vocabulary_nearestTo_39 : decode prog_11_method_8_code 39 = .ok (.aload_n 0, 1) := by decide +kernel
theorem d_Vocabulary_nearestTo_40 : decode prog_11_method_8_code 40 = .ok (.iload 5, 2) := by decide +kernel
theorem d_Vocabulary_nearestTo_42 : decode prog_11_method_8_code 42 = .ok (.invokevirtual 74, 3) := by decide +kernel
theorem k_Vocabulary_textCountAt : xCal m_Vocabulary_textCountAt 1 := ⟨List.mem_append_right _ (List.mem_of_getElem? (i := 945) (by decide +kernel)), w_8, Nat.le_of_ble_eq_true rfl, ⟨by decide +kernel, by decide +kernel⟩, by decide +kernel, by decide +kernel, rfl⟩
theorem w_942 : Cond.methodLink "BeaconIndex$Vocabulary" 74 ⟨"BeaconIndex$Vocabulary", "textCountAt", "(I)I"⟩ ∈ lw_tbl := List.mem_append_right _ (List.mem_of_getElem? (i := 942) (by decide +kernel))
theorem w_943 : Cond.instanceMethod ⟨"BeaconIndex$Vocabulary", "textCountAt", "(I)I"⟩ ∈ lw_tbl := List.mem_append_right _ (List.mem_of_getElem? (i := 943) (by decide +kernel))
theorem w_944 : Cond.selects "BeaconIndex$Vocabulary" ⟨"BeaconIndex$Vocabulary", "textCountAt", "(I)I"⟩ ⟨"BeaconIndex$Vocabulary", "textCountAt", "(I)I"⟩ ∈ lw_tbl := List.mem_append_right _ (List.mem_of_getElem? (i := 944) (by decide +kernel))
theorem d_Vocabulary_nearestTo_45 : decode prog_11_method_8_code 45 = .ok (.aload_n 0, 1) := by decide +kernel
theorem d_Vocabulary_nearestTo_46 : decode prog_11_method_8_code 46 = .ok (.iload_n 3, 1) := by decide +kernel
theorem d_Vocabulary_nearestTo_47 : decode prog_11_method_8_code 47 = .ok (.invokevirtual 74, 3) := by decide +kernel
theorem d_Vocabulary_nearestTo_50 : decode prog_11_method_8_code 50 = .ok (.if_icmp .le 7, 3) := by decide +kernel
theorem d_Vocabulary_nearestTo_57 : decode prog_11_method_8_code 57 = .ok (.iconst 0, 1) := by decide +kernel
theorem d_Vocabulary_nearestTo_53 : decode prog_11_method_8_code 53 = .ok (.iconst 1, 1) := by decide +kernel
theorem d_Vocabulary_nearestTo_54 : decode prog_11_method_8_code 54 = .ok (.goto 4, 3) := by decide +kernel
theorem v_Vocabulary_nearestTo_37 {G : XG} {d : Nat} {h : XH} {Q : XV → XH → Prop} {X : Nat → XH → Prop} {x1 x3 x4 x5 s0 : Int} (F : xFix h) (hyp : vok h ∧ (((vca h x5) ≤ (vca h x3) → (xwp G m_Vocabulary_nearestTo (d + 6) 58 [xR 12, xL x1, xZ, xI x3, xI x4, xI x5, xI s0, xZ] [xI 0] h Q X)) ∧ (¬ (vca h x5) ≤ (vca h x3) → (xwp G m_Vocabulary_nearestTo (d + 6) 58 [xR 12, xL x1, xZ, xI x3, xI x4, xI x5, xI s0, xZ] [xI 1] h Q X)))) : xwp G m_Vocabulary_nearestTo (d + 6) 37 [xR 12, xL x1, xZ, xI x3, xI x4, xI x5, xZ, xZ] [xI s0] h Q X := by
  have hnx9 : (93 : Int) ≤ xnx h := F.2.2
  refine xr_okL (fun hl9 => ?_)
  have r_x1 : -9223372036854775808 ≤ x1 ∧ x1 ≤ 9223372036854775807 := hl9 (xL x1) (.tail _ (.head _)) (Nat.le_of_ble_eq_true rfl)
  have r_x3 : -2147483648 ≤ x3 ∧ x3 ≤ 2147483647 := hl9 (xI x3) (.tail _ (.tail _ (.tail _ (.head _)))) (Nat.le_of_ble_eq_true rfl)
  have r_x4 : -2147483648 ≤ x4 ∧ x4 ≤ 2147483647 := hl9 (xI x4) (.tail _ (.tail _ (.tail _ (.tail _ (.head _))))) (Nat.le_of_ble_eq_true rfl)
  have r_x5 : -2147483648 ≤ x5 ∧ x5 ≤ 2147483647 := hl9 (xI x5) (.tail _ (.tail _ (.tail _ (.tail _ (.tail _ (.head _)))))) (Nat.le_of_ble_eq_true rfl)
  refine xr_okS (fun hs9 => ?_)
  have r_s0 : -2147483648 ≤ s0 ∧ s0 ≤ 2147483647 := hs9 (xI s0) (.head _)
  refine xr_istore (pc := 37) (i := 6) (L9 := [xR 12, xL x1, xZ, xI x3, xI x4, xI x5, xI s0, xZ]) (hI := d_Vocabulary_nearestTo_37) (hn := Nat.le_of_ble_eq_true rfl) (hL9 := rfl) ?_
  refine xr_aload_n (pc := 39) (i := 0) (hI := d_Vocabulary_nearestTo_39) (hi := rfl) (hl := rfl) ?_
  refine xr_iload (pc := 40) (i := 5) (hI := d_Vocabulary_nearestTo_40) (hl := rfl) ?_
  obtain ⟨c1_, hyp⟩ := hyp
  refine xq_callV (pc := 42) (index := 74) (K := m_Vocabulary_textCountAt) (As := [xI x5]) (S := []) (L0 := [xR 12, xI x5]) (hI := d_Vocabulary_nearestTo_42) (hK := k_Vocabulary_textCountAt) (hlk := w_942) (hnoM := rfl) (hS8 := Nat.le_of_ble_eq_true rfl) (ci := 10) (N := 7) (C := "BeaconIndex$Vocabulary") (T := xF10) (hc := rfl) (hci := Nat.le_of_ble_eq_true rfl) (htb := (ft_12 F)) (hinst := w_943) (hsel := w_944) (hlen := Nat.le_of_ble_eq_true rfl) (hst := rfl) (hL0 := rfl)  (p_Voc_textCountAt F c1_ ?_)
  show xwp G m_Vocabulary_nearestTo (d + 6) 45 [xR 12, xL x1, xZ, xI x3, xI x4, xI x5, xI s0, xZ] [xI (vca h x5)] _ _ _
  refine xr_aload_n (pc := 45) (i := 0) (hI := d_Vocabulary_nearestTo_45) (hi := rfl) (hl := rfl) ?_
  refine xr_iload_n (pc := 46) (i := 3) (hI := d_Vocabulary_nearestTo_46) (hi := rfl) (hl := rfl) ?_
  refine xq_callV (pc := 47) (index := 74) (K := m_Vocabulary_textCountAt) (As := [xI x3]) (S := [xI (vca h x5)]) (L0 := [xR 12, xI x3]) (hI := d_Vocabulary_nearestTo_47) (hK := k_Vocabulary_textCountAt) (hlk := w_942) (hnoM := rfl) (hS8 := Nat.le_of_ble_eq_true rfl) (ci := 10) (N := 7) (C := "BeaconIndex$Vocabulary") (T := xF10) (hc := rfl) (hci := Nat.le_of_ble_eq_true rfl) (htb := (ft_12 F)) (hinst := w_943) (hsel := w_944) (hlen := Nat.le_of_ble_eq_true rfl) (hst := rfl) (hL0 := rfl)  (p_Voc_textCountAt F c1_ ?_)
  show xwp G m_Vocabulary_nearestTo (d + 6) 50 [xR 12, xL x1, xZ, xI x3, xI x4, xI x5, xI s0, xZ] [xI (vca h x3), xI (vca h x5)] _ _ _
  refine xr_icmp_le (pc := 50) (tgt := 57) (hI := d_Vocabulary_nearestTo_50) (ht := by decide) (fun q9 => ?_) (fun q9 => ?_)
  · replace hyp := hyp.1 q9
    have q2_ := q9
    clear q9
    refine xr_iconst (pc := 57) (hI := d_Vocabulary_nearestTo_57) (hr := by decide) ?_
    exact hyp
  · replace hyp := hyp.2 q9
    have q2_ := q9
    clear q9
    refine xr_iconst (pc := 53) (hI := d_Vocabulary_nearestTo_53) (hr := by decide) ?_
    refine xr_goto (pc := 54) (tgt := 58) (hI := d_Vocabulary_nearestTo_54) (ht := by decide) ?_
    exact hyp
theorem d_Vocabulary_nearestTo_58 : decode prog_11_method_8_code 58 = .ok (.istore 7, 2) := by decide +kernel
theorem d_Vocabulary_nearestTo_60 : decode prog_11_method_8_code 60 = .ok (.iload 6, 2) := by decide +kernel
theorem d_Vocabulary_nearestTo_62 : decode prog_11_method_8_code 62 = .ok (.iload 4, 2) := by decide +kernel
theorem d_Vocabulary_nearestTo_64 : decode prog_11_method_8_code 64 = .ok (.if_icmp .lt 15, 3) := by decide +kernel
theorem d_Vocabulary_nearestTo_79 : decode prog_11_method_8_code 79 = .ok (.iload 5, 2) := by decide +kernel
theorem d_Vocabulary_nearestTo_81 : decode prog_11_method_8_code 81 = .ok (.istore_n 3, 1) := by decide +kernel
theorem d_Vocabulary_nearestTo_82 : decode prog_11_method_8_code 82 = .ok (.iload 6, 2) := by decide +kernel
theorem d_Vocabulary_nearestTo_84 : decode prog_11_method_8_code 84 = .ok (.istore 4, 2) := by decide +kernel
theorem d_Vocabulary_nearestTo_86 : decode prog_11_method_8_code 86 = .ok (.iinc 5 1, 3) := by decide +kernel
theorem d_Vocabulary_nearestTo_89 : decode prog_11_method_8_code 89 = .ok (.goto (-72), 3) := by decide +kernel
theorem d_Vocabulary_nearestTo_67 : decode prog_11_method_8_code 67 = .ok (.iload 6, 2) := by decide +kernel
theorem d_Vocabulary_nearestTo_69 : decode prog_11_method_8_code 69 = .ok (.iload 4, 2) := by decide +kernel
theorem d_Vocabulary_nearestTo_71 : decode prog_11_method_8_code 71 = .ok (.if_icmp .ne 15, 3) := by decide +kernel
theorem d_Vocabulary_nearestTo_74 : decode prog_11_method_8_code 74 = .ok (.iload 7, 2) := by decide +kernel
theorem d_Vocabulary_nearestTo_76 : decode prog_11_method_8_code 76 = .ok (.ifCond .eq 10, 3) := by decide +kernel
theorem v_Vocabulary_nearestTo_58 {G : XG} {d : Nat} {h : XH} {Q : XV → XH → Prop} {X : Nat → XH → Prop} {x1 x3 x4 x5 x6 s0 : Int} (F : xFix h) (hyp : ((x6 < x4 → xiR (x5 + 1) ∧ (xwp G m_Vocabulary_nearestTo (d + 6) 17 [xR 12, xL x1, xZ, xI x5, xI x6, xI (x5 + 1), xZ, xZ] [] h Q X)) ∧ (¬ x6 < x4 → ((x6 = x4 → ((s0 = 0 → xiR (x5 + 1) ∧ (xwp G m_Vocabulary_nearestTo (d + 6) 17 [xR 12, xL x1, xZ, xI x3, xI x4, xI (x5 + 1), xZ, xZ] [] h Q X)) ∧ (¬ s0 = 0 → xiR (x5 + 1) ∧ (xwp G m_Vocabulary_nearestTo (d + 6) 17 [xR 12, xL x1, xZ, xI x5, xI x6, xI (x5 + 1), xZ, xZ] [] h Q X)))) ∧ (¬ x6 = x4 → xiR (x5 + 1) ∧ (xwp G m_Vocabulary_nearestTo (d + 6) 17 [xR 12, xL x1, xZ, xI x3, xI x4, xI (x5 + 1), xZ, xZ] [] h Q X)))))) : xwp G m_Vocabulary_nearestTo (d + 6) 58 [xR 12, xL x1, xZ, xI x3, xI x4, xI x5, xI x6, xZ] [xI s0] h Q X := by
  have hnx9 : (93 : Int) ≤ xnx h := F.2.2
  refine xr_okL (fun hl9 => ?_)
  have r_x1 : -9223372036854775808 ≤ x1 ∧ x1 ≤ 9223372036854775807 := hl9 (xL x1) (.tail _ (.head _)) (Nat.le_of_ble_eq_true rfl)
  have r_x3 : -2147483648 ≤ x3 ∧ x3 ≤ 2147483647 := hl9 (xI x3) (.tail _ (.tail _ (.tail _ (.head _)))) (Nat.le_of_ble_eq_true rfl)
  have r_x4 : -2147483648 ≤ x4 ∧ x4 ≤ 2147483647 := hl9 (xI x4) (.tail _ (.tail _ (.tail _ (.tail _ (.head _))))) (Nat.le_of_ble_eq_true rfl)
  have r_x5 : -2147483648 ≤ x5 ∧ x5 ≤ 2147483647 := hl9 (xI x5) (.tail _ (.tail _ (.tail _ (.tail _ (.tail _ (.head _)))))) (Nat.le_of_ble_eq_true rfl)
  have r_x6 : -2147483648 ≤ x6 ∧ x6 ≤ 2147483647 := hl9 (xI x6) (.tail _ (.tail _ (.tail _ (.tail _ (.tail _ (.tail _ (.head _))))))) (Nat.le_of_ble_eq_true rfl)
  refine xr_okS (fun hs9 => ?_)
  have r_s0 : -2147483648 ≤ s0 ∧ s0 ≤ 2147483647 := hs9 (xI s0) (.head _)
  refine xr_istore (pc := 58) (i := 7) (L9 := [xR 12, xL x1, xZ, xI x3, xI x4, xI x5, xI x6, xI s0]) (hI := d_Vocabulary_nearestTo_58) (hn := Nat.le_of_ble_eq_true rfl) (hL9 := rfl) ?_
  refine xr_iload (pc := 60) (i := 6) (hI := d_Vocabulary_nearestTo_60) (hl := rfl) ?_
  refine xr_iload (pc := 62) (i := 4) (hI := d_Vocabulary_nearestTo_62) (hl := rfl) ?_
  refine xr_icmp_lt (pc := 64) (tgt := 79) (hI := d_Vocabulary_nearestTo_64) (ht := by decide) (fun q9 => ?_) (fun q9 => ?_)
  · replace hyp := hyp.1 q9
    have q1_ := q9
    clear q9
    refine xr_iload (pc := 79) (i := 5) (hI := d_Vocabulary_nearestTo_79) (hl := rfl) ?_
    refine xr_istore_n (pc := 81) (i := 3) (L9 := [xR 12, xL x1, xZ, xI x5, xI x4, xI x5, xI x6, xI s0]) (hI := d_Vocabulary_nearestTo_81) (hi := rfl) (hn := Nat.le_of_ble_eq_true rfl) (hL9 := rfl) ?_
    refine xr_iload (pc := 82) (i := 6) (hI := d_Vocabulary_nearestTo_82) (hl := rfl) ?_
    refine xr_istore (pc := 84) (i := 4) (L9 := [xR 12, xL x1, xZ, xI x5, xI x6, xI x5, xI x6, xI s0]) (hI := d_Vocabulary_nearestTo_84) (hn := Nat.le_of_ble_eq_true rfl) (hL9 := rfl) ?_
    obtain ⟨c9, hyp⟩ := hyp
    refine xr_iinc (pc := 86) (i := 5) (L9 := [xR 12, xL x1, xZ, xI x5, xI x6, xI (x5 + 1), xI x6, xI s0]) (hI := d_Vocabulary_nearestTo_86) (hl := rfl) (hn := Nat.le_of_ble_eq_true rfl) (hr := c9) (hL9 := rfl) ?_
    refine xr_goto (pc := 89) (tgt := 17) (hI := d_Vocabulary_nearestTo_89) (ht := by decide) ?_
    exact xr_drop (L9 := [xR 12, xL x1, xZ, xI x5, xI x6, xI (x5 + 1), xZ, xZ]) (xdrs (xdrs (xdrs (xdrs (xdrs (xdrs (xdrz (xdrz xdr0)))))))) hyp
  · replace hyp := hyp.2 q9
    have q1_ := q9
    clear q9
    refine xr_iload (pc := 67) (i := 6) (hI := d_Vocabulary_nearestTo_67) (hl := rfl) ?_
    refine xr_iload (pc := 69) (i := 4) (hI := d_Vocabulary_nearestTo_69) (hl := rfl) ?_
    refine xr_icmp_ne (pc := 71) (tgt := 86) (hI := d_Vocabulary_nearestTo_71) (ht := by decide) (fun q9 => ?_) (fun q9 => ?_)
    · replace hyp := hyp.2 q9
      have q2_ := q9
      clear q9
      obtain ⟨c9, hyp⟩ := hyp
      refine xr_iinc (pc := 86) (i := 5) (L9 := [xR 12, xL x1, xZ, xI x3, xI x4, xI (x5 + 1), xI x6, xI s0]) (hI := d_Vocabulary_nearestTo_86) (hl := rfl) (hn := Nat.le_of_ble_eq_true rfl) (hr := c9) (hL9 := rfl) ?_
      refine xr_goto (pc := 89) (tgt := 17) (hI := d_Vocabulary_nearestTo_89) (ht := by decide) ?_
      exact xr_drop (L9 := [xR 12, xL x1, xZ, xI x3, xI x4, xI (x5 + 1), xZ, xZ]) (xdrs (xdrs (xdrs (xdrs (xdrs (xdrs (xdrz (xdrz xdr0)))))))) hyp
    · replace hyp := hyp.1 q9
      have q2_ := q9
      clear q9
      refine xr_iload (pc := 74) (i := 7) (hI := d_Vocabulary_nearestTo_74) (hl := rfl) ?_
      refine xr_if_eq (pc := 76) (tgt := 86) (hI := d_Vocabulary_nearestTo_76) (ht := by decide) (fun q9 => ?_) (fun q9 => ?_)
      · replace hyp := hyp.1 q9
        have q3_ := q9
        clear q9
        obtain ⟨c9, hyp⟩ := hyp
        refine xr_iinc (pc := 86) (i := 5) (L9 := [xR 12, xL x1, xZ, xI x3, xI x4, xI (x5 + 1), xI x6, xI s0]) (hI := d_Vocabulary_nearestTo_86) (hl := rfl) (hn := Nat.le_of_ble_eq_true rfl) (hr := c9) (hL9 := rfl) ?_
        refine xr_goto (pc := 89) (tgt := 17) (hI := d_Vocabulary_nearestTo_89) (ht := by decide) ?_
        exact xr_drop (L9 := [xR 12, xL x1, xZ, xI x3, xI x4, xI (x5 + 1), xZ, xZ]) (xdrs (xdrs (xdrs (xdrs (xdrs (xdrs (xdrz (xdrz xdr0)))))))) hyp
      · replace hyp := hyp.2 q9
        have q3_ := q9
        clear q9
        refine xr_iload (pc := 79) (i := 5) (hI := d_Vocabulary_nearestTo_79) (hl := rfl) ?_
        refine xr_istore_n (pc := 81) (i := 3) (L9 := [xR 12, xL x1, xZ, xI x5, xI x4, xI x5, xI x6, xI s0]) (hI := d_Vocabulary_nearestTo_81) (hi := rfl) (hn := Nat.le_of_ble_eq_true rfl) (hL9 := rfl) ?_
        refine xr_iload (pc := 82) (i := 6) (hI := d_Vocabulary_nearestTo_82) (hl := rfl) ?_
        refine xr_istore (pc := 84) (i := 4) (L9 := [xR 12, xL x1, xZ, xI x5, xI x6, xI x5, xI x6, xI s0]) (hI := d_Vocabulary_nearestTo_84) (hn := Nat.le_of_ble_eq_true rfl) (hL9 := rfl) ?_
        obtain ⟨c9, hyp⟩ := hyp
        refine xr_iinc (pc := 86) (i := 5) (L9 := [xR 12, xL x1, xZ, xI x5, xI x6, xI (x5 + 1), xI x6, xI s0]) (hI := d_Vocabulary_nearestTo_86) (hl := rfl) (hn := Nat.le_of_ble_eq_true rfl) (hr := c9) (hL9 := rfl) ?_
        refine xr_goto (pc := 89) (tgt := 17) (hI := d_Vocabulary_nearestTo_89) (ht := by decide) ?_
        exact xr_drop (L9 := [xR 12, xL x1, xZ, xI x5, xI x6, xI (x5 + 1), xZ, xZ]) (xdrs (xdrs (xdrs (xdrs (xdrs (xdrs (xdrz (xdrz xdr0)))))))) hyp
/-- how many changes between two words -/
def dst (w o : Int) : Int := osa (fun k => sat w k) (fun k => sat o k) (wsz w).toNat (wsz o).toNat
theorem dst_rng (w o : Int) : 0 ≤ dst w o ∧ dst w o ≤ 24 := by
  have h1 := wsz_rng w
  have h2 := wsz_rng o
  have := osa_rng (fun k => sat w k) (fun k => sat o k) _ (wsz w).toNat (wsz o).toNat (Nat.le_refl _)
  unfold dst
  omega
def CHW : Int → Prop := fun c => 17 ≤ c ∧ c ≤ 31
def MK0 (h : XH) : Prop := ∀ c : Int, 16 ≤ c → c < 93 → xpl h c (-1) = 0
theorem MK0.frame {C : Int → Prop} {h h' : XH} (M : MK0 h) (F : xFix h) (e : xsm C h h') : MK0 h' := fun c h1 h2 => by
  have := F.nx
  rw [e.mkd (by omega)]; exact M c h1 h2
theorem VocR.chg {h h' : XH} {V : List VE} (F : xFix h) (M : MK0 h) (R : VocR h V) (e : xsm CHW h h') : VocR h' V := by
  obtain ⟨p0, hs, hV⟩ := R
  obtain ⟨a, b, c1, c2, c3, d, e1, f⟩ := id p0
  have hnx := F.nx
  have n12 : ¬ CHW 12 := fun w => by unfold CHW at w; omega
  have nk : ∀ c, 13 ≤ c → c < xnx h → xpl h c (-1) ≠ 0 → ¬ CHW c := fun c w1 w2 w3 w4 => w3 (M c (by unfold CHW at w4; omega) (by unfold CHW at w4; omega))
  have n0 := nk _ c1.1 c1.2 (by rw [b.1]; decide)
  have n1 := nk _ c2.1 c2.2 (by rw [b.2.1]; decide)
  have n2 := nk _ c3.1 c3.2 (by rw [b.2.2]; decide)
  have g12 : ∀ k, xpl h' 12 k = xpl h 12 k := fun k => e.pl (by omega) n12 k
  refine ⟨p0.keep e.nx (fun k _ => g12 k) (fun k hk => ?_) (by rw [g12]; exact e1), by rw [g12]; exact hs, fun i en he => ?_⟩
  · rcases hk with rfl | rfl | rfl
    · exact ⟨e.tg c1.2, e.ln c1.2, e.mkd c1.2⟩
    · exact ⟨e.tg c2.2, e.ln c2.2, e.mkd c2.2⟩
    · exact ⟨e.tg c3.2, e.ln c3.2, e.mkd c3.2⟩
  · rw [g12, g12, g12, e.pl c1.2 n0, e.pl c2.2 n1, e.pl c3.2 n2]
    exact hV i en he
theorem s_Voc_changes {G : XG} {d : Nat} {h : XH} {Q : XV → XH → Prop} {X : Nat → XH → Prop} {w o : Int} (F : xFix h)
    (hq : ∀ h', xFix h' → xsm CHW h h' → xnx h' = xnx h → xsl h' = xsl h → Q (xI (dst w o)) h') : xwp G m_Vocabulary_changes (d + 5) 0 [xR 12, xL w, xZ, xL o, xZ, xZ, xZ, xZ, xZ] [] h Q X := by
  have hr1 := wsz_rng w
  have hr2 := wsz_rng o
  have hnx := F.nx
  have hD := dst_rng w o
  obtain ⟨r, hr⟩ : ∃ r : Nat, (r : Int) = wsz w := ⟨(wsz w).toNat, by omega⟩
  obtain ⟨c, hc⟩ : ∃ c : Nat, (c : Int) = wsz o := ⟨(wsz o).toNat, by omega⟩
  obtain ⟨f, hf⟩ : ∃ f : Nat → Int, f = fun k : Nat => sat w k := ⟨_, rfl⟩
  obtain ⟨g, hg⟩ : ∃ g : Nat → Int, g = fun k : Nat => sat o k := ⟨_, rfl⟩
  have hdst : dst w o = osa f g r c := by
    unfold dst
    rw [hf, hg, ← hr, ← hc, Int.toNat_natCast, Int.toNat_natCast]
  have inner : ∀ (m i j : Nat) (h2 : XH), j + m = c + 1 → i ≤ r → xFix h2 → xsm CHW h h2 → (∀ k : Nat, k < r → xpl h2 30 k = f k) → (∀ k : Nat, k < c → xpl h2 31 k = g k) →
      (∀ a b : Nat, a ≤ i → b ≤ c → a < i ∨ b < j → xpl h2 (xpl h2 16 a) b = osa f g a b) → xnx h2 = xnx h → xsl h2 = xsl h →
      (∀ h3, xFix h3 → xsm CHW h h3 → (∀ k : Nat, k < r → xpl h3 30 k = f k) → (∀ k : Nat, k < c → xpl h3 31 k = g k) → (∀ a b : Nat, a < i + 1 → b ≤ c → xpl h3 (xpl h3 16 a) b = osa f g a b) → xnx h3 = xnx h → xsl h3 = xsl h → xwp G m_Vocabulary_changes (d + 5) 23 [xR 12, xZ, xZ, xZ, xZ, xI r, xI c, xI ((i : Int) + 1), xZ] [] h3 Q X) →
      xwp G m_Vocabulary_changes (d + 5) 33 [xR 12, xZ, xZ, xZ, xZ, xI r, xI c, xI i, xI j] [] h2 Q X := by
    intro m
    induction m with
    | zero =>
      intro i j h2 e hi F2 S2 x30 x31 hx n2 l2 hk
      refine v_Vocabulary_changes_33 F2 ?_
      refine ⟨fun q1 => ?_, fun q1 => ?_⟩
      · refine ⟨?_, ?_⟩
        · first | exact ⟨by omega, by omega⟩ | omega
        · exact hk h2 F2 S2 x30 x31 (fun a b ha hb => hx a b (by omega) hb (by omega)) n2 l2
      · refine ⟨?_, ?_⟩
        · first | exact ⟨by omega, by omega⟩ | omega
        · refine ⟨?_, ?_⟩
          · first | exact ⟨by omega, by omega⟩ | omega
          · omega
    | succ m ih =>
      intro i j h2 e hi F2 S2 x30 x31 hx n2 l2 hk
      obtain ⟨t2, ll2⟩ := x16_row F2 (k := (i : Int)) (by omega) (by omega)
      have y2 := x16_at F2 (k := (i : Int)) (by omega) (by omega)
      refine v_Vocabulary_changes_33 F2 ?_
      refine ⟨fun q1 => ?_, fun q1 => ?_⟩
      · refine ⟨?_, ?_⟩
        · first | exact ⟨by omega, by omega⟩ | omega
        · omega
      · refine ⟨?_, ?_⟩
        · first | exact ⟨by omega, by omega⟩ | omega
        · refine ⟨?_, ?_⟩
          · first | exact ⟨by omega, by omega⟩ | omega
          · refine p_Voc_costAt (f := f) (g := g) (i := i) (j := j) F2 (by omega) (by omega) (fun k hk2 => x30 k (by omega)) (fun k hk2 => x31 k (by omega)) (fun a b ha hb hab => hx a b ha (by omega) hab) ?_
            refine v_Vocabulary_changes_57 F2 ?_
            refine ⟨?_, ?_⟩
            · first | exact t2 | exact ⟨by omega, by omega⟩ | omega
            · refine ⟨?_, ?_⟩
              · first | exact t2 | exact ⟨by omega, by omega⟩ | omega
              · refine ⟨?_, ?_⟩
                · first | exact t2 | exact ⟨by omega, by omega⟩ | omega
                · refine ⟨?_, ?_⟩
                  · first | exact t2 | exact ⟨by omega, by omega⟩ | omega
                  · refine ⟨?_, ?_⟩
                    · first | exact t2 | exact ⟨by omega, by omega⟩ | omega
                    · intro F9
                      refine ih i (j + 1) _ (by omega) hi F9 (S2.st (by omega) (Or.inl ⟨by omega, by omega⟩)) (fun k hk2 => ?_) (fun k hk2 => ?_) (fun a b ha hb hab => ?_) n2 l2 hk
                      · rw [xpl_st, if_neg (by omega)]; exact x30 k hk2
                      · rw [xpl_st, if_neg (by omega)]; exact x31 k hk2
                      · have y3 := x16_at F2 (k := (a : Int)) (by omega) (by omega)
                        have y4 : xpl (xst h2 (xpl h2 16 i) j (osa f g i j)) 16 a = xpl h2 16 a := by rw [xpl_st, if_neg (by omega)]
                        rw [y4, xpl_st]
                        by_cases z : a = i ∧ b = j
                        · rw [z.1, z.2, if_pos ⟨rfl, rfl⟩]
                        · rw [if_neg (by omega)]
                          exact hx a b ha hb (by omega)
  have outer : ∀ (m i : Nat) (h2 : XH), i + m = r + 1 → xFix h2 → xsm CHW h h2 → (∀ k : Nat, k < r → xpl h2 30 k = f k) → (∀ k : Nat, k < c → xpl h2 31 k = g k) →
      (∀ a b : Nat, a < i → b ≤ c → xpl h2 (xpl h2 16 a) b = osa f g a b) → xnx h2 = xnx h → xsl h2 = xsl h →
      xwp G m_Vocabulary_changes (d + 5) 23 [xR 12, xZ, xZ, xZ, xZ, xI r, xI c, xI i, xZ] [] h2 Q X := by
    intro m
    induction m with
    | zero =>
      intro i h2 e F2 S2 x30 x31 hx n2 l2
      obtain ⟨t2, ll2⟩ := x16_row F2 (k := (r : Int)) (by omega) (by omega)
      refine v_Vocabulary_changes_23 F2 ?_
      refine ⟨fun q1 => ?_, fun q1 => ?_⟩
      · refine ⟨?_, ?_⟩
        · first | exact t2 | exact ⟨by omega, by omega⟩ | omega
        · refine ⟨?_, ?_⟩
          · first | exact t2 | exact ⟨by omega, by omega⟩ | omega
          · refine ⟨?_, ?_⟩
            · first | exact t2 | exact ⟨by omega, by omega⟩ | omega
            · refine ⟨?_, ?_⟩
              · first | exact t2 | exact ⟨by omega, by omega⟩ | omega
              · refine ⟨?_, ?_⟩
                · first | exact t2 | exact ⟨by omega, by omega⟩ | omega
                · rw [hx r c (by omega) (by omega), ← hdst]
                  exact hq h2 F2 S2 n2 l2
      · omega
    | succ m ih =>
      intro i h2 e F2 S2 x30 x31 hx n2 l2
      refine v_Vocabulary_changes_23 F2 ?_
      refine ⟨fun q1 => ?_, fun q1 => ?_⟩
      · refine ⟨?_, ?_⟩
        · first | exact ⟨by omega, by omega⟩ | omega
        · refine ⟨?_, ?_⟩
          · first | exact ⟨by omega, by omega⟩ | omega
          · refine ⟨?_, ?_⟩
            · first | exact ⟨by omega, by omega⟩ | omega
            · refine ⟨?_, ?_⟩
              · first | exact ⟨by omega, by omega⟩ | omega
              · refine ⟨?_, ?_⟩
                · first | exact ⟨by omega, by omega⟩ | omega
                · omega
      · exact inner (c + 1) i 0 h2 (by omega) (by omega) F2 S2 x30 x31 (fun a b ha hb hab => hx a b (by omega) hb) n2 l2 (fun h3 F3 S3 y30 y31 hx3 n3 l3 => ih (i + 1) h3 (by omega) F3 S3 y30 y31 hx3 n3 l3)
  refine v_Vocabulary_changes_0 F ?_
  refine s_Voc_spread F (Or.inl rfl) (fun h1 F1 S1 x1 n1 l1 => ?_)
  refine v_Vocabulary_changes_8 F1 ?_
  refine s_Voc_spread F1 (Or.inr rfl) (fun h2 F2 S2 x2 n2 l2 => ?_)
  refine v_Vocabulary_changes_18 F2 ?_
  rw [← hr, ← hc]
  refine outer (r + 1) 0 h2 (by omega) F2 ((S1.mono (fun c _ w => ⟨by omega, by omega⟩)).trans (S2.mono (fun c _ w => ⟨by omega, by omega⟩))) (fun k hk => ?_) (fun k hk => ?_) (fun a b ha => absurd ha (Nat.not_lt_zero a)) (n2.trans n1) (l2.trans l1)
  · rw [S2.pl (by omega) (by omega), x1 k (by omega), hf]
  · rw [x2 k (by omega), hg]
def wdV (V : List VE) (k : Nat) : Int := ((V[k]?).getD (0, 0, 0)).1
def cnV (V : List VE) (k : Nat) : Int := ((V[k]?).getD (0, 0, 0)).2.1
theorem VocR.wd {h : XH} {V : List VE} (R : VocR h V) (k : Nat) : vwa h k = wdV V k := by
  obtain ⟨p0, hs, hV⟩ := R
  unfold vwa wdV
  cases e : V[k]? with
  | none => rw [if_neg (by have := List.getElem?_eq_none_iff.mp e; omega)]; rfl
  | some en => rw [if_pos (by have := (List.getElem?_eq_some_iff.mp e).1; omega)]; exact (hV k en e).1
theorem VocR.cn {h : XH} {V : List VE} (R : VocR h V) (k : Nat) : vca h k = cnV V k := by
  obtain ⟨p0, hs, hV⟩ := R
  unfold vca cnV
  cases e : V[k]? with
  | none => rw [if_neg (by have := List.getElem?_eq_none_iff.mp e; omega)]; rfl
  | some en => rw [if_pos (by have := (List.getElem?_eq_some_iff.mp e).1; omega)]; exact (hV k en e).2.1
/-- the place of the nearest word: k the next place, b the best so far -/
def nrF (V : List VE) (w : Int) : Nat → Nat → Nat → Nat
  | 0, _, b => b
  | n + 1, k, b => nrF V w n (k + 1) (if dst w (wdV V k) < dst w (wdV V b) ∨ dst w (wdV V k) = dst w (wdV V b) ∧ cnV V b < cnV V k then k else b)
def nrV (V : List VE) (w : Int) : Nat := nrF V w (V.length - 1) 1 0
theorem s_Voc_nearestTo {G : XG} {d : Nat} {h : XH} {Q : XV → XH → Prop} {X : Nat → XH → Prop} {w : Int} {V : List VE} (F : xFix h) (M : MK0 h) (R : VocR h V) (hl : V.length ≤ 20000)
    (hq : ∀ h', xFix h' → xsm CHW h h' → xnx h' = xnx h → xsl h' = xsl h → VocR h' V → Q (xI (nrV V w)) h') : xwp G m_Vocabulary_nearestTo (d + 6) 0 [xR 12, xL w, xZ, xZ, xZ, xZ, xZ, xZ] [] h Q X := by
  have loop : ∀ (m k b : Nat) (h2 : XH), (k + m = V.length ∨ (m = 0 ∧ V.length ≤ k)) → k ≤ 20001 → b < k → xFix h2 → xsm CHW h h2 → xnx h2 = xnx h → xsl h2 = xsl h → nrF V w m k b = nrV V w → xwp G m_Vocabulary_nearestTo (d + 6) 17 [xR 12, xL w, xZ, xI b, xI (dst w (wdV V b)), xI k, xZ, xZ] [] h2 Q X := by
    intro m
    induction m with
    | zero =>
      intro k b h2 e kl bk F2 S2 n2 l2 hv
      have R2 := R.chg F M S2
      have hs := R2.2.1
      refine v_Vocabulary_nearestTo_17 F2 ?_
      refine ⟨fun q1 => ?_, fun q1 => ?_⟩
      · have e : nrF V w 0 k b = b := rfl
        rw [e] at hv
        rw [hv]
        exact hq h2 F2 S2 n2 l2 R2
      · refine ⟨?_, ?_⟩
        · first | exact R2.1 | omega
        · omega
    | succ m ih =>
      intro k b h2 e kl bk F2 S2 n2 l2 hv
      have R2 := R.chg F M S2
      have hs := R2.2.1
      have step : ∀ (h3 : XH) (s : Int), xFix h3 → xsm CHW h h3 → xnx h3 = xnx h → xsl h3 = xsl h → (s = 0 ↔ ¬ cnV V b < cnV V k) → xwp G m_Vocabulary_nearestTo (d + 6) 58 [xR 12, xL w, xZ, xI b, xI (dst w (wdV V b)), xI k, xI (dst w (wdV V k)), xZ] [xI s] h3 Q X := by
        intro h3 s F3 S3 n3 l3 hs9
        have hv2 : nrF V w m (k + 1) (if dst w (wdV V k) < dst w (wdV V b) ∨ dst w (wdV V k) = dst w (wdV V b) ∧ cnV V b < cnV V k then k else b) = nrV V w := hv
        refine v_Vocabulary_nearestTo_58 F3 ?_
        refine ⟨fun q1 => ?_, fun q1 => ?_⟩
        · refine ⟨?_, ?_⟩
          · exact ⟨by omega, by omega⟩
          · rw [if_pos (by omega)] at hv2
            exact ih (k + 1) k h3 (by omega) (by omega) (by omega) F3 S3 n3 l3 hv2
        · refine ⟨fun q2 => ?_, fun q2 => ?_⟩
          · refine ⟨fun q3 => ?_, fun q3 => ?_⟩
            · refine ⟨?_, ?_⟩
              · exact ⟨by omega, by omega⟩
              · rw [if_neg (by omega)] at hv2
                exact ih (k + 1) b h3 (by omega) (by omega) (by omega) F3 S3 n3 l3 hv2
            · refine ⟨?_, ?_⟩
              · exact ⟨by omega, by omega⟩
              · rw [if_pos (by omega)] at hv2
                exact ih (k + 1) k h3 (by omega) (by omega) (by omega) F3 S3 n3 l3 hv2
          · refine ⟨?_, ?_⟩
            · exact ⟨by omega, by omega⟩
            · rw [if_neg (by omega)] at hv2
              exact ih (k + 1) b h3 (by omega) (by omega) (by omega) F3 S3 n3 l3 hv2
      refine v_Vocabulary_nearestTo_17 F2 ?_
      refine ⟨fun q1 => ?_, fun q1 => ?_⟩
      · omega
      · refine ⟨?_, ?_⟩
        · first | exact R2.1 | omega
        · rw [R2.wd]
          refine s_Voc_changes F2 (fun h3 F3 S3 n3 l3 => ?_)
          have S4 := S2.trans S3
          have R3 := R.chg F M S4
          refine v_Vocabulary_nearestTo_37 F3 ?_
          refine ⟨?_, ?_⟩
          · first | exact R3.1 | omega
          · refine ⟨fun q1 => ?_, fun q1 => ?_⟩
            · rw [R3.cn, R3.cn] at q1
              exact step h3 0 F3 S4 (n3.trans n2) (l3.trans l2) (by omega)
            · rw [R3.cn, R3.cn] at q1
              exact step h3 1 F3 S4 (n3.trans n2) (l3.trans l2) (by omega)
  refine v_Vocabulary_nearestTo_0 F ?_
  refine ⟨?_, ?_⟩
  · exact R.1
  · have e := R.wd 0
    rw [show ((0 : Nat) : Int) = 0 from rfl] at e
    rw [e]
    refine s_Voc_changes F (fun h3 F3 S3 n3 l3 => ?_)
    refine v_Vocabulary_nearestTo_12 F3 ?_
    exact loop (V.length - 1) 1 0 h3 (by omega) (by omega) (by omega) F3 S3 n3 l3 rfl

end
