/-! ===== mopvc ===== -/
section
abbrev m_M_texts : XM := (⟨"BeaconIndexModel", "texts", "()I"⟩, prog_14_method_82_code, 1, (some .int), [])
theorem d_M_texts_0 : decode prog_14_method_82_code 0 = .ok (.aload_n 0, 1) := by decide +kernel
theorem d_M_texts_1 : decode prog_14_method_82_code 1 = .ok (.aload_n 0, 1) := by decide +kernel
theorem d_M_texts_2 : decode prog_14_method_82_code 2 = .ok (.getfield 185, 3) := by decide +kernel
theorem d_M_texts_5 : decode prog_14_method_82_code 5 = .ok (.invokevirtual 420, 3) := by decide +kernel
abbrev m_M_ok : XM := (⟨"BeaconIndexModel", "ok", "(I)I"⟩, prog_14_method_4_code, 2, (some .int), [])
theorem k_M_ok : xCal m_M_ok 1 := ⟨List.mem_append_right _ (List.mem_of_getElem? (i := 1845) (by decide +kernel)), w_15, Nat.le_of_ble_eq_true rfl, ⟨by decide +kernel, by decide +kernel⟩, by decide +kernel, by decide +kernel, rfl⟩
theorem w_1842 : Cond.methodLink "BeaconIndexModel" 420 ⟨"BeaconIndexModel", "ok", "(I)I"⟩ ∈ lw_tbl := List.mem_append_right _ (List.mem_of_getElem? (i := 1842) (by decide +kernel))
theorem w_1844 : Cond.instanceMethod ⟨"BeaconIndexModel", "ok", "(I)I"⟩ ∈ lw_tbl := List.mem_append_right _ (List.mem_of_getElem? (i := 1844) (by decide +kernel))
theorem sel_M_ok : Cond.selects "BeaconIndexModel" ⟨"BeaconIndexModel", "ok", "(I)I"⟩ ⟨"BeaconIndexModel", "ok", "(I)I"⟩ ∈ lw_tbl := List.mem_append_left _ (by decide +kernel)
theorem d_M_ok_0 : decode prog_14_method_4_code 0 = .ok (.aload_n 0, 1) := by decide +kernel
theorem d_M_ok_1 : decode prog_14_method_4_code 1 = .ok (.iconst 0, 1) := by decide +kernel
theorem d_M_ok_2 : decode prog_14_method_4_code 2 = .ok (.putfield 97, 3) := by decide +kernel
theorem w_1587 : Cond.fieldLink "BeaconIndexModel" 97 "BeaconIndexModel" "thrown" "I" ∈ lw_tbl := List.mem_append_right _ (List.mem_of_getElem? (i := 1587) (by decide +kernel))
theorem xfk_53_0 : xfree 53 0 = true := by decide +kernel
theorem d_M_ok_5 : decode prog_14_method_4_code 5 = .ok (.iload_n 1, 1) := by decide +kernel
theorem d_M_ok_6 : decode prog_14_method_4_code 6 = .ok (.ireturn, 1) := by decide +kernel
theorem d_M_texts_8 : decode prog_14_method_82_code 8 = .ok (.ireturn, 1) := by decide +kernel
theorem v_M_texts_0 {G : XG} {d : Nat} {h : XH} {Q : XV → XH → Prop} {X : Nat → XH → Prop} (F : xFix h) (hyp : (xFix (xst h 53 0 0) → Q (xI (xpl h 53 4)) (xst h 53 0 0))) : xwp G m_M_texts (d + 2) 0 [xR 53] [] h Q X := by
  have hnx9 : (93 : Int) ≤ xnx h := F.2.2
  refine xr_aload_n (pc := 0) (i := 0) (hI := d_M_texts_0) (hi := rfl) (hl := rfl) ?_
  refine xr_aload_n (pc := 1) (i := 0) (hI := d_M_texts_1) (hi := rfl) (hl := rfl) ?_
  refine xg_getf (pc := 2) (ci := 11) (k := 4) (N := 38) (v9 := 0) (v := (xpl h 53 4)) (T := xF11) (hI := d_M_texts_2) (hw := w_1591) rfl xi11 (Or.inl rfl) (Nat.le_of_ble_eq_true rfl) (Nat.le_of_ble_eq_true rfl) rfl (ft_53 F) rfl (fun f1_ => ?_)
  replace f1_ : -2147483648 ≤ (xpl h 53 4) ∧ (xpl h 53 4) ≤ 2147483647 := f1_
  refine xq_callV (pc := 5) (index := 420) (K := m_M_ok) (As := [xI (xpl h 53 4)]) (S := []) (L0 := [xR 53, xI (xpl h 53 4)]) (hI := d_M_texts_5) (hK := k_M_ok) (hlk := w_1842) (hnoM := rfl) (hS8 := Nat.le_of_ble_eq_true rfl) (ci := 11) (N := 38) (C := "BeaconIndexModel") (T := xF11) (hc := rfl) (hci := Nat.le_of_ble_eq_true rfl) (htb := (ft_53 F)) (hinst := w_1844) (hsel := sel_M_ok) (hlen := Nat.le_of_ble_eq_true rfl) (hst := rfl) (hL0 := rfl)  ?_
  refine xr_aload_n (pc := 0) (i := 0) (hI := d_M_ok_0) (hi := rfl) (hl := rfl) ?_
  refine xr_iconst (pc := 1) (hI := d_M_ok_1) (hr := by decide) ?_
  refine xr_putf (pc := 2) (ci := 11) (k := 0) (N := 38) (v9 := 0) (T := xF11) (tF := xT11) (hI := d_M_ok_2) (hw := w_1587) rfl xi11 xt11 xn11 (Or.inl rfl) (Nat.le_of_ble_eq_true rfl) (Nat.le_of_ble_eq_true rfl) rfl xfit_i rfl (ft_53 F) (by decide) (fun z => z) ?_
  have F2_ : xFix (xst h 53 0 0) := F.stL xfk_53_0
  refine xr_iload_n (pc := 5) (i := 1) (hI := d_M_ok_5) (hi := rfl) (hl := rfl) ?_
  refine xr_ireturn (S := []) (pc := 6) (hI := d_M_ok_6) (hr := rfl) ?_
  show xwp G m_M_texts (d + 2) 8 [xR 53] [xI (xpl h 53 4)] _ _ _
  refine xr_ireturn (S := []) (pc := 8) (hI := d_M_texts_8) (hr := rfl) ?_
  exact hyp F2_
abbrev m_M_buffered : XM := (⟨"BeaconIndexModel", "buffered", "()I"⟩, prog_14_method_83_code, 1, (some .int), [])
theorem d_M_buffered_0 : decode prog_14_method_83_code 0 = .ok (.aload_n 0, 1) := by decide +kernel
theorem d_M_buffered_1 : decode prog_14_method_83_code 1 = .ok (.aload_n 0, 1) := by decide +kernel
theorem d_M_buffered_2 : decode prog_14_method_83_code 2 = .ok (.getfield 185, 3) := by decide +kernel
theorem d_M_buffered_5 : decode prog_14_method_83_code 5 = .ok (.aload_n 0, 1) := by decide +kernel
theorem d_M_buffered_6 : decode prog_14_method_83_code 6 = .ok (.invokevirtual 191, 3) := by decide +kernel
theorem v_M_buffered_0 {G : XG} {d : Nat} {h : XH} {Q : XV → XH → Prop} {X : Nat → XH → Prop} (F : xFix h) (hyp : (xwp G m_M_inSegments (d + 2) 0 [xR 53] [] h (fun v9 h9 => xwp G m_M_buffered (d + 3) 9 [xZ] (xpush v9 [xI (xpl h 53 4), xR 53]) h9 Q X) X)) : xwp G m_M_buffered (d + 3) 0 [xR 53] [] h Q X := by
  have hnx9 : (93 : Int) ≤ xnx h := F.2.2
  refine xr_aload_n (pc := 0) (i := 0) (hI := d_M_buffered_0) (hi := rfl) (hl := rfl) ?_
  refine xr_aload_n (pc := 1) (i := 0) (hI := d_M_buffered_1) (hi := rfl) (hl := rfl) ?_
  refine xg_getf (pc := 2) (ci := 11) (k := 4) (N := 38) (v9 := 0) (v := (xpl h 53 4)) (T := xF11) (hI := d_M_buffered_2) (hw := w_1591) rfl xi11 (Or.inl rfl) (Nat.le_of_ble_eq_true rfl) (Nat.le_of_ble_eq_true rfl) rfl (ft_53 F) rfl (fun f1_ => ?_)
  replace f1_ : -2147483648 ≤ (xpl h 53 4) ∧ (xpl h 53 4) ≤ 2147483647 := f1_
  refine xr_aload_n (pc := 5) (i := 0) (hI := d_M_buffered_5) (hi := rfl) (hl := rfl) ?_
  exact xq_callV (pc := 6) (index := 191) (K := m_M_inSegments) (As := []) (S := [xI (xpl h 53 4), xR 53]) (L0 := [xR 53]) (hI := d_M_buffered_6) (hK := k_M_inSegments) (hlk := w_1732) (hnoM := rfl) (hS8 := Nat.le_of_ble_eq_true rfl) (ci := 11) (N := 38) (C := "BeaconIndexModel") (T := xF11) (hc := rfl) (hci := Nat.le_of_ble_eq_true rfl) (htb := (ft_53 F)) (hinst := w_1734) (hsel := sel_M_inSegments) (hlen := Nat.le_of_ble_eq_true rfl) (hst := rfl) (hL0 := rfl)  (xwp_mono hyp (fun v9 h9 q9 => xr_drop (L9 := [xZ]) (xdrz xdr0) q9) (fun _ _ z9 => z9))
theorem d_M_buffered_9 : decode prog_14_method_83_code 9 = .ok (.isub, 1) := by decide +kernel
theorem d_M_buffered_10 : decode prog_14_method_83_code 10 = .ok (.invokevirtual 420, 3) := by decide +kernel
theorem xtk_11_0 : xfTK 11 0 = true := by decide +kernel
theorem d_M_buffered_13 : decode prog_14_method_83_code 13 = .ok (.ireturn, 1) := by decide +kernel
theorem v_M_buffered_9 {G : XG} {d : Nat} {h : XH} {Q : XV → XH → Prop} {X : Nat → XH → Prop} {s0 s1 s2 : Int} (F : xFix h) (hyp : xiR (s1 - s0) ∧ xtg h s2 = 11 ∧ 0 ≤ s2 ∧ (xFix (xst h s2 0 0) → Q (xI (s1 - s0)) (xst h s2 0 0))) : xwp G m_M_buffered (d + 3) 9 [xZ] [xI s0, xI s1, xR s2] h Q X := by
  have hnx9 : (93 : Int) ≤ xnx h := F.2.2
  refine xr_okS (fun hs9 => ?_)
  have r_s0 : -2147483648 ≤ s0 ∧ s0 ≤ 2147483647 := hs9 (xI s0) (.head _)
  have r_s1 : -2147483648 ≤ s1 ∧ s1 ≤ 2147483647 := hs9 (xI s1) (.tail _ (.head _))
  obtain ⟨c9, hyp⟩ := hyp
  refine xr_isub (pc := 9) (hI := d_M_buffered_9) (hr := c9) ?_
  obtain ⟨c9, hyp⟩ := hyp
  have t1_ := c9
  clear c9
  refine xq_callV (pc := 10) (index := 420) (K := m_M_ok) (As := [xI (s1 - s0)]) (S := []) (L0 := [xR s2, xI (s1 - s0)]) (hI := d_M_buffered_10) (hK := k_M_ok) (hlk := w_1842) (hnoM := rfl) (hS8 := Nat.le_of_ble_eq_true rfl) (ci := 11) (N := 38) (C := "BeaconIndexModel") (T := xF11) (hc := rfl) (hci := Nat.le_of_ble_eq_true rfl) (htb := t1_) (hinst := w_1844) (hsel := sel_M_ok) (hlen := Nat.le_of_ble_eq_true rfl) (hst := rfl) (hL0 := rfl)  ?_
  refine xr_aload_n (pc := 0) (i := 0) (hI := d_M_ok_0) (hi := rfl) (hl := rfl) ?_
  refine xr_iconst (pc := 1) (hI := d_M_ok_1) (hr := by decide) ?_
  obtain ⟨c2_, hyp⟩ := hyp
  refine xr_putf (pc := 2) (ci := 11) (k := 0) (N := 38) (v9 := 0) (T := xF11) (tF := xT11) (hI := d_M_ok_2) (hw := w_1587) rfl xi11 xt11 xn11 (Or.inl rfl) (Nat.le_of_ble_eq_true rfl) (Nat.le_of_ble_eq_true rfl) rfl xfit_i rfl t1_ c2_ (fun z => z) ?_
  have F3_ : xFix (xst h s2 0 0) := F.stT (t := 11) c2_ t1_ xtk_11_0
  refine xr_iload_n (pc := 5) (i := 1) (hI := d_M_ok_5) (hi := rfl) (hl := rfl) ?_
  refine xr_ireturn (S := []) (pc := 6) (hI := d_M_ok_6) (hr := rfl) ?_
  show xwp G m_M_buffered (d + 3) 13 [xZ] [xI (s1 - s0)] _ _ _
  refine xr_ireturn (S := []) (pc := 13) (hI := d_M_buffered_13) (hr := rfl) ?_
  exact hyp F3_
abbrev m_M_segments : XM := (⟨"BeaconIndexModel", "segments", "()I"⟩, prog_14_method_84_code, 1, (some .int), [])
theorem d_M_segments_0 : decode prog_14_method_84_code 0 = .ok (.aload_n 0, 1) := by decide +kernel
theorem d_M_segments_1 : decode prog_14_method_84_code 1 = .ok (.aload_n 0, 1) := by decide +kernel
theorem d_M_segments_2 : decode prog_14_method_84_code 2 = .ok (.getfield 176, 3) := by decide +kernel
theorem d_M_segments_5 : decode prog_14_method_84_code 5 = .ok (.invokevirtual 420, 3) := by decide +kernel
theorem d_M_segments_8 : decode prog_14_method_84_code 8 = .ok (.ireturn, 1) := by decide +kernel
theorem v_M_segments_0 {G : XG} {d : Nat} {h : XH} {Q : XV → XH → Prop} {X : Nat → XH → Prop} (F : xFix h) (hyp : (xFix (xst h 53 0 0) → Q (xI (xpl h 53 5)) (xst h 53 0 0))) : xwp G m_M_segments (d + 2) 0 [xR 53] [] h Q X := by
  have hnx9 : (93 : Int) ≤ xnx h := F.2.2
  refine xr_aload_n (pc := 0) (i := 0) (hI := d_M_segments_0) (hi := rfl) (hl := rfl) ?_
  refine xr_aload_n (pc := 1) (i := 0) (hI := d_M_segments_1) (hi := rfl) (hl := rfl) ?_
  refine xg_getf (pc := 2) (ci := 11) (k := 5) (N := 38) (v9 := 0) (v := (xpl h 53 5)) (T := xF11) (hI := d_M_segments_2) (hw := w_1592) rfl xi11 (Or.inl rfl) (Nat.le_of_ble_eq_true rfl) (Nat.le_of_ble_eq_true rfl) rfl (ft_53 F) rfl (fun f1_ => ?_)
  replace f1_ : -2147483648 ≤ (xpl h 53 5) ∧ (xpl h 53 5) ≤ 2147483647 := f1_
  refine xq_callV (pc := 5) (index := 420) (K := m_M_ok) (As := [xI (xpl h 53 5)]) (S := []) (L0 := [xR 53, xI (xpl h 53 5)]) (hI := d_M_segments_5) (hK := k_M_ok) (hlk := w_1842) (hnoM := rfl) (hS8 := Nat.le_of_ble_eq_true rfl) (ci := 11) (N := 38) (C := "BeaconIndexModel") (T := xF11) (hc := rfl) (hci := Nat.le_of_ble_eq_true rfl) (htb := (ft_53 F)) (hinst := w_1844) (hsel := sel_M_ok) (hlen := Nat.le_of_ble_eq_true rfl) (hst := rfl) (hL0 := rfl)  ?_
  refine xr_aload_n (pc := 0) (i := 0) (hI := d_M_ok_0) (hi := rfl) (hl := rfl) ?_
  refine xr_iconst (pc := 1) (hI := d_M_ok_1) (hr := by decide) ?_
  refine xr_putf (pc := 2) (ci := 11) (k := 0) (N := 38) (v9 := 0) (T := xF11) (tF := xT11) (hI := d_M_ok_2) (hw := w_1587) rfl xi11 xt11 xn11 (Or.inl rfl) (Nat.le_of_ble_eq_true rfl) (Nat.le_of_ble_eq_true rfl) rfl xfit_i rfl (ft_53 F) (by decide) (fun z => z) ?_
  have F2_ : xFix (xst h 53 0 0) := F.stL xfk_53_0
  refine xr_iload_n (pc := 5) (i := 1) (hI := d_M_ok_5) (hi := rfl) (hl := rfl) ?_
  refine xr_ireturn (S := []) (pc := 6) (hI := d_M_ok_6) (hr := rfl) ?_
  show xwp G m_M_segments (d + 2) 8 [xR 53] [xI (xpl h 53 5)] _ _ _
  refine xr_ireturn (S := []) (pc := 8) (hI := d_M_segments_8) (hr := rfl) ?_
  exact hyp F2_
abbrev m_M_merges : XM := (⟨"BeaconIndexModel", "merges", "()I"⟩, prog_14_method_85_code, 1, (some .int), [])
theorem d_M_merges_0 : decode prog_14_method_85_code 0 = .ok (.aload_n 0, 1) := by decide +kernel
theorem d_M_merges_1 : decode prog_14_method_85_code 1 = .ok (.aload_n 0, 1) := by decide +kernel
theorem d_M_merges_2 : decode prog_14_method_85_code 2 = .ok (.getfield 208, 3) := by decide +kernel
theorem d_M_merges_5 : decode prog_14_method_85_code 5 = .ok (.invokevirtual 420, 3) := by decide +kernel
theorem d_M_merges_8 : decode prog_14_method_85_code 8 = .ok (.ireturn, 1) := by decide +kernel
theorem v_M_merges_0 {G : XG} {d : Nat} {h : XH} {Q : XV → XH → Prop} {X : Nat → XH → Prop} (F : xFix h) (hyp : (xFix (xst h 53 0 0) → Q (xI (xpl h 53 6)) (xst h 53 0 0))) : xwp G m_M_merges (d + 2) 0 [xR 53] [] h Q X := by
  have hnx9 : (93 : Int) ≤ xnx h := F.2.2
  refine xr_aload_n (pc := 0) (i := 0) (hI := d_M_merges_0) (hi := rfl) (hl := rfl) ?_
  refine xr_aload_n (pc := 1) (i := 0) (hI := d_M_merges_1) (hi := rfl) (hl := rfl) ?_
  refine xg_getf (pc := 2) (ci := 11) (k := 6) (N := 38) (v9 := 0) (v := (xpl h 53 6)) (T := xF11) (hI := d_M_merges_2) (hw := w_1593) rfl xi11 (Or.inl rfl) (Nat.le_of_ble_eq_true rfl) (Nat.le_of_ble_eq_true rfl) rfl (ft_53 F) rfl (fun f1_ => ?_)
  replace f1_ : -2147483648 ≤ (xpl h 53 6) ∧ (xpl h 53 6) ≤ 2147483647 := f1_
  refine xq_callV (pc := 5) (index := 420) (K := m_M_ok) (As := [xI (xpl h 53 6)]) (S := []) (L0 := [xR 53, xI (xpl h 53 6)]) (hI := d_M_merges_5) (hK := k_M_ok) (hlk := w_1842) (hnoM := rfl) (hS8 := Nat.le_of_ble_eq_true rfl) (ci := 11) (N := 38) (C := "BeaconIndexModel") (T := xF11) (hc := rfl) (hci := Nat.le_of_ble_eq_true rfl) (htb := (ft_53 F)) (hinst := w_1844) (hsel := sel_M_ok) (hlen := Nat.le_of_ble_eq_true rfl) (hst := rfl) (hL0 := rfl)  ?_
  refine xr_aload_n (pc := 0) (i := 0) (hI := d_M_ok_0) (hi := rfl) (hl := rfl) ?_
  refine xr_iconst (pc := 1) (hI := d_M_ok_1) (hr := by decide) ?_
  refine xr_putf (pc := 2) (ci := 11) (k := 0) (N := 38) (v9 := 0) (T := xF11) (tF := xT11) (hI := d_M_ok_2) (hw := w_1587) rfl xi11 xt11 xn11 (Or.inl rfl) (Nat.le_of_ble_eq_true rfl) (Nat.le_of_ble_eq_true rfl) rfl xfit_i rfl (ft_53 F) (by decide) (fun z => z) ?_
  have F2_ : xFix (xst h 53 0 0) := F.stL xfk_53_0
  refine xr_iload_n (pc := 5) (i := 1) (hI := d_M_ok_5) (hi := rfl) (hl := rfl) ?_
  refine xr_ireturn (S := []) (pc := 6) (hI := d_M_ok_6) (hr := rfl) ?_
  show xwp G m_M_merges (d + 2) 8 [xR 53] [xI (xpl h 53 6)] _ _ _
  refine xr_ireturn (S := []) (pc := 8) (hI := d_M_merges_8) (hr := rfl) ?_
  exact hyp F2_
abbrev m_M_textsIn : XM := (⟨"BeaconIndexModel", "textsIn", "(I)I"⟩, prog_14_method_86_code, 2, (some .int), [])
theorem d_M_textsIn_0 : decode prog_14_method_86_code 0 = .ok (.aload_n 0, 1) := by decide +kernel
theorem d_M_textsIn_1 : decode prog_14_method_86_code 1 = .ok (.aload_n 0, 1) := by decide +kernel
theorem d_M_textsIn_2 : decode prog_14_method_86_code 2 = .ok (.iload_n 1, 1) := by decide +kernel
theorem d_M_textsIn_3 : decode prog_14_method_86_code 3 = .ok (.invokevirtual 211, 3) := by decide +kernel
theorem d_M_textsIn_6 : decode prog_14_method_86_code 6 = .ok (.invokevirtual 407, 3) := by decide +kernel
abbrev m_M_isKnown : XM := (⟨"BeaconIndexModel", "isKnown", "(Z)Z"⟩, prog_14_method_5_code, 2, (some .boolean), [])
theorem k_M_isKnown : xCal m_M_isKnown 1 := ⟨List.mem_append_right _ (List.mem_of_getElem? (i := 1813) (by decide +kernel)), w_15, Nat.le_of_ble_eq_true rfl, ⟨by decide +kernel, by decide +kernel⟩, by decide +kernel, by decide +kernel, rfl⟩
theorem w_1810 : Cond.methodLink "BeaconIndexModel" 407 ⟨"BeaconIndexModel", "isKnown", "(Z)Z"⟩ ∈ lw_tbl := List.mem_append_right _ (List.mem_of_getElem? (i := 1810) (by decide +kernel))
theorem w_1812 : Cond.instanceMethod ⟨"BeaconIndexModel", "isKnown", "(Z)Z"⟩ ∈ lw_tbl := List.mem_append_right _ (List.mem_of_getElem? (i := 1812) (by decide +kernel))
theorem sel_M_isKnown : Cond.selects "BeaconIndexModel" ⟨"BeaconIndexModel", "isKnown", "(Z)Z"⟩ ⟨"BeaconIndexModel", "isKnown", "(Z)Z"⟩ ∈ lw_tbl := List.mem_append_left _ (by decide +kernel)
theorem d_M_isKnown_0 : decode prog_14_method_5_code 0 = .ok (.aload_n 0, 1) := by decide +kernel
theorem d_M_isKnown_1 : decode prog_14_method_5_code 1 = .ok (.iload_n 1, 1) := by decide +kernel
theorem d_M_isKnown_2 : decode prog_14_method_5_code 2 = .ok (.ifCond .eq 7, 3) := by decide +kernel
theorem d_M_isKnown_9 : decode prog_14_method_5_code 9 = .ok (.iconst 1, 1) := by decide +kernel
theorem d_M_isKnown_10 : decode prog_14_method_5_code 10 = .ok (.putfield 97, 3) := by decide +kernel
theorem d_M_isKnown_13 : decode prog_14_method_5_code 13 = .ok (.iload_n 1, 1) := by decide +kernel
theorem d_M_isKnown_14 : decode prog_14_method_5_code 14 = .ok (.ireturn, 1) := by decide +kernel
theorem d_M_textsIn_9 : decode prog_14_method_86_code 9 = .ok (.ifCond .eq 11, 3) := by decide +kernel
theorem d_M_textsIn_20 : decode prog_14_method_86_code 20 = .ok (.iconst 0, 1) := by decide +kernel
theorem d_M_textsIn_21 : decode prog_14_method_86_code 21 = .ok (.ireturn, 1) := by decide +kernel
theorem d_M_isKnown_5 : decode prog_14_method_5_code 5 = .ok (.iconst 0, 1) := by decide +kernel
theorem d_M_isKnown_6 : decode prog_14_method_5_code 6 = .ok (.goto 4, 3) := by decide +kernel
theorem d_M_textsIn_12 : decode prog_14_method_86_code 12 = .ok (.aload_n 0, 1) := by decide +kernel
theorem d_M_textsIn_13 : decode prog_14_method_86_code 13 = .ok (.iload_n 1, 1) := by decide +kernel
theorem d_M_textsIn_14 : decode prog_14_method_86_code 14 = .ok (.invokevirtual 182, 3) := by decide +kernel
theorem v_M_textsIn_0 {G : XG} {d : Nat} {h : XH} {Q : XV → XH → Prop} {X : Nat → XH → Prop} {x1 : Int} (F : xFix h) (hyp : xiR ((xpl h 53 5) - 1) ∧ ((x1 < 0 → (xFix (xst h 53 0 1) → Q (xI 0) (xst h 53 0 1))) ∧ (¬ x1 < 0 → ((((xpl h 53 5) - 1) < x1 → (xFix (xst h 53 0 1) → Q (xI 0) (xst h 53 0 1))) ∧ (¬ ((xpl h 53 5) - 1) < x1 → (xFix (xst h 53 0 0) → xwp G m_M_manyIn (d + 2) 0 [xR 53, xI x1] [] (xst h 53 0 0) (fun v9 h9 => xwp G m_M_textsIn (d + 3) 17 [xZ, xZ] (xpush v9 []) h9 Q X) X)))))) : xwp G m_M_textsIn (d + 3) 0 [xR 53, xI x1] [] h Q X := by
  have hnx9 : (93 : Int) ≤ xnx h := F.2.2
  refine xr_okL (fun hl9 => ?_)
  have r_x1 : -2147483648 ≤ x1 ∧ x1 ≤ 2147483647 := hl9 (xI x1) (.tail _ (.head _)) (Nat.le_of_ble_eq_true rfl)
  refine xr_aload_n (pc := 0) (i := 0) (hI := d_M_textsIn_0) (hi := rfl) (hl := rfl) ?_
  refine xr_aload_n (pc := 1) (i := 0) (hI := d_M_textsIn_1) (hi := rfl) (hl := rfl) ?_
  refine xr_iload_n (pc := 2) (i := 1) (hI := d_M_textsIn_2) (hi := rfl) (hl := rfl) ?_
  refine xq_callV (pc := 3) (index := 211) (K := m_M_isSegment) (As := [xI x1]) (S := [xR 53]) (L0 := [xR 53, xI x1]) (hI := d_M_textsIn_3) (hK := k_M_isSegment) (hlk := w_1862) (hnoM := rfl) (hS8 := Nat.le_of_ble_eq_true rfl) (ci := 11) (N := 38) (C := "BeaconIndexModel") (T := xF11) (hc := rfl) (hci := Nat.le_of_ble_eq_true rfl) (htb := (ft_53 F)) (hinst := w_1864) (hsel := sel_M_isSegment) (hlen := Nat.le_of_ble_eq_true rfl) (hst := rfl) (hL0 := rfl)  ?_
  refine xr_iload_n (pc := 0) (i := 1) (hI := d_M_isSegment_0) (hi := rfl) (hl := rfl) ?_
  refine xr_iconst (pc := 1) (hI := d_M_isSegment_1) (hr := by decide) ?_
  refine xr_aload_n (pc := 2) (i := 0) (hI := d_M_isSegment_2) (hi := rfl) (hl := rfl) ?_
  refine xg_getf (pc := 3) (ci := 11) (k := 5) (N := 38) (v9 := 0) (v := (xpl h 53 5)) (T := xF11) (hI := d_M_isSegment_3) (hw := w_1592) rfl xi11 (Or.inl rfl) (Nat.le_of_ble_eq_true rfl) (Nat.le_of_ble_eq_true rfl) rfl (ft_53 F) rfl (fun f1_ => ?_)
  replace f1_ : -2147483648 ≤ (xpl h 53 5) ∧ (xpl h 53 5) ≤ 2147483647 := f1_
  refine xr_iconst (pc := 6) (hI := d_M_isSegment_6) (hr := by decide) ?_
  obtain ⟨c9, hyp⟩ := hyp
  refine xr_isub (pc := 7) (hI := d_M_isSegment_7) (hr := c9) ?_
  refine xq_callS (pc := 8) (index := 101) (K := m_M_isBetween) (As := [xI x1, xI 0, xI ((xpl h 53 5) - 1)]) (S := []) (L0 := [xI x1, xI 0, xI ((xpl h 53 5) - 1)]) (hI := d_M_isSegment_8) (hK := k_M_isBetween) (hlk := w_1718) (hnoM := rfl) (hS8 := Nat.le_of_ble_eq_true rfl) (hstat := w_1719) (hlen := Nat.le_of_ble_eq_true rfl) (hst := rfl) (hL0 := rfl)  ?_
  refine xr_iload_n (pc := 0) (i := 0) (hI := d_M_isBetween_0) (hi := rfl) (hl := rfl) ?_
  refine xr_iload_n (pc := 1) (i := 1) (hI := d_M_isBetween_1) (hi := rfl) (hl := rfl) ?_
  refine xr_icmp_lt (pc := 2) (tgt := 14) (hI := d_M_isBetween_2) (ht := by decide) (fun q9 => ?_) (fun q9 => ?_)
  · replace hyp := hyp.1 q9
    have q2_ := q9
    clear q9
    refine xr_iconst (pc := 14) (hI := d_M_isBetween_14) (hr := by decide) ?_
    refine xr_ireturnT (S := []) (pc := 15) (hI := d_M_isBetween_15) (hr := rfl) (xnar_z (by decide)) ?_
    show xwp G m_M_isSegment (d + 2) 11 [xR 53, xI x1] [xI 0] _ _ _
    refine xr_ireturnT (S := []) (pc := 11) (hI := d_M_isSegment_11) (hr := rfl) (xnar_z (by decide)) ?_
    show xwp G m_M_textsIn (d + 3) 6 [xR 53, xI x1] [xI 0, xR 53] _ _ _
    refine xq_callV (pc := 6) (index := 407) (K := m_M_isKnown) (As := [xI 0]) (S := []) (L0 := [xR 53, xI 0]) (hI := d_M_textsIn_6) (hK := k_M_isKnown) (hlk := w_1810) (hnoM := rfl) (hS8 := Nat.le_of_ble_eq_true rfl) (ci := 11) (N := 38) (C := "BeaconIndexModel") (T := xF11) (hc := rfl) (hci := Nat.le_of_ble_eq_true rfl) (htb := (ft_53 F)) (hinst := w_1812) (hsel := sel_M_isKnown) (hlen := Nat.le_of_ble_eq_true rfl) (hst := rfl) (hL0 := rfl)  ?_
    refine xr_aload_n (pc := 0) (i := 0) (hI := d_M_isKnown_0) (hi := rfl) (hl := rfl) ?_
    refine xr_iload_n (pc := 1) (i := 1) (hI := d_M_isKnown_1) (hi := rfl) (hl := rfl) ?_
    refine xr_if_eq (pc := 2) (tgt := 9) (hI := d_M_isKnown_2) (ht := by decide) (fun q9 => ?_) (fun q9 => ?_)
    · clear q9
      refine xr_iconst (pc := 9) (hI := d_M_isKnown_9) (hr := by decide) ?_
      refine xr_putf (pc := 10) (ci := 11) (k := 0) (N := 38) (v9 := 0) (T := xF11) (tF := xT11) (hI := d_M_isKnown_10) (hw := w_1587) rfl xi11 xt11 xn11 (Or.inl rfl) (Nat.le_of_ble_eq_true rfl) (Nat.le_of_ble_eq_true rfl) rfl xfit_i rfl (ft_53 F) (by decide) (fun z => z) ?_
      have F3_ : xFix (xst h 53 0 1) := F.stL xfk_53_0
      refine xr_iload_n (pc := 13) (i := 1) (hI := d_M_isKnown_13) (hi := rfl) (hl := rfl) ?_
      refine xr_ireturnT (S := []) (pc := 14) (hI := d_M_isKnown_14) (hr := rfl) (xnar_z (by decide)) ?_
      show xwp G m_M_textsIn (d + 3) 9 [xR 53, xI x1] [xI 0] _ _ _
      refine xr_if_eq (pc := 9) (tgt := 20) (hI := d_M_textsIn_9) (ht := by decide) (fun q9 => ?_) (fun q9 => ?_)
      · clear q9
        refine xr_iconst (pc := 20) (hI := d_M_textsIn_20) (hr := by decide) ?_
        refine xr_ireturn (S := []) (pc := 21) (hI := d_M_textsIn_21) (hr := rfl) ?_
        exact hyp F3_
      · exact absurd q9 (by decide)
    · exact absurd q9 (by decide)
  · replace hyp := hyp.2 q9
    have q2_ := q9
    clear q9
    refine xr_iload_n (pc := 5) (i := 0) (hI := d_M_isBetween_5) (hi := rfl) (hl := rfl) ?_
    refine xr_iload_n (pc := 6) (i := 2) (hI := d_M_isBetween_6) (hi := rfl) (hl := rfl) ?_
    refine xr_icmp_gt (pc := 7) (tgt := 14) (hI := d_M_isBetween_7) (ht := by decide) (fun q9 => ?_) (fun q9 => ?_)
    · replace hyp := hyp.1 q9
      have q4_ := q9
      clear q9
      refine xr_iconst (pc := 14) (hI := d_M_isBetween_14) (hr := by decide) ?_
      refine xr_ireturnT (S := []) (pc := 15) (hI := d_M_isBetween_15) (hr := rfl) (xnar_z (by decide)) ?_
      show xwp G m_M_isSegment (d + 2) 11 [xR 53, xI x1] [xI 0] _ _ _
      refine xr_ireturnT (S := []) (pc := 11) (hI := d_M_isSegment_11) (hr := rfl) (xnar_z (by decide)) ?_
      show xwp G m_M_textsIn (d + 3) 6 [xR 53, xI x1] [xI 0, xR 53] _ _ _
      refine xq_callV (pc := 6) (index := 407) (K := m_M_isKnown) (As := [xI 0]) (S := []) (L0 := [xR 53, xI 0]) (hI := d_M_textsIn_6) (hK := k_M_isKnown) (hlk := w_1810) (hnoM := rfl) (hS8 := Nat.le_of_ble_eq_true rfl) (ci := 11) (N := 38) (C := "BeaconIndexModel") (T := xF11) (hc := rfl) (hci := Nat.le_of_ble_eq_true rfl) (htb := (ft_53 F)) (hinst := w_1812) (hsel := sel_M_isKnown) (hlen := Nat.le_of_ble_eq_true rfl) (hst := rfl) (hL0 := rfl)  ?_
      refine xr_aload_n (pc := 0) (i := 0) (hI := d_M_isKnown_0) (hi := rfl) (hl := rfl) ?_
      refine xr_iload_n (pc := 1) (i := 1) (hI := d_M_isKnown_1) (hi := rfl) (hl := rfl) ?_
      refine xr_if_eq (pc := 2) (tgt := 9) (hI := d_M_isKnown_2) (ht := by decide) (fun q9 => ?_) (fun q9 => ?_)
      · clear q9
        refine xr_iconst (pc := 9) (hI := d_M_isKnown_9) (hr := by decide) ?_
        refine xr_putf (pc := 10) (ci := 11) (k := 0) (N := 38) (v9 := 0) (T := xF11) (tF := xT11) (hI := d_M_isKnown_10) (hw := w_1587) rfl xi11 xt11 xn11 (Or.inl rfl) (Nat.le_of_ble_eq_true rfl) (Nat.le_of_ble_eq_true rfl) rfl xfit_i rfl (ft_53 F) (by decide) (fun z => z) ?_
        have F5_ : xFix (xst h 53 0 1) := F.stL xfk_53_0
        refine xr_iload_n (pc := 13) (i := 1) (hI := d_M_isKnown_13) (hi := rfl) (hl := rfl) ?_
        refine xr_ireturnT (S := []) (pc := 14) (hI := d_M_isKnown_14) (hr := rfl) (xnar_z (by decide)) ?_
        show xwp G m_M_textsIn (d + 3) 9 [xR 53, xI x1] [xI 0] _ _ _
        refine xr_if_eq (pc := 9) (tgt := 20) (hI := d_M_textsIn_9) (ht := by decide) (fun q9 => ?_) (fun q9 => ?_)
        · clear q9
          refine xr_iconst (pc := 20) (hI := d_M_textsIn_20) (hr := by decide) ?_
          refine xr_ireturn (S := []) (pc := 21) (hI := d_M_textsIn_21) (hr := rfl) ?_
          exact hyp F5_
        · exact absurd q9 (by decide)
      · exact absurd q9 (by decide)
    · replace hyp := hyp.2 q9
      have q4_ := q9
      clear q9
      refine xr_iconst (pc := 10) (hI := d_M_isBetween_10) (hr := by decide) ?_
      refine xr_goto (pc := 11) (tgt := 15) (hI := d_M_isBetween_11) (ht := by decide) ?_
      refine xr_ireturnT (S := []) (pc := 15) (hI := d_M_isBetween_15) (hr := rfl) (xnar_z (by decide)) ?_
      show xwp G m_M_isSegment (d + 2) 11 [xR 53, xI x1] [xI 1] _ _ _
      refine xr_ireturnT (S := []) (pc := 11) (hI := d_M_isSegment_11) (hr := rfl) (xnar_z (by decide)) ?_
      show xwp G m_M_textsIn (d + 3) 6 [xR 53, xI x1] [xI 1, xR 53] _ _ _
      refine xq_callV (pc := 6) (index := 407) (K := m_M_isKnown) (As := [xI 1]) (S := []) (L0 := [xR 53, xI 1]) (hI := d_M_textsIn_6) (hK := k_M_isKnown) (hlk := w_1810) (hnoM := rfl) (hS8 := Nat.le_of_ble_eq_true rfl) (ci := 11) (N := 38) (C := "BeaconIndexModel") (T := xF11) (hc := rfl) (hci := Nat.le_of_ble_eq_true rfl) (htb := (ft_53 F)) (hinst := w_1812) (hsel := sel_M_isKnown) (hlen := Nat.le_of_ble_eq_true rfl) (hst := rfl) (hL0 := rfl)  ?_
      refine xr_aload_n (pc := 0) (i := 0) (hI := d_M_isKnown_0) (hi := rfl) (hl := rfl) ?_
      refine xr_iload_n (pc := 1) (i := 1) (hI := d_M_isKnown_1) (hi := rfl) (hl := rfl) ?_
      refine xr_if_eq (pc := 2) (tgt := 9) (hI := d_M_isKnown_2) (ht := by decide) (fun q9 => ?_) (fun q9 => ?_)
      · exact absurd q9 (by decide)
      · clear q9
        refine xr_iconst (pc := 5) (hI := d_M_isKnown_5) (hr := by decide) ?_
        refine xr_goto (pc := 6) (tgt := 10) (hI := d_M_isKnown_6) (ht := by decide) ?_
        refine xr_putf (pc := 10) (ci := 11) (k := 0) (N := 38) (v9 := 0) (T := xF11) (tF := xT11) (hI := d_M_isKnown_10) (hw := w_1587) rfl xi11 xt11 xn11 (Or.inl rfl) (Nat.le_of_ble_eq_true rfl) (Nat.le_of_ble_eq_true rfl) rfl xfit_i rfl (ft_53 F) (by decide) (fun z => z) ?_
        have F6_ : xFix (xst h 53 0 0) := F.stL xfk_53_0
        refine xr_iload_n (pc := 13) (i := 1) (hI := d_M_isKnown_13) (hi := rfl) (hl := rfl) ?_
        refine xr_ireturnT (S := []) (pc := 14) (hI := d_M_isKnown_14) (hr := rfl) (xnar_z (by decide)) ?_
        show xwp G m_M_textsIn (d + 3) 9 [xR 53, xI x1] [xI 1] _ _ _
        refine xr_if_eq (pc := 9) (tgt := 20) (hI := d_M_textsIn_9) (ht := by decide) (fun q9 => ?_) (fun q9 => ?_)
        · exact absurd q9 (by decide)
        · clear q9
          refine xr_aload_n (pc := 12) (i := 0) (hI := d_M_textsIn_12) (hi := rfl) (hl := rfl) ?_
          refine xr_iload_n (pc := 13) (i := 1) (hI := d_M_textsIn_13) (hi := rfl) (hl := rfl) ?_
          exact xq_callV (pc := 14) (index := 182) (K := m_M_manyIn) (As := [xI x1]) (S := []) (L0 := [xR 53, xI x1]) (hI := d_M_textsIn_14) (hK := k_M_manyIn) (hlk := w_1822) (hnoM := rfl) (hS8 := Nat.le_of_ble_eq_true rfl) (ci := 11) (N := 38) (C := "BeaconIndexModel") (T := xF11) (hc := rfl) (hci := Nat.le_of_ble_eq_true rfl) (htb := (ft_53 F6_)) (hinst := w_1824) (hsel := sel_M_manyIn) (hlen := Nat.le_of_ble_eq_true rfl) (hst := rfl) (hL0 := rfl)  (xwp_mono (hyp F6_) (fun v9 h9 q9 => xr_drop (L9 := [xZ, xZ]) (xdrz (xdrz xdr0)) q9) (fun _ _ z9 => z9))
theorem d_M_textsIn_17 : decode prog_14_method_86_code 17 = .ok (.goto 4, 3) := by decide +kernel
theorem v_M_textsIn_17 {G : XG} {d : Nat} {h : XH} {Q : XV → XH → Prop} {X : Nat → XH → Prop} {s0 : Int} (F : xFix h) (hyp : (Q (xI s0) h)) : xwp G m_M_textsIn (d + 3) 17 [xZ, xZ] [xI s0] h Q X := by
  have hnx9 : (93 : Int) ≤ xnx h := F.2.2
  refine xr_okS (fun hs9 => ?_)
  have r_s0 : -2147483648 ≤ s0 ∧ s0 ≤ 2147483647 := hs9 (xI s0) (.head _)
  refine xr_goto (pc := 17) (tgt := 21) (hI := d_M_textsIn_17) (ht := by decide) ?_
  refine xr_ireturn (S := []) (pc := 21) (hI := d_M_textsIn_21) (hr := rfl) ?_
  exact hyp
abbrev m_M_markedIn : XM := (⟨"BeaconIndexModel", "markedIn", "(I)I"⟩, prog_14_method_87_code, 2, (some .int), [])
theorem d_M_markedIn_0 : decode prog_14_method_87_code 0 = .ok (.aload_n 0, 1) := by decide +kernel
theorem d_M_markedIn_1 : decode prog_14_method_87_code 1 = .ok (.aload_n 0, 1) := by decide +kernel
theorem d_M_markedIn_2 : decode prog_14_method_87_code 2 = .ok (.iload_n 1, 1) := by decide +kernel
theorem d_M_markedIn_3 : decode prog_14_method_87_code 3 = .ok (.invokevirtual 211, 3) := by decide +kernel
theorem d_M_markedIn_6 : decode prog_14_method_87_code 6 = .ok (.invokevirtual 407, 3) := by decide +kernel
theorem d_M_markedIn_9 : decode prog_14_method_87_code 9 = .ok (.ifCond .eq 11, 3) := by decide +kernel
theorem d_M_markedIn_20 : decode prog_14_method_87_code 20 = .ok (.iconst 0, 1) := by decide +kernel
theorem d_M_markedIn_21 : decode prog_14_method_87_code 21 = .ok (.ireturn, 1) := by decide +kernel
theorem d_M_markedIn_12 : decode prog_14_method_87_code 12 = .ok (.aload_n 0, 1) := by decide +kernel
theorem d_M_markedIn_13 : decode prog_14_method_87_code 13 = .ok (.iload_n 1, 1) := by decide +kernel
theorem d_M_markedIn_14 : decode prog_14_method_87_code 14 = .ok (.invokevirtual 417, 3) := by decide +kernel
theorem k_M_marks : xCal m_M_marks 1 := ⟨List.mem_append_right _ (List.mem_of_getElem? (i := 1837) (by decide +kernel)), w_15, Nat.le_of_ble_eq_true rfl, ⟨by decide +kernel, by decide +kernel⟩, by decide +kernel, by decide +kernel, rfl⟩
theorem w_1834 : Cond.methodLink "BeaconIndexModel" 417 ⟨"BeaconIndexModel", "marks", "(I)I"⟩ ∈ lw_tbl := List.mem_append_right _ (List.mem_of_getElem? (i := 1834) (by decide +kernel))
theorem w_1836 : Cond.instanceMethod ⟨"BeaconIndexModel", "marks", "(I)I"⟩ ∈ lw_tbl := List.mem_append_right _ (List.mem_of_getElem? (i := 1836) (by decide +kernel))
theorem sel_M_marks : Cond.selects "BeaconIndexModel" ⟨"BeaconIndexModel", "marks", "(I)I"⟩ ⟨"BeaconIndexModel", "marks", "(I)I"⟩ ∈ lw_tbl := List.mem_append_left _ (by decide +kernel)
theorem v_M_markedIn_0 {G : XG} {d : Nat} {h : XH} {Q : XV → XH → Prop} {X : Nat → XH → Prop} {x1 : Int} (F : xFix h) (hyp : xiR ((xpl h 53 5) - 1) ∧ ((x1 < 0 → (xFix (xst h 53 0 1) → Q (xI 0) (xst h 53 0 1))) ∧ (¬ x1 < 0 → ((((xpl h 53 5) - 1) < x1 → (xFix (xst h 53 0 1) → Q (xI 0) (xst h 53 0 1))) ∧ (¬ ((xpl h 53 5) - 1) < x1 → (xFix (xst h 53 0 0) → xwp G m_M_marks (d + 2) 0 [xR 53, xI x1, xZ, xZ] [] (xst h 53 0 0) (fun v9 h9 => xwp G m_M_markedIn (d + 3) 17 [xZ, xZ] (xpush v9 []) h9 Q X) X)))))) : xwp G m_M_markedIn (d + 3) 0 [xR 53, xI x1] [] h Q X := by
  have hnx9 : (93 : Int) ≤ xnx h := F.2.2
  refine xr_okL (fun hl9 => ?_)
  have r_x1 : -2147483648 ≤ x1 ∧ x1 ≤ 2147483647 := hl9 (xI x1) (.tail _ (.head _)) (Nat.le_of_ble_eq_true rfl)
  refine xr_aload_n (pc := 0) (i := 0) (hI := d_M_markedIn_0) (hi := rfl) (hl := rfl) ?_
  refine xr_aload_n (pc := 1) (i := 0) (hI := d_M_markedIn_1) (hi := rfl) (hl := rfl) ?_
  refine xr_iload_n (pc := 2) (i := 1) (hI := d_M_markedIn_2) (hi := rfl) (hl := rfl) ?_
  refine xq_callV (pc := 3) (index := 211) (K := m_M_isSegment) (As := [xI x1]) (S := [xR 53]) (L0 := [xR 53, xI x1]) (hI := d_M_markedIn_3) (hK := k_M_isSegment) (hlk := w_1862) (hnoM := rfl) (hS8 := Nat.le_of_ble_eq_true rfl) (ci := 11) (N := 38) (C := "BeaconIndexModel") (T := xF11) (hc := rfl) (hci := Nat.le_of_ble_eq_true rfl) (htb := (ft_53 F)) (hinst := w_1864) (hsel := sel_M_isSegment) (hlen := Nat.le_of_ble_eq_true rfl) (hst := rfl) (hL0 := rfl)  ?_
  refine xr_iload_n (pc := 0) (i := 1) (hI := d_M_isSegment_0) (hi := rfl) (hl := rfl) ?_
  refine xr_iconst (pc := 1) (hI := d_M_isSegment_1) (hr := by decide) ?_
  refine xr_aload_n (pc := 2) (i := 0) (hI := d_M_isSegment_2) (hi := rfl) (hl := rfl) ?_
  refine xg_getf (pc := 3) (ci := 11) (k := 5) (N := 38) (v9 := 0) (v := (xpl h 53 5)) (T := xF11) (hI := d_M_isSegment_3) (hw := w_1592) rfl xi11 (Or.inl rfl) (Nat.le_of_ble_eq_true rfl) (Nat.le_of_ble_eq_true rfl) rfl (ft_53 F) rfl (fun f1_ => ?_)
  replace f1_ : -2147483648 ≤ (xpl h 53 5) ∧ (xpl h 53 5) ≤ 2147483647 := f1_
  refine xr_iconst (pc := 6) (hI := d_M_isSegment_6) (hr := by decide) ?_
  obtain ⟨c9, hyp⟩ := hyp
  refine xr_isub (pc := 7) (hI := d_M_isSegment_7) (hr := c9) ?_
  refine xq_callS (pc := 8) (index := 101) (K := m_M_isBetween) (As := [xI x1, xI 0, xI ((xpl h 53 5) - 1)]) (S := []) (L0 := [xI x1, xI 0, xI ((xpl h 53 5) - 1)]) (hI := d_M_isSegment_8) (hK := k_M_isBetween) (hlk := w_1718) (hnoM := rfl) (hS8 := Nat.le_of_ble_eq_true rfl) (hstat := w_1719) (hlen := Nat.le_of_ble_eq_true rfl) (hst := rfl) (hL0 := rfl)  ?_
  refine xr_iload_n (pc := 0) (i := 0) (hI := d_M_isBetween_0) (hi := rfl) (hl := rfl) ?_
  refine xr_iload_n (pc := 1) (i := 1) (hI := d_M_isBetween_1) (hi := rfl) (hl := rfl) ?_
  refine xr_icmp_lt (pc := 2) (tgt := 14) (hI := d_M_isBetween_2) (ht := by decide) (fun q9 => ?_) (fun q9 => ?_)
  · replace hyp := hyp.1 q9
    have q2_ := q9
    clear q9
    refine xr_iconst (pc := 14) (hI := d_M_isBetween_14) (hr := by decide) ?_
    refine xr_ireturnT (S := []) (pc := 15) (hI := d_M_isBetween_15) (hr := rfl) (xnar_z (by decide)) ?_
    show xwp G m_M_isSegment (d + 2) 11 [xR 53, xI x1] [xI 0] _ _ _
    refine xr_ireturnT (S := []) (pc := 11) (hI := d_M_isSegment_11) (hr := rfl) (xnar_z (by decide)) ?_
    show xwp G m_M_markedIn (d + 3) 6 [xR 53, xI x1] [xI 0, xR 53] _ _ _
    refine xq_callV (pc := 6) (index := 407) (K := m_M_isKnown) (As := [xI 0]) (S := []) (L0 := [xR 53, xI 0]) (hI := d_M_markedIn_6) (hK := k_M_isKnown) (hlk := w_1810) (hnoM := rfl) (hS8 := Nat.le_of_ble_eq_true rfl) (ci := 11) (N := 38) (C := "BeaconIndexModel") (T := xF11) (hc := rfl) (hci := Nat.le_of_ble_eq_true rfl) (htb := (ft_53 F)) (hinst := w_1812) (hsel := sel_M_isKnown) (hlen := Nat.le_of_ble_eq_true rfl) (hst := rfl) (hL0 := rfl)  ?_
    refine xr_aload_n (pc := 0) (i := 0) (hI := d_M_isKnown_0) (hi := rfl) (hl := rfl) ?_
    refine xr_iload_n (pc := 1) (i := 1) (hI := d_M_isKnown_1) (hi := rfl) (hl := rfl) ?_
    refine xr_if_eq (pc := 2) (tgt := 9) (hI := d_M_isKnown_2) (ht := by decide) (fun q9 => ?_) (fun q9 => ?_)
    · clear q9
      refine xr_iconst (pc := 9) (hI := d_M_isKnown_9) (hr := by decide) ?_
      refine xr_putf (pc := 10) (ci := 11) (k := 0) (N := 38) (v9 := 0) (T := xF11) (tF := xT11) (hI := d_M_isKnown_10) (hw := w_1587) rfl xi11 xt11 xn11 (Or.inl rfl) (Nat.le_of_ble_eq_true rfl) (Nat.le_of_ble_eq_true rfl) rfl xfit_i rfl (ft_53 F) (by decide) (fun z => z) ?_
      have F3_ : xFix (xst h 53 0 1) := F.stL xfk_53_0
      refine xr_iload_n (pc := 13) (i := 1) (hI := d_M_isKnown_13) (hi := rfl) (hl := rfl) ?_
      refine xr_ireturnT (S := []) (pc := 14) (hI := d_M_isKnown_14) (hr := rfl) (xnar_z (by decide)) ?_
      show xwp G m_M_markedIn (d + 3) 9 [xR 53, xI x1] [xI 0] _ _ _
      refine xr_if_eq (pc := 9) (tgt := 20) (hI := d_M_markedIn_9) (ht := by decide) (fun q9 => ?_) (fun q9 => ?_)
      · clear q9
        refine xr_iconst (pc := 20) (hI := d_M_markedIn_20) (hr := by decide) ?_
        refine xr_ireturn (S := []) (pc := 21) (hI := d_M_markedIn_21) (hr := rfl) ?_
        exact hyp F3_
      · exact absurd q9 (by decide)
    · exact absurd q9 (by decide)
  · replace hyp := hyp.2 q9
    have q2_ := q9
    clear q9
    refine xr_iload_n (pc := 5) (i := 0) (hI := d_M_isBetween_5) (hi := rfl) (hl := rfl) ?_
    refine xr_iload_n (pc := 6) (i := 2) (hI := d_M_isBetween_6) (hi := rfl) (hl := rfl) ?_
    refine xr_icmp_gt (pc := 7) (tgt := 14) (hI := d_M_isBetween_7) (ht := by decide) (fun q9 => ?_) (fun q9 => ?_)
    · replace hyp := hyp.1 q9
      have q4_ := q9
      clear q9
      refine xr_iconst (pc := 14) (hI := d_M_isBetween_14) (hr := by decide) ?_
      refine xr_ireturnT (S := []) (pc := 15) (hI := d_M_isBetween_15) (hr := rfl) (xnar_z (by decide)) ?_
      show xwp G m_M_isSegment (d + 2) 11 [xR 53, xI x1] [xI 0] _ _ _
      refine xr_ireturnT (S := []) (pc := 11) (hI := d_M_isSegment_11) (hr := rfl) (xnar_z (by decide)) ?_
      show xwp G m_M_markedIn (d + 3) 6 [xR 53, xI x1] [xI 0, xR 53] _ _ _
      refine xq_callV (pc := 6) (index := 407) (K := m_M_isKnown) (As := [xI 0]) (S := []) (L0 := [xR 53, xI 0]) (hI := d_M_markedIn_6) (hK := k_M_isKnown) (hlk := w_1810) (hnoM := rfl) (hS8 := Nat.le_of_ble_eq_true rfl) (ci := 11) (N := 38) (C := "BeaconIndexModel") (T := xF11) (hc := rfl) (hci := Nat.le_of_ble_eq_true rfl) (htb := (ft_53 F)) (hinst := w_1812) (hsel := sel_M_isKnown) (hlen := Nat.le_of_ble_eq_true rfl) (hst := rfl) (hL0 := rfl)  ?_
      refine xr_aload_n (pc := 0) (i := 0) (hI := d_M_isKnown_0) (hi := rfl) (hl := rfl) ?_
      refine xr_iload_n (pc := 1) (i := 1) (hI := d_M_isKnown_1) (hi := rfl) (hl := rfl) ?_
      refine xr_if_eq (pc := 2) (tgt := 9) (hI := d_M_isKnown_2) (ht := by decide) (fun q9 => ?_) (fun q9 => ?_)
      · clear q9
        refine xr_iconst (pc := 9) (hI := d_M_isKnown_9) (hr := by decide) ?_
        refine xr_putf (pc := 10) (ci := 11) (k := 0) (N := 38) (v9 := 0) (T := xF11) (tF := xT11) (hI := d_M_isKnown_10) (hw := w_1587) rfl xi11 xt11 xn11 (Or.inl rfl) (Nat.le_of_ble_eq_true rfl) (Nat.le_of_ble_eq_true rfl) rfl xfit_i rfl (ft_53 F) (by decide) (fun z => z) ?_
        have F5_ : xFix (xst h 53 0 1) := F.stL xfk_53_0
        refine xr_iload_n (pc := 13) (i := 1) (hI := d_M_isKnown_13) (hi := rfl) (hl := rfl) ?_
        refine xr_ireturnT (S := []) (pc := 14) (hI := d_M_isKnown_14) (hr := rfl) (xnar_z (by decide)) ?_
        show xwp G m_M_markedIn (d + 3) 9 [xR 53, xI x1] [xI 0] _ _ _
        refine xr_if_eq (pc := 9) (tgt := 20) (hI := d_M_markedIn_9) (ht := by decide) (fun q9 => ?_) (fun q9 => ?_)
        · clear q9
          refine xr_iconst (pc := 20) (hI := d_M_markedIn_20) (hr := by decide) ?_
          refine xr_ireturn (S := []) (pc := 21) (hI := d_M_markedIn_21) (hr := rfl) ?_
          exact hyp F5_
        · exact absurd q9 (by decide)
      · exact absurd q9 (by decide)
    · replace hyp := hyp.2 q9
      have q4_ := q9
      clear q9
      refine xr_iconst (pc := 10) (hI := d_M_isBetween_10) (hr := by decide) ?_
      refine xr_goto (pc := 11) (tgt := 15) (hI := d_M_isBetween_11) (ht := by decide) ?_
      refine xr_ireturnT (S := []) (pc := 15) (hI := d_M_isBetween_15) (hr := rfl) (xnar_z (by decide)) ?_
      show xwp G m_M_isSegment (d + 2) 11 [xR 53, xI x1] [xI 1] _ _ _
      refine xr_ireturnT (S := []) (pc := 11) (hI := d_M_isSegment_11) (hr := rfl) (xnar_z (by decide)) ?_
      show xwp G m_M_markedIn (d + 3) 6 [xR 53, xI x1] [xI 1, xR 53] _ _ _
      refine xq_callV (pc := 6) (index := 407) (K := m_M_isKnown) (As := [xI 1]) (S := []) (L0 := [xR 53, xI 1]) (hI := d_M_markedIn_6) (hK := k_M_isKnown) (hlk := w_1810) (hnoM := rfl) (hS8 := Nat.le_of_ble_eq_true rfl) (ci := 11) (N := 38) (C := "BeaconIndexModel") (T := xF11) (hc := rfl) (hci := Nat.le_of_ble_eq_true rfl) (htb := (ft_53 F)) (hinst := w_1812) (hsel := sel_M_isKnown) (hlen := Nat.le_of_ble_eq_true rfl) (hst := rfl) (hL0 := rfl)  ?_
      refine xr_aload_n (pc := 0) (i := 0) (hI := d_M_isKnown_0) (hi := rfl) (hl := rfl) ?_
      refine xr_iload_n (pc := 1) (i := 1) (hI := d_M_isKnown_1) (hi := rfl) (hl := rfl) ?_
      refine xr_if_eq (pc := 2) (tgt := 9) (hI := d_M_isKnown_2) (ht := by decide) (fun q9 => ?_) (fun q9 => ?_)
      · exact absurd q9 (by decide)
      · clear q9
        refine xr_iconst (pc := 5) (hI := d_M_isKnown_5) (hr := by decide) ?_
        refine xr_goto (pc := 6) (tgt := 10) (hI := d_M_isKnown_6) (ht := by decide) ?_
        refine xr_putf (pc := 10) (ci := 11) (k := 0) (N := 38) (v9 := 0) (T := xF11) (tF := xT11) (hI := d_M_isKnown_10) (hw := w_1587) rfl xi11 xt11 xn11 (Or.inl rfl) (Nat.le_of_ble_eq_true rfl) (Nat.le_of_ble_eq_true rfl) rfl xfit_i rfl (ft_53 F) (by decide) (fun z => z) ?_
        have F6_ : xFix (xst h 53 0 0) := F.stL xfk_53_0
        refine xr_iload_n (pc := 13) (i := 1) (hI := d_M_isKnown_13) (hi := rfl) (hl := rfl) ?_
        refine xr_ireturnT (S := []) (pc := 14) (hI := d_M_isKnown_14) (hr := rfl) (xnar_z (by decide)) ?_
        show xwp G m_M_markedIn (d + 3) 9 [xR 53, xI x1] [xI 1] _ _ _
        refine xr_if_eq (pc := 9) (tgt := 20) (hI := d_M_markedIn_9) (ht := by decide) (fun q9 => ?_) (fun q9 => ?_)
        · exact absurd q9 (by decide)
        · clear q9
          refine xr_aload_n (pc := 12) (i := 0) (hI := d_M_markedIn_12) (hi := rfl) (hl := rfl) ?_
          refine xr_iload_n (pc := 13) (i := 1) (hI := d_M_markedIn_13) (hi := rfl) (hl := rfl) ?_
          exact xq_callV (pc := 14) (index := 417) (K := m_M_marks) (As := [xI x1]) (S := []) (L0 := [xR 53, xI x1, xZ, xZ]) (hI := d_M_markedIn_14) (hK := k_M_marks) (hlk := w_1834) (hnoM := rfl) (hS8 := Nat.le_of_ble_eq_true rfl) (ci := 11) (N := 38) (C := "BeaconIndexModel") (T := xF11) (hc := rfl) (hci := Nat.le_of_ble_eq_true rfl) (htb := (ft_53 F6_)) (hinst := w_1836) (hsel := sel_M_marks) (hlen := Nat.le_of_ble_eq_true rfl) (hst := rfl) (hL0 := rfl)  (xwp_mono (hyp F6_) (fun v9 h9 q9 => xr_drop (L9 := [xZ, xZ]) (xdrz (xdrz xdr0)) q9) (fun _ _ z9 => z9))
theorem d_M_markedIn_17 : decode prog_14_method_87_code 17 = .ok (.goto 4, 3) := by decide +kernel
theorem v_M_markedIn_17 {G : XG} {d : Nat} {h : XH} {Q : XV → XH → Prop} {X : Nat → XH → Prop} {s0 : Int} (F : xFix h) (hyp : (Q (xI s0) h)) : xwp G m_M_markedIn (d + 3) 17 [xZ, xZ] [xI s0] h Q X := by
  have hnx9 : (93 : Int) ≤ xnx h := F.2.2
  refine xr_okS (fun hs9 => ?_)
  have r_s0 : -2147483648 ≤ s0 ∧ s0 ≤ 2147483647 := hs9 (xI s0) (.head _)
  refine xr_goto (pc := 17) (tgt := 21) (hI := d_M_markedIn_17) (ht := by decide) ?_
  refine xr_ireturn (S := []) (pc := 21) (hI := d_M_markedIn_21) (hr := rfl) ?_
  exact hyp
abbrev m_M_levelOf : XM := (⟨"BeaconIndexModel", "levelOf", "(I)I"⟩, prog_14_method_88_code, 2, (some .int), [])
theorem d_M_levelOf_0 : decode prog_14_method_88_code 0 = .ok (.aload_n 0, 1) := by decide +kernel
theorem d_M_levelOf_1 : decode prog_14_method_88_code 1 = .ok (.aload_n 0, 1) := by decide +kernel
theorem d_M_levelOf_2 : decode prog_14_method_88_code 2 = .ok (.iload_n 1, 1) := by decide +kernel
theorem d_M_levelOf_3 : decode prog_14_method_88_code 3 = .ok (.invokevirtual 211, 3) := by decide +kernel
theorem d_M_levelOf_6 : decode prog_14_method_88_code 6 = .ok (.invokevirtual 407, 3) := by decide +kernel
theorem d_M_levelOf_9 : decode prog_14_method_88_code 9 = .ok (.ifCond .eq 11, 3) := by decide +kernel
theorem d_M_levelOf_20 : decode prog_14_method_88_code 20 = .ok (.iconst 0, 1) := by decide +kernel
theorem d_M_levelOf_21 : decode prog_14_method_88_code 21 = .ok (.ireturn, 1) := by decide +kernel
theorem d_M_levelOf_12 : decode prog_14_method_88_code 12 = .ok (.aload_n 0, 1) := by decide +kernel
theorem d_M_levelOf_13 : decode prog_14_method_88_code 13 = .ok (.iload_n 1, 1) := by decide +kernel
theorem d_M_levelOf_14 : decode prog_14_method_88_code 14 = .ok (.invokevirtual 411, 3) := by decide +kernel
theorem k_M_level : xCal m_M_level 1 := ⟨List.mem_append_right _ (List.mem_of_getElem? (i := 1821) (by decide +kernel)), w_15, Nat.le_of_ble_eq_true rfl, ⟨by decide +kernel, by decide +kernel⟩, by decide +kernel, by decide +kernel, rfl⟩
theorem w_1818 : Cond.methodLink "BeaconIndexModel" 411 ⟨"BeaconIndexModel", "level", "(I)I"⟩ ∈ lw_tbl := List.mem_append_right _ (List.mem_of_getElem? (i := 1818) (by decide +kernel))
theorem w_1820 : Cond.instanceMethod ⟨"BeaconIndexModel", "level", "(I)I"⟩ ∈ lw_tbl := List.mem_append_right _ (List.mem_of_getElem? (i := 1820) (by decide +kernel))
theorem sel_M_level : Cond.selects "BeaconIndexModel" ⟨"BeaconIndexModel", "level", "(I)I"⟩ ⟨"BeaconIndexModel", "level", "(I)I"⟩ ∈ lw_tbl := List.mem_append_left _ (by decide +kernel)
theorem v_M_levelOf_0 {G : XG} {d : Nat} {h : XH} {Q : XV → XH → Prop} {X : Nat → XH → Prop} {x1 : Int} (F : xFix h) (hyp : xiR ((xpl h 53 5) - 1) ∧ ((x1 < 0 → (xFix (xst h 53 0 1) → Q (xI 0) (xst h 53 0 1))) ∧ (¬ x1 < 0 → ((((xpl h 53 5) - 1) < x1 → (xFix (xst h 53 0 1) → Q (xI 0) (xst h 53 0 1))) ∧ (¬ ((xpl h 53 5) - 1) < x1 → (xFix (xst h 53 0 0) → xwp G m_M_level (d + 3) 0 [xR 53, xI x1, xZ] [] (xst h 53 0 0) (fun v9 h9 => xwp G m_M_levelOf (d + 4) 17 [xZ, xZ] (xpush v9 []) h9 Q X) X)))))) : xwp G m_M_levelOf (d + 4) 0 [xR 53, xI x1] [] h Q X := by
  have hnx9 : (93 : Int) ≤ xnx h := F.2.2
  refine xr_okL (fun hl9 => ?_)
  have r_x1 : -2147483648 ≤ x1 ∧ x1 ≤ 2147483647 := hl9 (xI x1) (.tail _ (.head _)) (Nat.le_of_ble_eq_true rfl)
  refine xr_aload_n (pc := 0) (i := 0) (hI := d_M_levelOf_0) (hi := rfl) (hl := rfl) ?_
  refine xr_aload_n (pc := 1) (i := 0) (hI := d_M_levelOf_1) (hi := rfl) (hl := rfl) ?_
  refine xr_iload_n (pc := 2) (i := 1) (hI := d_M_levelOf_2) (hi := rfl) (hl := rfl) ?_
  refine xq_callV (pc := 3) (index := 211) (K := m_M_isSegment) (As := [xI x1]) (S := [xR 53]) (L0 := [xR 53, xI x1]) (hI := d_M_levelOf_3) (hK := k_M_isSegment) (hlk := w_1862) (hnoM := rfl) (hS8 := Nat.le_of_ble_eq_true rfl) (ci := 11) (N := 38) (C := "BeaconIndexModel") (T := xF11) (hc := rfl) (hci := Nat.le_of_ble_eq_true rfl) (htb := (ft_53 F)) (hinst := w_1864) (hsel := sel_M_isSegment) (hlen := Nat.le_of_ble_eq_true rfl) (hst := rfl) (hL0 := rfl)  ?_
  refine xr_iload_n (pc := 0) (i := 1) (hI := d_M_isSegment_0) (hi := rfl) (hl := rfl) ?_
  refine xr_iconst (pc := 1) (hI := d_M_isSegment_1) (hr := by decide) ?_
  refine xr_aload_n (pc := 2) (i := 0) (hI := d_M_isSegment_2) (hi := rfl) (hl := rfl) ?_
  refine xg_getf (pc := 3) (ci := 11) (k := 5) (N := 38) (v9 := 0) (v := (xpl h 53 5)) (T := xF11) (hI := d_M_isSegment_3) (hw := w_1592) rfl xi11 (Or.inl rfl) (Nat.le_of_ble_eq_true rfl) (Nat.le_of_ble_eq_true rfl) rfl (ft_53 F) rfl (fun f1_ => ?_)
  replace f1_ : -2147483648 ≤ (xpl h 53 5) ∧ (xpl h 53 5) ≤ 2147483647 := f1_
  refine xr_iconst (pc := 6) (hI := d_M_isSegment_6) (hr := by decide) ?_
  obtain ⟨c9, hyp⟩ := hyp
  refine xr_isub (pc := 7) (hI := d_M_isSegment_7) (hr := c9) ?_
  refine xq_callS (pc := 8) (index := 101) (K := m_M_isBetween) (As := [xI x1, xI 0, xI ((xpl h 53 5) - 1)]) (S := []) (L0 := [xI x1, xI 0, xI ((xpl h 53 5) - 1)]) (hI := d_M_isSegment_8) (hK := k_M_isBetween) (hlk := w_1718) (hnoM := rfl) (hS8 := Nat.le_of_ble_eq_true rfl) (hstat := w_1719) (hlen := Nat.le_of_ble_eq_true rfl) (hst := rfl) (hL0 := rfl)  ?_
  refine xr_iload_n (pc := 0) (i := 0) (hI := d_M_isBetween_0) (hi := rfl) (hl := rfl) ?_
  refine xr_iload_n (pc := 1) (i := 1) (hI := d_M_isBetween_1) (hi := rfl) (hl := rfl) ?_
  refine xr_icmp_lt (pc := 2) (tgt := 14) (hI := d_M_isBetween_2) (ht := by decide) (fun q9 => ?_) (fun q9 => ?_)
  · replace hyp := hyp.1 q9
    have q2_ := q9
    clear q9
    refine xr_iconst (pc := 14) (hI := d_M_isBetween_14) (hr := by decide) ?_
    refine xr_ireturnT (S := []) (pc := 15) (hI := d_M_isBetween_15) (hr := rfl) (xnar_z (by decide)) ?_
    show xwp G m_M_isSegment (d + 3) 11 [xR 53, xI x1] [xI 0] _ _ _
    refine xr_ireturnT (S := []) (pc := 11) (hI := d_M_isSegment_11) (hr := rfl) (xnar_z (by decide)) ?_
    show xwp G m_M_levelOf (d + 4) 6 [xR 53, xI x1] [xI 0, xR 53] _ _ _
    refine xq_callV (pc := 6) (index := 407) (K := m_M_isKnown) (As := [xI 0]) (S := []) (L0 := [xR 53, xI 0]) (hI := d_M_levelOf_6) (hK := k_M_isKnown) (hlk := w_1810) (hnoM := rfl) (hS8 := Nat.le_of_ble_eq_true rfl) (ci := 11) (N := 38) (C := "BeaconIndexModel") (T := xF11) (hc := rfl) (hci := Nat.le_of_ble_eq_true rfl) (htb := (ft_53 F)) (hinst := w_1812) (hsel := sel_M_isKnown) (hlen := Nat.le_of_ble_eq_true rfl) (hst := rfl) (hL0 := rfl)  ?_
    refine xr_aload_n (pc := 0) (i := 0) (hI := d_M_isKnown_0) (hi := rfl) (hl := rfl) ?_
    refine xr_iload_n (pc := 1) (i := 1) (hI := d_M_isKnown_1) (hi := rfl) (hl := rfl) ?_
    refine xr_if_eq (pc := 2) (tgt := 9) (hI := d_M_isKnown_2) (ht := by decide) (fun q9 => ?_) (fun q9 => ?_)
    · clear q9
      refine xr_iconst (pc := 9) (hI := d_M_isKnown_9) (hr := by decide) ?_
      refine xr_putf (pc := 10) (ci := 11) (k := 0) (N := 38) (v9 := 0) (T := xF11) (tF := xT11) (hI := d_M_isKnown_10) (hw := w_1587) rfl xi11 xt11 xn11 (Or.inl rfl) (Nat.le_of_ble_eq_true rfl) (Nat.le_of_ble_eq_true rfl) rfl xfit_i rfl (ft_53 F) (by decide) (fun z => z) ?_
      have F3_ : xFix (xst h 53 0 1) := F.stL xfk_53_0
      refine xr_iload_n (pc := 13) (i := 1) (hI := d_M_isKnown_13) (hi := rfl) (hl := rfl) ?_
      refine xr_ireturnT (S := []) (pc := 14) (hI := d_M_isKnown_14) (hr := rfl) (xnar_z (by decide)) ?_
      show xwp G m_M_levelOf (d + 4) 9 [xR 53, xI x1] [xI 0] _ _ _
      refine xr_if_eq (pc := 9) (tgt := 20) (hI := d_M_levelOf_9) (ht := by decide) (fun q9 => ?_) (fun q9 => ?_)
      · clear q9
        refine xr_iconst (pc := 20) (hI := d_M_levelOf_20) (hr := by decide) ?_
        refine xr_ireturn (S := []) (pc := 21) (hI := d_M_levelOf_21) (hr := rfl) ?_
        exact hyp F3_
      · exact absurd q9 (by decide)
    · exact absurd q9 (by decide)
  · replace hyp := hyp.2 q9
    have q2_ := q9
    clear q9
    refine xr_iload_n (pc := 5) (i := 0) (hI := d_M_isBetween_5) (hi := rfl) (hl := rfl) ?_
    refine xr_iload_n (pc := 6) (i := 2) (hI := d_M_isBetween_6) (hi := rfl) (hl := rfl) ?_
    refine xr_icmp_gt (pc := 7) (tgt := 14) (hI := d_M_isBetween_7) (ht := by decide) (fun q9 => ?_) (fun q9 => ?_)
    · replace hyp := hyp.1 q9
      have q4_ := q9
      clear q9
      refine xr_iconst (pc := 14) (hI := d_M_isBetween_14) (hr := by decide) ?_
      refine xr_ireturnT (S := []) (pc := 15) (hI := d_M_isBetween_15) (hr := rfl) (xnar_z (by decide)) ?_
      show xwp G m_M_isSegment (d + 3) 11 [xR 53, xI x1] [xI 0] _ _ _
      refine xr_ireturnT (S := []) (pc := 11) (hI := d_M_isSegment_11) (hr := rfl) (xnar_z (by decide)) ?_
      show xwp G m_M_levelOf (d + 4) 6 [xR 53, xI x1] [xI 0, xR 53] _ _ _
      refine xq_callV (pc := 6) (index := 407) (K := m_M_isKnown) (As := [xI 0]) (S := []) (L0 := [xR 53, xI 0]) (hI := d_M_levelOf_6) (hK := k_M_isKnown) (hlk := w_1810) (hnoM := rfl) (hS8 := Nat.le_of_ble_eq_true rfl) (ci := 11) (N := 38) (C := "BeaconIndexModel") (T := xF11) (hc := rfl) (hci := Nat.le_of_ble_eq_true rfl) (htb := (ft_53 F)) (hinst := w_1812) (hsel := sel_M_isKnown) (hlen := Nat.le_of_ble_eq_true rfl) (hst := rfl) (hL0 := rfl)  ?_
      refine xr_aload_n (pc := 0) (i := 0) (hI := d_M_isKnown_0) (hi := rfl) (hl := rfl) ?_
      refine xr_iload_n (pc := 1) (i := 1) (hI := d_M_isKnown_1) (hi := rfl) (hl := rfl) ?_
      refine xr_if_eq (pc := 2) (tgt := 9) (hI := d_M_isKnown_2) (ht := by decide) (fun q9 => ?_) (fun q9 => ?_)
      · clear q9
        refine xr_iconst (pc := 9) (hI := d_M_isKnown_9) (hr := by decide) ?_
        refine xr_putf (pc := 10) (ci := 11) (k := 0) (N := 38) (v9 := 0) (T := xF11) (tF := xT11) (hI := d_M_isKnown_10) (hw := w_1587) rfl xi11 xt11 xn11 (Or.inl rfl) (Nat.le_of_ble_eq_true rfl) (Nat.le_of_ble_eq_true rfl) rfl xfit_i rfl (ft_53 F) (by decide) (fun z => z) ?_
        have F5_ : xFix (xst h 53 0 1) := F.stL xfk_53_0
        refine xr_iload_n (pc := 13) (i := 1) (hI := d_M_isKnown_13) (hi := rfl) (hl := rfl) ?_
        refine xr_ireturnT (S := []) (pc := 14) (hI := d_M_isKnown_14) (hr := rfl) (xnar_z (by decide)) ?_
        show xwp G m_M_levelOf (d + 4) 9 [xR 53, xI x1] [xI 0] _ _ _
        refine xr_if_eq (pc := 9) (tgt := 20) (hI := d_M_levelOf_9) (ht := by decide) (fun q9 => ?_) (fun q9 => ?_)
        · clear q9
          refine xr_iconst (pc := 20) (hI := d_M_levelOf_20) (hr := by decide) ?_
          refine xr_ireturn (S := []) (pc := 21) (hI := d_M_levelOf_21) (hr := rfl) ?_
          exact hyp F5_
        · exact absurd q9 (by decide)
      · exact absurd q9 (by decide)
    · replace hyp := hyp.2 q9
      have q4_ := q9
      clear q9
      refine xr_iconst (pc := 10) (hI := d_M_isBetween_10) (hr := by decide) ?_
      refine xr_goto (pc := 11) (tgt := 15) (hI := d_M_isBetween_11) (ht := by decide) ?_
      refine xr_ireturnT (S := []) (pc := 15) (hI := d_M_isBetween_15) (hr := rfl) (xnar_z (by decide)) ?_
      show xwp G m_M_isSegment (d + 3) 11 [xR 53, xI x1] [xI 1] _ _ _
      refine xr_ireturnT (S := []) (pc := 11) (hI := d_M_isSegment_11) (hr := rfl) (xnar_z (by decide)) ?_
      show xwp G m_M_levelOf (d + 4) 6 [xR 53, xI x1] [xI 1, xR 53] _ _ _
      refine xq_callV (pc := 6) (index := 407) (K := m_M_isKnown) (As := [xI 1]) (S := []) (L0 := [xR 53, xI 1]) (hI := d_M_levelOf_6) (hK := k_M_isKnown) (hlk := w_1810) (hnoM := rfl) (hS8 := Nat.le_of_ble_eq_true rfl) (ci := 11) (N := 38) (C := "BeaconIndexModel") (T := xF11) (hc := rfl) (hci := Nat.le_of_ble_eq_true rfl) (htb := (ft_53 F)) (hinst := w_1812) (hsel := sel_M_isKnown) (hlen := Nat.le_of_ble_eq_true rfl) (hst := rfl) (hL0 := rfl)  ?_
      refine xr_aload_n (pc := 0) (i := 0) (hI := d_M_isKnown_0) (hi := rfl) (hl := rfl) ?_
      refine xr_iload_n (pc := 1) (i := 1) (hI := d_M_isKnown_1) (hi := rfl) (hl := rfl) ?_
      refine xr_if_eq (pc := 2) (tgt := 9) (hI := d_M_isKnown_2) (ht := by decide) (fun q9 => ?_) (fun q9 => ?_)
      · exact absurd q9 (by decide)
      · clear q9
        refine xr_iconst (pc := 5) (hI := d_M_isKnown_5) (hr := by decide) ?_
        refine xr_goto (pc := 6) (tgt := 10) (hI := d_M_isKnown_6) (ht := by decide) ?_
        refine xr_putf (pc := 10) (ci := 11) (k := 0) (N := 38) (v9 := 0) (T := xF11) (tF := xT11) (hI := d_M_isKnown_10) (hw := w_1587) rfl xi11 xt11 xn11 (Or.inl rfl) (Nat.le_of_ble_eq_true rfl) (Nat.le_of_ble_eq_true rfl) rfl xfit_i rfl (ft_53 F) (by decide) (fun z => z) ?_
        have F6_ : xFix (xst h 53 0 0) := F.stL xfk_53_0
        refine xr_iload_n (pc := 13) (i := 1) (hI := d_M_isKnown_13) (hi := rfl) (hl := rfl) ?_
        refine xr_ireturnT (S := []) (pc := 14) (hI := d_M_isKnown_14) (hr := rfl) (xnar_z (by decide)) ?_
        show xwp G m_M_levelOf (d + 4) 9 [xR 53, xI x1] [xI 1] _ _ _
        refine xr_if_eq (pc := 9) (tgt := 20) (hI := d_M_levelOf_9) (ht := by decide) (fun q9 => ?_) (fun q9 => ?_)
        · exact absurd q9 (by decide)
        · clear q9
          refine xr_aload_n (pc := 12) (i := 0) (hI := d_M_levelOf_12) (hi := rfl) (hl := rfl) ?_
          refine xr_iload_n (pc := 13) (i := 1) (hI := d_M_levelOf_13) (hi := rfl) (hl := rfl) ?_
          exact xq_callV (pc := 14) (index := 411) (K := m_M_level) (As := [xI x1]) (S := []) (L0 := [xR 53, xI x1, xZ]) (hI := d_M_levelOf_14) (hK := k_M_level) (hlk := w_1818) (hnoM := rfl) (hS8 := Nat.le_of_ble_eq_true rfl) (ci := 11) (N := 38) (C := "BeaconIndexModel") (T := xF11) (hc := rfl) (hci := Nat.le_of_ble_eq_true rfl) (htb := (ft_53 F6_)) (hinst := w_1820) (hsel := sel_M_level) (hlen := Nat.le_of_ble_eq_true rfl) (hst := rfl) (hL0 := rfl)  (xwp_mono (hyp F6_) (fun v9 h9 q9 => xr_drop (L9 := [xZ, xZ]) (xdrz (xdrz xdr0)) q9) (fun _ _ z9 => z9))
theorem d_M_levelOf_17 : decode prog_14_method_88_code 17 = .ok (.goto 4, 3) := by decide +kernel
theorem v_M_levelOf_17 {G : XG} {d : Nat} {h : XH} {Q : XV → XH → Prop} {X : Nat → XH → Prop} {s0 : Int} (F : xFix h) (hyp : (Q (xI s0) h)) : xwp G m_M_levelOf (d + 4) 17 [xZ, xZ] [xI s0] h Q X := by
  have hnx9 : (93 : Int) ≤ xnx h := F.2.2
  refine xr_okS (fun hs9 => ?_)
  have r_s0 : -2147483648 ≤ s0 ∧ s0 ≤ 2147483647 := hs9 (xI s0) (.head _)
  refine xr_goto (pc := 17) (tgt := 21) (hI := d_M_levelOf_17) (ht := by decide) ?_
  refine xr_ireturn (S := []) (pc := 21) (hI := d_M_levelOf_21) (hr := rfl) ?_
  exact hyp
abbrev m_M_keyAt : XM := (⟨"BeaconIndexModel", "keyAt", "(II)I"⟩, prog_14_method_90_code, 3, (some .int), [])
theorem d_M_keyAt_0 : decode prog_14_method_90_code 0 = .ok (.aload_n 0, 1) := by decide +kernel
theorem d_M_keyAt_1 : decode prog_14_method_90_code 1 = .ok (.aload_n 0, 1) := by decide +kernel
theorem d_M_keyAt_2 : decode prog_14_method_90_code 2 = .ok (.iload_n 1, 1) := by decide +kernel
theorem d_M_keyAt_3 : decode prog_14_method_90_code 3 = .ok (.iload_n 2, 1) := by decide +kernel
theorem d_M_keyAt_4 : decode prog_14_method_90_code 4 = .ok (.invokevirtual 429, 3) := by decide +kernel
theorem k_M_isText : xCal m_M_isText 2 := ⟨List.mem_append_right _ (List.mem_of_getElem? (i := 2178) (by decide +kernel)), w_15, Nat.le_of_ble_eq_true rfl, ⟨by decide +kernel, by decide +kernel⟩, by decide +kernel, by decide +kernel, rfl⟩
theorem w_2175 : Cond.methodLink "BeaconIndexModel" 429 ⟨"BeaconIndexModel", "isText", "(II)Z"⟩ ∈ lw_tbl := List.mem_append_right _ (List.mem_of_getElem? (i := 2175) (by decide +kernel))
theorem w_2177 : Cond.instanceMethod ⟨"BeaconIndexModel", "isText", "(II)Z"⟩ ∈ lw_tbl := List.mem_append_right _ (List.mem_of_getElem? (i := 2177) (by decide +kernel))
theorem sel_M_isText : Cond.selects "BeaconIndexModel" ⟨"BeaconIndexModel", "isText", "(II)Z"⟩ ⟨"BeaconIndexModel", "isText", "(II)Z"⟩ ∈ lw_tbl := List.mem_append_left _ (by decide +kernel)
theorem v_M_keyAt_0 {G : XG} {d : Nat} {h : XH} {Q : XV → XH → Prop} {X : Nat → XH → Prop} {x1 x2 : Int} (F : xFix h) (hyp : (xwp G m_M_isText (d + 3) 0 [xR 53, xI x1, xI x2] [] h (fun v9 h9 => xwp G m_M_keyAt (d + 4) 7 [xR 53, xI x1, xI x2] (xpush v9 [xR 53]) h9 Q X) X)) : xwp G m_M_keyAt (d + 4) 0 [xR 53, xI x1, xI x2] [] h Q X := by
  have hnx9 : (93 : Int) ≤ xnx h := F.2.2
  refine xr_okL (fun hl9 => ?_)
  have r_x1 : -2147483648 ≤ x1 ∧ x1 ≤ 2147483647 := hl9 (xI x1) (.tail _ (.head _)) (Nat.le_of_ble_eq_true rfl)
  have r_x2 : -2147483648 ≤ x2 ∧ x2 ≤ 2147483647 := hl9 (xI x2) (.tail _ (.tail _ (.head _))) (Nat.le_of_ble_eq_true rfl)
  refine xr_aload_n (pc := 0) (i := 0) (hI := d_M_keyAt_0) (hi := rfl) (hl := rfl) ?_
  refine xr_aload_n (pc := 1) (i := 0) (hI := d_M_keyAt_1) (hi := rfl) (hl := rfl) ?_
  refine xr_iload_n (pc := 2) (i := 1) (hI := d_M_keyAt_2) (hi := rfl) (hl := rfl) ?_
  refine xr_iload_n (pc := 3) (i := 2) (hI := d_M_keyAt_3) (hi := rfl) (hl := rfl) ?_
  exact xq_callV (pc := 4) (index := 429) (K := m_M_isText) (As := [xI x1, xI x2]) (S := [xR 53]) (L0 := [xR 53, xI x1, xI x2]) (hI := d_M_keyAt_4) (hK := k_M_isText) (hlk := w_2175) (hnoM := rfl) (hS8 := Nat.le_of_ble_eq_true rfl) (ci := 11) (N := 38) (C := "BeaconIndexModel") (T := xF11) (hc := rfl) (hci := Nat.le_of_ble_eq_true rfl) (htb := (ft_53 F)) (hinst := w_2177) (hsel := sel_M_isText) (hlen := Nat.le_of_ble_eq_true rfl) (hst := rfl) (hL0 := rfl)  hyp
theorem d_M_keyAt_7 : decode prog_14_method_90_code 7 = .ok (.invokevirtual 407, 3) := by decide +kernel
theorem d_M_keyAt_10 : decode prog_14_method_90_code 10 = .ok (.ifCond .eq 17, 3) := by decide +kernel
theorem d_M_keyAt_27 : decode prog_14_method_90_code 27 = .ok (.iconst 0, 1) := by decide +kernel
theorem d_M_keyAt_28 : decode prog_14_method_90_code 28 = .ok (.ireturn, 1) := by decide +kernel
theorem d_M_keyAt_13 : decode prog_14_method_90_code 13 = .ok (.aload_n 0, 1) := by decide +kernel
theorem d_M_keyAt_14 : decode prog_14_method_90_code 14 = .ok (.getfield 19, 3) := by decide +kernel
theorem d_M_keyAt_17 : decode prog_14_method_90_code 17 = .ok (.aload_n 0, 1) := by decide +kernel
theorem d_M_keyAt_18 : decode prog_14_method_90_code 18 = .ok (.iload_n 1, 1) := by decide +kernel
theorem d_M_keyAt_19 : decode prog_14_method_90_code 19 = .ok (.iload_n 2, 1) := by decide +kernel
theorem d_M_keyAt_20 : decode prog_14_method_90_code 20 = .ok (.invokevirtual 432, 3) := by decide +kernel
theorem k_M_at : xCal m_M_at 2 := ⟨List.mem_append_right _ (List.mem_of_getElem? (i := 2182) (by decide +kernel)), w_15, Nat.le_of_ble_eq_true rfl, ⟨by decide +kernel, by decide +kernel⟩, by decide +kernel, by decide +kernel, rfl⟩
theorem w_2179 : Cond.methodLink "BeaconIndexModel" 432 ⟨"BeaconIndexModel", "at", "(II)I"⟩ ∈ lw_tbl := List.mem_append_right _ (List.mem_of_getElem? (i := 2179) (by decide +kernel))
theorem w_2181 : Cond.instanceMethod ⟨"BeaconIndexModel", "at", "(II)I"⟩ ∈ lw_tbl := List.mem_append_right _ (List.mem_of_getElem? (i := 2181) (by decide +kernel))
theorem sel_M_at : Cond.selects "BeaconIndexModel" ⟨"BeaconIndexModel", "at", "(II)I"⟩ ⟨"BeaconIndexModel", "at", "(II)I"⟩ ∈ lw_tbl := List.mem_append_left _ (by decide +kernel)
theorem v_M_keyAt_7 {G : XG} {d : Nat} {h : XH} {Q : XV → XH → Prop} {X : Nat → XH → Prop} {x1 x2 s0 s1 : Int} (F : xFix h) (hyp : xtg h s1 = 11 ∧ ((s0 = 0 → 0 ≤ s1 ∧ (xFix (xst h s1 0 1) → Q (xI 0) (xst h s1 0 1))) ∧ (¬ s0 = 0 → 0 ≤ s1 ∧ (0 ≤ s0 ∧ s0 ≤ 1) ∧ ((s0 = 0 → (xFix (xst h s1 0 0) → Q (xI 0) (xst h s1 0 0))) ∧ (¬ s0 = 0 → (xFix (xst h s1 0 0) → xwp G m_M_at (d + 3) 0 [xR 53, xI x1, xI x2] [] (xst h s1 0 0) (fun v9 h9 => xwp G m_M_keyAt (d + 4) 23 [xZ, xZ, xZ] (xpush v9 [xR 57]) h9 Q X) X)))))) : xwp G m_M_keyAt (d + 4) 7 [xR 53, xI x1, xI x2] [xI s0, xR s1] h Q X := by
  have hnx9 : (93 : Int) ≤ xnx h := F.2.2
  refine xr_okL (fun hl9 => ?_)
  have r_x1 : -2147483648 ≤ x1 ∧ x1 ≤ 2147483647 := hl9 (xI x1) (.tail _ (.head _)) (Nat.le_of_ble_eq_true rfl)
  have r_x2 : -2147483648 ≤ x2 ∧ x2 ≤ 2147483647 := hl9 (xI x2) (.tail _ (.tail _ (.head _))) (Nat.le_of_ble_eq_true rfl)
  refine xr_okS (fun hs9 => ?_)
  have r_s0 : -2147483648 ≤ s0 ∧ s0 ≤ 2147483647 := hs9 (xI s0) (.head _)
  obtain ⟨c9, hyp⟩ := hyp
  have t1_ := c9
  clear c9
  refine xq_callV (pc := 7) (index := 407) (K := m_M_isKnown) (As := [xI s0]) (S := []) (L0 := [xR s1, xI s0]) (hI := d_M_keyAt_7) (hK := k_M_isKnown) (hlk := w_1810) (hnoM := rfl) (hS8 := Nat.le_of_ble_eq_true rfl) (ci := 11) (N := 38) (C := "BeaconIndexModel") (T := xF11) (hc := rfl) (hci := Nat.le_of_ble_eq_true rfl) (htb := t1_) (hinst := w_1812) (hsel := sel_M_isKnown) (hlen := Nat.le_of_ble_eq_true rfl) (hst := rfl) (hL0 := rfl)  ?_
  refine xr_aload_n (pc := 0) (i := 0) (hI := d_M_isKnown_0) (hi := rfl) (hl := rfl) ?_
  refine xr_iload_n (pc := 1) (i := 1) (hI := d_M_isKnown_1) (hi := rfl) (hl := rfl) ?_
  refine xr_if_eq (pc := 2) (tgt := 9) (hI := d_M_isKnown_2) (ht := by decide) (fun q9 => ?_) (fun q9 => ?_)
  · replace hyp := hyp.1 q9
    have q2_ := q9
    clear q9
    refine xr_iconst (pc := 9) (hI := d_M_isKnown_9) (hr := by decide) ?_
    obtain ⟨c3_, hyp⟩ := hyp
    refine xr_putf (pc := 10) (ci := 11) (k := 0) (N := 38) (v9 := 0) (T := xF11) (tF := xT11) (hI := d_M_isKnown_10) (hw := w_1587) rfl xi11 xt11 xn11 (Or.inl rfl) (Nat.le_of_ble_eq_true rfl) (Nat.le_of_ble_eq_true rfl) rfl xfit_i rfl t1_ c3_ (fun z => z) ?_
    have F4_ : xFix (xst h s1 0 1) := F.stT (t := 11) c3_ t1_ xtk_11_0
    refine xr_iload_n (pc := 13) (i := 1) (hI := d_M_isKnown_13) (hi := rfl) (hl := rfl) ?_
    refine xr_ireturnT (S := []) (pc := 14) (hI := d_M_isKnown_14) (hr := rfl) (xnar_z ⟨(by clear hyp; omega), (by clear hyp; omega)⟩) ?_
    show xwp G m_M_keyAt (d + 4) 10 [xR 53, xI x1, xI x2] [xI s0] _ _ _
    refine xr_if_eq (pc := 10) (tgt := 27) (hI := d_M_keyAt_10) (ht := by decide) (fun q9 => ?_) (fun q9 => ?_)
    · clear q9
      refine xr_iconst (pc := 27) (hI := d_M_keyAt_27) (hr := by decide) ?_
      refine xr_ireturn (S := []) (pc := 28) (hI := d_M_keyAt_28) (hr := rfl) ?_
      exact hyp F4_
    · exact absurd q9 (by clear hyp; omega)
  · replace hyp := hyp.2 q9
    have q2_ := q9
    clear q9
    refine xr_iconst (pc := 5) (hI := d_M_isKnown_5) (hr := by decide) ?_
    refine xr_goto (pc := 6) (tgt := 10) (hI := d_M_isKnown_6) (ht := by decide) ?_
    obtain ⟨c5_, hyp⟩ := hyp
    refine xr_putf (pc := 10) (ci := 11) (k := 0) (N := 38) (v9 := 0) (T := xF11) (tF := xT11) (hI := d_M_isKnown_10) (hw := w_1587) rfl xi11 xt11 xn11 (Or.inl rfl) (Nat.le_of_ble_eq_true rfl) (Nat.le_of_ble_eq_true rfl) rfl xfit_i rfl t1_ c5_ (fun z => z) ?_
    have F6_ : xFix (xst h s1 0 0) := F.stT (t := 11) c5_ t1_ xtk_11_0
    refine xr_iload_n (pc := 13) (i := 1) (hI := d_M_isKnown_13) (hi := rfl) (hl := rfl) ?_
    obtain ⟨c9, hyp⟩ := hyp
    refine xr_ireturnT (S := []) (pc := 14) (hI := d_M_isKnown_14) (hr := rfl) (xnar_z c9) ?_
    show xwp G m_M_keyAt (d + 4) 10 [xR 53, xI x1, xI x2] [xI s0] _ _ _
    refine xr_if_eq (pc := 10) (tgt := 27) (hI := d_M_keyAt_10) (ht := by decide) (fun q9 => ?_) (fun q9 => ?_)
    · replace hyp := hyp.1 q9
      have q7_ := q9
      clear q9
      refine xr_iconst (pc := 27) (hI := d_M_keyAt_27) (hr := by decide) ?_
      refine xr_ireturn (S := []) (pc := 28) (hI := d_M_keyAt_28) (hr := rfl) ?_
      exact hyp F6_
    · replace hyp := hyp.2 q9
      have q7_ := q9
      clear q9
      refine xr_aload_n (pc := 13) (i := 0) (hI := d_M_keyAt_13) (hi := rfl) (hl := rfl) ?_
      refine xg_getf (pc := 14) (ci := 11) (k := 8) (N := 38) (v9 := 2) (v := 57) (T := xF11) (hI := d_M_keyAt_14) (hw := w_1595) rfl xi11 (Or.inl rfl) (Nat.le_of_ble_eq_true rfl) (Nat.le_of_ble_eq_true rfl) rfl (ft_53 F6_) (fp_53_8 F6_) (fun f8_ => ?_)
      clear f8_
      refine xr_aload_n (pc := 17) (i := 0) (hI := d_M_keyAt_17) (hi := rfl) (hl := rfl) ?_
      refine xr_iload_n (pc := 18) (i := 1) (hI := d_M_keyAt_18) (hi := rfl) (hl := rfl) ?_
      refine xr_iload_n (pc := 19) (i := 2) (hI := d_M_keyAt_19) (hi := rfl) (hl := rfl) ?_
      exact xq_callV (pc := 20) (index := 432) (K := m_M_at) (As := [xI x1, xI x2]) (S := [xR 57]) (L0 := [xR 53, xI x1, xI x2]) (hI := d_M_keyAt_20) (hK := k_M_at) (hlk := w_2179) (hnoM := rfl) (hS8 := Nat.le_of_ble_eq_true rfl) (ci := 11) (N := 38) (C := "BeaconIndexModel") (T := xF11) (hc := rfl) (hci := Nat.le_of_ble_eq_true rfl) (htb := (ft_53 F6_)) (hinst := w_2181) (hsel := sel_M_at) (hlen := Nat.le_of_ble_eq_true rfl) (hst := rfl) (hL0 := rfl)  (xwp_mono (hyp F6_) (fun v9 h9 q9 => xr_drop (L9 := [xZ, xZ, xZ]) (xdrz (xdrz (xdrz xdr0))) q9) (fun _ _ z9 => z9))
theorem d_M_keyAt_23 : decode prog_14_method_90_code 23 = .ok (.iaload, 1) := by decide +kernel
theorem d_M_keyAt_24 : decode prog_14_method_90_code 24 = .ok (.goto 4, 3) := by decide +kernel
theorem v_M_keyAt_23 {G : XG} {d : Nat} {h : XH} {Q : XV → XH → Prop} {X : Nat → XH → Prop} {s0 s1 : Int} (F : xFix h) (hyp : xtg h s1 = 100 ∧ 0 ≤ s0 ∧ s0 < (xln h s1) ∧ (Q (xI (xpl h s1 s0)) h)) : xwp G m_M_keyAt (d + 4) 23 [xZ, xZ, xZ] [xI s0, xR s1] h Q X := by
  have hnx9 : (93 : Int) ≤ xnx h := F.2.2
  refine xr_okS (fun hs9 => ?_)
  have r_s0 : -2147483648 ≤ s0 ∧ s0 ≤ 2147483647 := hs9 (xI s0) (.head _)
  obtain ⟨c9, hyp⟩ := hyp
  have t1_ := c9
  clear c9
  obtain ⟨c2_, hyp⟩ := hyp
  obtain ⟨c3_, hyp⟩ := hyp
  refine xg_iaload (pc := 23) (v := (xpl h s1 s0)) (hI := d_M_keyAt_23) t1_ c2_ (xlt_of rfl c3_) rfl (fun f4_ => ?_)
  replace f4_ : -2147483648 ≤ (xpl h s1 s0) ∧ (xpl h s1 s0) ≤ 2147483647 := f4_
  refine xr_goto (pc := 24) (tgt := 28) (hI := d_M_keyAt_24) (ht := by decide) ?_
  refine xr_ireturn (S := []) (pc := 28) (hI := d_M_keyAt_28) (hr := rfl) ?_
  exact hyp
abbrev m_M_isMarked : XM := (⟨"BeaconIndexModel", "isMarked", "(II)Z"⟩, prog_14_method_91_code, 3, (some .boolean), [])
theorem d_M_isMarked_0 : decode prog_14_method_91_code 0 = .ok (.aload_n 0, 1) := by decide +kernel
theorem d_M_isMarked_1 : decode prog_14_method_91_code 1 = .ok (.aload_n 0, 1) := by decide +kernel
theorem d_M_isMarked_2 : decode prog_14_method_91_code 2 = .ok (.iload_n 1, 1) := by decide +kernel
theorem d_M_isMarked_3 : decode prog_14_method_91_code 3 = .ok (.iload_n 2, 1) := by decide +kernel
theorem d_M_isMarked_4 : decode prog_14_method_91_code 4 = .ok (.invokevirtual 429, 3) := by decide +kernel
theorem v_M_isMarked_0 {G : XG} {d : Nat} {h : XH} {Q : XV → XH → Prop} {X : Nat → XH → Prop} {x1 x2 : Int} (F : xFix h) (hyp : (xwp G m_M_isText (d + 3) 0 [xR 53, xI x1, xI x2] [] h (fun v9 h9 => xwp G m_M_isMarked (d + 4) 7 [xR 53, xI x1, xI x2] (xpush v9 [xR 53]) h9 Q X) X)) : xwp G m_M_isMarked (d + 4) 0 [xR 53, xI x1, xI x2] [] h Q X := by
  have hnx9 : (93 : Int) ≤ xnx h := F.2.2
  refine xr_okL (fun hl9 => ?_)
  have r_x1 : -2147483648 ≤ x1 ∧ x1 ≤ 2147483647 := hl9 (xI x1) (.tail _ (.head _)) (Nat.le_of_ble_eq_true rfl)
  have r_x2 : -2147483648 ≤ x2 ∧ x2 ≤ 2147483647 := hl9 (xI x2) (.tail _ (.tail _ (.head _))) (Nat.le_of_ble_eq_true rfl)
  refine xr_aload_n (pc := 0) (i := 0) (hI := d_M_isMarked_0) (hi := rfl) (hl := rfl) ?_
  refine xr_aload_n (pc := 1) (i := 0) (hI := d_M_isMarked_1) (hi := rfl) (hl := rfl) ?_
  refine xr_iload_n (pc := 2) (i := 1) (hI := d_M_isMarked_2) (hi := rfl) (hl := rfl) ?_
  refine xr_iload_n (pc := 3) (i := 2) (hI := d_M_isMarked_3) (hi := rfl) (hl := rfl) ?_
  exact xq_callV (pc := 4) (index := 429) (K := m_M_isText) (As := [xI x1, xI x2]) (S := [xR 53]) (L0 := [xR 53, xI x1, xI x2]) (hI := d_M_isMarked_4) (hK := k_M_isText) (hlk := w_2175) (hnoM := rfl) (hS8 := Nat.le_of_ble_eq_true rfl) (ci := 11) (N := 38) (C := "BeaconIndexModel") (T := xF11) (hc := rfl) (hci := Nat.le_of_ble_eq_true rfl) (htb := (ft_53 F)) (hinst := w_2177) (hsel := sel_M_isText) (hlen := Nat.le_of_ble_eq_true rfl) (hst := rfl) (hL0 := rfl)  hyp
theorem d_M_isMarked_7 : decode prog_14_method_91_code 7 = .ok (.invokevirtual 407, 3) := by decide +kernel
theorem d_M_isMarked_10 : decode prog_14_method_91_code 10 = .ok (.ifCond .eq 21, 3) := by decide +kernel
theorem d_M_isMarked_31 : decode prog_14_method_91_code 31 = .ok (.iconst 0, 1) := by decide +kernel
theorem d_M_isMarked_32 : decode prog_14_method_91_code 32 = .ok (.ireturn, 1) := by decide +kernel
theorem d_M_isMarked_13 : decode prog_14_method_91_code 13 = .ok (.aload_n 0, 1) := by decide +kernel
theorem d_M_isMarked_14 : decode prog_14_method_91_code 14 = .ok (.getfield 28, 3) := by decide +kernel
theorem d_M_isMarked_17 : decode prog_14_method_91_code 17 = .ok (.aload_n 0, 1) := by decide +kernel
theorem d_M_isMarked_18 : decode prog_14_method_91_code 18 = .ok (.iload_n 1, 1) := by decide +kernel
theorem d_M_isMarked_19 : decode prog_14_method_91_code 19 = .ok (.iload_n 2, 1) := by decide +kernel
theorem d_M_isMarked_20 : decode prog_14_method_91_code 20 = .ok (.invokevirtual 432, 3) := by decide +kernel
theorem v_M_isMarked_7 {G : XG} {d : Nat} {h : XH} {Q : XV → XH → Prop} {X : Nat → XH → Prop} {x1 x2 s0 s1 : Int} (F : xFix h) (hyp : xtg h s1 = 11 ∧ ((s0 = 0 → 0 ≤ s1 ∧ (xFix (xst h s1 0 1) → Q (xI 0) (xst h s1 0 1))) ∧ (¬ s0 = 0 → 0 ≤ s1 ∧ (0 ≤ s0 ∧ s0 ≤ 1) ∧ ((s0 = 0 → (xFix (xst h s1 0 0) → Q (xI 0) (xst h s1 0 0))) ∧ (¬ s0 = 0 → (xFix (xst h s1 0 0) → xwp G m_M_at (d + 3) 0 [xR 53, xI x1, xI x2] [] (xst h s1 0 0) (fun v9 h9 => xwp G m_M_isMarked (d + 4) 23 [xZ, xZ, xZ] (xpush v9 [xR 60]) h9 Q X) X)))))) : xwp G m_M_isMarked (d + 4) 7 [xR 53, xI x1, xI x2] [xI s0, xR s1] h Q X := by
  have hnx9 : (93 : Int) ≤ xnx h := F.2.2
  refine xr_okL (fun hl9 => ?_)
  have r_x1 : -2147483648 ≤ x1 ∧ x1 ≤ 2147483647 := hl9 (xI x1) (.tail _ (.head _)) (Nat.le_of_ble_eq_true rfl)
  have r_x2 : -2147483648 ≤ x2 ∧ x2 ≤ 2147483647 := hl9 (xI x2) (.tail _ (.tail _ (.head _))) (Nat.le_of_ble_eq_true rfl)
  refine xr_okS (fun hs9 => ?_)
  have r_s0 : -2147483648 ≤ s0 ∧ s0 ≤ 2147483647 := hs9 (xI s0) (.head _)
  obtain ⟨c9, hyp⟩ := hyp
  have t1_ := c9
  clear c9
  refine xq_callV (pc := 7) (index := 407) (K := m_M_isKnown) (As := [xI s0]) (S := []) (L0 := [xR s1, xI s0]) (hI := d_M_isMarked_7) (hK := k_M_isKnown) (hlk := w_1810) (hnoM := rfl) (hS8 := Nat.le_of_ble_eq_true rfl) (ci := 11) (N := 38) (C := "BeaconIndexModel") (T := xF11) (hc := rfl) (hci := Nat.le_of_ble_eq_true rfl) (htb := t1_) (hinst := w_1812) (hsel := sel_M_isKnown) (hlen := Nat.le_of_ble_eq_true rfl) (hst := rfl) (hL0 := rfl)  ?_
  refine xr_aload_n (pc := 0) (i := 0) (hI := d_M_isKnown_0) (hi := rfl) (hl := rfl) ?_
  refine xr_iload_n (pc := 1) (i := 1) (hI := d_M_isKnown_1) (hi := rfl) (hl := rfl) ?_
  refine xr_if_eq (pc := 2) (tgt := 9) (hI := d_M_isKnown_2) (ht := by decide) (fun q9 => ?_) (fun q9 => ?_)
  · replace hyp := hyp.1 q9
    have q2_ := q9
    clear q9
    refine xr_iconst (pc := 9) (hI := d_M_isKnown_9) (hr := by decide) ?_
    obtain ⟨c3_, hyp⟩ := hyp
    refine xr_putf (pc := 10) (ci := 11) (k := 0) (N := 38) (v9 := 0) (T := xF11) (tF := xT11) (hI := d_M_isKnown_10) (hw := w_1587) rfl xi11 xt11 xn11 (Or.inl rfl) (Nat.le_of_ble_eq_true rfl) (Nat.le_of_ble_eq_true rfl) rfl xfit_i rfl t1_ c3_ (fun z => z) ?_
    have F4_ : xFix (xst h s1 0 1) := F.stT (t := 11) c3_ t1_ xtk_11_0
    refine xr_iload_n (pc := 13) (i := 1) (hI := d_M_isKnown_13) (hi := rfl) (hl := rfl) ?_
    refine xr_ireturnT (S := []) (pc := 14) (hI := d_M_isKnown_14) (hr := rfl) (xnar_z ⟨(by clear hyp; omega), (by clear hyp; omega)⟩) ?_
    show xwp G m_M_isMarked (d + 4) 10 [xR 53, xI x1, xI x2] [xI s0] _ _ _
    refine xr_if_eq (pc := 10) (tgt := 31) (hI := d_M_isMarked_10) (ht := by decide) (fun q9 => ?_) (fun q9 => ?_)
    · clear q9
      refine xr_iconst (pc := 31) (hI := d_M_isMarked_31) (hr := by decide) ?_
      refine xr_ireturnT (S := []) (pc := 32) (hI := d_M_isMarked_32) (hr := rfl) (xnar_z (by decide)) ?_
      exact hyp F4_
    · exact absurd q9 (by clear hyp; omega)
  · replace hyp := hyp.2 q9
    have q2_ := q9
    clear q9
    refine xr_iconst (pc := 5) (hI := d_M_isKnown_5) (hr := by decide) ?_
    refine xr_goto (pc := 6) (tgt := 10) (hI := d_M_isKnown_6) (ht := by decide) ?_
    obtain ⟨c5_, hyp⟩ := hyp
    refine xr_putf (pc := 10) (ci := 11) (k := 0) (N := 38) (v9 := 0) (T := xF11) (tF := xT11) (hI := d_M_isKnown_10) (hw := w_1587) rfl xi11 xt11 xn11 (Or.inl rfl) (Nat.le_of_ble_eq_true rfl) (Nat.le_of_ble_eq_true rfl) rfl xfit_i rfl t1_ c5_ (fun z => z) ?_
    have F6_ : xFix (xst h s1 0 0) := F.stT (t := 11) c5_ t1_ xtk_11_0
    refine xr_iload_n (pc := 13) (i := 1) (hI := d_M_isKnown_13) (hi := rfl) (hl := rfl) ?_
    obtain ⟨c9, hyp⟩ := hyp
    refine xr_ireturnT (S := []) (pc := 14) (hI := d_M_isKnown_14) (hr := rfl) (xnar_z c9) ?_
    show xwp G m_M_isMarked (d + 4) 10 [xR 53, xI x1, xI x2] [xI s0] _ _ _
    refine xr_if_eq (pc := 10) (tgt := 31) (hI := d_M_isMarked_10) (ht := by decide) (fun q9 => ?_) (fun q9 => ?_)
    · replace hyp := hyp.1 q9
      have q7_ := q9
      clear q9
      refine xr_iconst (pc := 31) (hI := d_M_isMarked_31) (hr := by decide) ?_
      refine xr_ireturnT (S := []) (pc := 32) (hI := d_M_isMarked_32) (hr := rfl) (xnar_z (by decide)) ?_
      exact hyp F6_
    · replace hyp := hyp.2 q9
      have q7_ := q9
      clear q9
      refine xr_aload_n (pc := 13) (i := 0) (hI := d_M_isMarked_13) (hi := rfl) (hl := rfl) ?_
      refine xg_getf (pc := 14) (ci := 11) (k := 11) (N := 38) (v9 := 2) (v := 60) (T := xF11) (hI := d_M_isMarked_14) (hw := w_1598) rfl xi11 (Or.inl rfl) (Nat.le_of_ble_eq_true rfl) (Nat.le_of_ble_eq_true rfl) rfl (ft_53 F6_) (fp_53_11 F6_) (fun f8_ => ?_)
      clear f8_
      refine xr_aload_n (pc := 17) (i := 0) (hI := d_M_isMarked_17) (hi := rfl) (hl := rfl) ?_
      refine xr_iload_n (pc := 18) (i := 1) (hI := d_M_isMarked_18) (hi := rfl) (hl := rfl) ?_
      refine xr_iload_n (pc := 19) (i := 2) (hI := d_M_isMarked_19) (hi := rfl) (hl := rfl) ?_
      exact xq_callV (pc := 20) (index := 432) (K := m_M_at) (As := [xI x1, xI x2]) (S := [xR 60]) (L0 := [xR 53, xI x1, xI x2]) (hI := d_M_isMarked_20) (hK := k_M_at) (hlk := w_2179) (hnoM := rfl) (hS8 := Nat.le_of_ble_eq_true rfl) (ci := 11) (N := 38) (C := "BeaconIndexModel") (T := xF11) (hc := rfl) (hci := Nat.le_of_ble_eq_true rfl) (htb := (ft_53 F6_)) (hinst := w_2181) (hsel := sel_M_at) (hlen := Nat.le_of_ble_eq_true rfl) (hst := rfl) (hL0 := rfl)  (xwp_mono (hyp F6_) (fun v9 h9 q9 => xr_drop (L9 := [xZ, xZ, xZ]) (xdrz (xdrz (xdrz xdr0))) q9) (fun _ _ z9 => z9))
theorem d_M_isMarked_23 : decode prog_14_method_91_code 23 = .ok (.baload, 1) := by decide +kernel
theorem d_M_isMarked_24 : decode prog_14_method_91_code 24 = .ok (.ifCond .eq 7, 3) := by decide +kernel
theorem d_M_isMarked_27 : decode prog_14_method_91_code 27 = .ok (.iconst 1, 1) := by decide +kernel
theorem d_M_isMarked_28 : decode prog_14_method_91_code 28 = .ok (.goto 4, 3) := by decide +kernel
theorem v_M_isMarked_23 {G : XG} {d : Nat} {h : XH} {Q : XV → XH → Prop} {X : Nat → XH → Prop} {s0 s1 : Int} (F : xFix h) (hyp : xtg h s1 = 102 ∧ 0 ≤ s0 ∧ s0 < (xln h s1) ∧ (((xpl h s1 s0) = 0 → (Q (xI 0) h)) ∧ (¬ (xpl h s1 s0) = 0 → (Q (xI 1) h)))) : xwp G m_M_isMarked (d + 4) 23 [xZ, xZ, xZ] [xI s0, xR s1] h Q X := by
  have hnx9 : (93 : Int) ≤ xnx h := F.2.2
  refine xr_okS (fun hs9 => ?_)
  have r_s0 : -2147483648 ≤ s0 ∧ s0 ≤ 2147483647 := hs9 (xI s0) (.head _)
  obtain ⟨c9, hyp⟩ := hyp
  have t1_ := c9
  clear c9
  obtain ⟨c2_, hyp⟩ := hyp
  obtain ⟨c3_, hyp⟩ := hyp
  refine xg_baloadZ (pc := 23) (v := (xpl h s1 s0)) (hI := d_M_isMarked_23) t1_ c2_ (xlt_of rfl c3_) rfl (fun f4_ => ?_)
  replace f4_ : 0 ≤ (xpl h s1 s0) ∧ (xpl h s1 s0) ≤ 1 := f4_
  refine xr_if_eq (pc := 24) (tgt := 31) (hI := d_M_isMarked_24) (ht := by decide) (fun q9 => ?_) (fun q9 => ?_)
  · replace hyp := hyp.1 q9
    have q5_ := q9
    clear q9
    refine xr_iconst (pc := 31) (hI := d_M_isMarked_31) (hr := by decide) ?_
    refine xr_ireturnT (S := []) (pc := 32) (hI := d_M_isMarked_32) (hr := rfl) (xnar_z (by decide)) ?_
    exact hyp
  · replace hyp := hyp.2 q9
    have q5_ := q9
    clear q9
    refine xr_iconst (pc := 27) (hI := d_M_isMarked_27) (hr := by decide) ?_
    refine xr_goto (pc := 28) (tgt := 32) (hI := d_M_isMarked_28) (ht := by decide) ?_
    refine xr_ireturnT (S := []) (pc := 32) (hI := d_M_isMarked_32) (hr := rfl) (xnar_z (by decide)) ?_
    exact hyp
abbrev m_M_lengthOf_III : XM := (⟨"BeaconIndexModel", "lengthOf", "(III)I"⟩, prog_14_method_92_code, 4, (some .int), [])
theorem d_M_lengthOf_III_0 : decode prog_14_method_92_code 0 = .ok (.aload_n 0, 1) := by decide +kernel
theorem d_M_lengthOf_III_1 : decode prog_14_method_92_code 1 = .ok (.aload_n 0, 1) := by decide +kernel
theorem d_M_lengthOf_III_2 : decode prog_14_method_92_code 2 = .ok (.iload_n 1, 1) := by decide +kernel
theorem d_M_lengthOf_III_3 : decode prog_14_method_92_code 3 = .ok (.iload_n 2, 1) := by decide +kernel
theorem d_M_lengthOf_III_4 : decode prog_14_method_92_code 4 = .ok (.invokevirtual 429, 3) := by decide +kernel
theorem v_M_lengthOf_III_0 {G : XG} {d : Nat} {h : XH} {Q : XV → XH → Prop} {X : Nat → XH → Prop} {x1 x2 x3 : Int} (F : xFix h) (hyp : (xwp G m_M_isText (d + 3) 0 [xR 53, xI x1, xI x2] [] h (fun v9 h9 => xwp G m_M_lengthOf_III (d + 4) 7 [xR 53, xI x1, xI x2, xI x3] (xpush v9 [xR 53]) h9 Q X) X)) : xwp G m_M_lengthOf_III (d + 4) 0 [xR 53, xI x1, xI x2, xI x3] [] h Q X := by
  have hnx9 : (93 : Int) ≤ xnx h := F.2.2
  refine xr_okL (fun hl9 => ?_)
  have r_x1 : -2147483648 ≤ x1 ∧ x1 ≤ 2147483647 := hl9 (xI x1) (.tail _ (.head _)) (Nat.le_of_ble_eq_true rfl)
  have r_x2 : -2147483648 ≤ x2 ∧ x2 ≤ 2147483647 := hl9 (xI x2) (.tail _ (.tail _ (.head _))) (Nat.le_of_ble_eq_true rfl)
  have r_x3 : -2147483648 ≤ x3 ∧ x3 ≤ 2147483647 := hl9 (xI x3) (.tail _ (.tail _ (.tail _ (.head _)))) (Nat.le_of_ble_eq_true rfl)
  refine xr_aload_n (pc := 0) (i := 0) (hI := d_M_lengthOf_III_0) (hi := rfl) (hl := rfl) ?_
  refine xr_aload_n (pc := 1) (i := 0) (hI := d_M_lengthOf_III_1) (hi := rfl) (hl := rfl) ?_
  refine xr_iload_n (pc := 2) (i := 1) (hI := d_M_lengthOf_III_2) (hi := rfl) (hl := rfl) ?_
  refine xr_iload_n (pc := 3) (i := 2) (hI := d_M_lengthOf_III_3) (hi := rfl) (hl := rfl) ?_
  exact xq_callV (pc := 4) (index := 429) (K := m_M_isText) (As := [xI x1, xI x2]) (S := [xR 53]) (L0 := [xR 53, xI x1, xI x2]) (hI := d_M_lengthOf_III_4) (hK := k_M_isText) (hlk := w_2175) (hnoM := rfl) (hS8 := Nat.le_of_ble_eq_true rfl) (ci := 11) (N := 38) (C := "BeaconIndexModel") (T := xF11) (hc := rfl) (hci := Nat.le_of_ble_eq_true rfl) (htb := (ft_53 F)) (hinst := w_2177) (hsel := sel_M_isText) (hlen := Nat.le_of_ble_eq_true rfl) (hst := rfl) (hL0 := rfl)  hyp
theorem d_M_lengthOf_III_7 : decode prog_14_method_92_code 7 = .ok (.ifCond .eq 14, 3) := by decide +kernel
theorem d_M_lengthOf_III_10 : decode prog_14_method_92_code 10 = .ok (.iload_n 3, 1) := by decide +kernel
theorem d_M_lengthOf_III_11 : decode prog_14_method_92_code 11 = .ok (.invokestatic 423, 3) := by decide +kernel
abbrev m_M_isField : XM := (⟨"BeaconIndexModel", "isField", "(I)Z"⟩, prog_14_method_8_code, 1, (some .boolean), [])
theorem k_M_isField : xCal m_M_isField 1 := ⟨List.mem_append_right _ (List.mem_of_getElem? (i := 1880) (by decide +kernel)), w_15, Nat.le_of_ble_eq_true rfl, ⟨by decide +kernel, by decide +kernel⟩, by decide +kernel, by decide +kernel, rfl⟩
theorem w_1878 : Cond.methodLink "BeaconIndexModel" 423 ⟨"BeaconIndexModel", "isField", "(I)Z"⟩ ∈ lw_tbl := List.mem_append_right _ (List.mem_of_getElem? (i := 1878) (by decide +kernel))
theorem w_1879 : Cond.static ⟨"BeaconIndexModel", "isField", "(I)Z"⟩ ∈ lw_tbl := List.mem_append_right _ (List.mem_of_getElem? (i := 1879) (by decide +kernel))
theorem d_M_isField_0 : decode prog_14_method_8_code 0 = .ok (.iload_n 0, 1) := by decide +kernel
theorem d_M_isField_1 : decode prog_14_method_8_code 1 = .ok (.ifCond .eq 8, 3) := by decide +kernel
theorem d_M_isField_9 : decode prog_14_method_8_code 9 = .ok (.iconst 1, 1) := by decide +kernel
theorem d_M_isField_10 : decode prog_14_method_8_code 10 = .ok (.goto 4, 3) := by decide +kernel
theorem d_M_isField_14 : decode prog_14_method_8_code 14 = .ok (.ireturn, 1) := by decide +kernel
theorem d_M_lengthOf_III_14 : decode prog_14_method_92_code 14 = .ok (.ifCond .eq 7, 3) := by decide +kernel
theorem d_M_lengthOf_III_17 : decode prog_14_method_92_code 17 = .ok (.iconst 1, 1) := by decide +kernel
theorem d_M_lengthOf_III_18 : decode prog_14_method_92_code 18 = .ok (.goto 4, 3) := by decide +kernel
theorem d_M_isField_4 : decode prog_14_method_8_code 4 = .ok (.iload_n 0, 1) := by decide +kernel
theorem d_M_isField_5 : decode prog_14_method_8_code 5 = .ok (.iconst 1, 1) := by decide +kernel
theorem d_M_isField_6 : decode prog_14_method_8_code 6 = .ok (.if_icmp .ne 7, 3) := by decide +kernel
theorem d_M_isField_13 : decode prog_14_method_8_code 13 = .ok (.iconst 0, 1) := by decide +kernel
theorem v_M_lengthOf_III_7 {G : XG} {d : Nat} {h : XH} {Q : XV → XH → Prop} {X : Nat → XH → Prop} {x1 x2 x3 s0 s1 : Int} (F : xFix h) (hyp : ((s0 = 0 → (xwp G m_M_lengthOf_III (d + 4) 21 [xR 53, xI x1, xI x2, xI x3] [xR s1] h Q X)) ∧ (¬ s0 = 0 → ((x3 = 0 → (xwp G m_M_lengthOf_III (d + 4) 22 [xR 53, xI x1, xI x2, xI x3] [xI 1, xR s1] h Q X)) ∧ (¬ x3 = 0 → ((x3 = 1 → (xwp G m_M_lengthOf_III (d + 4) 22 [xR 53, xI x1, xI x2, xI x3] [xI 1, xR s1] h Q X)) ∧ (¬ x3 = 1 → (xwp G m_M_lengthOf_III (d + 4) 21 [xR 53, xI x1, xI x2, xI x3] [xR s1] h Q X)))))))) : xwp G m_M_lengthOf_III (d + 4) 7 [xR 53, xI x1, xI x2, xI x3] [xI s0, xR s1] h Q X := by
  have hnx9 : (93 : Int) ≤ xnx h := F.2.2
  refine xr_okL (fun hl9 => ?_)
  have r_x1 : -2147483648 ≤ x1 ∧ x1 ≤ 2147483647 := hl9 (xI x1) (.tail _ (.head _)) (Nat.le_of_ble_eq_true rfl)
  have r_x2 : -2147483648 ≤ x2 ∧ x2 ≤ 2147483647 := hl9 (xI x2) (.tail _ (.tail _ (.head _))) (Nat.le_of_ble_eq_true rfl)
  have r_x3 : -2147483648 ≤ x3 ∧ x3 ≤ 2147483647 := hl9 (xI x3) (.tail _ (.tail _ (.tail _ (.head _)))) (Nat.le_of_ble_eq_true rfl)
  refine xr_okS (fun hs9 => ?_)
  have r_s0 : -2147483648 ≤ s0 ∧ s0 ≤ 2147483647 := hs9 (xI s0) (.head _)
  refine xr_if_eq (pc := 7) (tgt := 21) (hI := d_M_lengthOf_III_7) (ht := by decide) (fun q9 => ?_) (fun q9 => ?_)
  · replace hyp := hyp.1 q9
    have q1_ := q9
    clear q9
    exact hyp
  · replace hyp := hyp.2 q9
    have q1_ := q9
    clear q9
    refine xr_iload_n (pc := 10) (i := 3) (hI := d_M_lengthOf_III_10) (hi := rfl) (hl := rfl) ?_
    refine xq_callS (pc := 11) (index := 423) (K := m_M_isField) (As := [xI x3]) (S := [xR s1]) (L0 := [xI x3]) (hI := d_M_lengthOf_III_11) (hK := k_M_isField) (hlk := w_1878) (hnoM := rfl) (hS8 := Nat.le_of_ble_eq_true rfl) (hstat := w_1879) (hlen := Nat.le_of_ble_eq_true rfl) (hst := rfl) (hL0 := rfl)  ?_
    refine xr_iload_n (pc := 0) (i := 0) (hI := d_M_isField_0) (hi := rfl) (hl := rfl) ?_
    refine xr_if_eq (pc := 1) (tgt := 9) (hI := d_M_isField_1) (ht := by decide) (fun q9 => ?_) (fun q9 => ?_)
    · replace hyp := hyp.1 q9
      have q2_ := q9
      clear q9
      refine xr_iconst (pc := 9) (hI := d_M_isField_9) (hr := by decide) ?_
      refine xr_goto (pc := 10) (tgt := 14) (hI := d_M_isField_10) (ht := by decide) ?_
      refine xr_ireturnT (S := []) (pc := 14) (hI := d_M_isField_14) (hr := rfl) (xnar_z (by decide)) ?_
      show xwp G m_M_lengthOf_III (d + 4) 14 [xR 53, xI x1, xI x2, xI x3] [xI 1, xR s1] _ _ _
      refine xr_if_eq (pc := 14) (tgt := 21) (hI := d_M_lengthOf_III_14) (ht := by decide) (fun q9 => ?_) (fun q9 => ?_)
      · exact absurd q9 (by decide)
      · clear q9
        refine xr_iconst (pc := 17) (hI := d_M_lengthOf_III_17) (hr := by decide) ?_
        refine xr_goto (pc := 18) (tgt := 22) (hI := d_M_lengthOf_III_18) (ht := by decide) ?_
        exact hyp
    · replace hyp := hyp.2 q9
      have q2_ := q9
      clear q9
      refine xr_iload_n (pc := 4) (i := 0) (hI := d_M_isField_4) (hi := rfl) (hl := rfl) ?_
      refine xr_iconst (pc := 5) (hI := d_M_isField_5) (hr := by decide) ?_
      refine xr_icmp_ne (pc := 6) (tgt := 13) (hI := d_M_isField_6) (ht := by decide) (fun q9 => ?_) (fun q9 => ?_)
      · replace hyp := hyp.2 q9
        have q3_ := q9
        clear q9
        refine xr_iconst (pc := 13) (hI := d_M_isField_13) (hr := by decide) ?_
        refine xr_ireturnT (S := []) (pc := 14) (hI := d_M_isField_14) (hr := rfl) (xnar_z (by decide)) ?_
        show xwp G m_M_lengthOf_III (d + 4) 14 [xR 53, xI x1, xI x2, xI x3] [xI 0, xR s1] _ _ _
        refine xr_if_eq (pc := 14) (tgt := 21) (hI := d_M_lengthOf_III_14) (ht := by decide) (fun q9 => ?_) (fun q9 => ?_)
        · clear q9
          exact hyp
        · exact absurd q9 (by decide)
      · replace hyp := hyp.1 q9
        have q3_ := q9
        clear q9
        refine xr_iconst (pc := 9) (hI := d_M_isField_9) (hr := by decide) ?_
        refine xr_goto (pc := 10) (tgt := 14) (hI := d_M_isField_10) (ht := by decide) ?_
        refine xr_ireturnT (S := []) (pc := 14) (hI := d_M_isField_14) (hr := rfl) (xnar_z (by decide)) ?_
        show xwp G m_M_lengthOf_III (d + 4) 14 [xR 53, xI x1, xI x2, xI x3] [xI 1, xR s1] _ _ _
        refine xr_if_eq (pc := 14) (tgt := 21) (hI := d_M_lengthOf_III_14) (ht := by decide) (fun q9 => ?_) (fun q9 => ?_)
        · exact absurd q9 (by decide)
        · clear q9
          refine xr_iconst (pc := 17) (hI := d_M_lengthOf_III_17) (hr := by decide) ?_
          refine xr_goto (pc := 18) (tgt := 22) (hI := d_M_lengthOf_III_18) (ht := by decide) ?_
          exact hyp
theorem d_M_lengthOf_III_21 : decode prog_14_method_92_code 21 = .ok (.iconst 0, 1) := by decide +kernel
theorem v_M_lengthOf_III_21 {G : XG} {d : Nat} {h : XH} {Q : XV → XH → Prop} {X : Nat → XH → Prop} {x1 x2 x3 s0 : Int} (F : xFix h) (hyp : (xwp G m_M_lengthOf_III (d + 4) 22 [xR 53, xI x1, xI x2, xI x3] [xI 0, xR s0] h Q X)) : xwp G m_M_lengthOf_III (d + 4) 21 [xR 53, xI x1, xI x2, xI x3] [xR s0] h Q X := by
  have hnx9 : (93 : Int) ≤ xnx h := F.2.2
  refine xr_okL (fun hl9 => ?_)
  have r_x1 : -2147483648 ≤ x1 ∧ x1 ≤ 2147483647 := hl9 (xI x1) (.tail _ (.head _)) (Nat.le_of_ble_eq_true rfl)
  have r_x2 : -2147483648 ≤ x2 ∧ x2 ≤ 2147483647 := hl9 (xI x2) (.tail _ (.tail _ (.head _))) (Nat.le_of_ble_eq_true rfl)
  have r_x3 : -2147483648 ≤ x3 ∧ x3 ≤ 2147483647 := hl9 (xI x3) (.tail _ (.tail _ (.tail _ (.head _)))) (Nat.le_of_ble_eq_true rfl)
  refine xr_iconst (pc := 21) (hI := d_M_lengthOf_III_21) (hr := by decide) ?_
  exact hyp
theorem d_M_lengthOf_III_22 : decode prog_14_method_92_code 22 = .ok (.invokevirtual 407, 3) := by decide +kernel
theorem d_M_lengthOf_III_25 : decode prog_14_method_92_code 25 = .ok (.ifCond .eq 21, 3) := by decide +kernel
theorem d_M_lengthOf_III_46 : decode prog_14_method_92_code 46 = .ok (.iconst 0, 1) := by decide +kernel
theorem d_M_lengthOf_III_47 : decode prog_14_method_92_code 47 = .ok (.ireturn, 1) := by decide +kernel
theorem d_M_lengthOf_III_28 : decode prog_14_method_92_code 28 = .ok (.aload_n 0, 1) := by decide +kernel
theorem d_M_lengthOf_III_29 : decode prog_14_method_92_code 29 = .ok (.getfield 32, 3) := by decide +kernel
theorem d_M_lengthOf_III_32 : decode prog_14_method_92_code 32 = .ok (.iconst 2, 1) := by decide +kernel
theorem d_M_lengthOf_III_33 : decode prog_14_method_92_code 33 = .ok (.aload_n 0, 1) := by decide +kernel
theorem d_M_lengthOf_III_34 : decode prog_14_method_92_code 34 = .ok (.iload_n 1, 1) := by decide +kernel
theorem d_M_lengthOf_III_35 : decode prog_14_method_92_code 35 = .ok (.iload_n 2, 1) := by decide +kernel
theorem d_M_lengthOf_III_36 : decode prog_14_method_92_code 36 = .ok (.invokevirtual 432, 3) := by decide +kernel
theorem v_M_lengthOf_III_22 {G : XG} {d : Nat} {h : XH} {Q : XV → XH → Prop} {X : Nat → XH → Prop} {x1 x2 x3 s0 s1 : Int} (F : xFix h) (hyp : xtg h s1 = 11 ∧ ((s0 = 0 → 0 ≤ s1 ∧ (xFix (xst h s1 0 1) → Q (xI 0) (xst h s1 0 1))) ∧ (¬ s0 = 0 → 0 ≤ s1 ∧ (0 ≤ s0 ∧ s0 ≤ 1) ∧ ((s0 = 0 → (xFix (xst h s1 0 0) → Q (xI 0) (xst h s1 0 0))) ∧ (¬ s0 = 0 → (xFix (xst h s1 0 0) → xwp G m_M_at (d + 3) 0 [xR 53, xI x1, xI x2] [] (xst h s1 0 0) (fun v9 h9 => xwp G m_M_lengthOf_III (d + 4) 39 [xZ, xZ, xZ, xI x3] (xpush v9 [xI 2, xR 61]) h9 Q X) X)))))) : xwp G m_M_lengthOf_III (d + 4) 22 [xR 53, xI x1, xI x2, xI x3] [xI s0, xR s1] h Q X := by
  have hnx9 : (93 : Int) ≤ xnx h := F.2.2
  refine xr_okL (fun hl9 => ?_)
  have r_x1 : -2147483648 ≤ x1 ∧ x1 ≤ 2147483647 := hl9 (xI x1) (.tail _ (.head _)) (Nat.le_of_ble_eq_true rfl)
  have r_x2 : -2147483648 ≤ x2 ∧ x2 ≤ 2147483647 := hl9 (xI x2) (.tail _ (.tail _ (.head _))) (Nat.le_of_ble_eq_true rfl)
  have r_x3 : -2147483648 ≤ x3 ∧ x3 ≤ 2147483647 := hl9 (xI x3) (.tail _ (.tail _ (.tail _ (.head _)))) (Nat.le_of_ble_eq_true rfl)
  refine xr_okS (fun hs9 => ?_)
  have r_s0 : -2147483648 ≤ s0 ∧ s0 ≤ 2147483647 := hs9 (xI s0) (.head _)
  obtain ⟨c9, hyp⟩ := hyp
  have t1_ := c9
  clear c9
  refine xq_callV (pc := 22) (index := 407) (K := m_M_isKnown) (As := [xI s0]) (S := []) (L0 := [xR s1, xI s0]) (hI := d_M_lengthOf_III_22) (hK := k_M_isKnown) (hlk := w_1810) (hnoM := rfl) (hS8 := Nat.le_of_ble_eq_true rfl) (ci := 11) (N := 38) (C := "BeaconIndexModel") (T := xF11) (hc := rfl) (hci := Nat.le_of_ble_eq_true rfl) (htb := t1_) (hinst := w_1812) (hsel := sel_M_isKnown) (hlen := Nat.le_of_ble_eq_true rfl) (hst := rfl) (hL0 := rfl)  ?_
  refine xr_aload_n (pc := 0) (i := 0) (hI := d_M_isKnown_0) (hi := rfl) (hl := rfl) ?_
  refine xr_iload_n (pc := 1) (i := 1) (hI := d_M_isKnown_1) (hi := rfl) (hl := rfl) ?_
  refine xr_if_eq (pc := 2) (tgt := 9) (hI := d_M_isKnown_2) (ht := by decide) (fun q9 => ?_) (fun q9 => ?_)
  · replace hyp := hyp.1 q9
    have q2_ := q9
    clear q9
    refine xr_iconst (pc := 9) (hI := d_M_isKnown_9) (hr := by decide) ?_
    obtain ⟨c3_, hyp⟩ := hyp
    refine xr_putf (pc := 10) (ci := 11) (k := 0) (N := 38) (v9 := 0) (T := xF11) (tF := xT11) (hI := d_M_isKnown_10) (hw := w_1587) rfl xi11 xt11 xn11 (Or.inl rfl) (Nat.le_of_ble_eq_true rfl) (Nat.le_of_ble_eq_true rfl) rfl xfit_i rfl t1_ c3_ (fun z => z) ?_
    have F4_ : xFix (xst h s1 0 1) := F.stT (t := 11) c3_ t1_ xtk_11_0
    refine xr_iload_n (pc := 13) (i := 1) (hI := d_M_isKnown_13) (hi := rfl) (hl := rfl) ?_
    refine xr_ireturnT (S := []) (pc := 14) (hI := d_M_isKnown_14) (hr := rfl) (xnar_z ⟨(by clear hyp; omega), (by clear hyp; omega)⟩) ?_
    show xwp G m_M_lengthOf_III (d + 4) 25 [xR 53, xI x1, xI x2, xI x3] [xI s0] _ _ _
    refine xr_if_eq (pc := 25) (tgt := 46) (hI := d_M_lengthOf_III_25) (ht := by decide) (fun q9 => ?_) (fun q9 => ?_)
    · clear q9
      refine xr_iconst (pc := 46) (hI := d_M_lengthOf_III_46) (hr := by decide) ?_
      refine xr_ireturn (S := []) (pc := 47) (hI := d_M_lengthOf_III_47) (hr := rfl) ?_
      exact hyp F4_
    · exact absurd q9 (by clear hyp; omega)
  · replace hyp := hyp.2 q9
    have q2_ := q9
    clear q9
    refine xr_iconst (pc := 5) (hI := d_M_isKnown_5) (hr := by decide) ?_
    refine xr_goto (pc := 6) (tgt := 10) (hI := d_M_isKnown_6) (ht := by decide) ?_
    obtain ⟨c5_, hyp⟩ := hyp
    refine xr_putf (pc := 10) (ci := 11) (k := 0) (N := 38) (v9 := 0) (T := xF11) (tF := xT11) (hI := d_M_isKnown_10) (hw := w_1587) rfl xi11 xt11 xn11 (Or.inl rfl) (Nat.le_of_ble_eq_true rfl) (Nat.le_of_ble_eq_true rfl) rfl xfit_i rfl t1_ c5_ (fun z => z) ?_
    have F6_ : xFix (xst h s1 0 0) := F.stT (t := 11) c5_ t1_ xtk_11_0
    refine xr_iload_n (pc := 13) (i := 1) (hI := d_M_isKnown_13) (hi := rfl) (hl := rfl) ?_
    obtain ⟨c9, hyp⟩ := hyp
    refine xr_ireturnT (S := []) (pc := 14) (hI := d_M_isKnown_14) (hr := rfl) (xnar_z c9) ?_
    show xwp G m_M_lengthOf_III (d + 4) 25 [xR 53, xI x1, xI x2, xI x3] [xI s0] _ _ _
    refine xr_if_eq (pc := 25) (tgt := 46) (hI := d_M_lengthOf_III_25) (ht := by decide) (fun q9 => ?_) (fun q9 => ?_)
    · replace hyp := hyp.1 q9
      have q7_ := q9
      clear q9
      refine xr_iconst (pc := 46) (hI := d_M_lengthOf_III_46) (hr := by decide) ?_
      refine xr_ireturn (S := []) (pc := 47) (hI := d_M_lengthOf_III_47) (hr := rfl) ?_
      exact hyp F6_
    · replace hyp := hyp.2 q9
      have q7_ := q9
      clear q9
      refine xr_aload_n (pc := 28) (i := 0) (hI := d_M_lengthOf_III_28) (hi := rfl) (hl := rfl) ?_
      refine xg_getf (pc := 29) (ci := 11) (k := 12) (N := 38) (v9 := 2) (v := 61) (T := xF11) (hI := d_M_lengthOf_III_29) (hw := w_1599) rfl xi11 (Or.inl rfl) (Nat.le_of_ble_eq_true rfl) (Nat.le_of_ble_eq_true rfl) rfl (ft_53 F6_) (fp_53_12 F6_) (fun f8_ => ?_)
      clear f8_
      refine xr_iconst (pc := 32) (hI := d_M_lengthOf_III_32) (hr := by decide) ?_
      refine xr_aload_n (pc := 33) (i := 0) (hI := d_M_lengthOf_III_33) (hi := rfl) (hl := rfl) ?_
      refine xr_iload_n (pc := 34) (i := 1) (hI := d_M_lengthOf_III_34) (hi := rfl) (hl := rfl) ?_
      refine xr_iload_n (pc := 35) (i := 2) (hI := d_M_lengthOf_III_35) (hi := rfl) (hl := rfl) ?_
      exact xq_callV (pc := 36) (index := 432) (K := m_M_at) (As := [xI x1, xI x2]) (S := [xI 2, xR 61]) (L0 := [xR 53, xI x1, xI x2]) (hI := d_M_lengthOf_III_36) (hK := k_M_at) (hlk := w_2179) (hnoM := rfl) (hS8 := Nat.le_of_ble_eq_true rfl) (ci := 11) (N := 38) (C := "BeaconIndexModel") (T := xF11) (hc := rfl) (hci := Nat.le_of_ble_eq_true rfl) (htb := (ft_53 F6_)) (hinst := w_2181) (hsel := sel_M_at) (hlen := Nat.le_of_ble_eq_true rfl) (hst := rfl) (hL0 := rfl)  (xwp_mono (hyp F6_) (fun v9 h9 q9 => xr_drop (L9 := [xZ, xZ, xZ, xI x3]) (xdrz (xdrz (xdrz (xdrs xdr0)))) q9) (fun _ _ z9 => z9))
theorem d_M_lengthOf_III_39 : decode prog_14_method_92_code 39 = .ok (.imul, 1) := by decide +kernel
theorem d_M_lengthOf_III_40 : decode prog_14_method_92_code 40 = .ok (.iload_n 3, 1) := by decide +kernel
theorem d_M_lengthOf_III_41 : decode prog_14_method_92_code 41 = .ok (.iadd, 1) := by decide +kernel
theorem d_M_lengthOf_III_42 : decode prog_14_method_92_code 42 = .ok (.iaload, 1) := by decide +kernel
theorem d_M_lengthOf_III_43 : decode prog_14_method_92_code 43 = .ok (.goto 4, 3) := by decide +kernel
theorem v_M_lengthOf_III_39 {G : XG} {d : Nat} {h : XH} {Q : XV → XH → Prop} {X : Nat → XH → Prop} {x3 s0 s1 s2 : Int} (F : xFix h) (hyp : xiR (s1 * s0) ∧ xiR ((s1 * s0) + x3) ∧ xtg h s2 = 100 ∧ 0 ≤ ((s1 * s0) + x3) ∧ ((s1 * s0) + x3) < (xln h s2) ∧ (Q (xI (xpl h s2 ((s1 * s0) + x3))) h)) : xwp G m_M_lengthOf_III (d + 4) 39 [xZ, xZ, xZ, xI x3] [xI s0, xI s1, xR s2] h Q X := by
  have hnx9 : (93 : Int) ≤ xnx h := F.2.2
  refine xr_okL (fun hl9 => ?_)
  have r_x3 : -2147483648 ≤ x3 ∧ x3 ≤ 2147483647 := hl9 (xI x3) (.tail _ (.tail _ (.tail _ (.head _)))) (Nat.le_of_ble_eq_true rfl)
  refine xr_okS (fun hs9 => ?_)
  have r_s0 : -2147483648 ≤ s0 ∧ s0 ≤ 2147483647 := hs9 (xI s0) (.head _)
  have r_s1 : -2147483648 ≤ s1 ∧ s1 ≤ 2147483647 := hs9 (xI s1) (.tail _ (.head _))
  obtain ⟨c9, hyp⟩ := hyp
  refine xr_imul (pc := 39) (hI := d_M_lengthOf_III_39) (hr := c9) ?_
  refine xr_iload_n (pc := 40) (i := 3) (hI := d_M_lengthOf_III_40) (hi := rfl) (hl := rfl) ?_
  obtain ⟨c9, hyp⟩ := hyp
  refine xr_iadd (pc := 41) (hI := d_M_lengthOf_III_41) (hr := c9) ?_
  obtain ⟨c9, hyp⟩ := hyp
  have t1_ := c9
  clear c9
  obtain ⟨c2_, hyp⟩ := hyp
  obtain ⟨c3_, hyp⟩ := hyp
  refine xg_iaload (pc := 42) (v := (xpl h s2 ((s1 * s0) + x3))) (hI := d_M_lengthOf_III_42) t1_ c2_ (xlt_of rfl c3_) rfl (fun f4_ => ?_)
  replace f4_ : -2147483648 ≤ (xpl h s2 ((s1 * s0) + x3)) ∧ (xpl h s2 ((s1 * s0) + x3)) ≤ 2147483647 := f4_
  refine xr_goto (pc := 43) (tgt := 47) (hI := d_M_lengthOf_III_43) (ht := by decide) ?_
  refine xr_ireturn (S := []) (pc := 47) (hI := d_M_lengthOf_III_47) (hr := rfl) ?_
  exact hyp
abbrev m_M_segmentOf : XM := (⟨"BeaconIndexModel", "segmentOf", "(I)I"⟩, prog_14_method_93_code, 4, (some .int), [])
theorem d_M_segmentOf_0 : decode prog_14_method_93_code 0 = .ok (.aload_n 0, 1) := by decide +kernel
theorem d_M_segmentOf_1 : decode prog_14_method_93_code 1 = .ok (.iload_n 1, 1) := by decide +kernel
theorem d_M_segmentOf_2 : decode prog_14_method_93_code 2 = .ok (.invokestatic 398, 3) := by decide +kernel
abbrev m_M_isKey : XM := (⟨"BeaconIndexModel", "isKey", "(I)Z"⟩, prog_14_method_7_code, 1, (some .boolean), [])
theorem k_M_isKey : xCal m_M_isKey 1 := ⟨List.mem_append_right _ (List.mem_of_getElem? (i := 1727) (by decide +kernel)), w_15, Nat.le_of_ble_eq_true rfl, ⟨by decide +kernel, by decide +kernel⟩, by decide +kernel, by decide +kernel, rfl⟩
theorem w_1725 : Cond.methodLink "BeaconIndexModel" 398 ⟨"BeaconIndexModel", "isKey", "(I)Z"⟩ ∈ lw_tbl := List.mem_append_right _ (List.mem_of_getElem? (i := 1725) (by decide +kernel))
theorem w_1726 : Cond.static ⟨"BeaconIndexModel", "isKey", "(I)Z"⟩ ∈ lw_tbl := List.mem_append_right _ (List.mem_of_getElem? (i := 1726) (by decide +kernel))
theorem d_M_isKey_0 : decode prog_14_method_7_code 0 = .ok (.iload_n 0, 1) := by decide +kernel
theorem d_M_isKey_1 : decode prog_14_method_7_code 1 = .ok (.iconst 0, 1) := by decide +kernel
theorem d_M_isKey_2 : decode prog_14_method_7_code 2 = .ok (.bipush 99, 2) := by decide +kernel
theorem d_M_isKey_4 : decode prog_14_method_7_code 4 = .ok (.invokestatic 101, 3) := by decide +kernel
theorem d_M_isKey_7 : decode prog_14_method_7_code 7 = .ok (.ireturn, 1) := by decide +kernel
theorem d_M_segmentOf_5 : decode prog_14_method_93_code 5 = .ok (.invokevirtual 407, 3) := by decide +kernel
theorem d_M_segmentOf_8 : decode prog_14_method_93_code 8 = .ok (.ifCond .ne 5, 3) := by decide +kernel
theorem d_M_segmentOf_11 : decode prog_14_method_93_code 11 = .ok (.iconst 0, 1) := by decide +kernel
theorem d_M_segmentOf_12 : decode prog_14_method_93_code 12 = .ok (.ireturn, 1) := by decide +kernel
theorem d_M_segmentOf_13 : decode prog_14_method_93_code 13 = .ok (.aload_n 0, 1) := by decide +kernel
theorem d_M_segmentOf_14 : decode prog_14_method_93_code 14 = .ok (.iload_n 1, 1) := by decide +kernel
theorem d_M_segmentOf_15 : decode prog_14_method_93_code 15 = .ok (.invokevirtual 188, 3) := by decide +kernel
theorem v_M_segmentOf_0 {G : XG} {d : Nat} {h : XH} {Q : XV → XH → Prop} {X : Nat → XH → Prop} {x1 : Int} (F : xFix h) (hyp : ((x1 < 0 → (xFix (xst h 53 0 1) → Q (xI 0) (xst h 53 0 1))) ∧ (¬ x1 < 0 → (((99 : Int) < x1 → (xFix (xst h 53 0 1) → Q (xI 0) (xst h 53 0 1))) ∧ (¬ (99 : Int) < x1 → (xFix (xst h 53 0 0) → xwp G m_M_whereIs (d + 2) 0 [xR 53, xI x1, xZ] [] (xst h 53 0 0) (fun v9 h9 => xwp G m_M_segmentOf (d + 3) 18 [xR 53, xZ, xZ, xZ] (xpush v9 []) h9 Q X) X)))))) : xwp G m_M_segmentOf (d + 3) 0 [xR 53, xI x1, xZ, xZ] [] h Q X := by
  have hnx9 : (93 : Int) ≤ xnx h := F.2.2
  refine xr_okL (fun hl9 => ?_)
  have r_x1 : -2147483648 ≤ x1 ∧ x1 ≤ 2147483647 := hl9 (xI x1) (.tail _ (.head _)) (Nat.le_of_ble_eq_true rfl)
  refine xr_aload_n (pc := 0) (i := 0) (hI := d_M_segmentOf_0) (hi := rfl) (hl := rfl) ?_
  refine xr_iload_n (pc := 1) (i := 1) (hI := d_M_segmentOf_1) (hi := rfl) (hl := rfl) ?_
  refine xq_callS (pc := 2) (index := 398) (K := m_M_isKey) (As := [xI x1]) (S := [xR 53]) (L0 := [xI x1]) (hI := d_M_segmentOf_2) (hK := k_M_isKey) (hlk := w_1725) (hnoM := rfl) (hS8 := Nat.le_of_ble_eq_true rfl) (hstat := w_1726) (hlen := Nat.le_of_ble_eq_true rfl) (hst := rfl) (hL0 := rfl)  ?_
  refine xr_iload_n (pc := 0) (i := 0) (hI := d_M_isKey_0) (hi := rfl) (hl := rfl) ?_
  refine xr_iconst (pc := 1) (hI := d_M_isKey_1) (hr := by decide) ?_
  refine xr_bipush (pc := 2) (hI := d_M_isKey_2) (hr := by decide) (hv := by decide) ?_
  refine xq_callS (pc := 4) (index := 101) (K := m_M_isBetween) (As := [xI x1, xI 0, xI 99]) (S := []) (L0 := [xI x1, xI 0, xI 99]) (hI := d_M_isKey_4) (hK := k_M_isBetween) (hlk := w_1718) (hnoM := rfl) (hS8 := Nat.le_of_ble_eq_true rfl) (hstat := w_1719) (hlen := Nat.le_of_ble_eq_true rfl) (hst := rfl) (hL0 := rfl)  ?_
  refine xr_iload_n (pc := 0) (i := 0) (hI := d_M_isBetween_0) (hi := rfl) (hl := rfl) ?_
  refine xr_iload_n (pc := 1) (i := 1) (hI := d_M_isBetween_1) (hi := rfl) (hl := rfl) ?_
  refine xr_icmp_lt (pc := 2) (tgt := 14) (hI := d_M_isBetween_2) (ht := by decide) (fun q9 => ?_) (fun q9 => ?_)
  · replace hyp := hyp.1 q9
    have q1_ := q9
    clear q9
    refine xr_iconst (pc := 14) (hI := d_M_isBetween_14) (hr := by decide) ?_
    refine xr_ireturnT (S := []) (pc := 15) (hI := d_M_isBetween_15) (hr := rfl) (xnar_z (by decide)) ?_
    show xwp G m_M_isKey (d + 2) 7 [xI x1] [xI 0] _ _ _
    refine xr_ireturnT (S := []) (pc := 7) (hI := d_M_isKey_7) (hr := rfl) (xnar_z (by decide)) ?_
    show xwp G m_M_segmentOf (d + 3) 5 [xR 53, xI x1, xZ, xZ] [xI 0, xR 53] _ _ _
    refine xq_callV (pc := 5) (index := 407) (K := m_M_isKnown) (As := [xI 0]) (S := []) (L0 := [xR 53, xI 0]) (hI := d_M_segmentOf_5) (hK := k_M_isKnown) (hlk := w_1810) (hnoM := rfl) (hS8 := Nat.le_of_ble_eq_true rfl) (ci := 11) (N := 38) (C := "BeaconIndexModel") (T := xF11) (hc := rfl) (hci := Nat.le_of_ble_eq_true rfl) (htb := (ft_53 F)) (hinst := w_1812) (hsel := sel_M_isKnown) (hlen := Nat.le_of_ble_eq_true rfl) (hst := rfl) (hL0 := rfl)  ?_
    refine xr_aload_n (pc := 0) (i := 0) (hI := d_M_isKnown_0) (hi := rfl) (hl := rfl) ?_
    refine xr_iload_n (pc := 1) (i := 1) (hI := d_M_isKnown_1) (hi := rfl) (hl := rfl) ?_
    refine xr_if_eq (pc := 2) (tgt := 9) (hI := d_M_isKnown_2) (ht := by decide) (fun q9 => ?_) (fun q9 => ?_)
    · clear q9
      refine xr_iconst (pc := 9) (hI := d_M_isKnown_9) (hr := by decide) ?_
      refine xr_putf (pc := 10) (ci := 11) (k := 0) (N := 38) (v9 := 0) (T := xF11) (tF := xT11) (hI := d_M_isKnown_10) (hw := w_1587) rfl xi11 xt11 xn11 (Or.inl rfl) (Nat.le_of_ble_eq_true rfl) (Nat.le_of_ble_eq_true rfl) rfl xfit_i rfl (ft_53 F) (by decide) (fun z => z) ?_
      have F2_ : xFix (xst h 53 0 1) := F.stL xfk_53_0
      refine xr_iload_n (pc := 13) (i := 1) (hI := d_M_isKnown_13) (hi := rfl) (hl := rfl) ?_
      refine xr_ireturnT (S := []) (pc := 14) (hI := d_M_isKnown_14) (hr := rfl) (xnar_z (by decide)) ?_
      show xwp G m_M_segmentOf (d + 3) 8 [xR 53, xI x1, xZ, xZ] [xI 0] _ _ _
      refine xr_if_ne (pc := 8) (tgt := 13) (hI := d_M_segmentOf_8) (ht := by decide) (fun q9 => ?_) (fun q9 => ?_)
      · exact absurd q9 (by decide)
      · clear q9
        refine xr_iconst (pc := 11) (hI := d_M_segmentOf_11) (hr := by decide) ?_
        refine xr_ireturn (S := []) (pc := 12) (hI := d_M_segmentOf_12) (hr := rfl) ?_
        exact hyp F2_
    · exact absurd q9 (by decide)
  · replace hyp := hyp.2 q9
    have q1_ := q9
    clear q9
    refine xr_iload_n (pc := 5) (i := 0) (hI := d_M_isBetween_5) (hi := rfl) (hl := rfl) ?_
    refine xr_iload_n (pc := 6) (i := 2) (hI := d_M_isBetween_6) (hi := rfl) (hl := rfl) ?_
    refine xr_icmp_gt (pc := 7) (tgt := 14) (hI := d_M_isBetween_7) (ht := by decide) (fun q9 => ?_) (fun q9 => ?_)
    · replace hyp := hyp.1 q9
      have q3_ := q9
      clear q9
      refine xr_iconst (pc := 14) (hI := d_M_isBetween_14) (hr := by decide) ?_
      refine xr_ireturnT (S := []) (pc := 15) (hI := d_M_isBetween_15) (hr := rfl) (xnar_z (by decide)) ?_
      show xwp G m_M_isKey (d + 2) 7 [xI x1] [xI 0] _ _ _
      refine xr_ireturnT (S := []) (pc := 7) (hI := d_M_isKey_7) (hr := rfl) (xnar_z (by decide)) ?_
      show xwp G m_M_segmentOf (d + 3) 5 [xR 53, xI x1, xZ, xZ] [xI 0, xR 53] _ _ _
      refine xq_callV (pc := 5) (index := 407) (K := m_M_isKnown) (As := [xI 0]) (S := []) (L0 := [xR 53, xI 0]) (hI := d_M_segmentOf_5) (hK := k_M_isKnown) (hlk := w_1810) (hnoM := rfl) (hS8 := Nat.le_of_ble_eq_true rfl) (ci := 11) (N := 38) (C := "BeaconIndexModel") (T := xF11) (hc := rfl) (hci := Nat.le_of_ble_eq_true rfl) (htb := (ft_53 F)) (hinst := w_1812) (hsel := sel_M_isKnown) (hlen := Nat.le_of_ble_eq_true rfl) (hst := rfl) (hL0 := rfl)  ?_
      refine xr_aload_n (pc := 0) (i := 0) (hI := d_M_isKnown_0) (hi := rfl) (hl := rfl) ?_
      refine xr_iload_n (pc := 1) (i := 1) (hI := d_M_isKnown_1) (hi := rfl) (hl := rfl) ?_
      refine xr_if_eq (pc := 2) (tgt := 9) (hI := d_M_isKnown_2) (ht := by decide) (fun q9 => ?_) (fun q9 => ?_)
      · clear q9
        refine xr_iconst (pc := 9) (hI := d_M_isKnown_9) (hr := by decide) ?_
        refine xr_putf (pc := 10) (ci := 11) (k := 0) (N := 38) (v9 := 0) (T := xF11) (tF := xT11) (hI := d_M_isKnown_10) (hw := w_1587) rfl xi11 xt11 xn11 (Or.inl rfl) (Nat.le_of_ble_eq_true rfl) (Nat.le_of_ble_eq_true rfl) rfl xfit_i rfl (ft_53 F) (by decide) (fun z => z) ?_
        have F4_ : xFix (xst h 53 0 1) := F.stL xfk_53_0
        refine xr_iload_n (pc := 13) (i := 1) (hI := d_M_isKnown_13) (hi := rfl) (hl := rfl) ?_
        refine xr_ireturnT (S := []) (pc := 14) (hI := d_M_isKnown_14) (hr := rfl) (xnar_z (by decide)) ?_
        show xwp G m_M_segmentOf (d + 3) 8 [xR 53, xI x1, xZ, xZ] [xI 0] _ _ _
        refine xr_if_ne (pc := 8) (tgt := 13) (hI := d_M_segmentOf_8) (ht := by decide) (fun q9 => ?_) (fun q9 => ?_)
        · exact absurd q9 (by decide)
        · clear q9
          refine xr_iconst (pc := 11) (hI := d_M_segmentOf_11) (hr := by decide) ?_
          refine xr_ireturn (S := []) (pc := 12) (hI := d_M_segmentOf_12) (hr := rfl) ?_
          exact hyp F4_
      · exact absurd q9 (by decide)
    · replace hyp := hyp.2 q9
      have q3_ := q9
      clear q9
      refine xr_iconst (pc := 10) (hI := d_M_isBetween_10) (hr := by decide) ?_
      refine xr_goto (pc := 11) (tgt := 15) (hI := d_M_isBetween_11) (ht := by decide) ?_
      refine xr_ireturnT (S := []) (pc := 15) (hI := d_M_isBetween_15) (hr := rfl) (xnar_z (by decide)) ?_
      show xwp G m_M_isKey (d + 2) 7 [xI x1] [xI 1] _ _ _
      refine xr_ireturnT (S := []) (pc := 7) (hI := d_M_isKey_7) (hr := rfl) (xnar_z (by decide)) ?_
      show xwp G m_M_segmentOf (d + 3) 5 [xR 53, xI x1, xZ, xZ] [xI 1, xR 53] _ _ _
      refine xq_callV (pc := 5) (index := 407) (K := m_M_isKnown) (As := [xI 1]) (S := []) (L0 := [xR 53, xI 1]) (hI := d_M_segmentOf_5) (hK := k_M_isKnown) (hlk := w_1810) (hnoM := rfl) (hS8 := Nat.le_of_ble_eq_true rfl) (ci := 11) (N := 38) (C := "BeaconIndexModel") (T := xF11) (hc := rfl) (hci := Nat.le_of_ble_eq_true rfl) (htb := (ft_53 F)) (hinst := w_1812) (hsel := sel_M_isKnown) (hlen := Nat.le_of_ble_eq_true rfl) (hst := rfl) (hL0 := rfl)  ?_
      refine xr_aload_n (pc := 0) (i := 0) (hI := d_M_isKnown_0) (hi := rfl) (hl := rfl) ?_
      refine xr_iload_n (pc := 1) (i := 1) (hI := d_M_isKnown_1) (hi := rfl) (hl := rfl) ?_
      refine xr_if_eq (pc := 2) (tgt := 9) (hI := d_M_isKnown_2) (ht := by decide) (fun q9 => ?_) (fun q9 => ?_)
      · exact absurd q9 (by decide)
      · clear q9
        refine xr_iconst (pc := 5) (hI := d_M_isKnown_5) (hr := by decide) ?_
        refine xr_goto (pc := 6) (tgt := 10) (hI := d_M_isKnown_6) (ht := by decide) ?_
        refine xr_putf (pc := 10) (ci := 11) (k := 0) (N := 38) (v9 := 0) (T := xF11) (tF := xT11) (hI := d_M_isKnown_10) (hw := w_1587) rfl xi11 xt11 xn11 (Or.inl rfl) (Nat.le_of_ble_eq_true rfl) (Nat.le_of_ble_eq_true rfl) rfl xfit_i rfl (ft_53 F) (by decide) (fun z => z) ?_
        have F5_ : xFix (xst h 53 0 0) := F.stL xfk_53_0
        refine xr_iload_n (pc := 13) (i := 1) (hI := d_M_isKnown_13) (hi := rfl) (hl := rfl) ?_
        refine xr_ireturnT (S := []) (pc := 14) (hI := d_M_isKnown_14) (hr := rfl) (xnar_z (by decide)) ?_
        show xwp G m_M_segmentOf (d + 3) 8 [xR 53, xI x1, xZ, xZ] [xI 1] _ _ _
        refine xr_if_ne (pc := 8) (tgt := 13) (hI := d_M_segmentOf_8) (ht := by decide) (fun q9 => ?_) (fun q9 => ?_)
        · clear q9
          refine xr_aload_n (pc := 13) (i := 0) (hI := d_M_segmentOf_13) (hi := rfl) (hl := rfl) ?_
          refine xr_iload_n (pc := 14) (i := 1) (hI := d_M_segmentOf_14) (hi := rfl) (hl := rfl) ?_
          exact xq_callV (pc := 15) (index := 188) (K := m_M_whereIs) (As := [xI x1]) (S := []) (L0 := [xR 53, xI x1, xZ]) (hI := d_M_segmentOf_15) (hK := k_M_whereIs) (hlk := w_1728) (hnoM := rfl) (hS8 := Nat.le_of_ble_eq_true rfl) (ci := 11) (N := 38) (C := "BeaconIndexModel") (T := xF11) (hc := rfl) (hci := Nat.le_of_ble_eq_true rfl) (htb := (ft_53 F5_)) (hinst := w_1730) (hsel := sel_M_whereIs) (hlen := Nat.le_of_ble_eq_true rfl) (hst := rfl) (hL0 := rfl)  (xwp_mono (hyp F5_) (fun v9 h9 q9 => xr_drop (L9 := [xR 53, xZ, xZ, xZ]) (xdrs (xdrz (xdrs (xdrs xdr0)))) q9) (fun _ _ z9 => z9))
        · exact absurd q9 (by decide)
theorem d_M_segmentOf_18 : decode prog_14_method_93_code 18 = .ok (.istore_n 2, 1) := by decide +kernel
theorem d_M_segmentOf_19 : decode prog_14_method_93_code 19 = .ok (.iload_n 2, 1) := by decide +kernel
theorem d_M_segmentOf_20 : decode prog_14_method_93_code 20 = .ok (.iconst (-1), 1) := by decide +kernel
theorem d_M_segmentOf_21 : decode prog_14_method_93_code 21 = .ok (.if_icmp .ne 6, 3) := by decide +kernel
theorem d_M_segmentOf_27 : decode prog_14_method_93_code 27 = .ok (.iload_n 2, 1) := by decide +kernel
theorem d_M_segmentOf_28 : decode prog_14_method_93_code 28 = .ok (.aload_n 0, 1) := by decide +kernel
theorem d_M_segmentOf_29 : decode prog_14_method_93_code 29 = .ok (.invokevirtual 191, 3) := by decide +kernel
theorem d_M_segmentOf_24 : decode prog_14_method_93_code 24 = .ok (.bipush (-2), 2) := by decide +kernel
theorem d_M_segmentOf_26 : decode prog_14_method_93_code 26 = .ok (.ireturn, 1) := by decide +kernel
theorem v_M_segmentOf_18 {G : XG} {d : Nat} {h : XH} {Q : XV → XH → Prop} {X : Nat → XH → Prop} {s0 : Int} (F : xFix h) (hyp : ((s0 = (-1) → (Q (xI (-2)) h)) ∧ (¬ s0 = (-1) → (xwp G m_M_inSegments (d + 2) 0 [xR 53] [] h (fun v9 h9 => xwp G m_M_segmentOf (d + 3) 32 [xR 53, xZ, xI s0, xZ] (xpush v9 [xI s0]) h9 Q X) X)))) : xwp G m_M_segmentOf (d + 3) 18 [xR 53, xZ, xZ, xZ] [xI s0] h Q X := by
  have hnx9 : (93 : Int) ≤ xnx h := F.2.2
  refine xr_okS (fun hs9 => ?_)
  have r_s0 : -2147483648 ≤ s0 ∧ s0 ≤ 2147483647 := hs9 (xI s0) (.head _)
  refine xr_istore_n (pc := 18) (i := 2) (L9 := [xR 53, xZ, xI s0, xZ]) (hI := d_M_segmentOf_18) (hi := rfl) (hn := Nat.le_of_ble_eq_true rfl) (hL9 := rfl) ?_
  refine xr_iload_n (pc := 19) (i := 2) (hI := d_M_segmentOf_19) (hi := rfl) (hl := rfl) ?_
  refine xr_iconst (pc := 20) (hI := d_M_segmentOf_20) (hr := by decide) ?_
  refine xr_icmp_ne (pc := 21) (tgt := 27) (hI := d_M_segmentOf_21) (ht := by decide) (fun q9 => ?_) (fun q9 => ?_)
  · replace hyp := hyp.2 q9
    have q1_ := q9
    clear q9
    refine xr_iload_n (pc := 27) (i := 2) (hI := d_M_segmentOf_27) (hi := rfl) (hl := rfl) ?_
    refine xr_aload_n (pc := 28) (i := 0) (hI := d_M_segmentOf_28) (hi := rfl) (hl := rfl) ?_
    exact xq_callV (pc := 29) (index := 191) (K := m_M_inSegments) (As := []) (S := [xI s0]) (L0 := [xR 53]) (hI := d_M_segmentOf_29) (hK := k_M_inSegments) (hlk := w_1732) (hnoM := rfl) (hS8 := Nat.le_of_ble_eq_true rfl) (ci := 11) (N := 38) (C := "BeaconIndexModel") (T := xF11) (hc := rfl) (hci := Nat.le_of_ble_eq_true rfl) (htb := (ft_53 F)) (hinst := w_1734) (hsel := sel_M_inSegments) (hlen := Nat.le_of_ble_eq_true rfl) (hst := rfl) (hL0 := rfl)  hyp
  · replace hyp := hyp.1 q9
    have q1_ := q9
    clear q9
    refine xr_bipush (pc := 24) (hI := d_M_segmentOf_24) (hr := by decide) (hv := by decide) ?_
    refine xr_ireturn (S := []) (pc := 26) (hI := d_M_segmentOf_26) (hr := rfl) ?_
    exact hyp
theorem d_M_segmentOf_32 : decode prog_14_method_93_code 32 = .ok (.if_icmp .lt 5, 3) := by decide +kernel
theorem d_M_segmentOf_37 : decode prog_14_method_93_code 37 = .ok (.iconst 0, 1) := by decide +kernel
theorem d_M_segmentOf_38 : decode prog_14_method_93_code 38 = .ok (.istore_n 3, 1) := by decide +kernel
theorem d_M_segmentOf_35 : decode prog_14_method_93_code 35 = .ok (.iconst (-1), 1) := by decide +kernel
theorem d_M_segmentOf_36 : decode prog_14_method_93_code 36 = .ok (.ireturn, 1) := by decide +kernel
theorem v_M_segmentOf_32 {G : XG} {d : Nat} {h : XH} {Q : XV → XH → Prop} {X : Nat → XH → Prop} {x2 s0 s1 : Int} (F : xFix h) (hyp : ((s1 < s0 → (xwp G m_M_segmentOf (d + 3) 39 [xR 53, xZ, xI x2, xI 0] [] h Q X)) ∧ (¬ s1 < s0 → (Q (xI (-1)) h)))) : xwp G m_M_segmentOf (d + 3) 32 [xR 53, xZ, xI x2, xZ] [xI s0, xI s1] h Q X := by
  have hnx9 : (93 : Int) ≤ xnx h := F.2.2
  refine xr_okL (fun hl9 => ?_)
  have r_x2 : -2147483648 ≤ x2 ∧ x2 ≤ 2147483647 := hl9 (xI x2) (.tail _ (.tail _ (.head _))) (Nat.le_of_ble_eq_true rfl)
  refine xr_okS (fun hs9 => ?_)
  have r_s0 : -2147483648 ≤ s0 ∧ s0 ≤ 2147483647 := hs9 (xI s0) (.head _)
  have r_s1 : -2147483648 ≤ s1 ∧ s1 ≤ 2147483647 := hs9 (xI s1) (.tail _ (.head _))
  refine xr_icmp_lt (pc := 32) (tgt := 37) (hI := d_M_segmentOf_32) (ht := by decide) (fun q9 => ?_) (fun q9 => ?_)
  · replace hyp := hyp.1 q9
    have q1_ := q9
    clear q9
    refine xr_iconst (pc := 37) (hI := d_M_segmentOf_37) (hr := by decide) ?_
    refine xr_istore_n (pc := 38) (i := 3) (L9 := [xR 53, xZ, xI x2, xI 0]) (hI := d_M_segmentOf_38) (hi := rfl) (hn := Nat.le_of_ble_eq_true rfl) (hL9 := rfl) ?_
    exact hyp
  · replace hyp := hyp.2 q9
    have q1_ := q9
    clear q9
    refine xr_iconst (pc := 35) (hI := d_M_segmentOf_35) (hr := by decide) ?_
    refine xr_ireturn (S := []) (pc := 36) (hI := d_M_segmentOf_36) (hr := rfl) ?_
    exact hyp
theorem d_M_segmentOf_39 : decode prog_14_method_93_code 39 = .ok (.aload_n 0, 1) := by decide +kernel
theorem d_M_segmentOf_40 : decode prog_14_method_93_code 40 = .ok (.getfield 16, 3) := by decide +kernel
theorem d_M_segmentOf_43 : decode prog_14_method_93_code 43 = .ok (.iload_n 3, 1) := by decide +kernel
theorem d_M_segmentOf_44 : decode prog_14_method_93_code 44 = .ok (.iaload, 1) := by decide +kernel
theorem d_M_segmentOf_45 : decode prog_14_method_93_code 45 = .ok (.iload_n 2, 1) := by decide +kernel
theorem d_M_segmentOf_46 : decode prog_14_method_93_code 46 = .ok (.if_icmp .gt 9, 3) := by decide +kernel
theorem d_M_segmentOf_55 : decode prog_14_method_93_code 55 = .ok (.iload_n 3, 1) := by decide +kernel
theorem d_M_segmentOf_56 : decode prog_14_method_93_code 56 = .ok (.ireturn, 1) := by decide +kernel
theorem d_M_segmentOf_49 : decode prog_14_method_93_code 49 = .ok (.iinc 3 1, 3) := by decide +kernel
theorem d_M_segmentOf_52 : decode prog_14_method_93_code 52 = .ok (.goto (-13), 3) := by decide +kernel
theorem v_M_segmentOf_39 {G : XG} {d : Nat} {h : XH} {Q : XV → XH → Prop} {X : Nat → XH → Prop} {x2 x3 : Int} (F : xFix h) (hyp : 0 ≤ x3 ∧ x3 < 60 ∧ ((x2 < (xpl h 56 x3) → (Q (xI x3) h)) ∧ (¬ x2 < (xpl h 56 x3) → (xwp G m_M_segmentOf (d + 3) 39 [xR 53, xZ, xI x2, xI (x3 + 1)] [] h Q X)))) : xwp G m_M_segmentOf (d + 3) 39 [xR 53, xZ, xI x2, xI x3] [] h Q X := by
  have hnx9 : (93 : Int) ≤ xnx h := F.2.2
  refine xr_okL (fun hl9 => ?_)
  have r_x2 : -2147483648 ≤ x2 ∧ x2 ≤ 2147483647 := hl9 (xI x2) (.tail _ (.tail _ (.head _))) (Nat.le_of_ble_eq_true rfl)
  have r_x3 : -2147483648 ≤ x3 ∧ x3 ≤ 2147483647 := hl9 (xI x3) (.tail _ (.tail _ (.tail _ (.head _)))) (Nat.le_of_ble_eq_true rfl)
  refine xr_aload_n (pc := 39) (i := 0) (hI := d_M_segmentOf_39) (hi := rfl) (hl := rfl) ?_
  refine xg_getf (pc := 40) (ci := 11) (k := 7) (N := 38) (v9 := 2) (v := 56) (T := xF11) (hI := d_M_segmentOf_40) (hw := w_1594) rfl xi11 (Or.inl rfl) (Nat.le_of_ble_eq_true rfl) (Nat.le_of_ble_eq_true rfl) rfl (ft_53 F) (fp_53_7 F) (fun f1_ => ?_)
  clear f1_
  refine xr_iload_n (pc := 43) (i := 3) (hI := d_M_segmentOf_43) (hi := rfl) (hl := rfl) ?_
  obtain ⟨c2_, hyp⟩ := hyp
  obtain ⟨c3_, hyp⟩ := hyp
  refine xg_iaload (pc := 44) (v := (xpl h 56 x3)) (hI := d_M_segmentOf_44) (ft_56 F) c2_ (xlt_of (fl_56 F) c3_) rfl (fun f4_ => ?_)
  replace f4_ : -2147483648 ≤ (xpl h 56 x3) ∧ (xpl h 56 x3) ≤ 2147483647 := f4_
  refine xr_iload_n (pc := 45) (i := 2) (hI := d_M_segmentOf_45) (hi := rfl) (hl := rfl) ?_
  refine xr_icmp_gt (pc := 46) (tgt := 55) (hI := d_M_segmentOf_46) (ht := by decide) (fun q9 => ?_) (fun q9 => ?_)
  · replace hyp := hyp.1 q9
    have q5_ := q9
    clear q9
    refine xr_iload_n (pc := 55) (i := 3) (hI := d_M_segmentOf_55) (hi := rfl) (hl := rfl) ?_
    refine xr_ireturn (S := []) (pc := 56) (hI := d_M_segmentOf_56) (hr := rfl) ?_
    exact hyp
  · replace hyp := hyp.2 q9
    have q5_ := q9
    clear q9
    refine xr_iinc (pc := 49) (i := 3) (L9 := [xR 53, xZ, xI x2, xI (x3 + 1)]) (hI := d_M_segmentOf_49) (hl := rfl) (hn := Nat.le_of_ble_eq_true rfl) (hr := ⟨by clear hyp; omega, by clear hyp; omega⟩) (hL9 := rfl) ?_
    refine xr_goto (pc := 52) (tgt := 39) (hI := d_M_segmentOf_52) (ht := by decide) ?_
    exact hyp
abbrev m_M_shelfOf : XM := (⟨"BeaconIndexModel", "shelfOf", "(I)I"⟩, prog_14_method_94_code, 3, (some .int), [])
theorem d_M_shelfOf_0 : decode prog_14_method_94_code 0 = .ok (.aload_n 0, 1) := by decide +kernel
theorem d_M_shelfOf_1 : decode prog_14_method_94_code 1 = .ok (.iload_n 1, 1) := by decide +kernel
theorem d_M_shelfOf_2 : decode prog_14_method_94_code 2 = .ok (.invokestatic 398, 3) := by decide +kernel
theorem d_M_shelfOf_5 : decode prog_14_method_94_code 5 = .ok (.invokevirtual 407, 3) := by decide +kernel
theorem d_M_shelfOf_8 : decode prog_14_method_94_code 8 = .ok (.ifCond .ne 5, 3) := by decide +kernel
theorem d_M_shelfOf_11 : decode prog_14_method_94_code 11 = .ok (.iconst 0, 1) := by decide +kernel
theorem d_M_shelfOf_12 : decode prog_14_method_94_code 12 = .ok (.ireturn, 1) := by decide +kernel
theorem d_M_shelfOf_13 : decode prog_14_method_94_code 13 = .ok (.aload_n 0, 1) := by decide +kernel
theorem d_M_shelfOf_14 : decode prog_14_method_94_code 14 = .ok (.iload_n 1, 1) := by decide +kernel
theorem d_M_shelfOf_15 : decode prog_14_method_94_code 15 = .ok (.invokevirtual 188, 3) := by decide +kernel
theorem v_M_shelfOf_0 {G : XG} {d : Nat} {h : XH} {Q : XV → XH → Prop} {X : Nat → XH → Prop} {x1 : Int} (F : xFix h) (hyp : ((x1 < 0 → (xFix (xst h 53 0 1) → Q (xI 0) (xst h 53 0 1))) ∧ (¬ x1 < 0 → (((99 : Int) < x1 → (xFix (xst h 53 0 1) → Q (xI 0) (xst h 53 0 1))) ∧ (¬ (99 : Int) < x1 → (xFix (xst h 53 0 0) → xwp G m_M_whereIs (d + 2) 0 [xR 53, xI x1, xZ] [] (xst h 53 0 0) (fun v9 h9 => xwp G m_M_shelfOf (d + 3) 18 [xR 53, xZ, xZ] (xpush v9 []) h9 Q X) X)))))) : xwp G m_M_shelfOf (d + 3) 0 [xR 53, xI x1, xZ] [] h Q X := by
  have hnx9 : (93 : Int) ≤ xnx h := F.2.2
  refine xr_okL (fun hl9 => ?_)
  have r_x1 : -2147483648 ≤ x1 ∧ x1 ≤ 2147483647 := hl9 (xI x1) (.tail _ (.head _)) (Nat.le_of_ble_eq_true rfl)
  refine xr_aload_n (pc := 0) (i := 0) (hI := d_M_shelfOf_0) (hi := rfl) (hl := rfl) ?_
  refine xr_iload_n (pc := 1) (i := 1) (hI := d_M_shelfOf_1) (hi := rfl) (hl := rfl) ?_
  refine xq_callS (pc := 2) (index := 398) (K := m_M_isKey) (As := [xI x1]) (S := [xR 53]) (L0 := [xI x1]) (hI := d_M_shelfOf_2) (hK := k_M_isKey) (hlk := w_1725) (hnoM := rfl) (hS8 := Nat.le_of_ble_eq_true rfl) (hstat := w_1726) (hlen := Nat.le_of_ble_eq_true rfl) (hst := rfl) (hL0 := rfl)  ?_
  refine xr_iload_n (pc := 0) (i := 0) (hI := d_M_isKey_0) (hi := rfl) (hl := rfl) ?_
  refine xr_iconst (pc := 1) (hI := d_M_isKey_1) (hr := by decide) ?_
  refine xr_bipush (pc := 2) (hI := d_M_isKey_2) (hr := by decide) (hv := by decide) ?_
  refine xq_callS (pc := 4) (index := 101) (K := m_M_isBetween) (As := [xI x1, xI 0, xI 99]) (S := []) (L0 := [xI x1, xI 0, xI 99]) (hI := d_M_isKey_4) (hK := k_M_isBetween) (hlk := w_1718) (hnoM := rfl) (hS8 := Nat.le_of_ble_eq_true rfl) (hstat := w_1719) (hlen := Nat.le_of_ble_eq_true rfl) (hst := rfl) (hL0 := rfl)  ?_
  refine xr_iload_n (pc := 0) (i := 0) (hI := d_M_isBetween_0) (hi := rfl) (hl := rfl) ?_
  refine xr_iload_n (pc := 1) (i := 1) (hI := d_M_isBetween_1) (hi := rfl) (hl := rfl) ?_
  refine xr_icmp_lt (pc := 2) (tgt := 14) (hI := d_M_isBetween_2) (ht := by decide) (fun q9 => ?_) (fun q9 => ?_)
  · replace hyp := hyp.1 q9
    have q1_ := q9
    clear q9
    refine xr_iconst (pc := 14) (hI := d_M_isBetween_14) (hr := by decide) ?_
    refine xr_ireturnT (S := []) (pc := 15) (hI := d_M_isBetween_15) (hr := rfl) (xnar_z (by decide)) ?_
    show xwp G m_M_isKey (d + 2) 7 [xI x1] [xI 0] _ _ _
    refine xr_ireturnT (S := []) (pc := 7) (hI := d_M_isKey_7) (hr := rfl) (xnar_z (by decide)) ?_
    show xwp G m_M_shelfOf (d + 3) 5 [xR 53, xI x1, xZ] [xI 0, xR 53] _ _ _
    refine xq_callV (pc := 5) (index := 407) (K := m_M_isKnown) (As := [xI 0]) (S := []) (L0 := [xR 53, xI 0]) (hI := d_M_shelfOf_5) (hK := k_M_isKnown) (hlk := w_1810) (hnoM := rfl) (hS8 := Nat.le_of_ble_eq_true rfl) (ci := 11) (N := 38) (C := "BeaconIndexModel") (T := xF11) (hc := rfl) (hci := Nat.le_of_ble_eq_true rfl) (htb := (ft_53 F)) (hinst := w_1812) (hsel := sel_M_isKnown) (hlen := Nat.le_of_ble_eq_true rfl) (hst := rfl) (hL0 := rfl)  ?_
    refine xr_aload_n (pc := 0) (i := 0) (hI := d_M_isKnown_0) (hi := rfl) (hl := rfl) ?_
    refine xr_iload_n (pc := 1) (i := 1) (hI := d_M_isKnown_1) (hi := rfl) (hl := rfl) ?_
    refine xr_if_eq (pc := 2) (tgt := 9) (hI := d_M_isKnown_2) (ht := by decide) (fun q9 => ?_) (fun q9 => ?_)
    · clear q9
      refine xr_iconst (pc := 9) (hI := d_M_isKnown_9) (hr := by decide) ?_
      refine xr_putf (pc := 10) (ci := 11) (k := 0) (N := 38) (v9 := 0) (T := xF11) (tF := xT11) (hI := d_M_isKnown_10) (hw := w_1587) rfl xi11 xt11 xn11 (Or.inl rfl) (Nat.le_of_ble_eq_true rfl) (Nat.le_of_ble_eq_true rfl) rfl xfit_i rfl (ft_53 F) (by decide) (fun z => z) ?_
      have F2_ : xFix (xst h 53 0 1) := F.stL xfk_53_0
      refine xr_iload_n (pc := 13) (i := 1) (hI := d_M_isKnown_13) (hi := rfl) (hl := rfl) ?_
      refine xr_ireturnT (S := []) (pc := 14) (hI := d_M_isKnown_14) (hr := rfl) (xnar_z (by decide)) ?_
      show xwp G m_M_shelfOf (d + 3) 8 [xR 53, xI x1, xZ] [xI 0] _ _ _
      refine xr_if_ne (pc := 8) (tgt := 13) (hI := d_M_shelfOf_8) (ht := by decide) (fun q9 => ?_) (fun q9 => ?_)
      · exact absurd q9 (by decide)
      · clear q9
        refine xr_iconst (pc := 11) (hI := d_M_shelfOf_11) (hr := by decide) ?_
        refine xr_ireturn (S := []) (pc := 12) (hI := d_M_shelfOf_12) (hr := rfl) ?_
        exact hyp F2_
    · exact absurd q9 (by decide)
  · replace hyp := hyp.2 q9
    have q1_ := q9
    clear q9
    refine xr_iload_n (pc := 5) (i := 0) (hI := d_M_isBetween_5) (hi := rfl) (hl := rfl) ?_
    refine xr_iload_n (pc := 6) (i := 2) (hI := d_M_isBetween_6) (hi := rfl) (hl := rfl) ?_
    refine xr_icmp_gt (pc := 7) (tgt := 14) (hI := d_M_isBetween_7) (ht := by decide) (fun q9 => ?_) (fun q9 => ?_)
    · replace hyp := hyp.1 q9
      have q3_ := q9
      clear q9
      refine xr_iconst (pc := 14) (hI := d_M_isBetween_14) (hr := by decide) ?_
      refine xr_ireturnT (S := []) (pc := 15) (hI := d_M_isBetween_15) (hr := rfl) (xnar_z (by decide)) ?_
      show xwp G m_M_isKey (d + 2) 7 [xI x1] [xI 0] _ _ _
      refine xr_ireturnT (S := []) (pc := 7) (hI := d_M_isKey_7) (hr := rfl) (xnar_z (by decide)) ?_
      show xwp G m_M_shelfOf (d + 3) 5 [xR 53, xI x1, xZ] [xI 0, xR 53] _ _ _
      refine xq_callV (pc := 5) (index := 407) (K := m_M_isKnown) (As := [xI 0]) (S := []) (L0 := [xR 53, xI 0]) (hI := d_M_shelfOf_5) (hK := k_M_isKnown) (hlk := w_1810) (hnoM := rfl) (hS8 := Nat.le_of_ble_eq_true rfl) (ci := 11) (N := 38) (C := "BeaconIndexModel") (T := xF11) (hc := rfl) (hci := Nat.le_of_ble_eq_true rfl) (htb := (ft_53 F)) (hinst := w_1812) (hsel := sel_M_isKnown) (hlen := Nat.le_of_ble_eq_true rfl) (hst := rfl) (hL0 := rfl)  ?_
      refine xr_aload_n (pc := 0) (i := 0) (hI := d_M_isKnown_0) (hi := rfl) (hl := rfl) ?_
      refine xr_iload_n (pc := 1) (i := 1) (hI := d_M_isKnown_1) (hi := rfl) (hl := rfl) ?_
      refine xr_if_eq (pc := 2) (tgt := 9) (hI := d_M_isKnown_2) (ht := by decide) (fun q9 => ?_) (fun q9 => ?_)
      · clear q9
        refine xr_iconst (pc := 9) (hI := d_M_isKnown_9) (hr := by decide) ?_
        refine xr_putf (pc := 10) (ci := 11) (k := 0) (N := 38) (v9 := 0) (T := xF11) (tF := xT11) (hI := d_M_isKnown_10) (hw := w_1587) rfl xi11 xt11 xn11 (Or.inl rfl) (Nat.le_of_ble_eq_true rfl) (Nat.le_of_ble_eq_true rfl) rfl xfit_i rfl (ft_53 F) (by decide) (fun z => z) ?_
        have F4_ : xFix (xst h 53 0 1) := F.stL xfk_53_0
        refine xr_iload_n (pc := 13) (i := 1) (hI := d_M_isKnown_13) (hi := rfl) (hl := rfl) ?_
        refine xr_ireturnT (S := []) (pc := 14) (hI := d_M_isKnown_14) (hr := rfl) (xnar_z (by decide)) ?_
        show xwp G m_M_shelfOf (d + 3) 8 [xR 53, xI x1, xZ] [xI 0] _ _ _
        refine xr_if_ne (pc := 8) (tgt := 13) (hI := d_M_shelfOf_8) (ht := by decide) (fun q9 => ?_) (fun q9 => ?_)
        · exact absurd q9 (by decide)
        · clear q9
          refine xr_iconst (pc := 11) (hI := d_M_shelfOf_11) (hr := by decide) ?_
          refine xr_ireturn (S := []) (pc := 12) (hI := d_M_shelfOf_12) (hr := rfl) ?_
          exact hyp F4_
      · exact absurd q9 (by decide)
    · replace hyp := hyp.2 q9
      have q3_ := q9
      clear q9
      refine xr_iconst (pc := 10) (hI := d_M_isBetween_10) (hr := by decide) ?_
      refine xr_goto (pc := 11) (tgt := 15) (hI := d_M_isBetween_11) (ht := by decide) ?_
      refine xr_ireturnT (S := []) (pc := 15) (hI := d_M_isBetween_15) (hr := rfl) (xnar_z (by decide)) ?_
      show xwp G m_M_isKey (d + 2) 7 [xI x1] [xI 1] _ _ _
      refine xr_ireturnT (S := []) (pc := 7) (hI := d_M_isKey_7) (hr := rfl) (xnar_z (by decide)) ?_
      show xwp G m_M_shelfOf (d + 3) 5 [xR 53, xI x1, xZ] [xI 1, xR 53] _ _ _
      refine xq_callV (pc := 5) (index := 407) (K := m_M_isKnown) (As := [xI 1]) (S := []) (L0 := [xR 53, xI 1]) (hI := d_M_shelfOf_5) (hK := k_M_isKnown) (hlk := w_1810) (hnoM := rfl) (hS8 := Nat.le_of_ble_eq_true rfl) (ci := 11) (N := 38) (C := "BeaconIndexModel") (T := xF11) (hc := rfl) (hci := Nat.le_of_ble_eq_true rfl) (htb := (ft_53 F)) (hinst := w_1812) (hsel := sel_M_isKnown) (hlen := Nat.le_of_ble_eq_true rfl) (hst := rfl) (hL0 := rfl)  ?_
      refine xr_aload_n (pc := 0) (i := 0) (hI := d_M_isKnown_0) (hi := rfl) (hl := rfl) ?_
      refine xr_iload_n (pc := 1) (i := 1) (hI := d_M_isKnown_1) (hi := rfl) (hl := rfl) ?_
      refine xr_if_eq (pc := 2) (tgt := 9) (hI := d_M_isKnown_2) (ht := by decide) (fun q9 => ?_) (fun q9 => ?_)
      · exact absurd q9 (by decide)
      · clear q9
        refine xr_iconst (pc := 5) (hI := d_M_isKnown_5) (hr := by decide) ?_
        refine xr_goto (pc := 6) (tgt := 10) (hI := d_M_isKnown_6) (ht := by decide) ?_
        refine xr_putf (pc := 10) (ci := 11) (k := 0) (N := 38) (v9 := 0) (T := xF11) (tF := xT11) (hI := d_M_isKnown_10) (hw := w_1587) rfl xi11 xt11 xn11 (Or.inl rfl) (Nat.le_of_ble_eq_true rfl) (Nat.le_of_ble_eq_true rfl) rfl xfit_i rfl (ft_53 F) (by decide) (fun z => z) ?_
        have F5_ : xFix (xst h 53 0 0) := F.stL xfk_53_0
        refine xr_iload_n (pc := 13) (i := 1) (hI := d_M_isKnown_13) (hi := rfl) (hl := rfl) ?_
        refine xr_ireturnT (S := []) (pc := 14) (hI := d_M_isKnown_14) (hr := rfl) (xnar_z (by decide)) ?_
        show xwp G m_M_shelfOf (d + 3) 8 [xR 53, xI x1, xZ] [xI 1] _ _ _
        refine xr_if_ne (pc := 8) (tgt := 13) (hI := d_M_shelfOf_8) (ht := by decide) (fun q9 => ?_) (fun q9 => ?_)
        · clear q9
          refine xr_aload_n (pc := 13) (i := 0) (hI := d_M_shelfOf_13) (hi := rfl) (hl := rfl) ?_
          refine xr_iload_n (pc := 14) (i := 1) (hI := d_M_shelfOf_14) (hi := rfl) (hl := rfl) ?_
          exact xq_callV (pc := 15) (index := 188) (K := m_M_whereIs) (As := [xI x1]) (S := []) (L0 := [xR 53, xI x1, xZ]) (hI := d_M_shelfOf_15) (hK := k_M_whereIs) (hlk := w_1728) (hnoM := rfl) (hS8 := Nat.le_of_ble_eq_true rfl) (ci := 11) (N := 38) (C := "BeaconIndexModel") (T := xF11) (hc := rfl) (hci := Nat.le_of_ble_eq_true rfl) (htb := (ft_53 F5_)) (hinst := w_1730) (hsel := sel_M_whereIs) (hlen := Nat.le_of_ble_eq_true rfl) (hst := rfl) (hL0 := rfl)  (xwp_mono (hyp F5_) (fun v9 h9 q9 => xr_drop (L9 := [xR 53, xZ, xZ]) (xdrs (xdrz (xdrs xdr0))) q9) (fun _ _ z9 => z9))
        · exact absurd q9 (by decide)
theorem d_M_shelfOf_18 : decode prog_14_method_94_code 18 = .ok (.istore_n 2, 1) := by decide +kernel
theorem d_M_shelfOf_19 : decode prog_14_method_94_code 19 = .ok (.iload_n 2, 1) := by decide +kernel
theorem d_M_shelfOf_20 : decode prog_14_method_94_code 20 = .ok (.iconst (-1), 1) := by decide +kernel
theorem d_M_shelfOf_21 : decode prog_14_method_94_code 21 = .ok (.if_icmp .ne 7, 3) := by decide +kernel
theorem d_M_shelfOf_28 : decode prog_14_method_94_code 28 = .ok (.aload_n 0, 1) := by decide +kernel
theorem d_M_shelfOf_29 : decode prog_14_method_94_code 29 = .ok (.getfield 22, 3) := by decide +kernel
theorem w_1596 : Cond.fieldLink "BeaconIndexModel" 22 "BeaconIndexModel" "shelf" "[I" ∈ lw_tbl := List.mem_append_right _ (List.mem_of_getElem? (i := 1596) (by decide +kernel))
theorem d_M_shelfOf_32 : decode prog_14_method_94_code 32 = .ok (.aload_n 0, 1) := by decide +kernel
theorem d_M_shelfOf_33 : decode prog_14_method_94_code 33 = .ok (.getfield 13, 3) := by decide +kernel
theorem d_M_shelfOf_36 : decode prog_14_method_94_code 36 = .ok (.iload_n 2, 1) := by decide +kernel
theorem d_M_shelfOf_37 : decode prog_14_method_94_code 37 = .ok (.iaload, 1) := by decide +kernel
theorem d_M_shelfOf_38 : decode prog_14_method_94_code 38 = .ok (.iaload, 1) := by decide +kernel
theorem d_M_shelfOf_39 : decode prog_14_method_94_code 39 = .ok (.ireturn, 1) := by decide +kernel
theorem d_M_shelfOf_24 : decode prog_14_method_94_code 24 = .ok (.iconst (-1), 1) := by decide +kernel
theorem d_M_shelfOf_25 : decode prog_14_method_94_code 25 = .ok (.goto 14, 3) := by decide +kernel
theorem v_M_shelfOf_18 {G : XG} {d : Nat} {h : XH} {Q : XV → XH → Prop} {X : Nat → XH → Prop} {s0 : Int} (F : xFix h) (hyp : ((s0 = (-1) → (Q (xI (-1)) h)) ∧ (¬ s0 = (-1) → 0 ≤ s0 ∧ s0 < 60 ∧ 0 ≤ (xpl h 55 s0) ∧ (xpl h 55 s0) < 60 ∧ (Q (xI (xpl h 58 (xpl h 55 s0))) h)))) : xwp G m_M_shelfOf (d + 3) 18 [xR 53, xZ, xZ] [xI s0] h Q X := by
  have hnx9 : (93 : Int) ≤ xnx h := F.2.2
  refine xr_okS (fun hs9 => ?_)
  have r_s0 : -2147483648 ≤ s0 ∧ s0 ≤ 2147483647 := hs9 (xI s0) (.head _)
  refine xr_istore_n (pc := 18) (i := 2) (L9 := [xR 53, xZ, xI s0]) (hI := d_M_shelfOf_18) (hi := rfl) (hn := Nat.le_of_ble_eq_true rfl) (hL9 := rfl) ?_
  refine xr_iload_n (pc := 19) (i := 2) (hI := d_M_shelfOf_19) (hi := rfl) (hl := rfl) ?_
  refine xr_iconst (pc := 20) (hI := d_M_shelfOf_20) (hr := by decide) ?_
  refine xr_icmp_ne (pc := 21) (tgt := 28) (hI := d_M_shelfOf_21) (ht := by decide) (fun q9 => ?_) (fun q9 => ?_)
  · replace hyp := hyp.2 q9
    have q1_ := q9
    clear q9
    refine xr_aload_n (pc := 28) (i := 0) (hI := d_M_shelfOf_28) (hi := rfl) (hl := rfl) ?_
    refine xg_getf (pc := 29) (ci := 11) (k := 9) (N := 38) (v9 := 2) (v := 58) (T := xF11) (hI := d_M_shelfOf_29) (hw := w_1596) rfl xi11 (Or.inl rfl) (Nat.le_of_ble_eq_true rfl) (Nat.le_of_ble_eq_true rfl) rfl (ft_53 F) (fp_53_9 F) (fun f2_ => ?_)
    clear f2_
    refine xr_aload_n (pc := 32) (i := 0) (hI := d_M_shelfOf_32) (hi := rfl) (hl := rfl) ?_
    refine xg_getf (pc := 33) (ci := 11) (k := 3) (N := 38) (v9 := 2) (v := 55) (T := xF11) (hI := d_M_shelfOf_33) (hw := w_1590) rfl xi11 (Or.inl rfl) (Nat.le_of_ble_eq_true rfl) (Nat.le_of_ble_eq_true rfl) rfl (ft_53 F) (fp_53_3 F) (fun f3_ => ?_)
    clear f3_
    refine xr_iload_n (pc := 36) (i := 2) (hI := d_M_shelfOf_36) (hi := rfl) (hl := rfl) ?_
    obtain ⟨c4_, hyp⟩ := hyp
    obtain ⟨c5_, hyp⟩ := hyp
    refine xg_iaload (pc := 37) (v := (xpl h 55 s0)) (hI := d_M_shelfOf_37) (ft_55 F) c4_ (xlt_of (fl_55 F) c5_) rfl (fun f6_ => ?_)
    replace f6_ : -2147483648 ≤ (xpl h 55 s0) ∧ (xpl h 55 s0) ≤ 2147483647 := f6_
    obtain ⟨c7_, hyp⟩ := hyp
    obtain ⟨c8_, hyp⟩ := hyp
    refine xg_iaload (pc := 38) (v := (xpl h 58 (xpl h 55 s0))) (hI := d_M_shelfOf_38) (ft_58 F) c7_ (xlt_of (fl_58 F) c8_) rfl (fun f9_ => ?_)
    replace f9_ : -2147483648 ≤ (xpl h 58 (xpl h 55 s0)) ∧ (xpl h 58 (xpl h 55 s0)) ≤ 2147483647 := f9_
    refine xr_ireturn (S := []) (pc := 39) (hI := d_M_shelfOf_39) (hr := rfl) ?_
    exact hyp
  · replace hyp := hyp.1 q9
    have q1_ := q9
    clear q9
    refine xr_iconst (pc := 24) (hI := d_M_shelfOf_24) (hr := by decide) ?_
    refine xr_goto (pc := 25) (tgt := 39) (hI := d_M_shelfOf_25) (ht := by decide) ?_
    refine xr_ireturn (S := []) (pc := 39) (hI := d_M_shelfOf_39) (hr := rfl) ?_
    exact hyp
abbrev m_M_takeOut : XM := (⟨"BeaconIndexModel", "takeOut", "(I)Z"⟩, prog_14_method_79_code, 3, (some .boolean), [])
theorem d_M_takeOut_0 : decode prog_14_method_79_code 0 = .ok (.aload_n 0, 1) := by decide +kernel
theorem d_M_takeOut_1 : decode prog_14_method_79_code 1 = .ok (.iload_n 1, 1) := by decide +kernel
theorem d_M_takeOut_2 : decode prog_14_method_79_code 2 = .ok (.invokestatic 398, 3) := by decide +kernel
theorem d_M_takeOut_5 : decode prog_14_method_79_code 5 = .ok (.invokevirtual 407, 3) := by decide +kernel
theorem d_M_takeOut_8 : decode prog_14_method_79_code 8 = .ok (.ifCond .ne 5, 3) := by decide +kernel
theorem d_M_takeOut_11 : decode prog_14_method_79_code 11 = .ok (.iconst 0, 1) := by decide +kernel
theorem d_M_takeOut_12 : decode prog_14_method_79_code 12 = .ok (.ireturn, 1) := by decide +kernel
theorem d_M_takeOut_13 : decode prog_14_method_79_code 13 = .ok (.aload_n 0, 1) := by decide +kernel
theorem d_M_takeOut_14 : decode prog_14_method_79_code 14 = .ok (.iload_n 1, 1) := by decide +kernel
theorem d_M_takeOut_15 : decode prog_14_method_79_code 15 = .ok (.invokevirtual 188, 3) := by decide +kernel
theorem v_M_takeOut_0 {G : XG} {d : Nat} {h : XH} {Q : XV → XH → Prop} {X : Nat → XH → Prop} {x1 : Int} (F : xFix h) (hyp : ((x1 < 0 → (xFix (xst h 53 0 1) → Q (xI 0) (xst h 53 0 1))) ∧ (¬ x1 < 0 → (((99 : Int) < x1 → (xFix (xst h 53 0 1) → Q (xI 0) (xst h 53 0 1))) ∧ (¬ (99 : Int) < x1 → (xFix (xst h 53 0 0) → xwp G m_M_whereIs (d + 3) 0 [xR 53, xI x1, xZ] [] (xst h 53 0 0) (fun v9 h9 => xwp G m_M_takeOut (d + 4) 18 [xR 53, xZ, xZ] (xpush v9 []) h9 Q X) X)))))) : xwp G m_M_takeOut (d + 4) 0 [xR 53, xI x1, xZ] [] h Q X := by
  have hnx9 : (93 : Int) ≤ xnx h := F.2.2
  refine xr_okL (fun hl9 => ?_)
  have r_x1 : -2147483648 ≤ x1 ∧ x1 ≤ 2147483647 := hl9 (xI x1) (.tail _ (.head _)) (Nat.le_of_ble_eq_true rfl)
  refine xr_aload_n (pc := 0) (i := 0) (hI := d_M_takeOut_0) (hi := rfl) (hl := rfl) ?_
  refine xr_iload_n (pc := 1) (i := 1) (hI := d_M_takeOut_1) (hi := rfl) (hl := rfl) ?_
  refine xq_callS (pc := 2) (index := 398) (K := m_M_isKey) (As := [xI x1]) (S := [xR 53]) (L0 := [xI x1]) (hI := d_M_takeOut_2) (hK := k_M_isKey) (hlk := w_1725) (hnoM := rfl) (hS8 := Nat.le_of_ble_eq_true rfl) (hstat := w_1726) (hlen := Nat.le_of_ble_eq_true rfl) (hst := rfl) (hL0 := rfl)  ?_
  refine xr_iload_n (pc := 0) (i := 0) (hI := d_M_isKey_0) (hi := rfl) (hl := rfl) ?_
  refine xr_iconst (pc := 1) (hI := d_M_isKey_1) (hr := by decide) ?_
  refine xr_bipush (pc := 2) (hI := d_M_isKey_2) (hr := by decide) (hv := by decide) ?_
  refine xq_callS (pc := 4) (index := 101) (K := m_M_isBetween) (As := [xI x1, xI 0, xI 99]) (S := []) (L0 := [xI x1, xI 0, xI 99]) (hI := d_M_isKey_4) (hK := k_M_isBetween) (hlk := w_1718) (hnoM := rfl) (hS8 := Nat.le_of_ble_eq_true rfl) (hstat := w_1719) (hlen := Nat.le_of_ble_eq_true rfl) (hst := rfl) (hL0 := rfl)  ?_
  refine xr_iload_n (pc := 0) (i := 0) (hI := d_M_isBetween_0) (hi := rfl) (hl := rfl) ?_
  refine xr_iload_n (pc := 1) (i := 1) (hI := d_M_isBetween_1) (hi := rfl) (hl := rfl) ?_
  refine xr_icmp_lt (pc := 2) (tgt := 14) (hI := d_M_isBetween_2) (ht := by decide) (fun q9 => ?_) (fun q9 => ?_)
  · replace hyp := hyp.1 q9
    have q1_ := q9
    clear q9
    refine xr_iconst (pc := 14) (hI := d_M_isBetween_14) (hr := by decide) ?_
    refine xr_ireturnT (S := []) (pc := 15) (hI := d_M_isBetween_15) (hr := rfl) (xnar_z (by decide)) ?_
    show xwp G m_M_isKey (d + 3) 7 [xI x1] [xI 0] _ _ _
    refine xr_ireturnT (S := []) (pc := 7) (hI := d_M_isKey_7) (hr := rfl) (xnar_z (by decide)) ?_
    show xwp G m_M_takeOut (d + 4) 5 [xR 53, xI x1, xZ] [xI 0, xR 53] _ _ _
    refine xq_callV (pc := 5) (index := 407) (K := m_M_isKnown) (As := [xI 0]) (S := []) (L0 := [xR 53, xI 0]) (hI := d_M_takeOut_5) (hK := k_M_isKnown) (hlk := w_1810) (hnoM := rfl) (hS8 := Nat.le_of_ble_eq_true rfl) (ci := 11) (N := 38) (C := "BeaconIndexModel") (T := xF11) (hc := rfl) (hci := Nat.le_of_ble_eq_true rfl) (htb := (ft_53 F)) (hinst := w_1812) (hsel := sel_M_isKnown) (hlen := Nat.le_of_ble_eq_true rfl) (hst := rfl) (hL0 := rfl)  ?_
    refine xr_aload_n (pc := 0) (i := 0) (hI := d_M_isKnown_0) (hi := rfl) (hl := rfl) ?_
    refine xr_iload_n (pc := 1) (i := 1) (hI := d_M_isKnown_1) (hi := rfl) (hl := rfl) ?_
    refine xr_if_eq (pc := 2) (tgt := 9) (hI := d_M_isKnown_2) (ht := by decide) (fun q9 => ?_) (fun q9 => ?_)
    · clear q9
      refine xr_iconst (pc := 9) (hI := d_M_isKnown_9) (hr := by decide) ?_
      refine xr_putf (pc := 10) (ci := 11) (k := 0) (N := 38) (v9 := 0) (T := xF11) (tF := xT11) (hI := d_M_isKnown_10) (hw := w_1587) rfl xi11 xt11 xn11 (Or.inl rfl) (Nat.le_of_ble_eq_true rfl) (Nat.le_of_ble_eq_true rfl) rfl xfit_i rfl (ft_53 F) (by decide) (fun z => z) ?_
      have F2_ : xFix (xst h 53 0 1) := F.stL xfk_53_0
      refine xr_iload_n (pc := 13) (i := 1) (hI := d_M_isKnown_13) (hi := rfl) (hl := rfl) ?_
      refine xr_ireturnT (S := []) (pc := 14) (hI := d_M_isKnown_14) (hr := rfl) (xnar_z (by decide)) ?_
      show xwp G m_M_takeOut (d + 4) 8 [xR 53, xI x1, xZ] [xI 0] _ _ _
      refine xr_if_ne (pc := 8) (tgt := 13) (hI := d_M_takeOut_8) (ht := by decide) (fun q9 => ?_) (fun q9 => ?_)
      · exact absurd q9 (by decide)
      · clear q9
        refine xr_iconst (pc := 11) (hI := d_M_takeOut_11) (hr := by decide) ?_
        refine xr_ireturnT (S := []) (pc := 12) (hI := d_M_takeOut_12) (hr := rfl) (xnar_z (by decide)) ?_
        exact hyp F2_
    · exact absurd q9 (by decide)
  · replace hyp := hyp.2 q9
    have q1_ := q9
    clear q9
    refine xr_iload_n (pc := 5) (i := 0) (hI := d_M_isBetween_5) (hi := rfl) (hl := rfl) ?_
    refine xr_iload_n (pc := 6) (i := 2) (hI := d_M_isBetween_6) (hi := rfl) (hl := rfl) ?_
    refine xr_icmp_gt (pc := 7) (tgt := 14) (hI := d_M_isBetween_7) (ht := by decide) (fun q9 => ?_) (fun q9 => ?_)
    · replace hyp := hyp.1 q9
      have q3_ := q9
      clear q9
      refine xr_iconst (pc := 14) (hI := d_M_isBetween_14) (hr := by decide) ?_
      refine xr_ireturnT (S := []) (pc := 15) (hI := d_M_isBetween_15) (hr := rfl) (xnar_z (by decide)) ?_
      show xwp G m_M_isKey (d + 3) 7 [xI x1] [xI 0] _ _ _
      refine xr_ireturnT (S := []) (pc := 7) (hI := d_M_isKey_7) (hr := rfl) (xnar_z (by decide)) ?_
      show xwp G m_M_takeOut (d + 4) 5 [xR 53, xI x1, xZ] [xI 0, xR 53] _ _ _
      refine xq_callV (pc := 5) (index := 407) (K := m_M_isKnown) (As := [xI 0]) (S := []) (L0 := [xR 53, xI 0]) (hI := d_M_takeOut_5) (hK := k_M_isKnown) (hlk := w_1810) (hnoM := rfl) (hS8 := Nat.le_of_ble_eq_true rfl) (ci := 11) (N := 38) (C := "BeaconIndexModel") (T := xF11) (hc := rfl) (hci := Nat.le_of_ble_eq_true rfl) (htb := (ft_53 F)) (hinst := w_1812) (hsel := sel_M_isKnown) (hlen := Nat.le_of_ble_eq_true rfl) (hst := rfl) (hL0 := rfl)  ?_
      refine xr_aload_n (pc := 0) (i := 0) (hI := d_M_isKnown_0) (hi := rfl) (hl := rfl) ?_
      refine xr_iload_n (pc := 1) (i := 1) (hI := d_M_isKnown_1) (hi := rfl) (hl := rfl) ?_
      refine xr_if_eq (pc := 2) (tgt := 9) (hI := d_M_isKnown_2) (ht := by decide) (fun q9 => ?_) (fun q9 => ?_)
      · clear q9
        refine xr_iconst (pc := 9) (hI := d_M_isKnown_9) (hr := by decide) ?_
        refine xr_putf (pc := 10) (ci := 11) (k := 0) (N := 38) (v9 := 0) (T := xF11) (tF := xT11) (hI := d_M_isKnown_10) (hw := w_1587) rfl xi11 xt11 xn11 (Or.inl rfl) (Nat.le_of_ble_eq_true rfl) (Nat.le_of_ble_eq_true rfl) rfl xfit_i rfl (ft_53 F) (by decide) (fun z => z) ?_
        have F4_ : xFix (xst h 53 0 1) := F.stL xfk_53_0
        refine xr_iload_n (pc := 13) (i := 1) (hI := d_M_isKnown_13) (hi := rfl) (hl := rfl) ?_
        refine xr_ireturnT (S := []) (pc := 14) (hI := d_M_isKnown_14) (hr := rfl) (xnar_z (by decide)) ?_
        show xwp G m_M_takeOut (d + 4) 8 [xR 53, xI x1, xZ] [xI 0] _ _ _
        refine xr_if_ne (pc := 8) (tgt := 13) (hI := d_M_takeOut_8) (ht := by decide) (fun q9 => ?_) (fun q9 => ?_)
        · exact absurd q9 (by decide)
        · clear q9
          refine xr_iconst (pc := 11) (hI := d_M_takeOut_11) (hr := by decide) ?_
          refine xr_ireturnT (S := []) (pc := 12) (hI := d_M_takeOut_12) (hr := rfl) (xnar_z (by decide)) ?_
          exact hyp F4_
      · exact absurd q9 (by decide)
    · replace hyp := hyp.2 q9
      have q3_ := q9
      clear q9
      refine xr_iconst (pc := 10) (hI := d_M_isBetween_10) (hr := by decide) ?_
      refine xr_goto (pc := 11) (tgt := 15) (hI := d_M_isBetween_11) (ht := by decide) ?_
      refine xr_ireturnT (S := []) (pc := 15) (hI := d_M_isBetween_15) (hr := rfl) (xnar_z (by decide)) ?_
      show xwp G m_M_isKey (d + 3) 7 [xI x1] [xI 1] _ _ _
      refine xr_ireturnT (S := []) (pc := 7) (hI := d_M_isKey_7) (hr := rfl) (xnar_z (by decide)) ?_
      show xwp G m_M_takeOut (d + 4) 5 [xR 53, xI x1, xZ] [xI 1, xR 53] _ _ _
      refine xq_callV (pc := 5) (index := 407) (K := m_M_isKnown) (As := [xI 1]) (S := []) (L0 := [xR 53, xI 1]) (hI := d_M_takeOut_5) (hK := k_M_isKnown) (hlk := w_1810) (hnoM := rfl) (hS8 := Nat.le_of_ble_eq_true rfl) (ci := 11) (N := 38) (C := "BeaconIndexModel") (T := xF11) (hc := rfl) (hci := Nat.le_of_ble_eq_true rfl) (htb := (ft_53 F)) (hinst := w_1812) (hsel := sel_M_isKnown) (hlen := Nat.le_of_ble_eq_true rfl) (hst := rfl) (hL0 := rfl)  ?_
      refine xr_aload_n (pc := 0) (i := 0) (hI := d_M_isKnown_0) (hi := rfl) (hl := rfl) ?_
      refine xr_iload_n (pc := 1) (i := 1) (hI := d_M_isKnown_1) (hi := rfl) (hl := rfl) ?_
      refine xr_if_eq (pc := 2) (tgt := 9) (hI := d_M_isKnown_2) (ht := by decide) (fun q9 => ?_) (fun q9 => ?_)
      · exact absurd q9 (by decide)
      · clear q9
        refine xr_iconst (pc := 5) (hI := d_M_isKnown_5) (hr := by decide) ?_
        refine xr_goto (pc := 6) (tgt := 10) (hI := d_M_isKnown_6) (ht := by decide) ?_
        refine xr_putf (pc := 10) (ci := 11) (k := 0) (N := 38) (v9 := 0) (T := xF11) (tF := xT11) (hI := d_M_isKnown_10) (hw := w_1587) rfl xi11 xt11 xn11 (Or.inl rfl) (Nat.le_of_ble_eq_true rfl) (Nat.le_of_ble_eq_true rfl) rfl xfit_i rfl (ft_53 F) (by decide) (fun z => z) ?_
        have F5_ : xFix (xst h 53 0 0) := F.stL xfk_53_0
        refine xr_iload_n (pc := 13) (i := 1) (hI := d_M_isKnown_13) (hi := rfl) (hl := rfl) ?_
        refine xr_ireturnT (S := []) (pc := 14) (hI := d_M_isKnown_14) (hr := rfl) (xnar_z (by decide)) ?_
        show xwp G m_M_takeOut (d + 4) 8 [xR 53, xI x1, xZ] [xI 1] _ _ _
        refine xr_if_ne (pc := 8) (tgt := 13) (hI := d_M_takeOut_8) (ht := by decide) (fun q9 => ?_) (fun q9 => ?_)
        · clear q9
          refine xr_aload_n (pc := 13) (i := 0) (hI := d_M_takeOut_13) (hi := rfl) (hl := rfl) ?_
          refine xr_iload_n (pc := 14) (i := 1) (hI := d_M_takeOut_14) (hi := rfl) (hl := rfl) ?_
          exact xq_callV (pc := 15) (index := 188) (K := m_M_whereIs) (As := [xI x1]) (S := []) (L0 := [xR 53, xI x1, xZ]) (hI := d_M_takeOut_15) (hK := k_M_whereIs) (hlk := w_1728) (hnoM := rfl) (hS8 := Nat.le_of_ble_eq_true rfl) (ci := 11) (N := 38) (C := "BeaconIndexModel") (T := xF11) (hc := rfl) (hci := Nat.le_of_ble_eq_true rfl) (htb := (ft_53 F5_)) (hinst := w_1730) (hsel := sel_M_whereIs) (hlen := Nat.le_of_ble_eq_true rfl) (hst := rfl) (hL0 := rfl)  (xwp_mono (hyp F5_) (fun v9 h9 q9 => xr_drop (L9 := [xR 53, xZ, xZ]) (xdrs (xdrz (xdrs xdr0))) q9) (fun _ _ z9 => z9))
        · exact absurd q9 (by decide)
theorem d_M_takeOut_18 : decode prog_14_method_79_code 18 = .ok (.istore_n 2, 1) := by decide +kernel
theorem d_M_takeOut_19 : decode prog_14_method_79_code 19 = .ok (.iload_n 2, 1) := by decide +kernel
theorem d_M_takeOut_20 : decode prog_14_method_79_code 20 = .ok (.iconst (-1), 1) := by decide +kernel
theorem d_M_takeOut_21 : decode prog_14_method_79_code 21 = .ok (.if_icmp .eq 9, 3) := by decide +kernel
theorem d_M_takeOut_30 : decode prog_14_method_79_code 30 = .ok (.aload_n 0, 1) := by decide +kernel
theorem d_M_takeOut_31 : decode prog_14_method_79_code 31 = .ok (.iconst 2, 1) := by decide +kernel
theorem d_M_takeOut_32 : decode prog_14_method_79_code 32 = .ok (.putfield 97, 3) := by decide +kernel
theorem d_M_takeOut_35 : decode prog_14_method_79_code 35 = .ok (.iconst 0, 1) := by decide +kernel
theorem d_M_takeOut_36 : decode prog_14_method_79_code 36 = .ok (.ireturn, 1) := by decide +kernel
theorem d_M_takeOut_24 : decode prog_14_method_79_code 24 = .ok (.aload_n 0, 1) := by decide +kernel
theorem d_M_takeOut_25 : decode prog_14_method_79_code 25 = .ok (.iload_n 2, 1) := by decide +kernel
theorem d_M_takeOut_26 : decode prog_14_method_79_code 26 = .ok (.invokevirtual 401, 3) := by decide +kernel
theorem k_M_out : xCal m_M_out 1 := ⟨List.mem_append_right _ (List.mem_of_getElem? (i := 1743) (by decide +kernel)), w_15, Nat.le_of_ble_eq_true rfl, ⟨by decide +kernel, by decide +kernel⟩, by decide +kernel, by decide +kernel, rfl⟩
theorem w_1740 : Cond.methodLink "BeaconIndexModel" 401 ⟨"BeaconIndexModel", "out", "(I)Z"⟩ ∈ lw_tbl := List.mem_append_right _ (List.mem_of_getElem? (i := 1740) (by decide +kernel))
theorem w_1742 : Cond.instanceMethod ⟨"BeaconIndexModel", "out", "(I)Z"⟩ ∈ lw_tbl := List.mem_append_right _ (List.mem_of_getElem? (i := 1742) (by decide +kernel))
theorem sel_M_out : Cond.selects "BeaconIndexModel" ⟨"BeaconIndexModel", "out", "(I)Z"⟩ ⟨"BeaconIndexModel", "out", "(I)Z"⟩ ∈ lw_tbl := List.mem_append_left _ (by decide +kernel)
theorem v_M_takeOut_18 {G : XG} {d : Nat} {h : XH} {Q : XV → XH → Prop} {X : Nat → XH → Prop} {s0 : Int} (F : xFix h) (hyp : ((s0 = (-1) → (xFix (xst h 53 0 2) → Q (xI 0) (xst h 53 0 2))) ∧ (¬ s0 = (-1) → (xwp G m_M_out (d + 3) 0 [xR 53, xI s0, xZ] [] h (fun v9 h9 => xwp G m_M_takeOut (d + 4) 29 [xZ, xZ, xZ] (xpush v9 []) h9 Q X) X)))) : xwp G m_M_takeOut (d + 4) 18 [xR 53, xZ, xZ] [xI s0] h Q X := by
  have hnx9 : (93 : Int) ≤ xnx h := F.2.2
  refine xr_okS (fun hs9 => ?_)
  have r_s0 : -2147483648 ≤ s0 ∧ s0 ≤ 2147483647 := hs9 (xI s0) (.head _)
  refine xr_istore_n (pc := 18) (i := 2) (L9 := [xR 53, xZ, xI s0]) (hI := d_M_takeOut_18) (hi := rfl) (hn := Nat.le_of_ble_eq_true rfl) (hL9 := rfl) ?_
  refine xr_iload_n (pc := 19) (i := 2) (hI := d_M_takeOut_19) (hi := rfl) (hl := rfl) ?_
  refine xr_iconst (pc := 20) (hI := d_M_takeOut_20) (hr := by decide) ?_
  refine xr_icmp_eq (pc := 21) (tgt := 30) (hI := d_M_takeOut_21) (ht := by decide) (fun q9 => ?_) (fun q9 => ?_)
  · replace hyp := hyp.1 q9
    have q1_ := q9
    clear q9
    refine xr_aload_n (pc := 30) (i := 0) (hI := d_M_takeOut_30) (hi := rfl) (hl := rfl) ?_
    refine xr_iconst (pc := 31) (hI := d_M_takeOut_31) (hr := by decide) ?_
    refine xr_putf (pc := 32) (ci := 11) (k := 0) (N := 38) (v9 := 0) (T := xF11) (tF := xT11) (hI := d_M_takeOut_32) (hw := w_1587) rfl xi11 xt11 xn11 (Or.inl rfl) (Nat.le_of_ble_eq_true rfl) (Nat.le_of_ble_eq_true rfl) rfl xfit_i rfl (ft_53 F) (by decide) (fun z => z) ?_
    have F2_ : xFix (xst h 53 0 2) := F.stL xfk_53_0
    refine xr_iconst (pc := 35) (hI := d_M_takeOut_35) (hr := by decide) ?_
    refine xr_ireturnT (S := []) (pc := 36) (hI := d_M_takeOut_36) (hr := rfl) (xnar_z (by decide)) ?_
    exact hyp F2_
  · replace hyp := hyp.2 q9
    have q1_ := q9
    clear q9
    refine xr_aload_n (pc := 24) (i := 0) (hI := d_M_takeOut_24) (hi := rfl) (hl := rfl) ?_
    refine xr_iload_n (pc := 25) (i := 2) (hI := d_M_takeOut_25) (hi := rfl) (hl := rfl) ?_
    exact xq_callV (pc := 26) (index := 401) (K := m_M_out) (As := [xI s0]) (S := []) (L0 := [xR 53, xI s0, xZ]) (hI := d_M_takeOut_26) (hK := k_M_out) (hlk := w_1740) (hnoM := rfl) (hS8 := Nat.le_of_ble_eq_true rfl) (ci := 11) (N := 38) (C := "BeaconIndexModel") (T := xF11) (hc := rfl) (hci := Nat.le_of_ble_eq_true rfl) (htb := (ft_53 F)) (hinst := w_1742) (hsel := sel_M_out) (hlen := Nat.le_of_ble_eq_true rfl) (hst := rfl) (hL0 := rfl)  (xwp_mono hyp (fun v9 h9 q9 => xr_drop (L9 := [xZ, xZ, xZ]) (xdrz (xdrs (xdrz xdr0))) q9) (fun _ _ z9 => z9))
theorem d_M_takeOut_29 : decode prog_14_method_79_code 29 = .ok (.ireturn, 1) := by decide +kernel
theorem v_M_takeOut_29 {G : XG} {d : Nat} {h : XH} {Q : XV → XH → Prop} {X : Nat → XH → Prop} {s0 : Int} (F : xFix h) (hyp : (0 ≤ s0 ∧ s0 ≤ 1) ∧ (Q (xI s0) h)) : xwp G m_M_takeOut (d + 4) 29 [xZ, xZ, xZ] [xI s0] h Q X := by
  have hnx9 : (93 : Int) ≤ xnx h := F.2.2
  refine xr_okS (fun hs9 => ?_)
  have r_s0 : -2147483648 ≤ s0 ∧ s0 ≤ 2147483647 := hs9 (xI s0) (.head _)
  obtain ⟨c9, hyp⟩ := hyp
  refine xr_ireturnT (S := []) (pc := 29) (hI := d_M_takeOut_29) (hr := rfl) (xnar_z c9) ?_
  exact hyp
abbrev m_M_commit : XM := (⟨"BeaconIndexModel", "commit", "()I"⟩, prog_14_method_80_code, 3, (some .int), [])
theorem d_M_commit_0 : decode prog_14_method_80_code 0 = .ok (.aload_n 0, 1) := by decide +kernel
theorem d_M_commit_1 : decode prog_14_method_80_code 1 = .ok (.iconst 0, 1) := by decide +kernel
theorem d_M_commit_2 : decode prog_14_method_80_code 2 = .ok (.putfield 97, 3) := by decide +kernel
theorem d_M_commit_5 : decode prog_14_method_80_code 5 = .ok (.aload_n 0, 1) := by decide +kernel
theorem d_M_commit_6 : decode prog_14_method_80_code 6 = .ok (.iconst 0, 1) := by decide +kernel
theorem d_M_commit_7 : decode prog_14_method_80_code 7 = .ok (.putfield 200, 3) := by decide +kernel
theorem d_M_commit_10 : decode prog_14_method_80_code 10 = .ok (.aload_n 0, 1) := by decide +kernel
theorem d_M_commit_11 : decode prog_14_method_80_code 11 = .ok (.getfield 185, 3) := by decide +kernel
theorem d_M_commit_14 : decode prog_14_method_80_code 14 = .ok (.aload_n 0, 1) := by decide +kernel
theorem d_M_commit_15 : decode prog_14_method_80_code 15 = .ok (.invokevirtual 191, 3) := by decide +kernel
theorem v_M_commit_0 {G : XG} {d : Nat} {h : XH} {Q : XV → XH → Prop} {X : Nat → XH → Prop} (F : xFix h) (hyp : (xFix (xst (xst h 53 0 0) 53 26 0) → xwp G m_M_inSegments (d + 3) 0 [xR 53] [] (xst (xst h 53 0 0) 53 26 0) (fun v9 h9 => xwp G m_M_commit (d + 4) 18 [xR 53, xZ, xZ] (xpush v9 [xI (xpl h 53 4)]) h9 Q X) X)) : xwp G m_M_commit (d + 4) 0 [xR 53, xZ, xZ] [] h Q X := by
  have hnx9 : (93 : Int) ≤ xnx h := F.2.2
  refine xr_aload_n (pc := 0) (i := 0) (hI := d_M_commit_0) (hi := rfl) (hl := rfl) ?_
  refine xr_iconst (pc := 1) (hI := d_M_commit_1) (hr := by decide) ?_
  refine xr_putf (pc := 2) (ci := 11) (k := 0) (N := 38) (v9 := 0) (T := xF11) (tF := xT11) (hI := d_M_commit_2) (hw := w_1587) rfl xi11 xt11 xn11 (Or.inl rfl) (Nat.le_of_ble_eq_true rfl) (Nat.le_of_ble_eq_true rfl) rfl xfit_i rfl (ft_53 F) (by decide) (fun z => z) ?_
  have F1_ : xFix (xst h 53 0 0) := F.stL xfk_53_0
  refine xr_aload_n (pc := 5) (i := 0) (hI := d_M_commit_5) (hi := rfl) (hl := rfl) ?_
  refine xr_iconst (pc := 6) (hI := d_M_commit_6) (hr := by decide) ?_
  refine xr_putf (pc := 7) (ci := 11) (k := 26) (N := 38) (v9 := 0) (T := xF11) (tF := xT11) (hI := d_M_commit_7) (hw := w_1613) rfl xi11 xt11 xn11 (Or.inl rfl) (Nat.le_of_ble_eq_true rfl) (Nat.le_of_ble_eq_true rfl) rfl xfit_z rfl (ft_53 F1_) (by decide) (fun _ => (by decide : (0 : Int) ≤ 0 ∧ (0 : Int) ≤ 1)) ?_
  have F2_ : xFix (xst (xst h 53 0 0) 53 26 0) := F1_.stL xfk_53_26
  refine xr_aload_n (pc := 10) (i := 0) (hI := d_M_commit_10) (hi := rfl) (hl := rfl) ?_
  refine xg_getf (pc := 11) (ci := 11) (k := 4) (N := 38) (v9 := 0) (v := (xpl h 53 4)) (T := xF11) (hI := d_M_commit_11) (hw := w_1591) rfl xi11 (Or.inl rfl) (Nat.le_of_ble_eq_true rfl) (Nat.le_of_ble_eq_true rfl) rfl (ft_53 F2_) (Eq.trans (xpl_ok (by decide)) (xpl_ok (by decide))) (fun f3_ => ?_)
  replace f3_ : -2147483648 ≤ (xpl h 53 4) ∧ (xpl h 53 4) ≤ 2147483647 := f3_
  refine xr_aload_n (pc := 14) (i := 0) (hI := d_M_commit_14) (hi := rfl) (hl := rfl) ?_
  exact xq_callV (pc := 15) (index := 191) (K := m_M_inSegments) (As := []) (S := [xI (xpl h 53 4)]) (L0 := [xR 53]) (hI := d_M_commit_15) (hK := k_M_inSegments) (hlk := w_1732) (hnoM := rfl) (hS8 := Nat.le_of_ble_eq_true rfl) (ci := 11) (N := 38) (C := "BeaconIndexModel") (T := xF11) (hc := rfl) (hci := Nat.le_of_ble_eq_true rfl) (htb := (ft_53 F2_)) (hinst := w_1734) (hsel := sel_M_inSegments) (hlen := Nat.le_of_ble_eq_true rfl) (hst := rfl) (hL0 := rfl)  (hyp F2_)
theorem d_M_commit_18 : decode prog_14_method_80_code 18 = .ok (.if_icmp .le 26, 3) := by decide +kernel
theorem d_M_commit_44 : decode prog_14_method_80_code 44 = .ok (.iconst 0, 1) := by decide +kernel
theorem d_M_commit_45 : decode prog_14_method_80_code 45 = .ok (.istore_n 1, 1) := by decide +kernel
theorem d_M_commit_21 : decode prog_14_method_80_code 21 = .ok (.aload_n 0, 1) := by decide +kernel
theorem d_M_commit_22 : decode prog_14_method_80_code 22 = .ok (.getfield 16, 3) := by decide +kernel
theorem d_M_commit_25 : decode prog_14_method_80_code 25 = .ok (.aload_n 0, 1) := by decide +kernel
theorem d_M_commit_26 : decode prog_14_method_80_code 26 = .ok (.getfield 176, 3) := by decide +kernel
theorem d_M_commit_29 : decode prog_14_method_80_code 29 = .ok (.aload_n 0, 1) := by decide +kernel
theorem d_M_commit_30 : decode prog_14_method_80_code 30 = .ok (.getfield 185, 3) := by decide +kernel
theorem d_M_commit_33 : decode prog_14_method_80_code 33 = .ok (.iastore, 1) := by decide +kernel
theorem d_M_commit_34 : decode prog_14_method_80_code 34 = .ok (.aload_n 0, 1) := by decide +kernel
theorem d_M_commit_35 : decode prog_14_method_80_code 35 = .ok (.dup, 1) := by decide +kernel
theorem d_M_commit_36 : decode prog_14_method_80_code 36 = .ok (.getfield 176, 3) := by decide +kernel
theorem d_M_commit_39 : decode prog_14_method_80_code 39 = .ok (.iconst 1, 1) := by decide +kernel
theorem d_M_commit_40 : decode prog_14_method_80_code 40 = .ok (.iadd, 1) := by decide +kernel
theorem d_M_commit_41 : decode prog_14_method_80_code 41 = .ok (.putfield 176, 3) := by decide +kernel
theorem v_M_commit_18 {G : XG} {d : Nat} {h : XH} {Q : XV → XH → Prop} {X : Nat → XH → Prop} {s0 s1 : Int} (F : xFix h) (hyp : ((s1 ≤ s0 → (xwp G m_M_commit (d + 4) 46 [xR 53, xI 0, xZ] [] h Q X)) ∧ (¬ s1 ≤ s0 → 0 ≤ (xpl h 53 5) ∧ (xpl h 53 5) < 60 ∧ (xFix (xst (xst h 56 (xpl h 53 5) (xpl h 53 4)) 53 5 ((xpl h 53 5) + 1)) → xwp G m_M_commit (d + 4) 46 [xR 53, xI 0, xZ] [] (xst (xst h 56 (xpl h 53 5) (xpl h 53 4)) 53 5 ((xpl h 53 5) + 1)) Q X)))) : xwp G m_M_commit (d + 4) 18 [xR 53, xZ, xZ] [xI s0, xI s1] h Q X := by
  have hnx9 : (93 : Int) ≤ xnx h := F.2.2
  refine xr_okS (fun hs9 => ?_)
  have r_s0 : -2147483648 ≤ s0 ∧ s0 ≤ 2147483647 := hs9 (xI s0) (.head _)
  have r_s1 : -2147483648 ≤ s1 ∧ s1 ≤ 2147483647 := hs9 (xI s1) (.tail _ (.head _))
  refine xr_icmp_le (pc := 18) (tgt := 44) (hI := d_M_commit_18) (ht := by decide) (fun q9 => ?_) (fun q9 => ?_)
  · replace hyp := hyp.1 q9
    have q1_ := q9
    clear q9
    refine xr_iconst (pc := 44) (hI := d_M_commit_44) (hr := by decide) ?_
    refine xr_istore_n (pc := 45) (i := 1) (L9 := [xR 53, xI 0, xZ]) (hI := d_M_commit_45) (hi := rfl) (hn := Nat.le_of_ble_eq_true rfl) (hL9 := rfl) ?_
    exact hyp
  · replace hyp := hyp.2 q9
    have q1_ := q9
    clear q9
    refine xr_aload_n (pc := 21) (i := 0) (hI := d_M_commit_21) (hi := rfl) (hl := rfl) ?_
    refine xg_getf (pc := 22) (ci := 11) (k := 7) (N := 38) (v9 := 2) (v := 56) (T := xF11) (hI := d_M_commit_22) (hw := w_1594) rfl xi11 (Or.inl rfl) (Nat.le_of_ble_eq_true rfl) (Nat.le_of_ble_eq_true rfl) rfl (ft_53 F) (fp_53_7 F) (fun f2_ => ?_)
    clear f2_
    refine xr_aload_n (pc := 25) (i := 0) (hI := d_M_commit_25) (hi := rfl) (hl := rfl) ?_
    refine xg_getf (pc := 26) (ci := 11) (k := 5) (N := 38) (v9 := 0) (v := (xpl h 53 5)) (T := xF11) (hI := d_M_commit_26) (hw := w_1592) rfl xi11 (Or.inl rfl) (Nat.le_of_ble_eq_true rfl) (Nat.le_of_ble_eq_true rfl) rfl (ft_53 F) rfl (fun f3_ => ?_)
    replace f3_ : -2147483648 ≤ (xpl h 53 5) ∧ (xpl h 53 5) ≤ 2147483647 := f3_
    refine xr_aload_n (pc := 29) (i := 0) (hI := d_M_commit_29) (hi := rfl) (hl := rfl) ?_
    refine xg_getf (pc := 30) (ci := 11) (k := 4) (N := 38) (v9 := 0) (v := (xpl h 53 4)) (T := xF11) (hI := d_M_commit_30) (hw := w_1591) rfl xi11 (Or.inl rfl) (Nat.le_of_ble_eq_true rfl) (Nat.le_of_ble_eq_true rfl) rfl (ft_53 F) rfl (fun f4_ => ?_)
    replace f4_ : -2147483648 ≤ (xpl h 53 4) ∧ (xpl h 53 4) ≤ 2147483647 := f4_
    obtain ⟨c5_, hyp⟩ := hyp
    obtain ⟨c6_, hyp⟩ := hyp
    refine xr_iastore (pc := 33) (hI := d_M_commit_33) (ft_56 F) (by decide) c5_ (xlt_of (fl_56 F) c6_) ?_
    have F7_ : xFix (xst h 56 (xpl h 53 5) (xpl h 53 4)) := F.stA xfa_56
    refine xr_aload_n (pc := 34) (i := 0) (hI := d_M_commit_34) (hi := rfl) (hl := rfl) ?_
    refine xr_dup (pc := 35) (hI := d_M_commit_35) (hv := rfl) ?_
    refine xg_getf (pc := 36) (ci := 11) (k := 5) (N := 38) (v9 := 0) (v := (xpl h 53 5)) (T := xF11) (hI := d_M_commit_36) (hw := w_1592) rfl xi11 (Or.inl rfl) (Nat.le_of_ble_eq_true rfl) (Nat.le_of_ble_eq_true rfl) rfl (ft_53 F7_) (xpl_oa (by decide)) (fun f8_ => ?_)
    replace f8_ : -2147483648 ≤ (xpl h 53 5) ∧ (xpl h 53 5) ≤ 2147483647 := f8_
    refine xr_iconst (pc := 39) (hI := d_M_commit_39) (hr := by decide) ?_
    refine xr_iadd (pc := 40) (hI := d_M_commit_40) (hr := ⟨by clear hyp; omega, by clear hyp; omega⟩) ?_
    refine xr_putf (pc := 41) (ci := 11) (k := 5) (N := 38) (v9 := 0) (T := xF11) (tF := xT11) (hI := d_M_commit_41) (hw := w_1592) rfl xi11 xt11 xn11 (Or.inl rfl) (Nat.le_of_ble_eq_true rfl) (Nat.le_of_ble_eq_true rfl) rfl xfit_i rfl (ft_53 F7_) (by decide) (fun z => z) ?_
    have F9_ : xFix (xst (xst h 56 (xpl h 53 5) (xpl h 53 4)) 53 5 ((xpl h 53 5) + 1)) := F7_.stL xfk_53_5
    refine xr_iconst (pc := 44) (hI := d_M_commit_44) (hr := by decide) ?_
    refine xr_istore_n (pc := 45) (i := 1) (L9 := [xR 53, xI 0, xZ]) (hI := d_M_commit_45) (hi := rfl) (hn := Nat.le_of_ble_eq_true rfl) (hL9 := rfl) ?_
    exact (hyp F9_)
theorem d_M_commit_46 : decode prog_14_method_80_code 46 = .ok (.iload_n 1, 1) := by decide +kernel
theorem d_M_commit_47 : decode prog_14_method_80_code 47 = .ok (.iconst 2, 1) := by decide +kernel
theorem d_M_commit_48 : decode prog_14_method_80_code 48 = .ok (.iadd, 1) := by decide +kernel
theorem d_M_commit_49 : decode prog_14_method_80_code 49 = .ok (.aload_n 0, 1) := by decide +kernel
theorem d_M_commit_50 : decode prog_14_method_80_code 50 = .ok (.getfield 176, 3) := by decide +kernel
theorem d_M_commit_53 : decode prog_14_method_80_code 53 = .ok (.if_icmp .ge 67, 3) := by decide +kernel
theorem d_M_commit_120 : decode prog_14_method_80_code 120 = .ok (.aload_n 0, 1) := by decide +kernel
theorem d_M_commit_121 : decode prog_14_method_80_code 121 = .ok (.getfield 176, 3) := by decide +kernel
theorem d_M_commit_124 : decode prog_14_method_80_code 124 = .ok (.ireturn, 1) := by decide +kernel
theorem d_M_commit_56 : decode prog_14_method_80_code 56 = .ok (.aload_n 0, 1) := by decide +kernel
theorem d_M_commit_57 : decode prog_14_method_80_code 57 = .ok (.iload_n 1, 1) := by decide +kernel
theorem d_M_commit_58 : decode prog_14_method_80_code 58 = .ok (.invokevirtual 411, 3) := by decide +kernel
theorem v_M_commit_46 {G : XG} {d : Nat} {h : XH} {Q : XV → XH → Prop} {X : Nat → XH → Prop} {x1 : Int} (F : xFix h) (hyp : xiR (x1 + 2) ∧ (((xpl h 53 5) ≤ (x1 + 2) → (Q (xI (xpl h 53 5)) h)) ∧ (¬ (xpl h 53 5) ≤ (x1 + 2) → (xwp G m_M_level (d + 3) 0 [xR 53, xI x1, xZ] [] h (fun v9 h9 => xwp G m_M_commit (d + 4) 61 [xR 53, xI x1, xZ] (xpush v9 []) h9 Q X) X)))) : xwp G m_M_commit (d + 4) 46 [xR 53, xI x1, xZ] [] h Q X := by
  have hnx9 : (93 : Int) ≤ xnx h := F.2.2
  refine xr_okL (fun hl9 => ?_)
  have r_x1 : -2147483648 ≤ x1 ∧ x1 ≤ 2147483647 := hl9 (xI x1) (.tail _ (.head _)) (Nat.le_of_ble_eq_true rfl)
  refine xr_iload_n (pc := 46) (i := 1) (hI := d_M_commit_46) (hi := rfl) (hl := rfl) ?_
  refine xr_iconst (pc := 47) (hI := d_M_commit_47) (hr := by decide) ?_
  obtain ⟨c9, hyp⟩ := hyp
  refine xr_iadd (pc := 48) (hI := d_M_commit_48) (hr := c9) ?_
  refine xr_aload_n (pc := 49) (i := 0) (hI := d_M_commit_49) (hi := rfl) (hl := rfl) ?_
  refine xg_getf (pc := 50) (ci := 11) (k := 5) (N := 38) (v9 := 0) (v := (xpl h 53 5)) (T := xF11) (hI := d_M_commit_50) (hw := w_1592) rfl xi11 (Or.inl rfl) (Nat.le_of_ble_eq_true rfl) (Nat.le_of_ble_eq_true rfl) rfl (ft_53 F) rfl (fun f1_ => ?_)
  replace f1_ : -2147483648 ≤ (xpl h 53 5) ∧ (xpl h 53 5) ≤ 2147483647 := f1_
  refine xr_icmp_ge (pc := 53) (tgt := 120) (hI := d_M_commit_53) (ht := by decide) (fun q9 => ?_) (fun q9 => ?_)
  · replace hyp := hyp.1 q9
    have q2_ := q9
    clear q9
    refine xr_aload_n (pc := 120) (i := 0) (hI := d_M_commit_120) (hi := rfl) (hl := rfl) ?_
    refine xg_getf (pc := 121) (ci := 11) (k := 5) (N := 38) (v9 := 0) (v := (xpl h 53 5)) (T := xF11) (hI := d_M_commit_121) (hw := w_1592) rfl xi11 (Or.inl rfl) (Nat.le_of_ble_eq_true rfl) (Nat.le_of_ble_eq_true rfl) rfl (ft_53 F) rfl (fun f3_ => ?_)
    replace f3_ : -2147483648 ≤ (xpl h 53 5) ∧ (xpl h 53 5) ≤ 2147483647 := f3_
    refine xr_ireturn (S := []) (pc := 124) (hI := d_M_commit_124) (hr := rfl) ?_
    exact hyp
  · replace hyp := hyp.2 q9
    have q2_ := q9
    clear q9
    refine xr_aload_n (pc := 56) (i := 0) (hI := d_M_commit_56) (hi := rfl) (hl := rfl) ?_
    refine xr_iload_n (pc := 57) (i := 1) (hI := d_M_commit_57) (hi := rfl) (hl := rfl) ?_
    exact xq_callV (pc := 58) (index := 411) (K := m_M_level) (As := [xI x1]) (S := []) (L0 := [xR 53, xI x1, xZ]) (hI := d_M_commit_58) (hK := k_M_level) (hlk := w_1818) (hnoM := rfl) (hS8 := Nat.le_of_ble_eq_true rfl) (ci := 11) (N := 38) (C := "BeaconIndexModel") (T := xF11) (hc := rfl) (hci := Nat.le_of_ble_eq_true rfl) (htb := (ft_53 F)) (hinst := w_1820) (hsel := sel_M_level) (hlen := Nat.le_of_ble_eq_true rfl) (hst := rfl) (hL0 := rfl)  hyp
theorem d_M_commit_61 : decode prog_14_method_80_code 61 = .ok (.aload_n 0, 1) := by decide +kernel
theorem d_M_commit_62 : decode prog_14_method_80_code 62 = .ok (.iload_n 1, 1) := by decide +kernel
theorem d_M_commit_63 : decode prog_14_method_80_code 63 = .ok (.iconst 1, 1) := by decide +kernel
theorem d_M_commit_64 : decode prog_14_method_80_code 64 = .ok (.iadd, 1) := by decide +kernel
theorem d_M_commit_65 : decode prog_14_method_80_code 65 = .ok (.invokevirtual 411, 3) := by decide +kernel
theorem v_M_commit_61 {G : XG} {d : Nat} {h : XH} {Q : XV → XH → Prop} {X : Nat → XH → Prop} {x1 s0 : Int} (F : xFix h) (hyp : xiR (x1 + 1) ∧ (xwp G m_M_level (d + 3) 0 [xR 53, xI (x1 + 1), xZ] [] h (fun v9 h9 => xwp G m_M_commit (d + 4) 68 [xR 53, xI x1, xZ] (xpush v9 [xI s0]) h9 Q X) X)) : xwp G m_M_commit (d + 4) 61 [xR 53, xI x1, xZ] [xI s0] h Q X := by
  have hnx9 : (93 : Int) ≤ xnx h := F.2.2
  refine xr_okL (fun hl9 => ?_)
  have r_x1 : -2147483648 ≤ x1 ∧ x1 ≤ 2147483647 := hl9 (xI x1) (.tail _ (.head _)) (Nat.le_of_ble_eq_true rfl)
  refine xr_okS (fun hs9 => ?_)
  have r_s0 : -2147483648 ≤ s0 ∧ s0 ≤ 2147483647 := hs9 (xI s0) (.head _)
  refine xr_aload_n (pc := 61) (i := 0) (hI := d_M_commit_61) (hi := rfl) (hl := rfl) ?_
  refine xr_iload_n (pc := 62) (i := 1) (hI := d_M_commit_62) (hi := rfl) (hl := rfl) ?_
  refine xr_iconst (pc := 63) (hI := d_M_commit_63) (hr := by decide) ?_
  obtain ⟨c9, hyp⟩ := hyp
  refine xr_iadd (pc := 64) (hI := d_M_commit_64) (hr := c9) ?_
  exact xq_callV (pc := 65) (index := 411) (K := m_M_level) (As := [xI (x1 + 1)]) (S := [xI s0]) (L0 := [xR 53, xI (x1 + 1), xZ]) (hI := d_M_commit_65) (hK := k_M_level) (hlk := w_1818) (hnoM := rfl) (hS8 := Nat.le_of_ble_eq_true rfl) (ci := 11) (N := 38) (C := "BeaconIndexModel") (T := xF11) (hc := rfl) (hci := Nat.le_of_ble_eq_true rfl) (htb := (ft_53 F)) (hinst := w_1820) (hsel := sel_M_level) (hlen := Nat.le_of_ble_eq_true rfl) (hst := rfl) (hL0 := rfl)  hyp
theorem d_M_commit_68 : decode prog_14_method_80_code 68 = .ok (.if_icmp .ne 22, 3) := by decide +kernel
theorem d_M_commit_71 : decode prog_14_method_80_code 71 = .ok (.aload_n 0, 1) := by decide +kernel
theorem d_M_commit_72 : decode prog_14_method_80_code 72 = .ok (.iload_n 1, 1) := by decide +kernel
theorem d_M_commit_73 : decode prog_14_method_80_code 73 = .ok (.invokevirtual 411, 3) := by decide +kernel
theorem v_M_commit_68 {G : XG} {d : Nat} {h : XH} {Q : XV → XH → Prop} {X : Nat → XH → Prop} {x1 s0 s1 : Int} (F : xFix h) (hyp : ((s1 = s0 → (xwp G m_M_level (d + 3) 0 [xR 53, xI x1, xZ] [] h (fun v9 h9 => xwp G m_M_commit (d + 4) 76 [xR 53, xI x1, xZ] (xpush v9 []) h9 Q X) X)) ∧ (¬ s1 = s0 → (xwp G m_M_commit (d + 4) 90 [xR 53, xI x1, xZ] [] h Q X)))) : xwp G m_M_commit (d + 4) 68 [xR 53, xI x1, xZ] [xI s0, xI s1] h Q X := by
  have hnx9 : (93 : Int) ≤ xnx h := F.2.2
  refine xr_okL (fun hl9 => ?_)
  have r_x1 : -2147483648 ≤ x1 ∧ x1 ≤ 2147483647 := hl9 (xI x1) (.tail _ (.head _)) (Nat.le_of_ble_eq_true rfl)
  refine xr_okS (fun hs9 => ?_)
  have r_s0 : -2147483648 ≤ s0 ∧ s0 ≤ 2147483647 := hs9 (xI s0) (.head _)
  have r_s1 : -2147483648 ≤ s1 ∧ s1 ≤ 2147483647 := hs9 (xI s1) (.tail _ (.head _))
  refine xr_icmp_ne (pc := 68) (tgt := 90) (hI := d_M_commit_68) (ht := by decide) (fun q9 => ?_) (fun q9 => ?_)
  · replace hyp := hyp.2 q9
    have q1_ := q9
    clear q9
    exact hyp
  · replace hyp := hyp.1 q9
    have q1_ := q9
    clear q9
    refine xr_aload_n (pc := 71) (i := 0) (hI := d_M_commit_71) (hi := rfl) (hl := rfl) ?_
    refine xr_iload_n (pc := 72) (i := 1) (hI := d_M_commit_72) (hi := rfl) (hl := rfl) ?_
    exact xq_callV (pc := 73) (index := 411) (K := m_M_level) (As := [xI x1]) (S := []) (L0 := [xR 53, xI x1, xZ]) (hI := d_M_commit_73) (hK := k_M_level) (hlk := w_1818) (hnoM := rfl) (hS8 := Nat.le_of_ble_eq_true rfl) (ci := 11) (N := 38) (C := "BeaconIndexModel") (T := xF11) (hc := rfl) (hci := Nat.le_of_ble_eq_true rfl) (htb := (ft_53 F)) (hinst := w_1820) (hsel := sel_M_level) (hlen := Nat.le_of_ble_eq_true rfl) (hst := rfl) (hL0 := rfl)  hyp
theorem d_M_commit_76 : decode prog_14_method_80_code 76 = .ok (.aload_n 0, 1) := by decide +kernel
theorem d_M_commit_77 : decode prog_14_method_80_code 77 = .ok (.iload_n 1, 1) := by decide +kernel
theorem d_M_commit_78 : decode prog_14_method_80_code 78 = .ok (.iconst 2, 1) := by decide +kernel
theorem d_M_commit_79 : decode prog_14_method_80_code 79 = .ok (.iadd, 1) := by decide +kernel
theorem d_M_commit_80 : decode prog_14_method_80_code 80 = .ok (.invokevirtual 411, 3) := by decide +kernel
theorem v_M_commit_76 {G : XG} {d : Nat} {h : XH} {Q : XV → XH → Prop} {X : Nat → XH → Prop} {x1 s0 : Int} (F : xFix h) (hyp : xiR (x1 + 2) ∧ (xwp G m_M_level (d + 3) 0 [xR 53, xI (x1 + 2), xZ] [] h (fun v9 h9 => xwp G m_M_commit (d + 4) 83 [xR 53, xI x1, xZ] (xpush v9 [xI s0]) h9 Q X) X)) : xwp G m_M_commit (d + 4) 76 [xR 53, xI x1, xZ] [xI s0] h Q X := by
  have hnx9 : (93 : Int) ≤ xnx h := F.2.2
  refine xr_okL (fun hl9 => ?_)
  have r_x1 : -2147483648 ≤ x1 ∧ x1 ≤ 2147483647 := hl9 (xI x1) (.tail _ (.head _)) (Nat.le_of_ble_eq_true rfl)
  refine xr_okS (fun hs9 => ?_)
  have r_s0 : -2147483648 ≤ s0 ∧ s0 ≤ 2147483647 := hs9 (xI s0) (.head _)
  refine xr_aload_n (pc := 76) (i := 0) (hI := d_M_commit_76) (hi := rfl) (hl := rfl) ?_
  refine xr_iload_n (pc := 77) (i := 1) (hI := d_M_commit_77) (hi := rfl) (hl := rfl) ?_
  refine xr_iconst (pc := 78) (hI := d_M_commit_78) (hr := by decide) ?_
  obtain ⟨c9, hyp⟩ := hyp
  refine xr_iadd (pc := 79) (hI := d_M_commit_79) (hr := c9) ?_
  exact xq_callV (pc := 80) (index := 411) (K := m_M_level) (As := [xI (x1 + 2)]) (S := [xI s0]) (L0 := [xR 53, xI (x1 + 2), xZ]) (hI := d_M_commit_80) (hK := k_M_level) (hlk := w_1818) (hnoM := rfl) (hS8 := Nat.le_of_ble_eq_true rfl) (ci := 11) (N := 38) (C := "BeaconIndexModel") (T := xF11) (hc := rfl) (hci := Nat.le_of_ble_eq_true rfl) (htb := (ft_53 F)) (hinst := w_1820) (hsel := sel_M_level) (hlen := Nat.le_of_ble_eq_true rfl) (hst := rfl) (hL0 := rfl)  hyp
theorem d_M_commit_83 : decode prog_14_method_80_code 83 = .ok (.if_icmp .ne 7, 3) := by decide +kernel
theorem d_M_commit_86 : decode prog_14_method_80_code 86 = .ok (.iconst 1, 1) := by decide +kernel
theorem d_M_commit_87 : decode prog_14_method_80_code 87 = .ok (.goto 4, 3) := by decide +kernel
theorem v_M_commit_83 {G : XG} {d : Nat} {h : XH} {Q : XV → XH → Prop} {X : Nat → XH → Prop} {x1 s0 s1 : Int} (F : xFix h) (hyp : ((s1 = s0 → (xwp G m_M_commit (d + 4) 91 [xR 53, xI x1, xZ] [xI 1] h Q X)) ∧ (¬ s1 = s0 → (xwp G m_M_commit (d + 4) 90 [xR 53, xI x1, xZ] [] h Q X)))) : xwp G m_M_commit (d + 4) 83 [xR 53, xI x1, xZ] [xI s0, xI s1] h Q X := by
  have hnx9 : (93 : Int) ≤ xnx h := F.2.2
  refine xr_okL (fun hl9 => ?_)
  have r_x1 : -2147483648 ≤ x1 ∧ x1 ≤ 2147483647 := hl9 (xI x1) (.tail _ (.head _)) (Nat.le_of_ble_eq_true rfl)
  refine xr_okS (fun hs9 => ?_)
  have r_s0 : -2147483648 ≤ s0 ∧ s0 ≤ 2147483647 := hs9 (xI s0) (.head _)
  have r_s1 : -2147483648 ≤ s1 ∧ s1 ≤ 2147483647 := hs9 (xI s1) (.tail _ (.head _))
  refine xr_icmp_ne (pc := 83) (tgt := 90) (hI := d_M_commit_83) (ht := by decide) (fun q9 => ?_) (fun q9 => ?_)
  · replace hyp := hyp.2 q9
    have q1_ := q9
    clear q9
    exact hyp
  · replace hyp := hyp.1 q9
    have q1_ := q9
    clear q9
    refine xr_iconst (pc := 86) (hI := d_M_commit_86) (hr := by decide) ?_
    refine xr_goto (pc := 87) (tgt := 91) (hI := d_M_commit_87) (ht := by decide) ?_
    exact hyp
theorem d_M_commit_90 : decode prog_14_method_80_code 90 = .ok (.iconst 0, 1) := by decide +kernel
theorem v_M_commit_90 {G : XG} {d : Nat} {h : XH} {Q : XV → XH → Prop} {X : Nat → XH → Prop} {x1 : Int} (F : xFix h) (hyp : (xwp G m_M_commit (d + 4) 91 [xR 53, xI x1, xZ] [xI 0] h Q X)) : xwp G m_M_commit (d + 4) 90 [xR 53, xI x1, xZ] [] h Q X := by
  have hnx9 : (93 : Int) ≤ xnx h := F.2.2
  refine xr_okL (fun hl9 => ?_)
  have r_x1 : -2147483648 ≤ x1 ∧ x1 ≤ 2147483647 := hl9 (xI x1) (.tail _ (.head _)) (Nat.le_of_ble_eq_true rfl)
  refine xr_iconst (pc := 90) (hI := d_M_commit_90) (hr := by decide) ?_
  exact hyp
theorem d_M_commit_91 : decode prog_14_method_80_code 91 = .ok (.istore_n 2, 1) := by decide +kernel
theorem d_M_commit_92 : decode prog_14_method_80_code 92 = .ok (.iload_n 2, 1) := by decide +kernel
theorem d_M_commit_93 : decode prog_14_method_80_code 93 = .ok (.ifCond .eq 12, 3) := by decide +kernel
theorem d_M_commit_96 : decode prog_14_method_80_code 96 = .ok (.aload_n 0, 1) := by decide +kernel
theorem d_M_commit_97 : decode prog_14_method_80_code 97 = .ok (.iload_n 1, 1) := by decide +kernel
theorem d_M_commit_98 : decode prog_14_method_80_code 98 = .ok (.iload_n 1, 1) := by decide +kernel
theorem d_M_commit_99 : decode prog_14_method_80_code 99 = .ok (.iconst 2, 1) := by decide +kernel
theorem d_M_commit_100 : decode prog_14_method_80_code 100 = .ok (.iadd, 1) := by decide +kernel
theorem d_M_commit_101 : decode prog_14_method_80_code 101 = .ok (.invokevirtual 414, 3) := by decide +kernel
theorem k_M_merge : xCal m_M_merge 2 := ⟨List.mem_append_right _ (List.mem_of_getElem? (i := 1829) (by decide +kernel)), w_15, Nat.le_of_ble_eq_true rfl, ⟨by decide +kernel, by decide +kernel⟩, by decide +kernel, by decide +kernel, rfl⟩
theorem w_1826 : Cond.methodLink "BeaconIndexModel" 414 ⟨"BeaconIndexModel", "merge", "(II)I"⟩ ∈ lw_tbl := List.mem_append_right _ (List.mem_of_getElem? (i := 1826) (by decide +kernel))
theorem w_1828 : Cond.instanceMethod ⟨"BeaconIndexModel", "merge", "(II)I"⟩ ∈ lw_tbl := List.mem_append_right _ (List.mem_of_getElem? (i := 1828) (by decide +kernel))
theorem sel_M_merge : Cond.selects "BeaconIndexModel" ⟨"BeaconIndexModel", "merge", "(II)I"⟩ ⟨"BeaconIndexModel", "merge", "(II)I"⟩ ∈ lw_tbl := List.mem_append_left _ (by decide +kernel)
theorem v_M_commit_91 {G : XG} {d : Nat} {h : XH} {Q : XV → XH → Prop} {X : Nat → XH → Prop} {x1 s0 : Int} (F : xFix h) (hyp : ((s0 = 0 → (xwp G m_M_commit (d + 4) 105 [xR 53, xI x1, xI s0] [] h Q X)) ∧ (¬ s0 = 0 → xiR (x1 + 2) ∧ (xwp G m_M_merge (d + 3) 0 [xR 53, xI x1, xI (x1 + 2), xZ, xZ, xZ, xZ] [] h (fun v9 h9 => xwp G m_M_commit (d + 4) 104 [xR 53, xI x1, xI s0] (xpush v9 []) h9 Q X) X)))) : xwp G m_M_commit (d + 4) 91 [xR 53, xI x1, xZ] [xI s0] h Q X := by
  have hnx9 : (93 : Int) ≤ xnx h := F.2.2
  refine xr_okL (fun hl9 => ?_)
  have r_x1 : -2147483648 ≤ x1 ∧ x1 ≤ 2147483647 := hl9 (xI x1) (.tail _ (.head _)) (Nat.le_of_ble_eq_true rfl)
  refine xr_okS (fun hs9 => ?_)
  have r_s0 : -2147483648 ≤ s0 ∧ s0 ≤ 2147483647 := hs9 (xI s0) (.head _)
  refine xr_istore_n (pc := 91) (i := 2) (L9 := [xR 53, xI x1, xI s0]) (hI := d_M_commit_91) (hi := rfl) (hn := Nat.le_of_ble_eq_true rfl) (hL9 := rfl) ?_
  refine xr_iload_n (pc := 92) (i := 2) (hI := d_M_commit_92) (hi := rfl) (hl := rfl) ?_
  refine xr_if_eq (pc := 93) (tgt := 105) (hI := d_M_commit_93) (ht := by decide) (fun q9 => ?_) (fun q9 => ?_)
  · replace hyp := hyp.1 q9
    have q1_ := q9
    clear q9
    exact hyp
  · replace hyp := hyp.2 q9
    have q1_ := q9
    clear q9
    refine xr_aload_n (pc := 96) (i := 0) (hI := d_M_commit_96) (hi := rfl) (hl := rfl) ?_
    refine xr_iload_n (pc := 97) (i := 1) (hI := d_M_commit_97) (hi := rfl) (hl := rfl) ?_
    refine xr_iload_n (pc := 98) (i := 1) (hI := d_M_commit_98) (hi := rfl) (hl := rfl) ?_
    refine xr_iconst (pc := 99) (hI := d_M_commit_99) (hr := by decide) ?_
    obtain ⟨c9, hyp⟩ := hyp
    refine xr_iadd (pc := 100) (hI := d_M_commit_100) (hr := c9) ?_
    exact xq_callV (pc := 101) (index := 414) (K := m_M_merge) (As := [xI x1, xI (x1 + 2)]) (S := []) (L0 := [xR 53, xI x1, xI (x1 + 2), xZ, xZ, xZ, xZ]) (hI := d_M_commit_101) (hK := k_M_merge) (hlk := w_1826) (hnoM := rfl) (hS8 := Nat.le_of_ble_eq_true rfl) (ci := 11) (N := 38) (C := "BeaconIndexModel") (T := xF11) (hc := rfl) (hci := Nat.le_of_ble_eq_true rfl) (htb := (ft_53 F)) (hinst := w_1828) (hsel := sel_M_merge) (hlen := Nat.le_of_ble_eq_true rfl) (hst := rfl) (hL0 := rfl)  hyp
theorem d_M_commit_104 : decode prog_14_method_80_code 104 = .ok (.pop, 1) := by decide +kernel
theorem v_M_commit_104 {G : XG} {d : Nat} {h : XH} {Q : XV → XH → Prop} {X : Nat → XH → Prop} {x1 x2 s0 : Int} (F : xFix h) (hyp : (xwp G m_M_commit (d + 4) 105 [xR 53, xI x1, xI x2] [] h Q X)) : xwp G m_M_commit (d + 4) 104 [xR 53, xI x1, xI x2] [xI s0] h Q X := by
  have hnx9 : (93 : Int) ≤ xnx h := F.2.2
  refine xr_okL (fun hl9 => ?_)
  have r_x1 : -2147483648 ≤ x1 ∧ x1 ≤ 2147483647 := hl9 (xI x1) (.tail _ (.head _)) (Nat.le_of_ble_eq_true rfl)
  have r_x2 : -2147483648 ≤ x2 ∧ x2 ≤ 2147483647 := hl9 (xI x2) (.tail _ (.tail _ (.head _))) (Nat.le_of_ble_eq_true rfl)
  refine xr_okS (fun hs9 => ?_)
  have r_s0 : -2147483648 ≤ s0 ∧ s0 ≤ 2147483647 := hs9 (xI s0) (.head _)
  refine xr_pop (pc := 104) (hI := d_M_commit_104) (hv := rfl) ?_
  exact hyp
theorem d_M_commit_105 : decode prog_14_method_80_code 105 = .ok (.iload_n 2, 1) := by decide +kernel
theorem d_M_commit_106 : decode prog_14_method_80_code 106 = .ok (.ifCond .eq 7, 3) := by decide +kernel
theorem d_M_commit_113 : decode prog_14_method_80_code 113 = .ok (.iload_n 1, 1) := by decide +kernel
theorem d_M_commit_114 : decode prog_14_method_80_code 114 = .ok (.iconst 1, 1) := by decide +kernel
theorem d_M_commit_115 : decode prog_14_method_80_code 115 = .ok (.iadd, 1) := by decide +kernel
theorem d_M_commit_116 : decode prog_14_method_80_code 116 = .ok (.istore_n 1, 1) := by decide +kernel
theorem d_M_commit_117 : decode prog_14_method_80_code 117 = .ok (.goto (-71), 3) := by decide +kernel
theorem d_M_commit_109 : decode prog_14_method_80_code 109 = .ok (.iconst 0, 1) := by decide +kernel
theorem d_M_commit_110 : decode prog_14_method_80_code 110 = .ok (.goto 6, 3) := by decide +kernel
theorem v_M_commit_105 {G : XG} {d : Nat} {h : XH} {Q : XV → XH → Prop} {X : Nat → XH → Prop} {x1 x2 : Int} (F : xFix h) (hyp : ((x2 = 0 → xiR (x1 + 1) ∧ (xwp G m_M_commit (d + 4) 46 [xR 53, xI (x1 + 1), xZ] [] h Q X)) ∧ (¬ x2 = 0 → (xwp G m_M_commit (d + 4) 46 [xR 53, xI 0, xZ] [] h Q X)))) : xwp G m_M_commit (d + 4) 105 [xR 53, xI x1, xI x2] [] h Q X := by
  have hnx9 : (93 : Int) ≤ xnx h := F.2.2
  refine xr_okL (fun hl9 => ?_)
  have r_x1 : -2147483648 ≤ x1 ∧ x1 ≤ 2147483647 := hl9 (xI x1) (.tail _ (.head _)) (Nat.le_of_ble_eq_true rfl)
  have r_x2 : -2147483648 ≤ x2 ∧ x2 ≤ 2147483647 := hl9 (xI x2) (.tail _ (.tail _ (.head _))) (Nat.le_of_ble_eq_true rfl)
  refine xr_iload_n (pc := 105) (i := 2) (hI := d_M_commit_105) (hi := rfl) (hl := rfl) ?_
  refine xr_if_eq (pc := 106) (tgt := 113) (hI := d_M_commit_106) (ht := by decide) (fun q9 => ?_) (fun q9 => ?_)
  · replace hyp := hyp.1 q9
    have q1_ := q9
    clear q9
    refine xr_iload_n (pc := 113) (i := 1) (hI := d_M_commit_113) (hi := rfl) (hl := rfl) ?_
    refine xr_iconst (pc := 114) (hI := d_M_commit_114) (hr := by decide) ?_
    obtain ⟨c9, hyp⟩ := hyp
    refine xr_iadd (pc := 115) (hI := d_M_commit_115) (hr := c9) ?_
    refine xr_istore_n (pc := 116) (i := 1) (L9 := [xR 53, xI (x1 + 1), xI x2]) (hI := d_M_commit_116) (hi := rfl) (hn := Nat.le_of_ble_eq_true rfl) (hL9 := rfl) ?_
    refine xr_goto (pc := 117) (tgt := 46) (hI := d_M_commit_117) (ht := by decide) ?_
    exact xr_drop (L9 := [xR 53, xI (x1 + 1), xZ]) (xdrs (xdrs (xdrz xdr0))) hyp
  · replace hyp := hyp.2 q9
    have q1_ := q9
    clear q9
    refine xr_iconst (pc := 109) (hI := d_M_commit_109) (hr := by decide) ?_
    refine xr_goto (pc := 110) (tgt := 116) (hI := d_M_commit_110) (ht := by decide) ?_
    refine xr_istore_n (pc := 116) (i := 1) (L9 := [xR 53, xI 0, xI x2]) (hI := d_M_commit_116) (hi := rfl) (hn := Nat.le_of_ble_eq_true rfl) (hL9 := rfl) ?_
    refine xr_goto (pc := 117) (tgt := 46) (hI := d_M_commit_117) (ht := by decide) ?_
    exact xr_drop (L9 := [xR 53, xI 0, xZ]) (xdrs (xdrs (xdrz xdr0))) hyp
abbrev m_M_mergeAll : XM := (⟨"BeaconIndexModel", "mergeAll", "()I"⟩, prog_14_method_81_code, 2, (some .int), [])
theorem d_M_mergeAll_0 : decode prog_14_method_81_code 0 = .ok (.aload_n 0, 1) := by decide +kernel
theorem d_M_mergeAll_1 : decode prog_14_method_81_code 1 = .ok (.iconst 0, 1) := by decide +kernel
theorem d_M_mergeAll_2 : decode prog_14_method_81_code 2 = .ok (.putfield 97, 3) := by decide +kernel
theorem d_M_mergeAll_5 : decode prog_14_method_81_code 5 = .ok (.aload_n 0, 1) := by decide +kernel
theorem d_M_mergeAll_6 : decode prog_14_method_81_code 6 = .ok (.iconst 0, 1) := by decide +kernel
theorem d_M_mergeAll_7 : decode prog_14_method_81_code 7 = .ok (.putfield 200, 3) := by decide +kernel
theorem d_M_mergeAll_10 : decode prog_14_method_81_code 10 = .ok (.aload_n 0, 1) := by decide +kernel
theorem d_M_mergeAll_11 : decode prog_14_method_81_code 11 = .ok (.getfield 176, 3) := by decide +kernel
theorem d_M_mergeAll_14 : decode prog_14_method_81_code 14 = .ok (.iconst 1, 1) := by decide +kernel
theorem d_M_mergeAll_15 : decode prog_14_method_81_code 15 = .ok (.if_icmp .gt 19, 3) := by decide +kernel
theorem d_M_mergeAll_18 : decode prog_14_method_81_code 18 = .ok (.aload_n 0, 1) := by decide +kernel
theorem d_M_mergeAll_19 : decode prog_14_method_81_code 19 = .ok (.getfield 176, 3) := by decide +kernel
theorem d_M_mergeAll_22 : decode prog_14_method_81_code 22 = .ok (.iconst 1, 1) := by decide +kernel
theorem d_M_mergeAll_23 : decode prog_14_method_81_code 23 = .ok (.if_icmp .ne 15, 3) := by decide +kernel
theorem d_M_mergeAll_26 : decode prog_14_method_81_code 26 = .ok (.aload_n 0, 1) := by decide +kernel
theorem d_M_mergeAll_27 : decode prog_14_method_81_code 27 = .ok (.iconst 0, 1) := by decide +kernel
theorem d_M_mergeAll_28 : decode prog_14_method_81_code 28 = .ok (.invokevirtual 417, 3) := by decide +kernel
theorem v_M_mergeAll_0 {G : XG} {d : Nat} {h : XH} {Q : XV → XH → Prop} {X : Nat → XH → Prop} (F : xFix h) (hyp : (((1 : Int) < (xpl h 53 5) → (xFix (xst (xst h 53 0 0) 53 26 0) → xwp G m_M_mergeAll (d + 4) 34 [xR 53, xZ] [] (xst (xst h 53 0 0) 53 26 0) Q X)) ∧ (¬ (1 : Int) < (xpl h 53 5) → (((xpl h 53 5) = 1 → (xFix (xst (xst h 53 0 0) 53 26 0) → xwp G m_M_marks (d + 3) 0 [xR 53, xI 0, xZ, xZ] [] (xst (xst h 53 0 0) 53 26 0) (fun v9 h9 => xwp G m_M_mergeAll (d + 4) 31 [xR 53, xZ] (xpush v9 []) h9 Q X) X)) ∧ (¬ (xpl h 53 5) = 1 → (xFix (xst (xst h 53 0 0) 53 26 0) → xwp G m_M_mergeAll (d + 4) 38 [xR 53, xZ] [] (xst (xst h 53 0 0) 53 26 0) Q X)))))) : xwp G m_M_mergeAll (d + 4) 0 [xR 53, xZ] [] h Q X := by
  have hnx9 : (93 : Int) ≤ xnx h := F.2.2
  refine xr_aload_n (pc := 0) (i := 0) (hI := d_M_mergeAll_0) (hi := rfl) (hl := rfl) ?_
  refine xr_iconst (pc := 1) (hI := d_M_mergeAll_1) (hr := by decide) ?_
  refine xr_putf (pc := 2) (ci := 11) (k := 0) (N := 38) (v9 := 0) (T := xF11) (tF := xT11) (hI := d_M_mergeAll_2) (hw := w_1587) rfl xi11 xt11 xn11 (Or.inl rfl) (Nat.le_of_ble_eq_true rfl) (Nat.le_of_ble_eq_true rfl) rfl xfit_i rfl (ft_53 F) (by decide) (fun z => z) ?_
  have F1_ : xFix (xst h 53 0 0) := F.stL xfk_53_0
  refine xr_aload_n (pc := 5) (i := 0) (hI := d_M_mergeAll_5) (hi := rfl) (hl := rfl) ?_
  refine xr_iconst (pc := 6) (hI := d_M_mergeAll_6) (hr := by decide) ?_
  refine xr_putf (pc := 7) (ci := 11) (k := 26) (N := 38) (v9 := 0) (T := xF11) (tF := xT11) (hI := d_M_mergeAll_7) (hw := w_1613) rfl xi11 xt11 xn11 (Or.inl rfl) (Nat.le_of_ble_eq_true rfl) (Nat.le_of_ble_eq_true rfl) rfl xfit_z rfl (ft_53 F1_) (by decide) (fun _ => (by decide : (0 : Int) ≤ 0 ∧ (0 : Int) ≤ 1)) ?_
  have F2_ : xFix (xst (xst h 53 0 0) 53 26 0) := F1_.stL xfk_53_26
  refine xr_aload_n (pc := 10) (i := 0) (hI := d_M_mergeAll_10) (hi := rfl) (hl := rfl) ?_
  refine xg_getf (pc := 11) (ci := 11) (k := 5) (N := 38) (v9 := 0) (v := (xpl h 53 5)) (T := xF11) (hI := d_M_mergeAll_11) (hw := w_1592) rfl xi11 (Or.inl rfl) (Nat.le_of_ble_eq_true rfl) (Nat.le_of_ble_eq_true rfl) rfl (ft_53 F2_) (Eq.trans (xpl_ok (by decide)) (xpl_ok (by decide))) (fun f3_ => ?_)
  replace f3_ : -2147483648 ≤ (xpl h 53 5) ∧ (xpl h 53 5) ≤ 2147483647 := f3_
  refine xr_iconst (pc := 14) (hI := d_M_mergeAll_14) (hr := by decide) ?_
  refine xr_icmp_gt (pc := 15) (tgt := 34) (hI := d_M_mergeAll_15) (ht := by decide) (fun q9 => ?_) (fun q9 => ?_)
  · replace hyp := hyp.1 q9
    have q4_ := q9
    clear q9
    exact (hyp F2_)
  · replace hyp := hyp.2 q9
    have q4_ := q9
    clear q9
    refine xr_aload_n (pc := 18) (i := 0) (hI := d_M_mergeAll_18) (hi := rfl) (hl := rfl) ?_
    refine xg_getf (pc := 19) (ci := 11) (k := 5) (N := 38) (v9 := 0) (v := (xpl h 53 5)) (T := xF11) (hI := d_M_mergeAll_19) (hw := w_1592) rfl xi11 (Or.inl rfl) (Nat.le_of_ble_eq_true rfl) (Nat.le_of_ble_eq_true rfl) rfl (ft_53 F2_) (Eq.trans (xpl_ok (by decide)) (xpl_ok (by decide))) (fun f5_ => ?_)
    replace f5_ : -2147483648 ≤ (xpl h 53 5) ∧ (xpl h 53 5) ≤ 2147483647 := f5_
    refine xr_iconst (pc := 22) (hI := d_M_mergeAll_22) (hr := by decide) ?_
    refine xr_icmp_ne (pc := 23) (tgt := 38) (hI := d_M_mergeAll_23) (ht := by decide) (fun q9 => ?_) (fun q9 => ?_)
    · replace hyp := hyp.2 q9
      have q6_ := q9
      clear q9
      exact (hyp F2_)
    · replace hyp := hyp.1 q9
      have q6_ := q9
      clear q9
      refine xr_aload_n (pc := 26) (i := 0) (hI := d_M_mergeAll_26) (hi := rfl) (hl := rfl) ?_
      refine xr_iconst (pc := 27) (hI := d_M_mergeAll_27) (hr := by decide) ?_
      exact xq_callV (pc := 28) (index := 417) (K := m_M_marks) (As := [xI 0]) (S := []) (L0 := [xR 53, xI 0, xZ, xZ]) (hI := d_M_mergeAll_28) (hK := k_M_marks) (hlk := w_1834) (hnoM := rfl) (hS8 := Nat.le_of_ble_eq_true rfl) (ci := 11) (N := 38) (C := "BeaconIndexModel") (T := xF11) (hc := rfl) (hci := Nat.le_of_ble_eq_true rfl) (htb := (ft_53 F2_)) (hinst := w_1836) (hsel := sel_M_marks) (hlen := Nat.le_of_ble_eq_true rfl) (hst := rfl) (hL0 := rfl)  (hyp F2_)
theorem d_M_mergeAll_31 : decode prog_14_method_81_code 31 = .ok (.ifCond .le 7, 3) := by decide +kernel
theorem v_M_mergeAll_31 {G : XG} {d : Nat} {h : XH} {Q : XV → XH → Prop} {X : Nat → XH → Prop} {s0 : Int} (F : xFix h) (hyp : ((s0 ≤ 0 → (xwp G m_M_mergeAll (d + 4) 38 [xR 53, xZ] [] h Q X)) ∧ (¬ s0 ≤ 0 → (xwp G m_M_mergeAll (d + 4) 34 [xR 53, xZ] [] h Q X)))) : xwp G m_M_mergeAll (d + 4) 31 [xR 53, xZ] [xI s0] h Q X := by
  have hnx9 : (93 : Int) ≤ xnx h := F.2.2
  refine xr_okS (fun hs9 => ?_)
  have r_s0 : -2147483648 ≤ s0 ∧ s0 ≤ 2147483647 := hs9 (xI s0) (.head _)
  refine xr_if_le (pc := 31) (tgt := 38) (hI := d_M_mergeAll_31) (ht := by decide) (fun q9 => ?_) (fun q9 => ?_)
  · replace hyp := hyp.1 q9
    have q1_ := q9
    clear q9
    exact hyp
  · replace hyp := hyp.2 q9
    have q1_ := q9
    clear q9
    exact hyp
theorem d_M_mergeAll_34 : decode prog_14_method_81_code 34 = .ok (.iconst 1, 1) := by decide +kernel
theorem d_M_mergeAll_35 : decode prog_14_method_81_code 35 = .ok (.goto 4, 3) := by decide +kernel
theorem v_M_mergeAll_34 {G : XG} {d : Nat} {h : XH} {Q : XV → XH → Prop} {X : Nat → XH → Prop} (F : xFix h) (hyp : (xwp G m_M_mergeAll (d + 4) 39 [xR 53, xZ] [xI 1] h Q X)) : xwp G m_M_mergeAll (d + 4) 34 [xR 53, xZ] [] h Q X := by
  have hnx9 : (93 : Int) ≤ xnx h := F.2.2
  refine xr_iconst (pc := 34) (hI := d_M_mergeAll_34) (hr := by decide) ?_
  refine xr_goto (pc := 35) (tgt := 39) (hI := d_M_mergeAll_35) (ht := by decide) ?_
  exact hyp
theorem d_M_mergeAll_38 : decode prog_14_method_81_code 38 = .ok (.iconst 0, 1) := by decide +kernel
theorem v_M_mergeAll_38 {G : XG} {d : Nat} {h : XH} {Q : XV → XH → Prop} {X : Nat → XH → Prop} (F : xFix h) (hyp : (xwp G m_M_mergeAll (d + 4) 39 [xR 53, xZ] [xI 0] h Q X)) : xwp G m_M_mergeAll (d + 4) 38 [xR 53, xZ] [] h Q X := by
  have hnx9 : (93 : Int) ≤ xnx h := F.2.2
  refine xr_iconst (pc := 38) (hI := d_M_mergeAll_38) (hr := by decide) ?_
  exact hyp
theorem d_M_mergeAll_39 : decode prog_14_method_81_code 39 = .ok (.istore_n 1, 1) := by decide +kernel
theorem d_M_mergeAll_40 : decode prog_14_method_81_code 40 = .ok (.iload_n 1, 1) := by decide +kernel
theorem d_M_mergeAll_41 : decode prog_14_method_81_code 41 = .ok (.ifCond .eq 17, 3) := by decide +kernel
theorem d_M_mergeAll_58 : decode prog_14_method_81_code 58 = .ok (.iconst 0, 1) := by decide +kernel
theorem d_M_mergeAll_59 : decode prog_14_method_81_code 59 = .ok (.ireturn, 1) := by decide +kernel
theorem d_M_mergeAll_44 : decode prog_14_method_81_code 44 = .ok (.aload_n 0, 1) := by decide +kernel
theorem d_M_mergeAll_45 : decode prog_14_method_81_code 45 = .ok (.iconst 0, 1) := by decide +kernel
theorem d_M_mergeAll_46 : decode prog_14_method_81_code 46 = .ok (.aload_n 0, 1) := by decide +kernel
theorem d_M_mergeAll_47 : decode prog_14_method_81_code 47 = .ok (.getfield 176, 3) := by decide +kernel
theorem d_M_mergeAll_50 : decode prog_14_method_81_code 50 = .ok (.iconst 1, 1) := by decide +kernel
theorem d_M_mergeAll_51 : decode prog_14_method_81_code 51 = .ok (.isub, 1) := by decide +kernel
theorem d_M_mergeAll_52 : decode prog_14_method_81_code 52 = .ok (.invokevirtual 414, 3) := by decide +kernel
theorem v_M_mergeAll_39 {G : XG} {d : Nat} {h : XH} {Q : XV → XH → Prop} {X : Nat → XH → Prop} {s0 : Int} (F : xFix h) (hyp : ((s0 = 0 → (Q (xI 0) h)) ∧ (¬ s0 = 0 → xiR ((xpl h 53 5) - 1) ∧ (xwp G m_M_merge (d + 3) 0 [xR 53, xI 0, xI ((xpl h 53 5) - 1), xZ, xZ, xZ, xZ] [] h (fun v9 h9 => xwp G m_M_mergeAll (d + 4) 55 [xZ, xZ] (xpush v9 []) h9 Q X) X)))) : xwp G m_M_mergeAll (d + 4) 39 [xR 53, xZ] [xI s0] h Q X := by
  have hnx9 : (93 : Int) ≤ xnx h := F.2.2
  refine xr_okS (fun hs9 => ?_)
  have r_s0 : -2147483648 ≤ s0 ∧ s0 ≤ 2147483647 := hs9 (xI s0) (.head _)
  refine xr_istore_n (pc := 39) (i := 1) (L9 := [xR 53, xI s0]) (hI := d_M_mergeAll_39) (hi := rfl) (hn := Nat.le_of_ble_eq_true rfl) (hL9 := rfl) ?_
  refine xr_iload_n (pc := 40) (i := 1) (hI := d_M_mergeAll_40) (hi := rfl) (hl := rfl) ?_
  refine xr_if_eq (pc := 41) (tgt := 58) (hI := d_M_mergeAll_41) (ht := by decide) (fun q9 => ?_) (fun q9 => ?_)
  · replace hyp := hyp.1 q9
    have q1_ := q9
    clear q9
    refine xr_iconst (pc := 58) (hI := d_M_mergeAll_58) (hr := by decide) ?_
    refine xr_ireturn (S := []) (pc := 59) (hI := d_M_mergeAll_59) (hr := rfl) ?_
    exact hyp
  · replace hyp := hyp.2 q9
    have q1_ := q9
    clear q9
    refine xr_aload_n (pc := 44) (i := 0) (hI := d_M_mergeAll_44) (hi := rfl) (hl := rfl) ?_
    refine xr_iconst (pc := 45) (hI := d_M_mergeAll_45) (hr := by decide) ?_
    refine xr_aload_n (pc := 46) (i := 0) (hI := d_M_mergeAll_46) (hi := rfl) (hl := rfl) ?_
    refine xg_getf (pc := 47) (ci := 11) (k := 5) (N := 38) (v9 := 0) (v := (xpl h 53 5)) (T := xF11) (hI := d_M_mergeAll_47) (hw := w_1592) rfl xi11 (Or.inl rfl) (Nat.le_of_ble_eq_true rfl) (Nat.le_of_ble_eq_true rfl) rfl (ft_53 F) rfl (fun f2_ => ?_)
    replace f2_ : -2147483648 ≤ (xpl h 53 5) ∧ (xpl h 53 5) ≤ 2147483647 := f2_
    refine xr_iconst (pc := 50) (hI := d_M_mergeAll_50) (hr := by decide) ?_
    obtain ⟨c9, hyp⟩ := hyp
    refine xr_isub (pc := 51) (hI := d_M_mergeAll_51) (hr := c9) ?_
    exact xq_callV (pc := 52) (index := 414) (K := m_M_merge) (As := [xI 0, xI ((xpl h 53 5) - 1)]) (S := []) (L0 := [xR 53, xI 0, xI ((xpl h 53 5) - 1), xZ, xZ, xZ, xZ]) (hI := d_M_mergeAll_52) (hK := k_M_merge) (hlk := w_1826) (hnoM := rfl) (hS8 := Nat.le_of_ble_eq_true rfl) (ci := 11) (N := 38) (C := "BeaconIndexModel") (T := xF11) (hc := rfl) (hci := Nat.le_of_ble_eq_true rfl) (htb := (ft_53 F)) (hinst := w_1828) (hsel := sel_M_merge) (hlen := Nat.le_of_ble_eq_true rfl) (hst := rfl) (hL0 := rfl)  (xwp_mono hyp (fun v9 h9 q9 => xr_drop (L9 := [xZ, xZ]) (xdrz (xdrz xdr0)) q9) (fun _ _ z9 => z9))
theorem d_M_mergeAll_55 : decode prog_14_method_81_code 55 = .ok (.goto 4, 3) := by decide +kernel
theorem v_M_mergeAll_55 {G : XG} {d : Nat} {h : XH} {Q : XV → XH → Prop} {X : Nat → XH → Prop} {s0 : Int} (F : xFix h) (hyp : (Q (xI s0) h)) : xwp G m_M_mergeAll (d + 4) 55 [xZ, xZ] [xI s0] h Q X := by
  have hnx9 : (93 : Int) ≤ xnx h := F.2.2
  refine xr_okS (fun hs9 => ?_)
  have r_s0 : -2147483648 ≤ s0 ∧ s0 ≤ 2147483647 := hs9 (xI s0) (.head _)
  refine xr_goto (pc := 55) (tgt := 59) (hI := d_M_mergeAll_55) (ht := by decide) ?_
  refine xr_ireturn (S := []) (pc := 59) (hI := d_M_mergeAll_59) (hr := rfl) ?_
  exact hyp
abbrev m_M_takeWord : XM := (⟨"BeaconIndexModel", "takeWord", "()I"⟩, prog_14_method_95_code, 2, (some .int), [])
theorem d_M_takeWord_0 : decode prog_14_method_95_code 0 = .ok (.aload_n 0, 1) := by decide +kernel
theorem d_M_takeWord_1 : decode prog_14_method_95_code 1 = .ok (.iconst 0, 1) := by decide +kernel
theorem d_M_takeWord_2 : decode prog_14_method_95_code 2 = .ok (.putfield 97, 3) := by decide +kernel
theorem d_M_takeWord_5 : decode prog_14_method_95_code 5 = .ok (.iconst 0, 1) := by decide +kernel
theorem d_M_takeWord_6 : decode prog_14_method_95_code 6 = .ok (.istore_n 1, 1) := by decide +kernel
theorem v_M_takeWord_0 {G : XG} {d : Nat} {h : XH} {Q : XV → XH → Prop} {X : Nat → XH → Prop} (F : xFix h) (hyp : (xFix (xst h 53 0 0) → xwp G m_M_takeWord (d + 8) 7 [xR 53, xI 0] [] (xst h 53 0 0) Q X)) : xwp G m_M_takeWord (d + 8) 0 [xR 53, xZ] [] h Q X := by
  have hnx9 : (93 : Int) ≤ xnx h := F.2.2
  refine xr_aload_n (pc := 0) (i := 0) (hI := d_M_takeWord_0) (hi := rfl) (hl := rfl) ?_
  refine xr_iconst (pc := 1) (hI := d_M_takeWord_1) (hr := by decide) ?_
  refine xr_putf (pc := 2) (ci := 11) (k := 0) (N := 38) (v9 := 0) (T := xF11) (tF := xT11) (hI := d_M_takeWord_2) (hw := w_1587) rfl xi11 xt11 xn11 (Or.inl rfl) (Nat.le_of_ble_eq_true rfl) (Nat.le_of_ble_eq_true rfl) rfl xfit_i rfl (ft_53 F) (by decide) (fun z => z) ?_
  have F1_ : xFix (xst h 53 0 0) := F.stL xfk_53_0
  refine xr_iconst (pc := 5) (hI := d_M_takeWord_5) (hr := by decide) ?_
  refine xr_istore_n (pc := 6) (i := 1) (L9 := [xR 53, xI 0]) (hI := d_M_takeWord_6) (hi := rfl) (hn := Nat.le_of_ble_eq_true rfl) (hL9 := rfl) ?_
  exact (hyp F1_)
theorem d_M_takeWord_7 : decode prog_14_method_95_code 7 = .ok (.iload_n 1, 1) := by decide +kernel
theorem d_M_takeWord_8 : decode prog_14_method_95_code 8 = .ok (.aload_n 0, 1) := by decide +kernel
theorem d_M_takeWord_9 : decode prog_14_method_95_code 9 = .ok (.getfield 105, 3) := by decide +kernel
theorem d_M_takeWord_12 : decode prog_14_method_95_code 12 = .ok (.if_icmp .ge 17, 3) := by decide +kernel
theorem d_M_takeWord_15 : decode prog_14_method_95_code 15 = .ok (.aload_n 0, 1) := by decide +kernel
theorem d_M_takeWord_16 : decode prog_14_method_95_code 16 = .ok (.iload_n 1, 1) := by decide +kernel
theorem d_M_takeWord_17 : decode prog_14_method_95_code 17 = .ok (.invokevirtual 112, 3) := by decide +kernel
theorem v_M_takeWord_7 {G : XG} {d : Nat} {h : XH} {Q : XV → XH → Prop} {X : Nat → XH → Prop} {x1 : Int} (F : xFix h) (hyp : (((xpl h 53 2) ≤ x1 → (xwp G m_M_takeWord (d + 8) 29 [xR 53, xI x1] [] h Q X)) ∧ (¬ (xpl h 53 2) ≤ x1 → (xwp G m_M_isOfRun (d + 7) 0 [xR 53, xI x1] [] h (fun v9 h9 => xwp G m_M_takeWord (d + 8) 20 [xR 53, xI x1] (xpush v9 []) h9 Q X) X)))) : xwp G m_M_takeWord (d + 8) 7 [xR 53, xI x1] [] h Q X := by
  have hnx9 : (93 : Int) ≤ xnx h := F.2.2
  refine xr_okL (fun hl9 => ?_)
  have r_x1 : -2147483648 ≤ x1 ∧ x1 ≤ 2147483647 := hl9 (xI x1) (.tail _ (.head _)) (Nat.le_of_ble_eq_true rfl)
  refine xr_iload_n (pc := 7) (i := 1) (hI := d_M_takeWord_7) (hi := rfl) (hl := rfl) ?_
  refine xr_aload_n (pc := 8) (i := 0) (hI := d_M_takeWord_8) (hi := rfl) (hl := rfl) ?_
  refine xg_getf (pc := 9) (ci := 11) (k := 2) (N := 38) (v9 := 0) (v := (xpl h 53 2)) (T := xF11) (hI := d_M_takeWord_9) (hw := w_1589) rfl xi11 (Or.inl rfl) (Nat.le_of_ble_eq_true rfl) (Nat.le_of_ble_eq_true rfl) rfl (ft_53 F) rfl (fun f1_ => ?_)
  replace f1_ : -2147483648 ≤ (xpl h 53 2) ∧ (xpl h 53 2) ≤ 2147483647 := f1_
  refine xr_icmp_ge (pc := 12) (tgt := 29) (hI := d_M_takeWord_12) (ht := by decide) (fun q9 => ?_) (fun q9 => ?_)
  · replace hyp := hyp.1 q9
    have q2_ := q9
    clear q9
    exact hyp
  · replace hyp := hyp.2 q9
    have q2_ := q9
    clear q9
    refine xr_aload_n (pc := 15) (i := 0) (hI := d_M_takeWord_15) (hi := rfl) (hl := rfl) ?_
    refine xr_iload_n (pc := 16) (i := 1) (hI := d_M_takeWord_16) (hi := rfl) (hl := rfl) ?_
    exact xq_callV (pc := 17) (index := 112) (K := m_M_isOfRun) (As := [xI x1]) (S := []) (L0 := [xR 53, xI x1]) (hI := d_M_takeWord_17) (hK := k_M_isOfRun) (hlk := w_1757) (hnoM := rfl) (hS8 := Nat.le_of_ble_eq_true rfl) (ci := 11) (N := 38) (C := "BeaconIndexModel") (T := xF11) (hc := rfl) (hci := Nat.le_of_ble_eq_true rfl) (htb := (ft_53 F)) (hinst := w_1759) (hsel := sel_M_isOfRun) (hlen := Nat.le_of_ble_eq_true rfl) (hst := rfl) (hL0 := rfl)  hyp
theorem d_M_takeWord_20 : decode prog_14_method_95_code 20 = .ok (.ifCond .ne 9, 3) := by decide +kernel
theorem d_M_takeWord_23 : decode prog_14_method_95_code 23 = .ok (.iinc 1 1, 3) := by decide +kernel
theorem d_M_takeWord_26 : decode prog_14_method_95_code 26 = .ok (.goto (-19), 3) := by decide +kernel
theorem v_M_takeWord_20 {G : XG} {d : Nat} {h : XH} {Q : XV → XH → Prop} {X : Nat → XH → Prop} {x1 s0 : Int} (F : xFix h) (hyp : ((s0 = 0 → xiR (x1 + 1) ∧ (xwp G m_M_takeWord (d + 8) 7 [xR 53, xI (x1 + 1)] [] h Q X)) ∧ (¬ s0 = 0 → (xwp G m_M_takeWord (d + 8) 29 [xR 53, xI x1] [] h Q X)))) : xwp G m_M_takeWord (d + 8) 20 [xR 53, xI x1] [xI s0] h Q X := by
  have hnx9 : (93 : Int) ≤ xnx h := F.2.2
  refine xr_okL (fun hl9 => ?_)
  have r_x1 : -2147483648 ≤ x1 ∧ x1 ≤ 2147483647 := hl9 (xI x1) (.tail _ (.head _)) (Nat.le_of_ble_eq_true rfl)
  refine xr_okS (fun hs9 => ?_)
  have r_s0 : -2147483648 ≤ s0 ∧ s0 ≤ 2147483647 := hs9 (xI s0) (.head _)
  refine xr_if_ne (pc := 20) (tgt := 29) (hI := d_M_takeWord_20) (ht := by decide) (fun q9 => ?_) (fun q9 => ?_)
  · replace hyp := hyp.2 q9
    have q1_ := q9
    clear q9
    exact hyp
  · replace hyp := hyp.1 q9
    have q1_ := q9
    clear q9
    obtain ⟨c9, hyp⟩ := hyp
    refine xr_iinc (pc := 23) (i := 1) (L9 := [xR 53, xI (x1 + 1)]) (hI := d_M_takeWord_23) (hl := rfl) (hn := Nat.le_of_ble_eq_true rfl) (hr := c9) (hL9 := rfl) ?_
    refine xr_goto (pc := 26) (tgt := 7) (hI := d_M_takeWord_26) (ht := by decide) ?_
    exact hyp
theorem d_M_takeWord_29 : decode prog_14_method_95_code 29 = .ok (.aload_n 0, 1) := by decide +kernel
theorem d_M_takeWord_30 : decode prog_14_method_95_code 30 = .ok (.iload_n 1, 1) := by decide +kernel
theorem d_M_takeWord_31 : decode prog_14_method_95_code 31 = .ok (.aload_n 0, 1) := by decide +kernel
theorem d_M_takeWord_32 : decode prog_14_method_95_code 32 = .ok (.getfield 105, 3) := by decide +kernel
theorem d_M_takeWord_35 : decode prog_14_method_95_code 35 = .ok (.if_icmp .ne 7, 3) := by decide +kernel
theorem d_M_takeWord_42 : decode prog_14_method_95_code 42 = .ok (.aload_n 0, 1) := by decide +kernel
theorem d_M_takeWord_43 : decode prog_14_method_95_code 43 = .ok (.iload_n 1, 1) := by decide +kernel
theorem d_M_takeWord_44 : decode prog_14_method_95_code 44 = .ok (.aload_n 0, 1) := by decide +kernel
theorem d_M_takeWord_45 : decode prog_14_method_95_code 45 = .ok (.iload_n 1, 1) := by decide +kernel
theorem d_M_takeWord_46 : decode prog_14_method_95_code 46 = .ok (.invokevirtual 252, 3) := by decide +kernel
theorem k_M_runLength : xCal m_M_runLength 1 := ⟨List.mem_append_right _ (List.mem_of_getElem? (i := 1756) (by decide +kernel)), w_15, Nat.le_of_ble_eq_true rfl, ⟨by decide +kernel, by decide +kernel⟩, by decide +kernel, by decide +kernel, rfl⟩
theorem w_1753 : Cond.methodLink "BeaconIndexModel" 252 ⟨"BeaconIndexModel", "runLength", "(I)I"⟩ ∈ lw_tbl := List.mem_append_right _ (List.mem_of_getElem? (i := 1753) (by decide +kernel))
theorem w_1755 : Cond.instanceMethod ⟨"BeaconIndexModel", "runLength", "(I)I"⟩ ∈ lw_tbl := List.mem_append_right _ (List.mem_of_getElem? (i := 1755) (by decide +kernel))
theorem sel_M_runLength : Cond.selects "BeaconIndexModel" ⟨"BeaconIndexModel", "runLength", "(I)I"⟩ ⟨"BeaconIndexModel", "runLength", "(I)I"⟩ ∈ lw_tbl := List.mem_append_left _ (by decide +kernel)
theorem d_M_takeWord_38 : decode prog_14_method_95_code 38 = .ok (.lconst 0, 1) := by decide +kernel
theorem d_M_takeWord_39 : decode prog_14_method_95_code 39 = .ok (.goto 13, 3) := by decide +kernel
theorem v_M_takeWord_29 {G : XG} {d : Nat} {h : XH} {Q : XV → XH → Prop} {X : Nat → XH → Prop} {x1 : Int} (F : xFix h) (hyp : ((x1 = (xpl h 53 2) → (xwp G m_M_takeWord (d + 8) 52 [xR 53, xZ] [xL 0, xR 53] h Q X)) ∧ (¬ x1 = (xpl h 53 2) → (xwp G m_M_runLength (d + 7) 0 [xR 53, xI x1, xZ] [] h (fun v9 h9 => xwp G m_M_takeWord (d + 8) 49 [xR 53, xZ] (xpush v9 [xI x1, xR 53, xR 53]) h9 Q X) X)))) : xwp G m_M_takeWord (d + 8) 29 [xR 53, xI x1] [] h Q X := by
  have hnx9 : (93 : Int) ≤ xnx h := F.2.2
  refine xr_okL (fun hl9 => ?_)
  have r_x1 : -2147483648 ≤ x1 ∧ x1 ≤ 2147483647 := hl9 (xI x1) (.tail _ (.head _)) (Nat.le_of_ble_eq_true rfl)
  refine xr_aload_n (pc := 29) (i := 0) (hI := d_M_takeWord_29) (hi := rfl) (hl := rfl) ?_
  refine xr_iload_n (pc := 30) (i := 1) (hI := d_M_takeWord_30) (hi := rfl) (hl := rfl) ?_
  refine xr_aload_n (pc := 31) (i := 0) (hI := d_M_takeWord_31) (hi := rfl) (hl := rfl) ?_
  refine xg_getf (pc := 32) (ci := 11) (k := 2) (N := 38) (v9 := 0) (v := (xpl h 53 2)) (T := xF11) (hI := d_M_takeWord_32) (hw := w_1589) rfl xi11 (Or.inl rfl) (Nat.le_of_ble_eq_true rfl) (Nat.le_of_ble_eq_true rfl) rfl (ft_53 F) rfl (fun f1_ => ?_)
  replace f1_ : -2147483648 ≤ (xpl h 53 2) ∧ (xpl h 53 2) ≤ 2147483647 := f1_
  refine xr_icmp_ne (pc := 35) (tgt := 42) (hI := d_M_takeWord_35) (ht := by decide) (fun q9 => ?_) (fun q9 => ?_)
  · replace hyp := hyp.2 q9
    have q2_ := q9
    clear q9
    refine xr_aload_n (pc := 42) (i := 0) (hI := d_M_takeWord_42) (hi := rfl) (hl := rfl) ?_
    refine xr_iload_n (pc := 43) (i := 1) (hI := d_M_takeWord_43) (hi := rfl) (hl := rfl) ?_
    refine xr_aload_n (pc := 44) (i := 0) (hI := d_M_takeWord_44) (hi := rfl) (hl := rfl) ?_
    refine xr_iload_n (pc := 45) (i := 1) (hI := d_M_takeWord_45) (hi := rfl) (hl := rfl) ?_
    exact xq_callV (pc := 46) (index := 252) (K := m_M_runLength) (As := [xI x1]) (S := [xI x1, xR 53, xR 53]) (L0 := [xR 53, xI x1, xZ]) (hI := d_M_takeWord_46) (hK := k_M_runLength) (hlk := w_1753) (hnoM := rfl) (hS8 := Nat.le_of_ble_eq_true rfl) (ci := 11) (N := 38) (C := "BeaconIndexModel") (T := xF11) (hc := rfl) (hci := Nat.le_of_ble_eq_true rfl) (htb := (ft_53 F)) (hinst := w_1755) (hsel := sel_M_runLength) (hlen := Nat.le_of_ble_eq_true rfl) (hst := rfl) (hL0 := rfl)  (xwp_mono hyp (fun v9 h9 q9 => xr_drop (L9 := [xR 53, xZ]) (xdrs (xdrz xdr0)) q9) (fun _ _ z9 => z9))
  · replace hyp := hyp.1 q9
    have q2_ := q9
    clear q9
    refine xr_lconst (pc := 38) (z := 0) (hI := d_M_takeWord_38) (hr := by decide) (hv := by decide) ?_
    refine xr_goto (pc := 39) (tgt := 52) (hI := d_M_takeWord_39) (ht := by decide) ?_
    exact xr_drop (L9 := [xR 53, xZ]) (xdrs (xdrz xdr0)) hyp
theorem d_M_takeWord_49 : decode prog_14_method_95_code 49 = .ok (.invokevirtual 326, 3) := by decide +kernel
theorem k_M_wordAt : xCal m_M_wordAt 2 := ⟨List.mem_append_right _ (List.mem_of_getElem? (i := 1781) (by decide +kernel)), w_15, Nat.le_of_ble_eq_true rfl, ⟨by decide +kernel, by decide +kernel⟩, by decide +kernel, by decide +kernel, rfl⟩
theorem w_1778 : Cond.methodLink "BeaconIndexModel" 326 ⟨"BeaconIndexModel", "wordAt", "(II)J"⟩ ∈ lw_tbl := List.mem_append_right _ (List.mem_of_getElem? (i := 1778) (by decide +kernel))
theorem w_1780 : Cond.instanceMethod ⟨"BeaconIndexModel", "wordAt", "(II)J"⟩ ∈ lw_tbl := List.mem_append_right _ (List.mem_of_getElem? (i := 1780) (by decide +kernel))
theorem sel_M_wordAt : Cond.selects "BeaconIndexModel" ⟨"BeaconIndexModel", "wordAt", "(II)J"⟩ ⟨"BeaconIndexModel", "wordAt", "(II)J"⟩ ∈ lw_tbl := List.mem_append_left _ (by decide +kernel)
theorem v_M_takeWord_49 {G : XG} {d : Nat} {h : XH} {Q : XV → XH → Prop} {X : Nat → XH → Prop} {s0 s1 s2 s3 : Int} (F : xFix h) (hyp : xtg h s2 = 11 ∧ (xwp G m_M_wordAt (d + 7) 0 [xR s2, xI s1, xI s0, xZ] [] h (fun v9 h9 => xwp G m_M_takeWord (d + 8) 52 [xR 53, xZ] (xpush v9 [xR s3]) h9 Q X) X)) : xwp G m_M_takeWord (d + 8) 49 [xR 53, xZ] [xI s0, xI s1, xR s2, xR s3] h Q X := by
  have hnx9 : (93 : Int) ≤ xnx h := F.2.2
  refine xr_okS (fun hs9 => ?_)
  have r_s0 : -2147483648 ≤ s0 ∧ s0 ≤ 2147483647 := hs9 (xI s0) (.head _)
  have r_s1 : -2147483648 ≤ s1 ∧ s1 ≤ 2147483647 := hs9 (xI s1) (.tail _ (.head _))
  obtain ⟨c9, hyp⟩ := hyp
  have t1_ := c9
  clear c9
  exact xq_callV (pc := 49) (index := 326) (K := m_M_wordAt) (As := [xI s1, xI s0]) (S := [xR s3]) (L0 := [xR s2, xI s1, xI s0, xZ]) (hI := d_M_takeWord_49) (hK := k_M_wordAt) (hlk := w_1778) (hnoM := rfl) (hS8 := Nat.le_of_ble_eq_true rfl) (ci := 11) (N := 38) (C := "BeaconIndexModel") (T := xF11) (hc := rfl) (hci := Nat.le_of_ble_eq_true rfl) (htb := t1_) (hinst := w_1780) (hsel := sel_M_wordAt) (hlen := Nat.le_of_ble_eq_true rfl) (hst := rfl) (hL0 := rfl)  hyp
theorem d_M_takeWord_52 : decode prog_14_method_95_code 52 = .ok (.putfield 217, 3) := by decide +kernel
theorem xtk_11_14 : xfTK 11 14 = true := by decide +kernel
theorem d_M_takeWord_55 : decode prog_14_method_95_code 55 = .ok (.aload_n 0, 1) := by decide +kernel
theorem d_M_takeWord_56 : decode prog_14_method_95_code 56 = .ok (.iconst 0, 1) := by decide +kernel
theorem d_M_takeWord_57 : decode prog_14_method_95_code 57 = .ok (.putfield 105, 3) := by decide +kernel
theorem xfk_53_2 : xfree 53 2 = true := by decide +kernel
theorem d_M_takeWord_60 : decode prog_14_method_95_code 60 = .ok (.aload_n 0, 1) := by decide +kernel
theorem d_M_takeWord_61 : decode prog_14_method_95_code 61 = .ok (.getfield 217, 3) := by decide +kernel
theorem d_M_takeWord_64 : decode prog_14_method_95_code 64 = .ok (.invokestatic 240, 3) := by decide +kernel
theorem k_M_lengthOf_J : xCal m_M_lengthOf_J 1 := ⟨List.mem_append_right _ (List.mem_of_getElem? (i := 2205) (by decide +kernel)), w_15, Nat.le_of_ble_eq_true rfl, ⟨by decide +kernel, by decide +kernel⟩, by decide +kernel, by decide +kernel, rfl⟩
theorem w_2203 : Cond.methodLink "BeaconIndexModel" 240 ⟨"BeaconIndexModel", "lengthOf", "(J)I"⟩ ∈ lw_tbl := List.mem_append_right _ (List.mem_of_getElem? (i := 2203) (by decide +kernel))
theorem w_2204 : Cond.static ⟨"BeaconIndexModel", "lengthOf", "(J)I"⟩ ∈ lw_tbl := List.mem_append_right _ (List.mem_of_getElem? (i := 2204) (by decide +kernel))
theorem v_M_takeWord_52 {G : XG} {d : Nat} {h : XH} {Q : XV → XH → Prop} {X : Nat → XH → Prop} {s0 s1 : Int} (F : xFix h) (hyp : xtg h s1 = 11 ∧ 0 ≤ s1 ∧ (xFix (xst (xst h s1 14 s0) 53 2 0) → xwp G m_M_lengthOf_J (d + 7) 0 [xL (xpl (xst h s1 14 s0) 53 14), xZ, xZ] [] (xst (xst h s1 14 s0) 53 2 0) (fun v9 h9 => xwp G m_M_takeWord (d + 8) 67 [xZ, xZ] (xpush v9 []) h9 Q X) X)) : xwp G m_M_takeWord (d + 8) 52 [xR 53, xZ] [xL s0, xR s1] h Q X := by
  have hnx9 : (93 : Int) ≤ xnx h := F.2.2
  refine xr_okS (fun hs9 => ?_)
  have r_s0 : -9223372036854775808 ≤ s0 ∧ s0 ≤ 9223372036854775807 := hs9 (xL s0) (.head _)
  obtain ⟨c9, hyp⟩ := hyp
  have t1_ := c9
  clear c9
  obtain ⟨c2_, hyp⟩ := hyp
  refine xr_putf (pc := 52) (ci := 11) (k := 14) (N := 38) (v9 := 1) (T := xF11) (tF := xT11) (hI := d_M_takeWord_52) (hw := w_1601) rfl xi11 xt11 xn11 (Or.inl rfl) (Nat.le_of_ble_eq_true rfl) (Nat.le_of_ble_eq_true rfl) rfl xfit_l rfl t1_ c2_ (fun z => z) ?_
  have F3_ : xFix (xst h s1 14 s0) := F.stT (t := 11) c2_ t1_ xtk_11_14
  refine xr_aload_n (pc := 55) (i := 0) (hI := d_M_takeWord_55) (hi := rfl) (hl := rfl) ?_
  refine xr_iconst (pc := 56) (hI := d_M_takeWord_56) (hr := by decide) ?_
  refine xr_putf (pc := 57) (ci := 11) (k := 2) (N := 38) (v9 := 0) (T := xF11) (tF := xT11) (hI := d_M_takeWord_57) (hw := w_1589) rfl xi11 xt11 xn11 (Or.inl rfl) (Nat.le_of_ble_eq_true rfl) (Nat.le_of_ble_eq_true rfl) rfl xfit_i rfl (ft_53 F3_) (by decide) (fun z => z) ?_
  have F4_ : xFix (xst (xst h s1 14 s0) 53 2 0) := F3_.stL xfk_53_2
  refine xr_aload_n (pc := 60) (i := 0) (hI := d_M_takeWord_60) (hi := rfl) (hl := rfl) ?_
  refine xg_getf (pc := 61) (ci := 11) (k := 14) (N := 38) (v9 := 1) (v := (xpl (xst h s1 14 s0) 53 14)) (T := xF11) (hI := d_M_takeWord_61) (hw := w_1601) rfl xi11 (Or.inl rfl) (Nat.le_of_ble_eq_true rfl) (Nat.le_of_ble_eq_true rfl) rfl (ft_53 F4_) (xpl_ok (by decide)) (fun f5_ => ?_)
  replace f5_ : -9223372036854775808 ≤ (xpl (xst h s1 14 s0) 53 14) ∧ (xpl (xst h s1 14 s0) 53 14) ≤ 9223372036854775807 := f5_
  exact xq_callS (pc := 64) (index := 240) (K := m_M_lengthOf_J) (As := [xL (xpl (xst h s1 14 s0) 53 14)]) (S := []) (L0 := [xL (xpl (xst h s1 14 s0) 53 14), xZ, xZ]) (hI := d_M_takeWord_64) (hK := k_M_lengthOf_J) (hlk := w_2203) (hnoM := rfl) (hS8 := Nat.le_of_ble_eq_true rfl) (hstat := w_2204) (hlen := Nat.le_of_ble_eq_true rfl) (hst := rfl) (hL0 := rfl)  (xwp_mono (hyp F4_) (fun v9 h9 q9 => xr_drop (L9 := [xZ, xZ]) (xdrz (xdrs xdr0)) q9) (fun _ _ z9 => z9))
theorem d_M_takeWord_67 : decode prog_14_method_95_code 67 = .ok (.ireturn, 1) := by decide +kernel
theorem v_M_takeWord_67 {G : XG} {d : Nat} {h : XH} {Q : XV → XH → Prop} {X : Nat → XH → Prop} {s0 : Int} (F : xFix h) (hyp : (Q (xI s0) h)) : xwp G m_M_takeWord (d + 8) 67 [xZ, xZ] [xI s0] h Q X := by
  have hnx9 : (93 : Int) ≤ xnx h := F.2.2
  refine xr_okS (fun hs9 => ?_)
  have r_s0 : -2147483648 ≤ s0 ∧ s0 ≤ 2147483647 := hs9 (xI s0) (.head _)
  refine xr_ireturn (S := []) (pc := 67) (hI := d_M_takeWord_67) (hr := rfl) ?_
  exact hyp
abbrev m_M_wordByte : XM := (⟨"BeaconIndexModel", "wordByte", "(I)I"⟩, prog_14_method_96_code, 3, (some .int), [])
theorem d_M_wordByte_0 : decode prog_14_method_96_code 0 = .ok (.aload_n 0, 1) := by decide +kernel
theorem d_M_wordByte_1 : decode prog_14_method_96_code 1 = .ok (.iload_n 1, 1) := by decide +kernel
theorem d_M_wordByte_2 : decode prog_14_method_96_code 2 = .ok (.iconst 0, 1) := by decide +kernel
theorem d_M_wordByte_3 : decode prog_14_method_96_code 3 = .ok (.aload_n 0, 1) := by decide +kernel
theorem d_M_wordByte_4 : decode prog_14_method_96_code 4 = .ok (.getfield 217, 3) := by decide +kernel
theorem d_M_wordByte_7 : decode prog_14_method_96_code 7 = .ok (.invokestatic 240, 3) := by decide +kernel
theorem v_M_wordByte_0 {G : XG} {d : Nat} {h : XH} {Q : XV → XH → Prop} {X : Nat → XH → Prop} {x1 : Int} (F : xFix h) (hyp : (xwp G m_M_lengthOf_J (d + 3) 0 [xL (xpl h 53 14), xZ, xZ] [] h (fun v9 h9 => xwp G m_M_wordByte (d + 4) 10 [xR 53, xI x1, xZ] (xpush v9 [xI 0, xI x1, xR 53]) h9 Q X) X)) : xwp G m_M_wordByte (d + 4) 0 [xR 53, xI x1, xZ] [] h Q X := by
  have hnx9 : (93 : Int) ≤ xnx h := F.2.2
  refine xr_okL (fun hl9 => ?_)
  have r_x1 : -2147483648 ≤ x1 ∧ x1 ≤ 2147483647 := hl9 (xI x1) (.tail _ (.head _)) (Nat.le_of_ble_eq_true rfl)
  refine xr_aload_n (pc := 0) (i := 0) (hI := d_M_wordByte_0) (hi := rfl) (hl := rfl) ?_
  refine xr_iload_n (pc := 1) (i := 1) (hI := d_M_wordByte_1) (hi := rfl) (hl := rfl) ?_
  refine xr_iconst (pc := 2) (hI := d_M_wordByte_2) (hr := by decide) ?_
  refine xr_aload_n (pc := 3) (i := 0) (hI := d_M_wordByte_3) (hi := rfl) (hl := rfl) ?_
  refine xg_getf (pc := 4) (ci := 11) (k := 14) (N := 38) (v9 := 1) (v := (xpl h 53 14)) (T := xF11) (hI := d_M_wordByte_4) (hw := w_1601) rfl xi11 (Or.inl rfl) (Nat.le_of_ble_eq_true rfl) (Nat.le_of_ble_eq_true rfl) rfl (ft_53 F) rfl (fun f1_ => ?_)
  replace f1_ : -9223372036854775808 ≤ (xpl h 53 14) ∧ (xpl h 53 14) ≤ 9223372036854775807 := f1_
  exact xq_callS (pc := 7) (index := 240) (K := m_M_lengthOf_J) (As := [xL (xpl h 53 14)]) (S := [xI 0, xI x1, xR 53]) (L0 := [xL (xpl h 53 14), xZ, xZ]) (hI := d_M_wordByte_7) (hK := k_M_lengthOf_J) (hlk := w_2203) (hnoM := rfl) (hS8 := Nat.le_of_ble_eq_true rfl) (hstat := w_2204) (hlen := Nat.le_of_ble_eq_true rfl) (hst := rfl) (hL0 := rfl)  hyp
theorem d_M_wordByte_10 : decode prog_14_method_96_code 10 = .ok (.iconst 1, 1) := by decide +kernel
theorem d_M_wordByte_11 : decode prog_14_method_96_code 11 = .ok (.isub, 1) := by decide +kernel
theorem d_M_wordByte_12 : decode prog_14_method_96_code 12 = .ok (.invokestatic 101, 3) := by decide +kernel
theorem d_M_wordByte_15 : decode prog_14_method_96_code 15 = .ok (.invokevirtual 407, 3) := by decide +kernel
theorem d_M_wordByte_18 : decode prog_14_method_96_code 18 = .ok (.ifCond .ne 5, 3) := by decide +kernel
theorem d_M_wordByte_21 : decode prog_14_method_96_code 21 = .ok (.iconst 0, 1) := by decide +kernel
theorem d_M_wordByte_22 : decode prog_14_method_96_code 22 = .ok (.ireturn, 1) := by decide +kernel
theorem d_M_wordByte_23 : decode prog_14_method_96_code 23 = .ok (.aload_n 0, 1) := by decide +kernel
theorem d_M_wordByte_24 : decode prog_14_method_96_code 24 = .ok (.getfield 217, 3) := by decide +kernel
theorem d_M_wordByte_27 : decode prog_14_method_96_code 27 = .ok (.iload_n 1, 1) := by decide +kernel
theorem d_M_wordByte_28 : decode prog_14_method_96_code 28 = .ok (.invokestatic 142, 3) := by decide +kernel
theorem v_M_wordByte_10 {G : XG} {d : Nat} {h : XH} {Q : XV → XH → Prop} {X : Nat → XH → Prop} {x1 s0 s1 s2 s3 : Int} (F : xFix h) (hyp : xiR (s0 - 1) ∧ ((s2 < s1 → xtg h s3 = 11 ∧ 0 ≤ s3 ∧ (xFix (xst h s3 0 1) → Q (xI 0) (xst h s3 0 1))) ∧ (¬ s2 < s1 → (((s0 - 1) < s2 → xtg h s3 = 11 ∧ 0 ≤ s3 ∧ (xFix (xst h s3 0 1) → Q (xI 0) (xst h s3 0 1))) ∧ (¬ (s0 - 1) < s2 → xtg h s3 = 11 ∧ 0 ≤ s3 ∧ (xFix (xst h s3 0 0) → xwp G m_M_digit (d + 3) 0 [xL (xpl h 53 14), xZ, xI x1] [] (xst h s3 0 0) (fun v9 h9 => xwp G m_M_wordByte (d + 4) 31 [xZ, xZ, xZ] (xpush v9 []) h9 Q X) X)))))) : xwp G m_M_wordByte (d + 4) 10 [xR 53, xI x1, xZ] [xI s0, xI s1, xI s2, xR s3] h Q X := by
  have hnx9 : (93 : Int) ≤ xnx h := F.2.2
  refine xr_okL (fun hl9 => ?_)
  have r_x1 : -2147483648 ≤ x1 ∧ x1 ≤ 2147483647 := hl9 (xI x1) (.tail _ (.head _)) (Nat.le_of_ble_eq_true rfl)
  refine xr_okS (fun hs9 => ?_)
  have r_s0 : -2147483648 ≤ s0 ∧ s0 ≤ 2147483647 := hs9 (xI s0) (.head _)
  have r_s1 : -2147483648 ≤ s1 ∧ s1 ≤ 2147483647 := hs9 (xI s1) (.tail _ (.head _))
  have r_s2 : -2147483648 ≤ s2 ∧ s2 ≤ 2147483647 := hs9 (xI s2) (.tail _ (.tail _ (.head _)))
  refine xr_iconst (pc := 10) (hI := d_M_wordByte_10) (hr := by decide) ?_
  obtain ⟨c9, hyp⟩ := hyp
  refine xr_isub (pc := 11) (hI := d_M_wordByte_11) (hr := c9) ?_
  refine xq_callS (pc := 12) (index := 101) (K := m_M_isBetween) (As := [xI s2, xI s1, xI (s0 - 1)]) (S := [xR s3]) (L0 := [xI s2, xI s1, xI (s0 - 1)]) (hI := d_M_wordByte_12) (hK := k_M_isBetween) (hlk := w_1718) (hnoM := rfl) (hS8 := Nat.le_of_ble_eq_true rfl) (hstat := w_1719) (hlen := Nat.le_of_ble_eq_true rfl) (hst := rfl) (hL0 := rfl)  ?_
  refine xr_iload_n (pc := 0) (i := 0) (hI := d_M_isBetween_0) (hi := rfl) (hl := rfl) ?_
  refine xr_iload_n (pc := 1) (i := 1) (hI := d_M_isBetween_1) (hi := rfl) (hl := rfl) ?_
  refine xr_icmp_lt (pc := 2) (tgt := 14) (hI := d_M_isBetween_2) (ht := by decide) (fun q9 => ?_) (fun q9 => ?_)
  · replace hyp := hyp.1 q9
    have q1_ := q9
    clear q9
    refine xr_iconst (pc := 14) (hI := d_M_isBetween_14) (hr := by decide) ?_
    refine xr_ireturnT (S := []) (pc := 15) (hI := d_M_isBetween_15) (hr := rfl) (xnar_z (by decide)) ?_
    show xwp G m_M_wordByte (d + 4) 15 [xR 53, xI x1, xZ] [xI 0, xR s3] _ _ _
    obtain ⟨c9, hyp⟩ := hyp
    have t2_ := c9
    clear c9
    refine xq_callV (pc := 15) (index := 407) (K := m_M_isKnown) (As := [xI 0]) (S := []) (L0 := [xR s3, xI 0]) (hI := d_M_wordByte_15) (hK := k_M_isKnown) (hlk := w_1810) (hnoM := rfl) (hS8 := Nat.le_of_ble_eq_true rfl) (ci := 11) (N := 38) (C := "BeaconIndexModel") (T := xF11) (hc := rfl) (hci := Nat.le_of_ble_eq_true rfl) (htb := t2_) (hinst := w_1812) (hsel := sel_M_isKnown) (hlen := Nat.le_of_ble_eq_true rfl) (hst := rfl) (hL0 := rfl)  ?_
    refine xr_aload_n (pc := 0) (i := 0) (hI := d_M_isKnown_0) (hi := rfl) (hl := rfl) ?_
    refine xr_iload_n (pc := 1) (i := 1) (hI := d_M_isKnown_1) (hi := rfl) (hl := rfl) ?_
    refine xr_if_eq (pc := 2) (tgt := 9) (hI := d_M_isKnown_2) (ht := by decide) (fun q9 => ?_) (fun q9 => ?_)
    · clear q9
      refine xr_iconst (pc := 9) (hI := d_M_isKnown_9) (hr := by decide) ?_
      obtain ⟨c3_, hyp⟩ := hyp
      refine xr_putf (pc := 10) (ci := 11) (k := 0) (N := 38) (v9 := 0) (T := xF11) (tF := xT11) (hI := d_M_isKnown_10) (hw := w_1587) rfl xi11 xt11 xn11 (Or.inl rfl) (Nat.le_of_ble_eq_true rfl) (Nat.le_of_ble_eq_true rfl) rfl xfit_i rfl t2_ c3_ (fun z => z) ?_
      have F4_ : xFix (xst h s3 0 1) := F.stT (t := 11) c3_ t2_ xtk_11_0
      refine xr_iload_n (pc := 13) (i := 1) (hI := d_M_isKnown_13) (hi := rfl) (hl := rfl) ?_
      refine xr_ireturnT (S := []) (pc := 14) (hI := d_M_isKnown_14) (hr := rfl) (xnar_z (by decide)) ?_
      show xwp G m_M_wordByte (d + 4) 18 [xR 53, xI x1, xZ] [xI 0] _ _ _
      refine xr_if_ne (pc := 18) (tgt := 23) (hI := d_M_wordByte_18) (ht := by decide) (fun q9 => ?_) (fun q9 => ?_)
      · exact absurd q9 (by decide)
      · clear q9
        refine xr_iconst (pc := 21) (hI := d_M_wordByte_21) (hr := by decide) ?_
        refine xr_ireturn (S := []) (pc := 22) (hI := d_M_wordByte_22) (hr := rfl) ?_
        exact hyp F4_
    · exact absurd q9 (by decide)
  · replace hyp := hyp.2 q9
    have q1_ := q9
    clear q9
    refine xr_iload_n (pc := 5) (i := 0) (hI := d_M_isBetween_5) (hi := rfl) (hl := rfl) ?_
    refine xr_iload_n (pc := 6) (i := 2) (hI := d_M_isBetween_6) (hi := rfl) (hl := rfl) ?_
    refine xr_icmp_gt (pc := 7) (tgt := 14) (hI := d_M_isBetween_7) (ht := by decide) (fun q9 => ?_) (fun q9 => ?_)
    · replace hyp := hyp.1 q9
      have q5_ := q9
      clear q9
      refine xr_iconst (pc := 14) (hI := d_M_isBetween_14) (hr := by decide) ?_
      refine xr_ireturnT (S := []) (pc := 15) (hI := d_M_isBetween_15) (hr := rfl) (xnar_z (by decide)) ?_
      show xwp G m_M_wordByte (d + 4) 15 [xR 53, xI x1, xZ] [xI 0, xR s3] _ _ _
      obtain ⟨c9, hyp⟩ := hyp
      have t6_ := c9
      clear c9
      refine xq_callV (pc := 15) (index := 407) (K := m_M_isKnown) (As := [xI 0]) (S := []) (L0 := [xR s3, xI 0]) (hI := d_M_wordByte_15) (hK := k_M_isKnown) (hlk := w_1810) (hnoM := rfl) (hS8 := Nat.le_of_ble_eq_true rfl) (ci := 11) (N := 38) (C := "BeaconIndexModel") (T := xF11) (hc := rfl) (hci := Nat.le_of_ble_eq_true rfl) (htb := t6_) (hinst := w_1812) (hsel := sel_M_isKnown) (hlen := Nat.le_of_ble_eq_true rfl) (hst := rfl) (hL0 := rfl)  ?_
      refine xr_aload_n (pc := 0) (i := 0) (hI := d_M_isKnown_0) (hi := rfl) (hl := rfl) ?_
      refine xr_iload_n (pc := 1) (i := 1) (hI := d_M_isKnown_1) (hi := rfl) (hl := rfl) ?_
      refine xr_if_eq (pc := 2) (tgt := 9) (hI := d_M_isKnown_2) (ht := by decide) (fun q9 => ?_) (fun q9 => ?_)
      · clear q9
        refine xr_iconst (pc := 9) (hI := d_M_isKnown_9) (hr := by decide) ?_
        obtain ⟨c7_, hyp⟩ := hyp
        refine xr_putf (pc := 10) (ci := 11) (k := 0) (N := 38) (v9 := 0) (T := xF11) (tF := xT11) (hI := d_M_isKnown_10) (hw := w_1587) rfl xi11 xt11 xn11 (Or.inl rfl) (Nat.le_of_ble_eq_true rfl) (Nat.le_of_ble_eq_true rfl) rfl xfit_i rfl t6_ c7_ (fun z => z) ?_
        have F8_ : xFix (xst h s3 0 1) := F.stT (t := 11) c7_ t6_ xtk_11_0
        refine xr_iload_n (pc := 13) (i := 1) (hI := d_M_isKnown_13) (hi := rfl) (hl := rfl) ?_
        refine xr_ireturnT (S := []) (pc := 14) (hI := d_M_isKnown_14) (hr := rfl) (xnar_z (by decide)) ?_
        show xwp G m_M_wordByte (d + 4) 18 [xR 53, xI x1, xZ] [xI 0] _ _ _
        refine xr_if_ne (pc := 18) (tgt := 23) (hI := d_M_wordByte_18) (ht := by decide) (fun q9 => ?_) (fun q9 => ?_)
        · exact absurd q9 (by decide)
        · clear q9
          refine xr_iconst (pc := 21) (hI := d_M_wordByte_21) (hr := by decide) ?_
          refine xr_ireturn (S := []) (pc := 22) (hI := d_M_wordByte_22) (hr := rfl) ?_
          exact hyp F8_
      · exact absurd q9 (by decide)
    · replace hyp := hyp.2 q9
      have q5_ := q9
      clear q9
      refine xr_iconst (pc := 10) (hI := d_M_isBetween_10) (hr := by decide) ?_
      refine xr_goto (pc := 11) (tgt := 15) (hI := d_M_isBetween_11) (ht := by decide) ?_
      refine xr_ireturnT (S := []) (pc := 15) (hI := d_M_isBetween_15) (hr := rfl) (xnar_z (by decide)) ?_
      show xwp G m_M_wordByte (d + 4) 15 [xR 53, xI x1, xZ] [xI 1, xR s3] _ _ _
      obtain ⟨c9, hyp⟩ := hyp
      have t9_ := c9
      clear c9
      refine xq_callV (pc := 15) (index := 407) (K := m_M_isKnown) (As := [xI 1]) (S := []) (L0 := [xR s3, xI 1]) (hI := d_M_wordByte_15) (hK := k_M_isKnown) (hlk := w_1810) (hnoM := rfl) (hS8 := Nat.le_of_ble_eq_true rfl) (ci := 11) (N := 38) (C := "BeaconIndexModel") (T := xF11) (hc := rfl) (hci := Nat.le_of_ble_eq_true rfl) (htb := t9_) (hinst := w_1812) (hsel := sel_M_isKnown) (hlen := Nat.le_of_ble_eq_true rfl) (hst := rfl) (hL0 := rfl)  ?_
      refine xr_aload_n (pc := 0) (i := 0) (hI := d_M_isKnown_0) (hi := rfl) (hl := rfl) ?_
      refine xr_iload_n (pc := 1) (i := 1) (hI := d_M_isKnown_1) (hi := rfl) (hl := rfl) ?_
      refine xr_if_eq (pc := 2) (tgt := 9) (hI := d_M_isKnown_2) (ht := by decide) (fun q9 => ?_) (fun q9 => ?_)
      · exact absurd q9 (by decide)
      · clear q9
        refine xr_iconst (pc := 5) (hI := d_M_isKnown_5) (hr := by decide) ?_
        refine xr_goto (pc := 6) (tgt := 10) (hI := d_M_isKnown_6) (ht := by decide) ?_
        obtain ⟨c10_, hyp⟩ := hyp
        refine xr_putf (pc := 10) (ci := 11) (k := 0) (N := 38) (v9 := 0) (T := xF11) (tF := xT11) (hI := d_M_isKnown_10) (hw := w_1587) rfl xi11 xt11 xn11 (Or.inl rfl) (Nat.le_of_ble_eq_true rfl) (Nat.le_of_ble_eq_true rfl) rfl xfit_i rfl t9_ c10_ (fun z => z) ?_
        have F11_ : xFix (xst h s3 0 0) := F.stT (t := 11) c10_ t9_ xtk_11_0
        refine xr_iload_n (pc := 13) (i := 1) (hI := d_M_isKnown_13) (hi := rfl) (hl := rfl) ?_
        refine xr_ireturnT (S := []) (pc := 14) (hI := d_M_isKnown_14) (hr := rfl) (xnar_z (by decide)) ?_
        show xwp G m_M_wordByte (d + 4) 18 [xR 53, xI x1, xZ] [xI 1] _ _ _
        refine xr_if_ne (pc := 18) (tgt := 23) (hI := d_M_wordByte_18) (ht := by decide) (fun q9 => ?_) (fun q9 => ?_)
        · clear q9
          refine xr_aload_n (pc := 23) (i := 0) (hI := d_M_wordByte_23) (hi := rfl) (hl := rfl) ?_
          refine xg_getf (pc := 24) (ci := 11) (k := 14) (N := 38) (v9 := 1) (v := (xpl h 53 14)) (T := xF11) (hI := d_M_wordByte_24) (hw := w_1601) rfl xi11 (Or.inl rfl) (Nat.le_of_ble_eq_true rfl) (Nat.le_of_ble_eq_true rfl) rfl (ft_53 F11_) (xpl_ok (by decide)) (fun f12_ => ?_)
          replace f12_ : -9223372036854775808 ≤ (xpl h 53 14) ∧ (xpl h 53 14) ≤ 9223372036854775807 := f12_
          refine xr_iload_n (pc := 27) (i := 1) (hI := d_M_wordByte_27) (hi := rfl) (hl := rfl) ?_
          exact xq_callS (pc := 28) (index := 142) (K := m_M_digit) (As := [xL (xpl h 53 14), xI x1]) (S := []) (L0 := [xL (xpl h 53 14), xZ, xI x1]) (hI := d_M_wordByte_28) (hK := k_M_digit) (hlk := w_2206) (hnoM := rfl) (hS8 := Nat.le_of_ble_eq_true rfl) (hstat := w_2207) (hlen := Nat.le_of_ble_eq_true rfl) (hst := rfl) (hL0 := rfl)  (xwp_mono (hyp F11_) (fun v9 h9 q9 => xr_drop (L9 := [xZ, xZ, xZ]) (xdrz (xdrz (xdrs xdr0))) q9) (fun _ _ z9 => z9))
        · exact absurd q9 (by decide)
theorem d_M_wordByte_31 : decode prog_14_method_96_code 31 = .ok (.istore_n 2, 1) := by decide +kernel
theorem d_M_wordByte_32 : decode prog_14_method_96_code 32 = .ok (.iload_n 2, 1) := by decide +kernel
theorem d_M_wordByte_33 : decode prog_14_method_96_code 33 = .ok (.bipush 10, 2) := by decide +kernel
theorem d_M_wordByte_35 : decode prog_14_method_96_code 35 = .ok (.if_icmp .le 13, 3) := by decide +kernel
theorem d_M_wordByte_48 : decode prog_14_method_96_code 48 = .ok (.iload_n 2, 1) := by decide +kernel
theorem d_M_wordByte_49 : decode prog_14_method_96_code 49 = .ok (.iconst 1, 1) := by decide +kernel
theorem d_M_wordByte_50 : decode prog_14_method_96_code 50 = .ok (.isub, 1) := by decide +kernel
theorem d_M_wordByte_51 : decode prog_14_method_96_code 51 = .ok (.bipush 48, 2) := by decide +kernel
theorem d_M_wordByte_53 : decode prog_14_method_96_code 53 = .ok (.iadd, 1) := by decide +kernel
theorem d_M_wordByte_54 : decode prog_14_method_96_code 54 = .ok (.ireturn, 1) := by decide +kernel
theorem d_M_wordByte_38 : decode prog_14_method_96_code 38 = .ok (.iload_n 2, 1) := by decide +kernel
theorem d_M_wordByte_39 : decode prog_14_method_96_code 39 = .ok (.bipush 11, 2) := by decide +kernel
theorem d_M_wordByte_41 : decode prog_14_method_96_code 41 = .ok (.isub, 1) := by decide +kernel
theorem d_M_wordByte_42 : decode prog_14_method_96_code 42 = .ok (.bipush 97, 2) := by decide +kernel
theorem d_M_wordByte_44 : decode prog_14_method_96_code 44 = .ok (.iadd, 1) := by decide +kernel
theorem d_M_wordByte_45 : decode prog_14_method_96_code 45 = .ok (.goto 9, 3) := by decide +kernel
theorem v_M_wordByte_31 {G : XG} {d : Nat} {h : XH} {Q : XV → XH → Prop} {X : Nat → XH → Prop} {s0 : Int} (F : xFix h) (hyp : ((s0 ≤ 10 → xiR (s0 - 1) ∧ (Q (xI ((s0 - 1) + 48)) h)) ∧ (¬ s0 ≤ 10 → xiR ((s0 - 11) + 97) ∧ (Q (xI ((s0 - 11) + 97)) h)))) : xwp G m_M_wordByte (d + 4) 31 [xZ, xZ, xZ] [xI s0] h Q X := by
  have hnx9 : (93 : Int) ≤ xnx h := F.2.2
  refine xr_okS (fun hs9 => ?_)
  have r_s0 : -2147483648 ≤ s0 ∧ s0 ≤ 2147483647 := hs9 (xI s0) (.head _)
  refine xr_istore_n (pc := 31) (i := 2) (L9 := [xZ, xZ, xI s0]) (hI := d_M_wordByte_31) (hi := rfl) (hn := Nat.le_of_ble_eq_true rfl) (hL9 := rfl) ?_
  refine xr_iload_n (pc := 32) (i := 2) (hI := d_M_wordByte_32) (hi := rfl) (hl := rfl) ?_
  refine xr_bipush (pc := 33) (hI := d_M_wordByte_33) (hr := by decide) (hv := by decide) ?_
  refine xr_icmp_le (pc := 35) (tgt := 48) (hI := d_M_wordByte_35) (ht := by decide) (fun q9 => ?_) (fun q9 => ?_)
  · replace hyp := hyp.1 q9
    have q1_ := q9
    clear q9
    refine xr_iload_n (pc := 48) (i := 2) (hI := d_M_wordByte_48) (hi := rfl) (hl := rfl) ?_
    refine xr_iconst (pc := 49) (hI := d_M_wordByte_49) (hr := by decide) ?_
    obtain ⟨c9, hyp⟩ := hyp
    refine xr_isub (pc := 50) (hI := d_M_wordByte_50) (hr := c9) ?_
    refine xr_bipush (pc := 51) (hI := d_M_wordByte_51) (hr := by decide) (hv := by decide) ?_
    refine xr_iadd (pc := 53) (hI := d_M_wordByte_53) (hr := ⟨by clear hyp; omega, by clear hyp; omega⟩) ?_
    refine xr_ireturn (S := []) (pc := 54) (hI := d_M_wordByte_54) (hr := rfl) ?_
    exact hyp
  · replace hyp := hyp.2 q9
    have q1_ := q9
    clear q9
    refine xr_iload_n (pc := 38) (i := 2) (hI := d_M_wordByte_38) (hi := rfl) (hl := rfl) ?_
    refine xr_bipush (pc := 39) (hI := d_M_wordByte_39) (hr := by decide) (hv := by decide) ?_
    refine xr_isub (pc := 41) (hI := d_M_wordByte_41) (hr := ⟨by clear hyp; omega, by clear hyp; omega⟩) ?_
    refine xr_bipush (pc := 42) (hI := d_M_wordByte_42) (hr := by decide) (hv := by decide) ?_
    obtain ⟨c9, hyp⟩ := hyp
    refine xr_iadd (pc := 44) (hI := d_M_wordByte_44) (hr := c9) ?_
    refine xr_goto (pc := 45) (tgt := 54) (hI := d_M_wordByte_45) (ht := by decide) ?_
    refine xr_ireturn (S := []) (pc := 54) (hI := d_M_wordByte_54) (hr := rfl) ?_
    exact hyp
abbrev m_M_textsWith : XM := (⟨"BeaconIndexModel", "textsWith", "(I)I"⟩, prog_14_method_97_code, 2, (some .int), [])
theorem d_M_textsWith_0 : decode prog_14_method_97_code 0 = .ok (.aload_n 0, 1) := by decide +kernel
theorem d_M_textsWith_1 : decode prog_14_method_97_code 1 = .ok (.iload_n 1, 1) := by decide +kernel
theorem d_M_textsWith_2 : decode prog_14_method_97_code 2 = .ok (.invokestatic 423, 3) := by decide +kernel
theorem d_M_textsWith_5 : decode prog_14_method_97_code 5 = .ok (.invokevirtual 407, 3) := by decide +kernel
theorem d_M_textsWith_8 : decode prog_14_method_97_code 8 = .ok (.ifCond .eq 11, 3) := by decide +kernel
theorem d_M_textsWith_11 : decode prog_14_method_97_code 11 = .ok (.aload_n 0, 1) := by decide +kernel
theorem d_M_textsWith_12 : decode prog_14_method_97_code 12 = .ok (.iload_n 1, 1) := by decide +kernel
theorem d_M_textsWith_13 : decode prog_14_method_97_code 13 = .ok (.invokevirtual 435, 3) := by decide +kernel
theorem k_M_manyWith : xCal m_M_manyWith 1 := ⟨List.mem_append_right _ (List.mem_of_getElem? (i := 2223) (by decide +kernel)), w_15, Nat.le_of_ble_eq_true rfl, ⟨by decide +kernel, by decide +kernel⟩, by decide +kernel, by decide +kernel, rfl⟩
theorem w_2220 : Cond.methodLink "BeaconIndexModel" 435 ⟨"BeaconIndexModel", "manyWith", "(I)I"⟩ ∈ lw_tbl := List.mem_append_right _ (List.mem_of_getElem? (i := 2220) (by decide +kernel))
theorem w_2222 : Cond.instanceMethod ⟨"BeaconIndexModel", "manyWith", "(I)I"⟩ ∈ lw_tbl := List.mem_append_right _ (List.mem_of_getElem? (i := 2222) (by decide +kernel))
theorem sel_M_manyWith : Cond.selects "BeaconIndexModel" ⟨"BeaconIndexModel", "manyWith", "(I)I"⟩ ⟨"BeaconIndexModel", "manyWith", "(I)I"⟩ ∈ lw_tbl := List.mem_append_left _ (by decide +kernel)
theorem d_M_textsWith_19 : decode prog_14_method_97_code 19 = .ok (.iconst 0, 1) := by decide +kernel
theorem d_M_textsWith_20 : decode prog_14_method_97_code 20 = .ok (.ireturn, 1) := by decide +kernel
theorem v_M_textsWith_0 {G : XG} {d : Nat} {h : XH} {Q : XV → XH → Prop} {X : Nat → XH → Prop} {x1 : Int} (F : xFix h) (hyp : ((x1 = 0 → (xFix (xst h 53 0 0) → xwp G m_M_manyWith (d + 3) 0 [xR 53, xI x1, xZ, xZ] [] (xst h 53 0 0) (fun v9 h9 => xwp G m_M_textsWith (d + 4) 16 [xZ, xZ] (xpush v9 []) h9 Q X) X)) ∧ (¬ x1 = 0 → ((x1 = 1 → (xFix (xst h 53 0 0) → xwp G m_M_manyWith (d + 3) 0 [xR 53, xI x1, xZ, xZ] [] (xst h 53 0 0) (fun v9 h9 => xwp G m_M_textsWith (d + 4) 16 [xZ, xZ] (xpush v9 []) h9 Q X) X)) ∧ (¬ x1 = 1 → (xFix (xst h 53 0 1) → Q (xI 0) (xst h 53 0 1))))))) : xwp G m_M_textsWith (d + 4) 0 [xR 53, xI x1] [] h Q X := by
  have hnx9 : (93 : Int) ≤ xnx h := F.2.2
  refine xr_okL (fun hl9 => ?_)
  have r_x1 : -2147483648 ≤ x1 ∧ x1 ≤ 2147483647 := hl9 (xI x1) (.tail _ (.head _)) (Nat.le_of_ble_eq_true rfl)
  refine xr_aload_n (pc := 0) (i := 0) (hI := d_M_textsWith_0) (hi := rfl) (hl := rfl) ?_
  refine xr_iload_n (pc := 1) (i := 1) (hI := d_M_textsWith_1) (hi := rfl) (hl := rfl) ?_
  refine xq_callS (pc := 2) (index := 423) (K := m_M_isField) (As := [xI x1]) (S := [xR 53]) (L0 := [xI x1]) (hI := d_M_textsWith_2) (hK := k_M_isField) (hlk := w_1878) (hnoM := rfl) (hS8 := Nat.le_of_ble_eq_true rfl) (hstat := w_1879) (hlen := Nat.le_of_ble_eq_true rfl) (hst := rfl) (hL0 := rfl)  ?_
  refine xr_iload_n (pc := 0) (i := 0) (hI := d_M_isField_0) (hi := rfl) (hl := rfl) ?_
  refine xr_if_eq (pc := 1) (tgt := 9) (hI := d_M_isField_1) (ht := by decide) (fun q9 => ?_) (fun q9 => ?_)
  · replace hyp := hyp.1 q9
    have q1_ := q9
    clear q9
    refine xr_iconst (pc := 9) (hI := d_M_isField_9) (hr := by decide) ?_
    refine xr_goto (pc := 10) (tgt := 14) (hI := d_M_isField_10) (ht := by decide) ?_
    refine xr_ireturnT (S := []) (pc := 14) (hI := d_M_isField_14) (hr := rfl) (xnar_z (by decide)) ?_
    show xwp G m_M_textsWith (d + 4) 5 [xR 53, xI x1] [xI 1, xR 53] _ _ _
    refine xq_callV (pc := 5) (index := 407) (K := m_M_isKnown) (As := [xI 1]) (S := []) (L0 := [xR 53, xI 1]) (hI := d_M_textsWith_5) (hK := k_M_isKnown) (hlk := w_1810) (hnoM := rfl) (hS8 := Nat.le_of_ble_eq_true rfl) (ci := 11) (N := 38) (C := "BeaconIndexModel") (T := xF11) (hc := rfl) (hci := Nat.le_of_ble_eq_true rfl) (htb := (ft_53 F)) (hinst := w_1812) (hsel := sel_M_isKnown) (hlen := Nat.le_of_ble_eq_true rfl) (hst := rfl) (hL0 := rfl)  ?_
    refine xr_aload_n (pc := 0) (i := 0) (hI := d_M_isKnown_0) (hi := rfl) (hl := rfl) ?_
    refine xr_iload_n (pc := 1) (i := 1) (hI := d_M_isKnown_1) (hi := rfl) (hl := rfl) ?_
    refine xr_if_eq (pc := 2) (tgt := 9) (hI := d_M_isKnown_2) (ht := by decide) (fun q9 => ?_) (fun q9 => ?_)
    · exact absurd q9 (by decide)
    · clear q9
      refine xr_iconst (pc := 5) (hI := d_M_isKnown_5) (hr := by decide) ?_
      refine xr_goto (pc := 6) (tgt := 10) (hI := d_M_isKnown_6) (ht := by decide) ?_
      refine xr_putf (pc := 10) (ci := 11) (k := 0) (N := 38) (v9 := 0) (T := xF11) (tF := xT11) (hI := d_M_isKnown_10) (hw := w_1587) rfl xi11 xt11 xn11 (Or.inl rfl) (Nat.le_of_ble_eq_true rfl) (Nat.le_of_ble_eq_true rfl) rfl xfit_i rfl (ft_53 F) (by decide) (fun z => z) ?_
      have F2_ : xFix (xst h 53 0 0) := F.stL xfk_53_0
      refine xr_iload_n (pc := 13) (i := 1) (hI := d_M_isKnown_13) (hi := rfl) (hl := rfl) ?_
      refine xr_ireturnT (S := []) (pc := 14) (hI := d_M_isKnown_14) (hr := rfl) (xnar_z (by decide)) ?_
      show xwp G m_M_textsWith (d + 4) 8 [xR 53, xI x1] [xI 1] _ _ _
      refine xr_if_eq (pc := 8) (tgt := 19) (hI := d_M_textsWith_8) (ht := by decide) (fun q9 => ?_) (fun q9 => ?_)
      · exact absurd q9 (by decide)
      · clear q9
        refine xr_aload_n (pc := 11) (i := 0) (hI := d_M_textsWith_11) (hi := rfl) (hl := rfl) ?_
        refine xr_iload_n (pc := 12) (i := 1) (hI := d_M_textsWith_12) (hi := rfl) (hl := rfl) ?_
        exact xq_callV (pc := 13) (index := 435) (K := m_M_manyWith) (As := [xI x1]) (S := []) (L0 := [xR 53, xI x1, xZ, xZ]) (hI := d_M_textsWith_13) (hK := k_M_manyWith) (hlk := w_2220) (hnoM := rfl) (hS8 := Nat.le_of_ble_eq_true rfl) (ci := 11) (N := 38) (C := "BeaconIndexModel") (T := xF11) (hc := rfl) (hci := Nat.le_of_ble_eq_true rfl) (htb := (ft_53 F2_)) (hinst := w_2222) (hsel := sel_M_manyWith) (hlen := Nat.le_of_ble_eq_true rfl) (hst := rfl) (hL0 := rfl)  (xwp_mono (hyp F2_) (fun v9 h9 q9 => xr_drop (L9 := [xZ, xZ]) (xdrz (xdrz xdr0)) q9) (fun _ _ z9 => z9))
  · replace hyp := hyp.2 q9
    have q1_ := q9
    clear q9
    refine xr_iload_n (pc := 4) (i := 0) (hI := d_M_isField_4) (hi := rfl) (hl := rfl) ?_
    refine xr_iconst (pc := 5) (hI := d_M_isField_5) (hr := by decide) ?_
    refine xr_icmp_ne (pc := 6) (tgt := 13) (hI := d_M_isField_6) (ht := by decide) (fun q9 => ?_) (fun q9 => ?_)
    · replace hyp := hyp.2 q9
      have q3_ := q9
      clear q9
      refine xr_iconst (pc := 13) (hI := d_M_isField_13) (hr := by decide) ?_
      refine xr_ireturnT (S := []) (pc := 14) (hI := d_M_isField_14) (hr := rfl) (xnar_z (by decide)) ?_
      show xwp G m_M_textsWith (d + 4) 5 [xR 53, xI x1] [xI 0, xR 53] _ _ _
      refine xq_callV (pc := 5) (index := 407) (K := m_M_isKnown) (As := [xI 0]) (S := []) (L0 := [xR 53, xI 0]) (hI := d_M_textsWith_5) (hK := k_M_isKnown) (hlk := w_1810) (hnoM := rfl) (hS8 := Nat.le_of_ble_eq_true rfl) (ci := 11) (N := 38) (C := "BeaconIndexModel") (T := xF11) (hc := rfl) (hci := Nat.le_of_ble_eq_true rfl) (htb := (ft_53 F)) (hinst := w_1812) (hsel := sel_M_isKnown) (hlen := Nat.le_of_ble_eq_true rfl) (hst := rfl) (hL0 := rfl)  ?_
      refine xr_aload_n (pc := 0) (i := 0) (hI := d_M_isKnown_0) (hi := rfl) (hl := rfl) ?_
      refine xr_iload_n (pc := 1) (i := 1) (hI := d_M_isKnown_1) (hi := rfl) (hl := rfl) ?_
      refine xr_if_eq (pc := 2) (tgt := 9) (hI := d_M_isKnown_2) (ht := by decide) (fun q9 => ?_) (fun q9 => ?_)
      · clear q9
        refine xr_iconst (pc := 9) (hI := d_M_isKnown_9) (hr := by decide) ?_
        refine xr_putf (pc := 10) (ci := 11) (k := 0) (N := 38) (v9 := 0) (T := xF11) (tF := xT11) (hI := d_M_isKnown_10) (hw := w_1587) rfl xi11 xt11 xn11 (Or.inl rfl) (Nat.le_of_ble_eq_true rfl) (Nat.le_of_ble_eq_true rfl) rfl xfit_i rfl (ft_53 F) (by decide) (fun z => z) ?_
        have F4_ : xFix (xst h 53 0 1) := F.stL xfk_53_0
        refine xr_iload_n (pc := 13) (i := 1) (hI := d_M_isKnown_13) (hi := rfl) (hl := rfl) ?_
        refine xr_ireturnT (S := []) (pc := 14) (hI := d_M_isKnown_14) (hr := rfl) (xnar_z (by decide)) ?_
        show xwp G m_M_textsWith (d + 4) 8 [xR 53, xI x1] [xI 0] _ _ _
        refine xr_if_eq (pc := 8) (tgt := 19) (hI := d_M_textsWith_8) (ht := by decide) (fun q9 => ?_) (fun q9 => ?_)
        · clear q9
          refine xr_iconst (pc := 19) (hI := d_M_textsWith_19) (hr := by decide) ?_
          refine xr_ireturn (S := []) (pc := 20) (hI := d_M_textsWith_20) (hr := rfl) ?_
          exact hyp F4_
        · exact absurd q9 (by decide)
      · exact absurd q9 (by decide)
    · replace hyp := hyp.1 q9
      have q3_ := q9
      clear q9
      refine xr_iconst (pc := 9) (hI := d_M_isField_9) (hr := by decide) ?_
      refine xr_goto (pc := 10) (tgt := 14) (hI := d_M_isField_10) (ht := by decide) ?_
      refine xr_ireturnT (S := []) (pc := 14) (hI := d_M_isField_14) (hr := rfl) (xnar_z (by decide)) ?_
      show xwp G m_M_textsWith (d + 4) 5 [xR 53, xI x1] [xI 1, xR 53] _ _ _
      refine xq_callV (pc := 5) (index := 407) (K := m_M_isKnown) (As := [xI 1]) (S := []) (L0 := [xR 53, xI 1]) (hI := d_M_textsWith_5) (hK := k_M_isKnown) (hlk := w_1810) (hnoM := rfl) (hS8 := Nat.le_of_ble_eq_true rfl) (ci := 11) (N := 38) (C := "BeaconIndexModel") (T := xF11) (hc := rfl) (hci := Nat.le_of_ble_eq_true rfl) (htb := (ft_53 F)) (hinst := w_1812) (hsel := sel_M_isKnown) (hlen := Nat.le_of_ble_eq_true rfl) (hst := rfl) (hL0 := rfl)  ?_
      refine xr_aload_n (pc := 0) (i := 0) (hI := d_M_isKnown_0) (hi := rfl) (hl := rfl) ?_
      refine xr_iload_n (pc := 1) (i := 1) (hI := d_M_isKnown_1) (hi := rfl) (hl := rfl) ?_
      refine xr_if_eq (pc := 2) (tgt := 9) (hI := d_M_isKnown_2) (ht := by decide) (fun q9 => ?_) (fun q9 => ?_)
      · exact absurd q9 (by decide)
      · clear q9
        refine xr_iconst (pc := 5) (hI := d_M_isKnown_5) (hr := by decide) ?_
        refine xr_goto (pc := 6) (tgt := 10) (hI := d_M_isKnown_6) (ht := by decide) ?_
        refine xr_putf (pc := 10) (ci := 11) (k := 0) (N := 38) (v9 := 0) (T := xF11) (tF := xT11) (hI := d_M_isKnown_10) (hw := w_1587) rfl xi11 xt11 xn11 (Or.inl rfl) (Nat.le_of_ble_eq_true rfl) (Nat.le_of_ble_eq_true rfl) rfl xfit_i rfl (ft_53 F) (by decide) (fun z => z) ?_
        have F5_ : xFix (xst h 53 0 0) := F.stL xfk_53_0
        refine xr_iload_n (pc := 13) (i := 1) (hI := d_M_isKnown_13) (hi := rfl) (hl := rfl) ?_
        refine xr_ireturnT (S := []) (pc := 14) (hI := d_M_isKnown_14) (hr := rfl) (xnar_z (by decide)) ?_
        show xwp G m_M_textsWith (d + 4) 8 [xR 53, xI x1] [xI 1] _ _ _
        refine xr_if_eq (pc := 8) (tgt := 19) (hI := d_M_textsWith_8) (ht := by decide) (fun q9 => ?_) (fun q9 => ?_)
        · exact absurd q9 (by decide)
        · clear q9
          refine xr_aload_n (pc := 11) (i := 0) (hI := d_M_textsWith_11) (hi := rfl) (hl := rfl) ?_
          refine xr_iload_n (pc := 12) (i := 1) (hI := d_M_textsWith_12) (hi := rfl) (hl := rfl) ?_
          exact xq_callV (pc := 13) (index := 435) (K := m_M_manyWith) (As := [xI x1]) (S := []) (L0 := [xR 53, xI x1, xZ, xZ]) (hI := d_M_textsWith_13) (hK := k_M_manyWith) (hlk := w_2220) (hnoM := rfl) (hS8 := Nat.le_of_ble_eq_true rfl) (ci := 11) (N := 38) (C := "BeaconIndexModel") (T := xF11) (hc := rfl) (hci := Nat.le_of_ble_eq_true rfl) (htb := (ft_53 F5_)) (hinst := w_2222) (hsel := sel_M_manyWith) (hlen := Nat.le_of_ble_eq_true rfl) (hst := rfl) (hL0 := rfl)  (xwp_mono (hyp F5_) (fun v9 h9 q9 => xr_drop (L9 := [xZ, xZ]) (xdrz (xdrz xdr0)) q9) (fun _ _ z9 => z9))
theorem d_M_textsWith_16 : decode prog_14_method_97_code 16 = .ok (.goto 4, 3) := by decide +kernel
theorem v_M_textsWith_16 {G : XG} {d : Nat} {h : XH} {Q : XV → XH → Prop} {X : Nat → XH → Prop} {s0 : Int} (F : xFix h) (hyp : (Q (xI s0) h)) : xwp G m_M_textsWith (d + 4) 16 [xZ, xZ] [xI s0] h Q X := by
  have hnx9 : (93 : Int) ≤ xnx h := F.2.2
  refine xr_okS (fun hs9 => ?_)
  have r_s0 : -2147483648 ≤ s0 ∧ s0 ≤ 2147483647 := hs9 (xI s0) (.head _)
  refine xr_goto (pc := 16) (tgt := 20) (hI := d_M_textsWith_16) (ht := by decide) ?_
  refine xr_ireturn (S := []) (pc := 20) (hI := d_M_textsWith_20) (hr := rfl) ?_
  exact hyp
abbrev m_M_timesIn : XM := (⟨"BeaconIndexModel", "timesIn", "(II)I"⟩, prog_14_method_98_code, 4, (some .int), [])
theorem d_M_timesIn_0 : decode prog_14_method_98_code 0 = .ok (.aload_n 0, 1) := by decide +kernel
theorem d_M_timesIn_1 : decode prog_14_method_98_code 1 = .ok (.iload_n 1, 1) := by decide +kernel
theorem d_M_timesIn_2 : decode prog_14_method_98_code 2 = .ok (.invokestatic 398, 3) := by decide +kernel
theorem d_M_timesIn_5 : decode prog_14_method_98_code 5 = .ok (.invokevirtual 407, 3) := by decide +kernel
theorem d_M_timesIn_8 : decode prog_14_method_98_code 8 = .ok (.ifCond .ne 5, 3) := by decide +kernel
theorem d_M_timesIn_11 : decode prog_14_method_98_code 11 = .ok (.iconst 0, 1) := by decide +kernel
theorem d_M_timesIn_12 : decode prog_14_method_98_code 12 = .ok (.ireturn, 1) := by decide +kernel
theorem d_M_timesIn_13 : decode prog_14_method_98_code 13 = .ok (.iload_n 2, 1) := by decide +kernel
theorem d_M_timesIn_14 : decode prog_14_method_98_code 14 = .ok (.invokestatic 423, 3) := by decide +kernel
theorem d_M_timesIn_17 : decode prog_14_method_98_code 17 = .ok (.ifCond .ne 9, 3) := by decide +kernel
theorem d_M_timesIn_26 : decode prog_14_method_98_code 26 = .ok (.aload_n 0, 1) := by decide +kernel
theorem d_M_timesIn_27 : decode prog_14_method_98_code 27 = .ok (.iload_n 1, 1) := by decide +kernel
theorem d_M_timesIn_28 : decode prog_14_method_98_code 28 = .ok (.invokevirtual 438, 3) := by decide +kernel
theorem k_M_whereInSegments : xCal m_M_whereInSegments 1 := ⟨List.mem_append_right _ (List.mem_of_getElem? (i := 2235) (by decide +kernel)), w_15, Nat.le_of_ble_eq_true rfl, ⟨by decide +kernel, by decide +kernel⟩, by decide +kernel, by decide +kernel, rfl⟩
theorem w_2232 : Cond.methodLink "BeaconIndexModel" 438 ⟨"BeaconIndexModel", "whereInSegments", "(I)I"⟩ ∈ lw_tbl := List.mem_append_right _ (List.mem_of_getElem? (i := 2232) (by decide +kernel))
theorem w_2234 : Cond.instanceMethod ⟨"BeaconIndexModel", "whereInSegments", "(I)I"⟩ ∈ lw_tbl := List.mem_append_right _ (List.mem_of_getElem? (i := 2234) (by decide +kernel))
theorem sel_M_whereInSegments : Cond.selects "BeaconIndexModel" ⟨"BeaconIndexModel", "whereInSegments", "(I)I"⟩ ⟨"BeaconIndexModel", "whereInSegments", "(I)I"⟩ ∈ lw_tbl := List.mem_append_left _ (by decide +kernel)
theorem d_M_timesIn_20 : decode prog_14_method_98_code 20 = .ok (.aload_n 0, 1) := by decide +kernel
theorem d_M_timesIn_21 : decode prog_14_method_98_code 21 = .ok (.iconst 2, 1) := by decide +kernel
theorem d_M_timesIn_22 : decode prog_14_method_98_code 22 = .ok (.invokevirtual 395, 3) := by decide +kernel
abbrev m_M_no : XM := (⟨"BeaconIndexModel", "no", "(I)I"⟩, prog_14_method_3_code, 2, (some .int), [])
theorem k_M_no : xCal m_M_no 1 := ⟨List.mem_append_right _ (List.mem_of_getElem? (i := 1713) (by decide +kernel)), w_15, Nat.le_of_ble_eq_true rfl, ⟨by decide +kernel, by decide +kernel⟩, by decide +kernel, by decide +kernel, rfl⟩
theorem w_1710 : Cond.methodLink "BeaconIndexModel" 395 ⟨"BeaconIndexModel", "no", "(I)I"⟩ ∈ lw_tbl := List.mem_append_right _ (List.mem_of_getElem? (i := 1710) (by decide +kernel))
theorem w_1712 : Cond.instanceMethod ⟨"BeaconIndexModel", "no", "(I)I"⟩ ∈ lw_tbl := List.mem_append_right _ (List.mem_of_getElem? (i := 1712) (by decide +kernel))
theorem sel_M_no : Cond.selects "BeaconIndexModel" ⟨"BeaconIndexModel", "no", "(I)I"⟩ ⟨"BeaconIndexModel", "no", "(I)I"⟩ ∈ lw_tbl := List.mem_append_left _ (by decide +kernel)
theorem d_M_no_0 : decode prog_14_method_3_code 0 = .ok (.aload_n 0, 1) := by decide +kernel
theorem d_M_no_1 : decode prog_14_method_3_code 1 = .ok (.iload_n 1, 1) := by decide +kernel
theorem d_M_no_2 : decode prog_14_method_3_code 2 = .ok (.putfield 97, 3) := by decide +kernel
theorem d_M_no_5 : decode prog_14_method_3_code 5 = .ok (.iconst 0, 1) := by decide +kernel
theorem d_M_no_6 : decode prog_14_method_3_code 6 = .ok (.ireturn, 1) := by decide +kernel
theorem d_M_timesIn_25 : decode prog_14_method_98_code 25 = .ok (.ireturn, 1) := by decide +kernel
theorem v_M_timesIn_0 {G : XG} {d : Nat} {h : XH} {Q : XV → XH → Prop} {X : Nat → XH → Prop} {x1 x2 : Int} (F : xFix h) (hyp : ((x1 < 0 → (xFix (xst h 53 0 1) → Q (xI 0) (xst h 53 0 1))) ∧ (¬ x1 < 0 → (((99 : Int) < x1 → (xFix (xst h 53 0 1) → Q (xI 0) (xst h 53 0 1))) ∧ (¬ (99 : Int) < x1 → ((x2 = 0 → (xFix (xst h 53 0 0) → xwp G m_M_whereInSegments (d + 3) 0 [xR 53, xI x1, xZ] [] (xst h 53 0 0) (fun v9 h9 => xwp G m_M_timesIn (d + 4) 31 [xR 53, xZ, xI x2, xZ] (xpush v9 []) h9 Q X) X)) ∧ (¬ x2 = 0 → ((x2 = 1 → (xFix (xst h 53 0 0) → xwp G m_M_whereInSegments (d + 3) 0 [xR 53, xI x1, xZ] [] (xst h 53 0 0) (fun v9 h9 => xwp G m_M_timesIn (d + 4) 31 [xR 53, xZ, xI x2, xZ] (xpush v9 []) h9 Q X) X)) ∧ (¬ x2 = 1 → (xFix (xst (xst h 53 0 0) 53 0 2) → Q (xI 0) (xst (xst h 53 0 0) 53 0 2))))))))))) : xwp G m_M_timesIn (d + 4) 0 [xR 53, xI x1, xI x2, xZ] [] h Q X := by
  have hnx9 : (93 : Int) ≤ xnx h := F.2.2
  refine xr_okL (fun hl9 => ?_)
  have r_x1 : -2147483648 ≤ x1 ∧ x1 ≤ 2147483647 := hl9 (xI x1) (.tail _ (.head _)) (Nat.le_of_ble_eq_true rfl)
  have r_x2 : -2147483648 ≤ x2 ∧ x2 ≤ 2147483647 := hl9 (xI x2) (.tail _ (.tail _ (.head _))) (Nat.le_of_ble_eq_true rfl)
  refine xr_aload_n (pc := 0) (i := 0) (hI := d_M_timesIn_0) (hi := rfl) (hl := rfl) ?_
  refine xr_iload_n (pc := 1) (i := 1) (hI := d_M_timesIn_1) (hi := rfl) (hl := rfl) ?_
  refine xq_callS (pc := 2) (index := 398) (K := m_M_isKey) (As := [xI x1]) (S := [xR 53]) (L0 := [xI x1]) (hI := d_M_timesIn_2) (hK := k_M_isKey) (hlk := w_1725) (hnoM := rfl) (hS8 := Nat.le_of_ble_eq_true rfl) (hstat := w_1726) (hlen := Nat.le_of_ble_eq_true rfl) (hst := rfl) (hL0 := rfl)  ?_
  refine xr_iload_n (pc := 0) (i := 0) (hI := d_M_isKey_0) (hi := rfl) (hl := rfl) ?_
  refine xr_iconst (pc := 1) (hI := d_M_isKey_1) (hr := by decide) ?_
  refine xr_bipush (pc := 2) (hI := d_M_isKey_2) (hr := by decide) (hv := by decide) ?_
  refine xq_callS (pc := 4) (index := 101) (K := m_M_isBetween) (As := [xI x1, xI 0, xI 99]) (S := []) (L0 := [xI x1, xI 0, xI 99]) (hI := d_M_isKey_4) (hK := k_M_isBetween) (hlk := w_1718) (hnoM := rfl) (hS8 := Nat.le_of_ble_eq_true rfl) (hstat := w_1719) (hlen := Nat.le_of_ble_eq_true rfl) (hst := rfl) (hL0 := rfl)  ?_
  refine xr_iload_n (pc := 0) (i := 0) (hI := d_M_isBetween_0) (hi := rfl) (hl := rfl) ?_
  refine xr_iload_n (pc := 1) (i := 1) (hI := d_M_isBetween_1) (hi := rfl) (hl := rfl) ?_
  refine xr_icmp_lt (pc := 2) (tgt := 14) (hI := d_M_isBetween_2) (ht := by decide) (fun q9 => ?_) (fun q9 => ?_)
  · replace hyp := hyp.1 q9
    have q1_ := q9
    clear q9
    refine xr_iconst (pc := 14) (hI := d_M_isBetween_14) (hr := by decide) ?_
    refine xr_ireturnT (S := []) (pc := 15) (hI := d_M_isBetween_15) (hr := rfl) (xnar_z (by decide)) ?_
    show xwp G m_M_isKey (d + 3) 7 [xI x1] [xI 0] _ _ _
    refine xr_ireturnT (S := []) (pc := 7) (hI := d_M_isKey_7) (hr := rfl) (xnar_z (by decide)) ?_
    show xwp G m_M_timesIn (d + 4) 5 [xR 53, xI x1, xI x2, xZ] [xI 0, xR 53] _ _ _
    refine xq_callV (pc := 5) (index := 407) (K := m_M_isKnown) (As := [xI 0]) (S := []) (L0 := [xR 53, xI 0]) (hI := d_M_timesIn_5) (hK := k_M_isKnown) (hlk := w_1810) (hnoM := rfl) (hS8 := Nat.le_of_ble_eq_true rfl) (ci := 11) (N := 38) (C := "BeaconIndexModel") (T := xF11) (hc := rfl) (hci := Nat.le_of_ble_eq_true rfl) (htb := (ft_53 F)) (hinst := w_1812) (hsel := sel_M_isKnown) (hlen := Nat.le_of_ble_eq_true rfl) (hst := rfl) (hL0 := rfl)  ?_
    refine xr_aload_n (pc := 0) (i := 0) (hI := d_M_isKnown_0) (hi := rfl) (hl := rfl) ?_
    refine xr_iload_n (pc := 1) (i := 1) (hI := d_M_isKnown_1) (hi := rfl) (hl := rfl) ?_
    refine xr_if_eq (pc := 2) (tgt := 9) (hI := d_M_isKnown_2) (ht := by decide) (fun q9 => ?_) (fun q9 => ?_)
    · clear q9
      refine xr_iconst (pc := 9) (hI := d_M_isKnown_9) (hr := by decide) ?_
      refine xr_putf (pc := 10) (ci := 11) (k := 0) (N := 38) (v9 := 0) (T := xF11) (tF := xT11) (hI := d_M_isKnown_10) (hw := w_1587) rfl xi11 xt11 xn11 (Or.inl rfl) (Nat.le_of_ble_eq_true rfl) (Nat.le_of_ble_eq_true rfl) rfl xfit_i rfl (ft_53 F) (by decide) (fun z => z) ?_
      have F2_ : xFix (xst h 53 0 1) := F.stL xfk_53_0
      refine xr_iload_n (pc := 13) (i := 1) (hI := d_M_isKnown_13) (hi := rfl) (hl := rfl) ?_
      refine xr_ireturnT (S := []) (pc := 14) (hI := d_M_isKnown_14) (hr := rfl) (xnar_z (by decide)) ?_
      show xwp G m_M_timesIn (d + 4) 8 [xR 53, xI x1, xI x2, xZ] [xI 0] _ _ _
      refine xr_if_ne (pc := 8) (tgt := 13) (hI := d_M_timesIn_8) (ht := by decide) (fun q9 => ?_) (fun q9 => ?_)
      · exact absurd q9 (by decide)
      · clear q9
        refine xr_iconst (pc := 11) (hI := d_M_timesIn_11) (hr := by decide) ?_
        refine xr_ireturn (S := []) (pc := 12) (hI := d_M_timesIn_12) (hr := rfl) ?_
        exact hyp F2_
    · exact absurd q9 (by decide)
  · replace hyp := hyp.2 q9
    have q1_ := q9
    clear q9
    refine xr_iload_n (pc := 5) (i := 0) (hI := d_M_isBetween_5) (hi := rfl) (hl := rfl) ?_
    refine xr_iload_n (pc := 6) (i := 2) (hI := d_M_isBetween_6) (hi := rfl) (hl := rfl) ?_
    refine xr_icmp_gt (pc := 7) (tgt := 14) (hI := d_M_isBetween_7) (ht := by decide) (fun q9 => ?_) (fun q9 => ?_)
    · replace hyp := hyp.1 q9
      have q3_ := q9
      clear q9
      refine xr_iconst (pc := 14) (hI := d_M_isBetween_14) (hr := by decide) ?_
      refine xr_ireturnT (S := []) (pc := 15) (hI := d_M_isBetween_15) (hr := rfl) (xnar_z (by decide)) ?_
      show xwp G m_M_isKey (d + 3) 7 [xI x1] [xI 0] _ _ _
      refine xr_ireturnT (S := []) (pc := 7) (hI := d_M_isKey_7) (hr := rfl) (xnar_z (by decide)) ?_
      show xwp G m_M_timesIn (d + 4) 5 [xR 53, xI x1, xI x2, xZ] [xI 0, xR 53] _ _ _
      refine xq_callV (pc := 5) (index := 407) (K := m_M_isKnown) (As := [xI 0]) (S := []) (L0 := [xR 53, xI 0]) (hI := d_M_timesIn_5) (hK := k_M_isKnown) (hlk := w_1810) (hnoM := rfl) (hS8 := Nat.le_of_ble_eq_true rfl) (ci := 11) (N := 38) (C := "BeaconIndexModel") (T := xF11) (hc := rfl) (hci := Nat.le_of_ble_eq_true rfl) (htb := (ft_53 F)) (hinst := w_1812) (hsel := sel_M_isKnown) (hlen := Nat.le_of_ble_eq_true rfl) (hst := rfl) (hL0 := rfl)  ?_
      refine xr_aload_n (pc := 0) (i := 0) (hI := d_M_isKnown_0) (hi := rfl) (hl := rfl) ?_
      refine xr_iload_n (pc := 1) (i := 1) (hI := d_M_isKnown_1) (hi := rfl) (hl := rfl) ?_
      refine xr_if_eq (pc := 2) (tgt := 9) (hI := d_M_isKnown_2) (ht := by decide) (fun q9 => ?_) (fun q9 => ?_)
      · clear q9
        refine xr_iconst (pc := 9) (hI := d_M_isKnown_9) (hr := by decide) ?_
        refine xr_putf (pc := 10) (ci := 11) (k := 0) (N := 38) (v9 := 0) (T := xF11) (tF := xT11) (hI := d_M_isKnown_10) (hw := w_1587) rfl xi11 xt11 xn11 (Or.inl rfl) (Nat.le_of_ble_eq_true rfl) (Nat.le_of_ble_eq_true rfl) rfl xfit_i rfl (ft_53 F) (by decide) (fun z => z) ?_
        have F4_ : xFix (xst h 53 0 1) := F.stL xfk_53_0
        refine xr_iload_n (pc := 13) (i := 1) (hI := d_M_isKnown_13) (hi := rfl) (hl := rfl) ?_
        refine xr_ireturnT (S := []) (pc := 14) (hI := d_M_isKnown_14) (hr := rfl) (xnar_z (by decide)) ?_
        show xwp G m_M_timesIn (d + 4) 8 [xR 53, xI x1, xI x2, xZ] [xI 0] _ _ _
        refine xr_if_ne (pc := 8) (tgt := 13) (hI := d_M_timesIn_8) (ht := by decide) (fun q9 => ?_) (fun q9 => ?_)
        · exact absurd q9 (by decide)
        · clear q9
          refine xr_iconst (pc := 11) (hI := d_M_timesIn_11) (hr := by decide) ?_
          refine xr_ireturn (S := []) (pc := 12) (hI := d_M_timesIn_12) (hr := rfl) ?_
          exact hyp F4_
      · exact absurd q9 (by decide)
    · replace hyp := hyp.2 q9
      have q3_ := q9
      clear q9
      refine xr_iconst (pc := 10) (hI := d_M_isBetween_10) (hr := by decide) ?_
      refine xr_goto (pc := 11) (tgt := 15) (hI := d_M_isBetween_11) (ht := by decide) ?_
      refine xr_ireturnT (S := []) (pc := 15) (hI := d_M_isBetween_15) (hr := rfl) (xnar_z (by decide)) ?_
      show xwp G m_M_isKey (d + 3) 7 [xI x1] [xI 1] _ _ _
      refine xr_ireturnT (S := []) (pc := 7) (hI := d_M_isKey_7) (hr := rfl) (xnar_z (by decide)) ?_
      show xwp G m_M_timesIn (d + 4) 5 [xR 53, xI x1, xI x2, xZ] [xI 1, xR 53] _ _ _
      refine xq_callV (pc := 5) (index := 407) (K := m_M_isKnown) (As := [xI 1]) (S := []) (L0 := [xR 53, xI 1]) (hI := d_M_timesIn_5) (hK := k_M_isKnown) (hlk := w_1810) (hnoM := rfl) (hS8 := Nat.le_of_ble_eq_true rfl) (ci := 11) (N := 38) (C := "BeaconIndexModel") (T := xF11) (hc := rfl) (hci := Nat.le_of_ble_eq_true rfl) (htb := (ft_53 F)) (hinst := w_1812) (hsel := sel_M_isKnown) (hlen := Nat.le_of_ble_eq_true rfl) (hst := rfl) (hL0 := rfl)  ?_
      refine xr_aload_n (pc := 0) (i := 0) (hI := d_M_isKnown_0) (hi := rfl) (hl := rfl) ?_
      refine xr_iload_n (pc := 1) (i := 1) (hI := d_M_isKnown_1) (hi := rfl) (hl := rfl) ?_
      refine xr_if_eq (pc := 2) (tgt := 9) (hI := d_M_isKnown_2) (ht := by decide) (fun q9 => ?_) (fun q9 => ?_)
      · exact absurd q9 (by decide)
      · clear q9
        refine xr_iconst (pc := 5) (hI := d_M_isKnown_5) (hr := by decide) ?_
        refine xr_goto (pc := 6) (tgt := 10) (hI := d_M_isKnown_6) (ht := by decide) ?_
        refine xr_putf (pc := 10) (ci := 11) (k := 0) (N := 38) (v9 := 0) (T := xF11) (tF := xT11) (hI := d_M_isKnown_10) (hw := w_1587) rfl xi11 xt11 xn11 (Or.inl rfl) (Nat.le_of_ble_eq_true rfl) (Nat.le_of_ble_eq_true rfl) rfl xfit_i rfl (ft_53 F) (by decide) (fun z => z) ?_
        have F5_ : xFix (xst h 53 0 0) := F.stL xfk_53_0
        refine xr_iload_n (pc := 13) (i := 1) (hI := d_M_isKnown_13) (hi := rfl) (hl := rfl) ?_
        refine xr_ireturnT (S := []) (pc := 14) (hI := d_M_isKnown_14) (hr := rfl) (xnar_z (by decide)) ?_
        show xwp G m_M_timesIn (d + 4) 8 [xR 53, xI x1, xI x2, xZ] [xI 1] _ _ _
        refine xr_if_ne (pc := 8) (tgt := 13) (hI := d_M_timesIn_8) (ht := by decide) (fun q9 => ?_) (fun q9 => ?_)
        · clear q9
          refine xr_iload_n (pc := 13) (i := 2) (hI := d_M_timesIn_13) (hi := rfl) (hl := rfl) ?_
          refine xq_callS (pc := 14) (index := 423) (K := m_M_isField) (As := [xI x2]) (S := []) (L0 := [xI x2]) (hI := d_M_timesIn_14) (hK := k_M_isField) (hlk := w_1878) (hnoM := rfl) (hS8 := Nat.le_of_ble_eq_true rfl) (hstat := w_1879) (hlen := Nat.le_of_ble_eq_true rfl) (hst := rfl) (hL0 := rfl)  ?_
          refine xr_iload_n (pc := 0) (i := 0) (hI := d_M_isField_0) (hi := rfl) (hl := rfl) ?_
          refine xr_if_eq (pc := 1) (tgt := 9) (hI := d_M_isField_1) (ht := by decide) (fun q9 => ?_) (fun q9 => ?_)
          · replace hyp := hyp.1 q9
            have q6_ := q9
            clear q9
            refine xr_iconst (pc := 9) (hI := d_M_isField_9) (hr := by decide) ?_
            refine xr_goto (pc := 10) (tgt := 14) (hI := d_M_isField_10) (ht := by decide) ?_
            refine xr_ireturnT (S := []) (pc := 14) (hI := d_M_isField_14) (hr := rfl) (xnar_z (by decide)) ?_
            show xwp G m_M_timesIn (d + 4) 17 [xR 53, xI x1, xI x2, xZ] [xI 1] _ _ _
            refine xr_if_ne (pc := 17) (tgt := 26) (hI := d_M_timesIn_17) (ht := by decide) (fun q9 => ?_) (fun q9 => ?_)
            · clear q9
              refine xr_aload_n (pc := 26) (i := 0) (hI := d_M_timesIn_26) (hi := rfl) (hl := rfl) ?_
              refine xr_iload_n (pc := 27) (i := 1) (hI := d_M_timesIn_27) (hi := rfl) (hl := rfl) ?_
              exact xq_callV (pc := 28) (index := 438) (K := m_M_whereInSegments) (As := [xI x1]) (S := []) (L0 := [xR 53, xI x1, xZ]) (hI := d_M_timesIn_28) (hK := k_M_whereInSegments) (hlk := w_2232) (hnoM := rfl) (hS8 := Nat.le_of_ble_eq_true rfl) (ci := 11) (N := 38) (C := "BeaconIndexModel") (T := xF11) (hc := rfl) (hci := Nat.le_of_ble_eq_true rfl) (htb := (ft_53 F5_)) (hinst := w_2234) (hsel := sel_M_whereInSegments) (hlen := Nat.le_of_ble_eq_true rfl) (hst := rfl) (hL0 := rfl)  (xwp_mono (hyp F5_) (fun v9 h9 q9 => xr_drop (L9 := [xR 53, xZ, xI x2, xZ]) (xdrs (xdrz (xdrs (xdrs xdr0)))) q9) (fun _ _ z9 => z9))
            · exact absurd q9 (by decide)
          · replace hyp := hyp.2 q9
            have q6_ := q9
            clear q9
            refine xr_iload_n (pc := 4) (i := 0) (hI := d_M_isField_4) (hi := rfl) (hl := rfl) ?_
            refine xr_iconst (pc := 5) (hI := d_M_isField_5) (hr := by decide) ?_
            refine xr_icmp_ne (pc := 6) (tgt := 13) (hI := d_M_isField_6) (ht := by decide) (fun q9 => ?_) (fun q9 => ?_)
            · replace hyp := hyp.2 q9
              have q7_ := q9
              clear q9
              refine xr_iconst (pc := 13) (hI := d_M_isField_13) (hr := by decide) ?_
              refine xr_ireturnT (S := []) (pc := 14) (hI := d_M_isField_14) (hr := rfl) (xnar_z (by decide)) ?_
              show xwp G m_M_timesIn (d + 4) 17 [xR 53, xI x1, xI x2, xZ] [xI 0] _ _ _
              refine xr_if_ne (pc := 17) (tgt := 26) (hI := d_M_timesIn_17) (ht := by decide) (fun q9 => ?_) (fun q9 => ?_)
              · exact absurd q9 (by decide)
              · clear q9
                refine xr_aload_n (pc := 20) (i := 0) (hI := d_M_timesIn_20) (hi := rfl) (hl := rfl) ?_
                refine xr_iconst (pc := 21) (hI := d_M_timesIn_21) (hr := by decide) ?_
                refine xq_callV (pc := 22) (index := 395) (K := m_M_no) (As := [xI 2]) (S := []) (L0 := [xR 53, xI 2]) (hI := d_M_timesIn_22) (hK := k_M_no) (hlk := w_1710) (hnoM := rfl) (hS8 := Nat.le_of_ble_eq_true rfl) (ci := 11) (N := 38) (C := "BeaconIndexModel") (T := xF11) (hc := rfl) (hci := Nat.le_of_ble_eq_true rfl) (htb := (ft_53 F5_)) (hinst := w_1712) (hsel := sel_M_no) (hlen := Nat.le_of_ble_eq_true rfl) (hst := rfl) (hL0 := rfl)  ?_
                refine xr_aload_n (pc := 0) (i := 0) (hI := d_M_no_0) (hi := rfl) (hl := rfl) ?_
                refine xr_iload_n (pc := 1) (i := 1) (hI := d_M_no_1) (hi := rfl) (hl := rfl) ?_
                refine xr_putf (pc := 2) (ci := 11) (k := 0) (N := 38) (v9 := 0) (T := xF11) (tF := xT11) (hI := d_M_no_2) (hw := w_1587) rfl xi11 xt11 xn11 (Or.inl rfl) (Nat.le_of_ble_eq_true rfl) (Nat.le_of_ble_eq_true rfl) rfl xfit_i rfl (ft_53 F5_) (by decide) (fun z => z) ?_
                have F8_ : xFix (xst (xst h 53 0 0) 53 0 2) := F5_.stL xfk_53_0
                refine xr_iconst (pc := 5) (hI := d_M_no_5) (hr := by decide) ?_
                refine xr_ireturn (S := []) (pc := 6) (hI := d_M_no_6) (hr := rfl) ?_
                show xwp G m_M_timesIn (d + 4) 25 [xR 53, xI x1, xI x2, xZ] [xI 0] _ _ _
                refine xr_ireturn (S := []) (pc := 25) (hI := d_M_timesIn_25) (hr := rfl) ?_
                exact hyp F8_
            · replace hyp := hyp.1 q9
              have q7_ := q9
              clear q9
              refine xr_iconst (pc := 9) (hI := d_M_isField_9) (hr := by decide) ?_
              refine xr_goto (pc := 10) (tgt := 14) (hI := d_M_isField_10) (ht := by decide) ?_
              refine xr_ireturnT (S := []) (pc := 14) (hI := d_M_isField_14) (hr := rfl) (xnar_z (by decide)) ?_
              show xwp G m_M_timesIn (d + 4) 17 [xR 53, xI x1, xI x2, xZ] [xI 1] _ _ _
              refine xr_if_ne (pc := 17) (tgt := 26) (hI := d_M_timesIn_17) (ht := by decide) (fun q9 => ?_) (fun q9 => ?_)
              · clear q9
                refine xr_aload_n (pc := 26) (i := 0) (hI := d_M_timesIn_26) (hi := rfl) (hl := rfl) ?_
                refine xr_iload_n (pc := 27) (i := 1) (hI := d_M_timesIn_27) (hi := rfl) (hl := rfl) ?_
                exact xq_callV (pc := 28) (index := 438) (K := m_M_whereInSegments) (As := [xI x1]) (S := []) (L0 := [xR 53, xI x1, xZ]) (hI := d_M_timesIn_28) (hK := k_M_whereInSegments) (hlk := w_2232) (hnoM := rfl) (hS8 := Nat.le_of_ble_eq_true rfl) (ci := 11) (N := 38) (C := "BeaconIndexModel") (T := xF11) (hc := rfl) (hci := Nat.le_of_ble_eq_true rfl) (htb := (ft_53 F5_)) (hinst := w_2234) (hsel := sel_M_whereInSegments) (hlen := Nat.le_of_ble_eq_true rfl) (hst := rfl) (hL0 := rfl)  (xwp_mono (hyp F5_) (fun v9 h9 q9 => xr_drop (L9 := [xR 53, xZ, xI x2, xZ]) (xdrs (xdrz (xdrs (xdrs xdr0)))) q9) (fun _ _ z9 => z9))
              · exact absurd q9 (by decide)
        · exact absurd q9 (by decide)
theorem d_M_timesIn_31 : decode prog_14_method_98_code 31 = .ok (.istore_n 3, 1) := by decide +kernel
theorem d_M_timesIn_32 : decode prog_14_method_98_code 32 = .ok (.iload_n 3, 1) := by decide +kernel
theorem d_M_timesIn_33 : decode prog_14_method_98_code 33 = .ok (.iconst (-1), 1) := by decide +kernel
theorem d_M_timesIn_34 : decode prog_14_method_98_code 34 = .ok (.if_icmp .ne 7, 3) := by decide +kernel
theorem d_M_timesIn_41 : decode prog_14_method_98_code 41 = .ok (.aload_n 0, 1) := by decide +kernel
theorem d_M_timesIn_42 : decode prog_14_method_98_code 42 = .ok (.aload_n 0, 1) := by decide +kernel
theorem d_M_timesIn_43 : decode prog_14_method_98_code 43 = .ok (.getfield 13, 3) := by decide +kernel
theorem d_M_timesIn_46 : decode prog_14_method_98_code 46 = .ok (.iload_n 3, 1) := by decide +kernel
theorem d_M_timesIn_47 : decode prog_14_method_98_code 47 = .ok (.iaload, 1) := by decide +kernel
theorem d_M_timesIn_48 : decode prog_14_method_98_code 48 = .ok (.iload_n 2, 1) := by decide +kernel
theorem d_M_timesIn_49 : decode prog_14_method_98_code 49 = .ok (.aload_n 0, 1) := by decide +kernel
theorem d_M_timesIn_50 : decode prog_14_method_98_code 50 = .ok (.getfield 217, 3) := by decide +kernel
theorem d_M_timesIn_53 : decode prog_14_method_98_code 53 = .ok (.invokevirtual 221, 3) := by decide +kernel
theorem d_M_timesIn_37 : decode prog_14_method_98_code 37 = .ok (.iconst 0, 1) := by decide +kernel
theorem d_M_timesIn_38 : decode prog_14_method_98_code 38 = .ok (.goto 18, 3) := by decide +kernel
theorem v_M_timesIn_31 {G : XG} {d : Nat} {h : XH} {Q : XV → XH → Prop} {X : Nat → XH → Prop} {x2 s0 : Int} (F : xFix h) (hyp : ((s0 = (-1) → (xwp G m_M_timesIn (d + 4) 56 [xZ, xZ, xZ, xZ] [xI 0] h Q X)) ∧ (¬ s0 = (-1) → 0 ≤ s0 ∧ s0 < 60 ∧ (xwp G m_M_times (d + 3) 0 [xR 53, xI (xpl h 55 s0), xI x2, xL (xpl h 53 14), xZ, xZ, xZ, xZ] [] h (fun v9 h9 => xwp G m_M_timesIn (d + 4) 56 [xZ, xZ, xZ, xZ] (xpush v9 []) h9 Q X) X)))) : xwp G m_M_timesIn (d + 4) 31 [xR 53, xZ, xI x2, xZ] [xI s0] h Q X := by
  have hnx9 : (93 : Int) ≤ xnx h := F.2.2
  refine xr_okL (fun hl9 => ?_)
  have r_x2 : -2147483648 ≤ x2 ∧ x2 ≤ 2147483647 := hl9 (xI x2) (.tail _ (.tail _ (.head _))) (Nat.le_of_ble_eq_true rfl)
  refine xr_okS (fun hs9 => ?_)
  have r_s0 : -2147483648 ≤ s0 ∧ s0 ≤ 2147483647 := hs9 (xI s0) (.head _)
  refine xr_istore_n (pc := 31) (i := 3) (L9 := [xR 53, xZ, xI x2, xI s0]) (hI := d_M_timesIn_31) (hi := rfl) (hn := Nat.le_of_ble_eq_true rfl) (hL9 := rfl) ?_
  refine xr_iload_n (pc := 32) (i := 3) (hI := d_M_timesIn_32) (hi := rfl) (hl := rfl) ?_
  refine xr_iconst (pc := 33) (hI := d_M_timesIn_33) (hr := by decide) ?_
  refine xr_icmp_ne (pc := 34) (tgt := 41) (hI := d_M_timesIn_34) (ht := by decide) (fun q9 => ?_) (fun q9 => ?_)
  · replace hyp := hyp.2 q9
    have q1_ := q9
    clear q9
    refine xr_aload_n (pc := 41) (i := 0) (hI := d_M_timesIn_41) (hi := rfl) (hl := rfl) ?_
    refine xr_aload_n (pc := 42) (i := 0) (hI := d_M_timesIn_42) (hi := rfl) (hl := rfl) ?_
    refine xg_getf (pc := 43) (ci := 11) (k := 3) (N := 38) (v9 := 2) (v := 55) (T := xF11) (hI := d_M_timesIn_43) (hw := w_1590) rfl xi11 (Or.inl rfl) (Nat.le_of_ble_eq_true rfl) (Nat.le_of_ble_eq_true rfl) rfl (ft_53 F) (fp_53_3 F) (fun f2_ => ?_)
    clear f2_
    refine xr_iload_n (pc := 46) (i := 3) (hI := d_M_timesIn_46) (hi := rfl) (hl := rfl) ?_
    obtain ⟨c3_, hyp⟩ := hyp
    obtain ⟨c4_, hyp⟩ := hyp
    refine xg_iaload (pc := 47) (v := (xpl h 55 s0)) (hI := d_M_timesIn_47) (ft_55 F) c3_ (xlt_of (fl_55 F) c4_) rfl (fun f5_ => ?_)
    replace f5_ : -2147483648 ≤ (xpl h 55 s0) ∧ (xpl h 55 s0) ≤ 2147483647 := f5_
    refine xr_iload_n (pc := 48) (i := 2) (hI := d_M_timesIn_48) (hi := rfl) (hl := rfl) ?_
    refine xr_aload_n (pc := 49) (i := 0) (hI := d_M_timesIn_49) (hi := rfl) (hl := rfl) ?_
    refine xg_getf (pc := 50) (ci := 11) (k := 14) (N := 38) (v9 := 1) (v := (xpl h 53 14)) (T := xF11) (hI := d_M_timesIn_50) (hw := w_1601) rfl xi11 (Or.inl rfl) (Nat.le_of_ble_eq_true rfl) (Nat.le_of_ble_eq_true rfl) rfl (ft_53 F) rfl (fun f6_ => ?_)
    replace f6_ : -9223372036854775808 ≤ (xpl h 53 14) ∧ (xpl h 53 14) ≤ 9223372036854775807 := f6_
    exact xq_callV (pc := 53) (index := 221) (K := m_M_times) (As := [xI (xpl h 55 s0), xI x2, xL (xpl h 53 14)]) (S := []) (L0 := [xR 53, xI (xpl h 55 s0), xI x2, xL (xpl h 53 14), xZ, xZ, xZ, xZ]) (hI := d_M_timesIn_53) (hK := k_M_times) (hlk := w_2224) (hnoM := rfl) (hS8 := Nat.le_of_ble_eq_true rfl) (ci := 11) (N := 38) (C := "BeaconIndexModel") (T := xF11) (hc := rfl) (hci := Nat.le_of_ble_eq_true rfl) (htb := (ft_53 F)) (hinst := w_2226) (hsel := sel_M_times) (hlen := Nat.le_of_ble_eq_true rfl) (hst := rfl) (hL0 := rfl)  (xwp_mono hyp (fun v9 h9 q9 => xr_drop (L9 := [xZ, xZ, xZ, xZ]) (xdrz (xdrs (xdrz (xdrz xdr0)))) q9) (fun _ _ z9 => z9))
  · replace hyp := hyp.1 q9
    have q1_ := q9
    clear q9
    refine xr_iconst (pc := 37) (hI := d_M_timesIn_37) (hr := by decide) ?_
    refine xr_goto (pc := 38) (tgt := 56) (hI := d_M_timesIn_38) (ht := by decide) ?_
    exact xr_drop (L9 := [xZ, xZ, xZ, xZ]) (xdrz (xdrs (xdrz (xdrz xdr0)))) hyp
theorem d_M_timesIn_56 : decode prog_14_method_98_code 56 = .ok (.ireturn, 1) := by decide +kernel
theorem v_M_timesIn_56 {G : XG} {d : Nat} {h : XH} {Q : XV → XH → Prop} {X : Nat → XH → Prop} {s0 : Int} (F : xFix h) (hyp : (Q (xI s0) h)) : xwp G m_M_timesIn (d + 4) 56 [xZ, xZ, xZ, xZ] [xI s0] h Q X := by
  have hnx9 : (93 : Int) ≤ xnx h := F.2.2
  refine xr_okS (fun hs9 => ?_)
  have r_s0 : -2147483648 ≤ s0 ∧ s0 ≤ 2147483647 := hs9 (xI s0) (.head _)
  refine xr_ireturn (S := []) (pc := 56) (hI := d_M_timesIn_56) (hr := rfl) ?_
  exact hyp
abbrev m_M_rarity : XM := (⟨"BeaconIndexModel", "rarity", "(I)I"⟩, prog_14_method_99_code, 2, (some .int), [])
theorem d_M_rarity_0 : decode prog_14_method_99_code 0 = .ok (.aload_n 0, 1) := by decide +kernel
theorem d_M_rarity_1 : decode prog_14_method_99_code 1 = .ok (.iload_n 1, 1) := by decide +kernel
theorem d_M_rarity_2 : decode prog_14_method_99_code 2 = .ok (.invokestatic 423, 3) := by decide +kernel
theorem d_M_rarity_5 : decode prog_14_method_99_code 5 = .ok (.invokevirtual 407, 3) := by decide +kernel
theorem d_M_rarity_8 : decode prog_14_method_99_code 8 = .ok (.ifCond .eq 15, 3) := by decide +kernel
theorem d_M_rarity_11 : decode prog_14_method_99_code 11 = .ok (.aload_n 0, 1) := by decide +kernel
theorem d_M_rarity_12 : decode prog_14_method_99_code 12 = .ok (.aload_n 0, 1) := by decide +kernel
theorem d_M_rarity_13 : decode prog_14_method_99_code 13 = .ok (.iload_n 1, 1) := by decide +kernel
theorem d_M_rarity_14 : decode prog_14_method_99_code 14 = .ok (.invokevirtual 435, 3) := by decide +kernel
theorem d_M_rarity_23 : decode prog_14_method_99_code 23 = .ok (.iconst 0, 1) := by decide +kernel
theorem d_M_rarity_24 : decode prog_14_method_99_code 24 = .ok (.ireturn, 1) := by decide +kernel
theorem v_M_rarity_0 {G : XG} {d : Nat} {h : XH} {Q : XV → XH → Prop} {X : Nat → XH → Prop} {x1 : Int} (F : xFix h) (hyp : ((x1 = 0 → (xFix (xst h 53 0 0) → xwp G m_M_manyWith (d + 3) 0 [xR 53, xI x1, xZ, xZ] [] (xst h 53 0 0) (fun v9 h9 => xwp G m_M_rarity (d + 4) 17 [xZ, xZ] (xpush v9 [xR 53]) h9 Q X) X)) ∧ (¬ x1 = 0 → ((x1 = 1 → (xFix (xst h 53 0 0) → xwp G m_M_manyWith (d + 3) 0 [xR 53, xI x1, xZ, xZ] [] (xst h 53 0 0) (fun v9 h9 => xwp G m_M_rarity (d + 4) 17 [xZ, xZ] (xpush v9 [xR 53]) h9 Q X) X)) ∧ (¬ x1 = 1 → (xFix (xst h 53 0 1) → Q (xI 0) (xst h 53 0 1))))))) : xwp G m_M_rarity (d + 4) 0 [xR 53, xI x1] [] h Q X := by
  have hnx9 : (93 : Int) ≤ xnx h := F.2.2
  refine xr_okL (fun hl9 => ?_)
  have r_x1 : -2147483648 ≤ x1 ∧ x1 ≤ 2147483647 := hl9 (xI x1) (.tail _ (.head _)) (Nat.le_of_ble_eq_true rfl)
  refine xr_aload_n (pc := 0) (i := 0) (hI := d_M_rarity_0) (hi := rfl) (hl := rfl) ?_
  refine xr_iload_n (pc := 1) (i := 1) (hI := d_M_rarity_1) (hi := rfl) (hl := rfl) ?_
  refine xq_callS (pc := 2) (index := 423) (K := m_M_isField) (As := [xI x1]) (S := [xR 53]) (L0 := [xI x1]) (hI := d_M_rarity_2) (hK := k_M_isField) (hlk := w_1878) (hnoM := rfl) (hS8 := Nat.le_of_ble_eq_true rfl) (hstat := w_1879) (hlen := Nat.le_of_ble_eq_true rfl) (hst := rfl) (hL0 := rfl)  ?_
  refine xr_iload_n (pc := 0) (i := 0) (hI := d_M_isField_0) (hi := rfl) (hl := rfl) ?_
  refine xr_if_eq (pc := 1) (tgt := 9) (hI := d_M_isField_1) (ht := by decide) (fun q9 => ?_) (fun q9 => ?_)
  · replace hyp := hyp.1 q9
    have q1_ := q9
    clear q9
    refine xr_iconst (pc := 9) (hI := d_M_isField_9) (hr := by decide) ?_
    refine xr_goto (pc := 10) (tgt := 14) (hI := d_M_isField_10) (ht := by decide) ?_
    refine xr_ireturnT (S := []) (pc := 14) (hI := d_M_isField_14) (hr := rfl) (xnar_z (by decide)) ?_
    show xwp G m_M_rarity (d + 4) 5 [xR 53, xI x1] [xI 1, xR 53] _ _ _
    refine xq_callV (pc := 5) (index := 407) (K := m_M_isKnown) (As := [xI 1]) (S := []) (L0 := [xR 53, xI 1]) (hI := d_M_rarity_5) (hK := k_M_isKnown) (hlk := w_1810) (hnoM := rfl) (hS8 := Nat.le_of_ble_eq_true rfl) (ci := 11) (N := 38) (C := "BeaconIndexModel") (T := xF11) (hc := rfl) (hci := Nat.le_of_ble_eq_true rfl) (htb := (ft_53 F)) (hinst := w_1812) (hsel := sel_M_isKnown) (hlen := Nat.le_of_ble_eq_true rfl) (hst := rfl) (hL0 := rfl)  ?_
    refine xr_aload_n (pc := 0) (i := 0) (hI := d_M_isKnown_0) (hi := rfl) (hl := rfl) ?_
    refine xr_iload_n (pc := 1) (i := 1) (hI := d_M_isKnown_1) (hi := rfl) (hl := rfl) ?_
    refine xr_if_eq (pc := 2) (tgt := 9) (hI := d_M_isKnown_2) (ht := by decide) (fun q9 => ?_) (fun q9 => ?_)
    · exact absurd q9 (by decide)
    · clear q9
      refine xr_iconst (pc := 5) (hI := d_M_isKnown_5) (hr := by decide) ?_
      refine xr_goto (pc := 6) (tgt := 10) (hI := d_M_isKnown_6) (ht := by decide) ?_
      refine xr_putf (pc := 10) (ci := 11) (k := 0) (N := 38) (v9 := 0) (T := xF11) (tF := xT11) (hI := d_M_isKnown_10) (hw := w_1587) rfl xi11 xt11 xn11 (Or.inl rfl) (Nat.le_of_ble_eq_true rfl) (Nat.le_of_ble_eq_true rfl) rfl xfit_i rfl (ft_53 F) (by decide) (fun z => z) ?_
      have F2_ : xFix (xst h 53 0 0) := F.stL xfk_53_0
      refine xr_iload_n (pc := 13) (i := 1) (hI := d_M_isKnown_13) (hi := rfl) (hl := rfl) ?_
      refine xr_ireturnT (S := []) (pc := 14) (hI := d_M_isKnown_14) (hr := rfl) (xnar_z (by decide)) ?_
      show xwp G m_M_rarity (d + 4) 8 [xR 53, xI x1] [xI 1] _ _ _
      refine xr_if_eq (pc := 8) (tgt := 23) (hI := d_M_rarity_8) (ht := by decide) (fun q9 => ?_) (fun q9 => ?_)
      · exact absurd q9 (by decide)
      · clear q9
        refine xr_aload_n (pc := 11) (i := 0) (hI := d_M_rarity_11) (hi := rfl) (hl := rfl) ?_
        refine xr_aload_n (pc := 12) (i := 0) (hI := d_M_rarity_12) (hi := rfl) (hl := rfl) ?_
        refine xr_iload_n (pc := 13) (i := 1) (hI := d_M_rarity_13) (hi := rfl) (hl := rfl) ?_
        exact xq_callV (pc := 14) (index := 435) (K := m_M_manyWith) (As := [xI x1]) (S := [xR 53]) (L0 := [xR 53, xI x1, xZ, xZ]) (hI := d_M_rarity_14) (hK := k_M_manyWith) (hlk := w_2220) (hnoM := rfl) (hS8 := Nat.le_of_ble_eq_true rfl) (ci := 11) (N := 38) (C := "BeaconIndexModel") (T := xF11) (hc := rfl) (hci := Nat.le_of_ble_eq_true rfl) (htb := (ft_53 F2_)) (hinst := w_2222) (hsel := sel_M_manyWith) (hlen := Nat.le_of_ble_eq_true rfl) (hst := rfl) (hL0 := rfl)  (xwp_mono (hyp F2_) (fun v9 h9 q9 => xr_drop (L9 := [xZ, xZ]) (xdrz (xdrz xdr0)) q9) (fun _ _ z9 => z9))
  · replace hyp := hyp.2 q9
    have q1_ := q9
    clear q9
    refine xr_iload_n (pc := 4) (i := 0) (hI := d_M_isField_4) (hi := rfl) (hl := rfl) ?_
    refine xr_iconst (pc := 5) (hI := d_M_isField_5) (hr := by decide) ?_
    refine xr_icmp_ne (pc := 6) (tgt := 13) (hI := d_M_isField_6) (ht := by decide) (fun q9 => ?_) (fun q9 => ?_)
    · replace hyp := hyp.2 q9
      have q3_ := q9
      clear q9
      refine xr_iconst (pc := 13) (hI := d_M_isField_13) (hr := by decide) ?_
      refine xr_ireturnT (S := []) (pc := 14) (hI := d_M_isField_14) (hr := rfl) (xnar_z (by decide)) ?_
      show xwp G m_M_rarity (d + 4) 5 [xR 53, xI x1] [xI 0, xR 53] _ _ _
      refine xq_callV (pc := 5) (index := 407) (K := m_M_isKnown) (As := [xI 0]) (S := []) (L0 := [xR 53, xI 0]) (hI := d_M_rarity_5) (hK := k_M_isKnown) (hlk := w_1810) (hnoM := rfl) (hS8 := Nat.le_of_ble_eq_true rfl) (ci := 11) (N := 38) (C := "BeaconIndexModel") (T := xF11) (hc := rfl) (hci := Nat.le_of_ble_eq_true rfl) (htb := (ft_53 F)) (hinst := w_1812) (hsel := sel_M_isKnown) (hlen := Nat.le_of_ble_eq_true rfl) (hst := rfl) (hL0 := rfl)  ?_
      refine xr_aload_n (pc := 0) (i := 0) (hI := d_M_isKnown_0) (hi := rfl) (hl := rfl) ?_
      refine xr_iload_n (pc := 1) (i := 1) (hI := d_M_isKnown_1) (hi := rfl) (hl := rfl) ?_
      refine xr_if_eq (pc := 2) (tgt := 9) (hI := d_M_isKnown_2) (ht := by decide) (fun q9 => ?_) (fun q9 => ?_)
      · clear q9
        refine xr_iconst (pc := 9) (hI := d_M_isKnown_9) (hr := by decide) ?_
        refine xr_putf (pc := 10) (ci := 11) (k := 0) (N := 38) (v9 := 0) (T := xF11) (tF := xT11) (hI := d_M_isKnown_10) (hw := w_1587) rfl xi11 xt11 xn11 (Or.inl rfl) (Nat.le_of_ble_eq_true rfl) (Nat.le_of_ble_eq_true rfl) rfl xfit_i rfl (ft_53 F) (by decide) (fun z => z) ?_
        have F4_ : xFix (xst h 53 0 1) := F.stL xfk_53_0
        refine xr_iload_n (pc := 13) (i := 1) (hI := d_M_isKnown_13) (hi := rfl) (hl := rfl) ?_
        refine xr_ireturnT (S := []) (pc := 14) (hI := d_M_isKnown_14) (hr := rfl) (xnar_z (by decide)) ?_
        show xwp G m_M_rarity (d + 4) 8 [xR 53, xI x1] [xI 0] _ _ _
        refine xr_if_eq (pc := 8) (tgt := 23) (hI := d_M_rarity_8) (ht := by decide) (fun q9 => ?_) (fun q9 => ?_)
        · clear q9
          refine xr_iconst (pc := 23) (hI := d_M_rarity_23) (hr := by decide) ?_
          refine xr_ireturn (S := []) (pc := 24) (hI := d_M_rarity_24) (hr := rfl) ?_
          exact hyp F4_
        · exact absurd q9 (by decide)
      · exact absurd q9 (by decide)
    · replace hyp := hyp.1 q9
      have q3_ := q9
      clear q9
      refine xr_iconst (pc := 9) (hI := d_M_isField_9) (hr := by decide) ?_
      refine xr_goto (pc := 10) (tgt := 14) (hI := d_M_isField_10) (ht := by decide) ?_
      refine xr_ireturnT (S := []) (pc := 14) (hI := d_M_isField_14) (hr := rfl) (xnar_z (by decide)) ?_
      show xwp G m_M_rarity (d + 4) 5 [xR 53, xI x1] [xI 1, xR 53] _ _ _
      refine xq_callV (pc := 5) (index := 407) (K := m_M_isKnown) (As := [xI 1]) (S := []) (L0 := [xR 53, xI 1]) (hI := d_M_rarity_5) (hK := k_M_isKnown) (hlk := w_1810) (hnoM := rfl) (hS8 := Nat.le_of_ble_eq_true rfl) (ci := 11) (N := 38) (C := "BeaconIndexModel") (T := xF11) (hc := rfl) (hci := Nat.le_of_ble_eq_true rfl) (htb := (ft_53 F)) (hinst := w_1812) (hsel := sel_M_isKnown) (hlen := Nat.le_of_ble_eq_true rfl) (hst := rfl) (hL0 := rfl)  ?_
      refine xr_aload_n (pc := 0) (i := 0) (hI := d_M_isKnown_0) (hi := rfl) (hl := rfl) ?_
      refine xr_iload_n (pc := 1) (i := 1) (hI := d_M_isKnown_1) (hi := rfl) (hl := rfl) ?_
      refine xr_if_eq (pc := 2) (tgt := 9) (hI := d_M_isKnown_2) (ht := by decide) (fun q9 => ?_) (fun q9 => ?_)
      · exact absurd q9 (by decide)
      · clear q9
        refine xr_iconst (pc := 5) (hI := d_M_isKnown_5) (hr := by decide) ?_
        refine xr_goto (pc := 6) (tgt := 10) (hI := d_M_isKnown_6) (ht := by decide) ?_
        refine xr_putf (pc := 10) (ci := 11) (k := 0) (N := 38) (v9 := 0) (T := xF11) (tF := xT11) (hI := d_M_isKnown_10) (hw := w_1587) rfl xi11 xt11 xn11 (Or.inl rfl) (Nat.le_of_ble_eq_true rfl) (Nat.le_of_ble_eq_true rfl) rfl xfit_i rfl (ft_53 F) (by decide) (fun z => z) ?_
        have F5_ : xFix (xst h 53 0 0) := F.stL xfk_53_0
        refine xr_iload_n (pc := 13) (i := 1) (hI := d_M_isKnown_13) (hi := rfl) (hl := rfl) ?_
        refine xr_ireturnT (S := []) (pc := 14) (hI := d_M_isKnown_14) (hr := rfl) (xnar_z (by decide)) ?_
        show xwp G m_M_rarity (d + 4) 8 [xR 53, xI x1] [xI 1] _ _ _
        refine xr_if_eq (pc := 8) (tgt := 23) (hI := d_M_rarity_8) (ht := by decide) (fun q9 => ?_) (fun q9 => ?_)
        · exact absurd q9 (by decide)
        · clear q9
          refine xr_aload_n (pc := 11) (i := 0) (hI := d_M_rarity_11) (hi := rfl) (hl := rfl) ?_
          refine xr_aload_n (pc := 12) (i := 0) (hI := d_M_rarity_12) (hi := rfl) (hl := rfl) ?_
          refine xr_iload_n (pc := 13) (i := 1) (hI := d_M_rarity_13) (hi := rfl) (hl := rfl) ?_
          exact xq_callV (pc := 14) (index := 435) (K := m_M_manyWith) (As := [xI x1]) (S := [xR 53]) (L0 := [xR 53, xI x1, xZ, xZ]) (hI := d_M_rarity_14) (hK := k_M_manyWith) (hlk := w_2220) (hnoM := rfl) (hS8 := Nat.le_of_ble_eq_true rfl) (ci := 11) (N := 38) (C := "BeaconIndexModel") (T := xF11) (hc := rfl) (hci := Nat.le_of_ble_eq_true rfl) (htb := (ft_53 F5_)) (hinst := w_2222) (hsel := sel_M_manyWith) (hlen := Nat.le_of_ble_eq_true rfl) (hst := rfl) (hL0 := rfl)  (xwp_mono (hyp F5_) (fun v9 h9 q9 => xr_drop (L9 := [xZ, xZ]) (xdrz (xdrz xdr0)) q9) (fun _ _ z9 => z9))
theorem d_M_rarity_17 : decode prog_14_method_99_code 17 = .ok (.invokevirtual 370, 3) := by decide +kernel
theorem k_M_rarityOf : xCal m_M_rarityOf 1 := ⟨List.mem_append_right _ (List.mem_of_getElem? (i := 2243) (by decide +kernel)), w_15, Nat.le_of_ble_eq_true rfl, ⟨by decide +kernel, by decide +kernel⟩, by decide +kernel, by decide +kernel, rfl⟩
theorem w_2240 : Cond.methodLink "BeaconIndexModel" 370 ⟨"BeaconIndexModel", "rarityOf", "(I)I"⟩ ∈ lw_tbl := List.mem_append_right _ (List.mem_of_getElem? (i := 2240) (by decide +kernel))
theorem w_2242 : Cond.instanceMethod ⟨"BeaconIndexModel", "rarityOf", "(I)I"⟩ ∈ lw_tbl := List.mem_append_right _ (List.mem_of_getElem? (i := 2242) (by decide +kernel))
theorem sel_M_rarityOf : Cond.selects "BeaconIndexModel" ⟨"BeaconIndexModel", "rarityOf", "(I)I"⟩ ⟨"BeaconIndexModel", "rarityOf", "(I)I"⟩ ∈ lw_tbl := List.mem_append_left _ (by decide +kernel)
theorem v_M_rarity_17 {G : XG} {d : Nat} {h : XH} {Q : XV → XH → Prop} {X : Nat → XH → Prop} {s0 s1 : Int} (F : xFix h) (hyp : xtg h s1 = 11 ∧ (xwp G m_M_rarityOf (d + 3) 0 [xR s1, xI s0] [] h (fun v9 h9 => xwp G m_M_rarity (d + 4) 20 [xZ, xZ] (xpush v9 []) h9 Q X) X)) : xwp G m_M_rarity (d + 4) 17 [xZ, xZ] [xI s0, xR s1] h Q X := by
  have hnx9 : (93 : Int) ≤ xnx h := F.2.2
  refine xr_okS (fun hs9 => ?_)
  have r_s0 : -2147483648 ≤ s0 ∧ s0 ≤ 2147483647 := hs9 (xI s0) (.head _)
  obtain ⟨c9, hyp⟩ := hyp
  have t1_ := c9
  clear c9
  exact xq_callV (pc := 17) (index := 370) (K := m_M_rarityOf) (As := [xI s0]) (S := []) (L0 := [xR s1, xI s0]) (hI := d_M_rarity_17) (hK := k_M_rarityOf) (hlk := w_2240) (hnoM := rfl) (hS8 := Nat.le_of_ble_eq_true rfl) (ci := 11) (N := 38) (C := "BeaconIndexModel") (T := xF11) (hc := rfl) (hci := Nat.le_of_ble_eq_true rfl) (htb := t1_) (hinst := w_2242) (hsel := sel_M_rarityOf) (hlen := Nat.le_of_ble_eq_true rfl) (hst := rfl) (hL0 := rfl)  hyp
theorem d_M_rarity_20 : decode prog_14_method_99_code 20 = .ok (.goto 4, 3) := by decide +kernel
theorem v_M_rarity_20 {G : XG} {d : Nat} {h : XH} {Q : XV → XH → Prop} {X : Nat → XH → Prop} {s0 : Int} (F : xFix h) (hyp : (Q (xI s0) h)) : xwp G m_M_rarity (d + 4) 20 [xZ, xZ] [xI s0] h Q X := by
  have hnx9 : (93 : Int) ≤ xnx h := F.2.2
  refine xr_okS (fun hs9 => ?_)
  have r_s0 : -2147483648 ≤ s0 ∧ s0 ≤ 2147483647 := hs9 (xI s0) (.head _)
  refine xr_goto (pc := 20) (tgt := 24) (hI := d_M_rarity_20) (ht := by decide) ?_
  refine xr_ireturn (S := []) (pc := 24) (hI := d_M_rarity_24) (hr := rfl) ?_
  exact hyp

end
