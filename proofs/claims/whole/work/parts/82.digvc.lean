/-! ===== digvc ===== -/
section
abbrev m_B_digest : XM := (⟨"BeaconIndex", "digest", "()J"⟩, prog_1_method_38_code, 4, (some .long), [])
theorem d_B_digest_0 : decode prog_1_method_38_code 0 = .ok (.ldc2_w 289, 3) := by decide +kernel
theorem w_1080 : Cond.constantLong "BeaconIndex" 289 (2447 : Int64) ∈ lw_tbl := List.mem_append_right _ (List.mem_of_getElem? (i := 1080) (by decide +kernel))
theorem d_B_digest_3 : decode prog_1_method_38_code 3 = .ok (.lstore_n 1, 1) := by decide +kernel
theorem d_B_digest_4 : decode prog_1_method_38_code 4 = .ok (.lload_n 1, 1) := by decide +kernel
theorem d_B_digest_5 : decode prog_1_method_38_code 5 = .ok (.aload_n 0, 1) := by decide +kernel
theorem d_B_digest_6 : decode prog_1_method_38_code 6 = .ok (.invokevirtual 291, 3) := by decide +kernel
theorem k_B_texts : xCal m_B_texts 0 := ⟨List.mem_append_right _ (List.mem_of_getElem? (i := 765) (by decide +kernel)), w_1, Nat.le_of_ble_eq_true rfl, ⟨by decide +kernel, by decide +kernel⟩, by decide +kernel, by decide +kernel, rfl⟩
theorem w_1081 : Cond.methodLink "BeaconIndex" 291 ⟨"BeaconIndex", "texts", "()I"⟩ ∈ lw_tbl := List.mem_append_right _ (List.mem_of_getElem? (i := 1081) (by decide +kernel))
theorem w_763 : Cond.instanceMethod ⟨"BeaconIndex", "texts", "()I"⟩ ∈ lw_tbl := List.mem_append_right _ (List.mem_of_getElem? (i := 763) (by decide +kernel))
theorem w_764 : Cond.selects "BeaconIndex" ⟨"BeaconIndex", "texts", "()I"⟩ ⟨"BeaconIndex", "texts", "()I"⟩ ∈ lw_tbl := List.mem_append_right _ (List.mem_of_getElem? (i := 764) (by decide +kernel))
theorem v_B_digest_0 {G : XG} {d : Nat} {h : XH} {Q : XV → XH → Prop} {X : Nat → XH → Prop} (F : xFix h) (hyp : (xwp G m_B_texts (d + 10) 0 [xR 0] [] h (fun v9 h9 => xwp G m_B_digest (d + 11) 9 [xR 0, xZ, xZ, xZ] (xpush v9 [xL 2447]) h9 Q X) X)) : xwp G m_B_digest (d + 11) 0 [xR 0, xZ, xZ, xZ] [] h Q X := by
  have hnx9 : (93 : Int) ≤ xnx h := F.2.2
  refine xr_ldc2 (pc := 0) (z := 2447) (hI := d_B_digest_0) (hw := w_1080) (hr := by decide) (hv := by decide) ?_
  refine xr_lstore_n (pc := 3) (i := 1) (L9 := [xR 0, xL 2447, xZ, xZ]) (hI := d_B_digest_3) (hi := rfl) (hn := Nat.le_of_ble_eq_true rfl) (hL9 := rfl) ?_
  refine xr_lload_n (pc := 4) (i := 1) (hI := d_B_digest_4) (hi := rfl) (hl := rfl) ?_
  refine xr_aload_n (pc := 5) (i := 0) (hI := d_B_digest_5) (hi := rfl) (hl := rfl) ?_
  exact xq_callV (pc := 6) (index := 291) (K := m_B_texts) (As := []) (S := [xL 2447]) (L0 := [xR 0]) (hI := d_B_digest_6) (hK := k_B_texts) (hlk := w_1081) (hnoM := rfl) (hS8 := Nat.le_of_ble_eq_true rfl) (ci := 0) (N := 7) (C := "BeaconIndex") (T := xF0) (hc := rfl) (hci := Nat.le_of_ble_eq_true rfl) (htb := (ft_0 F)) (hinst := w_763) (hsel := w_764) (hlen := Nat.le_of_ble_eq_true rfl) (hst := rfl) (hL0 := rfl)  (xwp_mono hyp (fun v9 h9 q9 => xr_drop (L9 := [xR 0, xZ, xZ, xZ]) (xdrs (xdrz (xdrs (xdrs xdr0)))) q9) (fun _ _ z9 => z9))
theorem d_B_digest_9 : decode prog_1_method_38_code 9 = .ok (.i2l, 1) := by decide +kernel
theorem d_B_digest_10 : decode prog_1_method_38_code 10 = .ok (.invokestatic 294, 3) := by decide +kernel
abbrev m_B_stir : XM := (⟨"BeaconIndex", "stir", "(JJ)J"⟩, prog_1_method_39_code, 4, (some .long), [])
theorem k_B_stir : xCal m_B_stir 2 := ⟨List.mem_append_right _ (List.mem_of_getElem? (i := 1084) (by decide +kernel)), w_1, Nat.le_of_ble_eq_true rfl, ⟨by decide +kernel, by decide +kernel⟩, by decide +kernel, by decide +kernel, rfl⟩
theorem w_1082 : Cond.methodLink "BeaconIndex" 294 ⟨"BeaconIndex", "stir", "(JJ)J"⟩ ∈ lw_tbl := List.mem_append_right _ (List.mem_of_getElem? (i := 1082) (by decide +kernel))
theorem w_1083 : Cond.static ⟨"BeaconIndex", "stir", "(JJ)J"⟩ ∈ lw_tbl := List.mem_append_right _ (List.mem_of_getElem? (i := 1083) (by decide +kernel))
theorem d_B_stir_0 : decode prog_1_method_39_code 0 = .ok (.lload_n 0, 1) := by decide +kernel
theorem d_B_stir_1 : decode prog_1_method_39_code 1 = .ok (.ldc2_w 322, 3) := by decide +kernel
theorem w_1085 : Cond.constantLong "BeaconIndex" 322 (31 : Int64) ∈ lw_tbl := List.mem_append_right _ (List.mem_of_getElem? (i := 1085) (by decide +kernel))
theorem d_B_stir_4 : decode prog_1_method_39_code 4 = .ok (.lmul, 1) := by decide +kernel
theorem d_B_stir_5 : decode prog_1_method_39_code 5 = .ok (.lload_n 2, 1) := by decide +kernel
theorem d_B_stir_6 : decode prog_1_method_39_code 6 = .ok (.ladd, 1) := by decide +kernel
theorem d_B_stir_7 : decode prog_1_method_39_code 7 = .ok (.lreturn, 1) := by decide +kernel
theorem d_B_digest_13 : decode prog_1_method_38_code 13 = .ok (.lstore_n 1, 1) := by decide +kernel
theorem d_B_digest_14 : decode prog_1_method_38_code 14 = .ok (.lload_n 1, 1) := by decide +kernel
theorem d_B_digest_15 : decode prog_1_method_38_code 15 = .ok (.aload_n 0, 1) := by decide +kernel
theorem d_B_digest_16 : decode prog_1_method_38_code 16 = .ok (.invokevirtual 298, 3) := by decide +kernel
theorem k_B_buffered : xCal m_B_buffered 0 := ⟨List.mem_append_right _ (List.mem_of_getElem? (i := 773) (by decide +kernel)), w_1, Nat.le_of_ble_eq_true rfl, ⟨by decide +kernel, by decide +kernel⟩, by decide +kernel, by decide +kernel, rfl⟩
theorem w_1086 : Cond.methodLink "BeaconIndex" 298 ⟨"BeaconIndex", "buffered", "()I"⟩ ∈ lw_tbl := List.mem_append_right _ (List.mem_of_getElem? (i := 1086) (by decide +kernel))
theorem w_771 : Cond.instanceMethod ⟨"BeaconIndex", "buffered", "()I"⟩ ∈ lw_tbl := List.mem_append_right _ (List.mem_of_getElem? (i := 771) (by decide +kernel))
theorem w_772 : Cond.selects "BeaconIndex" ⟨"BeaconIndex", "buffered", "()I"⟩ ⟨"BeaconIndex", "buffered", "()I"⟩ ∈ lw_tbl := List.mem_append_right _ (List.mem_of_getElem? (i := 772) (by decide +kernel))
theorem v_B_digest_9 {G : XG} {d : Nat} {h : XH} {Q : XV → XH → Prop} {X : Nat → XH → Prop} {s0 s1 : Int} (F : xFix h) (hyp : (xwp G m_B_buffered (d + 10) 0 [xR 0] [] h (fun v9 h9 => xwp G m_B_digest (d + 11) 19 [xR 0, xZ, xZ, xZ] (xpush v9 [xL (xw64 ((xw64 (s1 * 31)) + s0))]) h9 Q X) X)) : xwp G m_B_digest (d + 11) 9 [xR 0, xZ, xZ, xZ] [xI s0, xL s1] h Q X := by
  have hnx9 : (93 : Int) ≤ xnx h := F.2.2
  refine xr_okS (fun hs9 => ?_)
  have r_s0 : -2147483648 ≤ s0 ∧ s0 ≤ 2147483647 := hs9 (xI s0) (.head _)
  have r_s1 : -9223372036854775808 ≤ s1 ∧ s1 ≤ 9223372036854775807 := hs9 (xL s1) (.tail _ (.head _))
  refine xr_i2l (pc := 9) (hI := d_B_digest_9) ?_
  refine xq_callS (pc := 10) (index := 294) (K := m_B_stir) (As := [xL s1, xL s0]) (S := []) (L0 := [xL s1, xZ, xL s0, xZ]) (hI := d_B_digest_10) (hK := k_B_stir) (hlk := w_1082) (hnoM := rfl) (hS8 := Nat.le_of_ble_eq_true rfl) (hstat := w_1083) (hlen := Nat.le_of_ble_eq_true rfl) (hst := rfl) (hL0 := rfl)  ?_
  refine xr_lload_n (pc := 0) (i := 0) (hI := d_B_stir_0) (hi := rfl) (hl := rfl) ?_
  refine xr_ldc2 (pc := 1) (z := 31) (hI := d_B_stir_1) (hw := w_1085) (hr := by decide) (hv := by decide) ?_
  refine xr_lmul (pc := 4) (hI := d_B_stir_4) ?_
  refine xr_lload_n (pc := 5) (i := 2) (hI := d_B_stir_5) (hi := rfl) (hl := rfl) ?_
  refine xr_ladd (pc := 6) (hI := d_B_stir_6) ?_
  refine xr_lreturn (S := []) (pc := 7) (hI := d_B_stir_7) (hr := rfl) ?_
  show xwp G m_B_digest (d + 11) 13 [xR 0, xZ, xZ, xZ] [xL (xw64 ((xw64 (s1 * 31)) + s0))] _ _ _
  refine xr_lstore_n (pc := 13) (i := 1) (L9 := [xR 0, xL (xw64 ((xw64 (s1 * 31)) + s0)), xZ, xZ]) (hI := d_B_digest_13) (hi := rfl) (hn := Nat.le_of_ble_eq_true rfl) (hL9 := rfl) ?_
  refine xr_lload_n (pc := 14) (i := 1) (hI := d_B_digest_14) (hi := rfl) (hl := rfl) ?_
  refine xr_aload_n (pc := 15) (i := 0) (hI := d_B_digest_15) (hi := rfl) (hl := rfl) ?_
  exact xq_callV (pc := 16) (index := 298) (K := m_B_buffered) (As := []) (S := [xL (xw64 ((xw64 (s1 * 31)) + s0))]) (L0 := [xR 0]) (hI := d_B_digest_16) (hK := k_B_buffered) (hlk := w_1086) (hnoM := rfl) (hS8 := Nat.le_of_ble_eq_true rfl) (ci := 0) (N := 7) (C := "BeaconIndex") (T := xF0) (hc := rfl) (hci := Nat.le_of_ble_eq_true rfl) (htb := (ft_0 F)) (hinst := w_771) (hsel := w_772) (hlen := Nat.le_of_ble_eq_true rfl) (hst := rfl) (hL0 := rfl)  (xwp_mono hyp (fun v9 h9 q9 => xr_drop (L9 := [xR 0, xZ, xZ, xZ]) (xdrs (xdrz (xdrs (xdrs xdr0)))) q9) (fun _ _ z9 => z9))
theorem d_B_digest_19 : decode prog_1_method_38_code 19 = .ok (.i2l, 1) := by decide +kernel
theorem d_B_digest_20 : decode prog_1_method_38_code 20 = .ok (.invokestatic 294, 3) := by decide +kernel
theorem d_B_digest_23 : decode prog_1_method_38_code 23 = .ok (.lstore_n 1, 1) := by decide +kernel
theorem d_B_digest_24 : decode prog_1_method_38_code 24 = .ok (.lload_n 1, 1) := by decide +kernel
theorem d_B_digest_25 : decode prog_1_method_38_code 25 = .ok (.aload_n 0, 1) := by decide +kernel
theorem d_B_digest_26 : decode prog_1_method_38_code 26 = .ok (.invokevirtual 301, 3) := by decide +kernel
theorem k_B_merges : xCal m_B_merges 0 := ⟨List.mem_append_right _ (List.mem_of_getElem? (i := 782) (by decide +kernel)), w_1, Nat.le_of_ble_eq_true rfl, ⟨by decide +kernel, by decide +kernel⟩, by decide +kernel, by decide +kernel, rfl⟩
theorem w_1087 : Cond.methodLink "BeaconIndex" 301 ⟨"BeaconIndex", "merges", "()I"⟩ ∈ lw_tbl := List.mem_append_right _ (List.mem_of_getElem? (i := 1087) (by decide +kernel))
theorem w_780 : Cond.instanceMethod ⟨"BeaconIndex", "merges", "()I"⟩ ∈ lw_tbl := List.mem_append_right _ (List.mem_of_getElem? (i := 780) (by decide +kernel))
theorem w_781 : Cond.selects "BeaconIndex" ⟨"BeaconIndex", "merges", "()I"⟩ ⟨"BeaconIndex", "merges", "()I"⟩ ∈ lw_tbl := List.mem_append_right _ (List.mem_of_getElem? (i := 781) (by decide +kernel))
theorem v_B_digest_19 {G : XG} {d : Nat} {h : XH} {Q : XV → XH → Prop} {X : Nat → XH → Prop} {s0 s1 : Int} (F : xFix h) (hyp : (xwp G m_B_merges (d + 10) 0 [xR 0] [] h (fun v9 h9 => xwp G m_B_digest (d + 11) 29 [xR 0, xZ, xZ, xZ] (xpush v9 [xL (xw64 ((xw64 (s1 * 31)) + s0))]) h9 Q X) X)) : xwp G m_B_digest (d + 11) 19 [xR 0, xZ, xZ, xZ] [xI s0, xL s1] h Q X := by
  have hnx9 : (93 : Int) ≤ xnx h := F.2.2
  refine xr_okS (fun hs9 => ?_)
  have r_s0 : -2147483648 ≤ s0 ∧ s0 ≤ 2147483647 := hs9 (xI s0) (.head _)
  have r_s1 : -9223372036854775808 ≤ s1 ∧ s1 ≤ 9223372036854775807 := hs9 (xL s1) (.tail _ (.head _))
  refine xr_i2l (pc := 19) (hI := d_B_digest_19) ?_
  refine xq_callS (pc := 20) (index := 294) (K := m_B_stir) (As := [xL s1, xL s0]) (S := []) (L0 := [xL s1, xZ, xL s0, xZ]) (hI := d_B_digest_20) (hK := k_B_stir) (hlk := w_1082) (hnoM := rfl) (hS8 := Nat.le_of_ble_eq_true rfl) (hstat := w_1083) (hlen := Nat.le_of_ble_eq_true rfl) (hst := rfl) (hL0 := rfl)  ?_
  refine xr_lload_n (pc := 0) (i := 0) (hI := d_B_stir_0) (hi := rfl) (hl := rfl) ?_
  refine xr_ldc2 (pc := 1) (z := 31) (hI := d_B_stir_1) (hw := w_1085) (hr := by decide) (hv := by decide) ?_
  refine xr_lmul (pc := 4) (hI := d_B_stir_4) ?_
  refine xr_lload_n (pc := 5) (i := 2) (hI := d_B_stir_5) (hi := rfl) (hl := rfl) ?_
  refine xr_ladd (pc := 6) (hI := d_B_stir_6) ?_
  refine xr_lreturn (S := []) (pc := 7) (hI := d_B_stir_7) (hr := rfl) ?_
  show xwp G m_B_digest (d + 11) 23 [xR 0, xZ, xZ, xZ] [xL (xw64 ((xw64 (s1 * 31)) + s0))] _ _ _
  refine xr_lstore_n (pc := 23) (i := 1) (L9 := [xR 0, xL (xw64 ((xw64 (s1 * 31)) + s0)), xZ, xZ]) (hI := d_B_digest_23) (hi := rfl) (hn := Nat.le_of_ble_eq_true rfl) (hL9 := rfl) ?_
  refine xr_lload_n (pc := 24) (i := 1) (hI := d_B_digest_24) (hi := rfl) (hl := rfl) ?_
  refine xr_aload_n (pc := 25) (i := 0) (hI := d_B_digest_25) (hi := rfl) (hl := rfl) ?_
  exact xq_callV (pc := 26) (index := 301) (K := m_B_merges) (As := []) (S := [xL (xw64 ((xw64 (s1 * 31)) + s0))]) (L0 := [xR 0]) (hI := d_B_digest_26) (hK := k_B_merges) (hlk := w_1087) (hnoM := rfl) (hS8 := Nat.le_of_ble_eq_true rfl) (ci := 0) (N := 7) (C := "BeaconIndex") (T := xF0) (hc := rfl) (hci := Nat.le_of_ble_eq_true rfl) (htb := (ft_0 F)) (hinst := w_780) (hsel := w_781) (hlen := Nat.le_of_ble_eq_true rfl) (hst := rfl) (hL0 := rfl)  (xwp_mono hyp (fun v9 h9 q9 => xr_drop (L9 := [xR 0, xZ, xZ, xZ]) (xdrs (xdrz (xdrs (xdrs xdr0)))) q9) (fun _ _ z9 => z9))
theorem d_B_digest_29 : decode prog_1_method_38_code 29 = .ok (.i2l, 1) := by decide +kernel
theorem d_B_digest_30 : decode prog_1_method_38_code 30 = .ok (.invokestatic 294, 3) := by decide +kernel
theorem d_B_digest_33 : decode prog_1_method_38_code 33 = .ok (.lstore_n 1, 1) := by decide +kernel
theorem d_B_digest_34 : decode prog_1_method_38_code 34 = .ok (.lload_n 1, 1) := by decide +kernel
theorem d_B_digest_35 : decode prog_1_method_38_code 35 = .ok (.aload_n 0, 1) := by decide +kernel
theorem d_B_digest_36 : decode prog_1_method_38_code 36 = .ok (.invokevirtual 304, 3) := by decide +kernel
theorem k_B_segments : xCal m_B_segments 0 := ⟨List.mem_append_right _ (List.mem_of_getElem? (i := 778) (by decide +kernel)), w_1, Nat.le_of_ble_eq_true rfl, ⟨by decide +kernel, by decide +kernel⟩, by decide +kernel, by decide +kernel, rfl⟩
theorem w_1088 : Cond.methodLink "BeaconIndex" 304 ⟨"BeaconIndex", "segments", "()I"⟩ ∈ lw_tbl := List.mem_append_right _ (List.mem_of_getElem? (i := 1088) (by decide +kernel))
theorem w_776 : Cond.instanceMethod ⟨"BeaconIndex", "segments", "()I"⟩ ∈ lw_tbl := List.mem_append_right _ (List.mem_of_getElem? (i := 776) (by decide +kernel))
theorem w_777 : Cond.selects "BeaconIndex" ⟨"BeaconIndex", "segments", "()I"⟩ ⟨"BeaconIndex", "segments", "()I"⟩ ∈ lw_tbl := List.mem_append_right _ (List.mem_of_getElem? (i := 777) (by decide +kernel))
theorem v_B_digest_29 {G : XG} {d : Nat} {h : XH} {Q : XV → XH → Prop} {X : Nat → XH → Prop} {s0 s1 : Int} (F : xFix h) (hyp : (xwp G m_B_segments (d + 10) 0 [xR 0] [] h (fun v9 h9 => xwp G m_B_digest (d + 11) 39 [xR 0, xZ, xZ, xZ] (xpush v9 [xL (xw64 ((xw64 (s1 * 31)) + s0))]) h9 Q X) X)) : xwp G m_B_digest (d + 11) 29 [xR 0, xZ, xZ, xZ] [xI s0, xL s1] h Q X := by
  have hnx9 : (93 : Int) ≤ xnx h := F.2.2
  refine xr_okS (fun hs9 => ?_)
  have r_s0 : -2147483648 ≤ s0 ∧ s0 ≤ 2147483647 := hs9 (xI s0) (.head _)
  have r_s1 : -9223372036854775808 ≤ s1 ∧ s1 ≤ 9223372036854775807 := hs9 (xL s1) (.tail _ (.head _))
  refine xr_i2l (pc := 29) (hI := d_B_digest_29) ?_
  refine xq_callS (pc := 30) (index := 294) (K := m_B_stir) (As := [xL s1, xL s0]) (S := []) (L0 := [xL s1, xZ, xL s0, xZ]) (hI := d_B_digest_30) (hK := k_B_stir) (hlk := w_1082) (hnoM := rfl) (hS8 := Nat.le_of_ble_eq_true rfl) (hstat := w_1083) (hlen := Nat.le_of_ble_eq_true rfl) (hst := rfl) (hL0 := rfl)  ?_
  refine xr_lload_n (pc := 0) (i := 0) (hI := d_B_stir_0) (hi := rfl) (hl := rfl) ?_
  refine xr_ldc2 (pc := 1) (z := 31) (hI := d_B_stir_1) (hw := w_1085) (hr := by decide) (hv := by decide) ?_
  refine xr_lmul (pc := 4) (hI := d_B_stir_4) ?_
  refine xr_lload_n (pc := 5) (i := 2) (hI := d_B_stir_5) (hi := rfl) (hl := rfl) ?_
  refine xr_ladd (pc := 6) (hI := d_B_stir_6) ?_
  refine xr_lreturn (S := []) (pc := 7) (hI := d_B_stir_7) (hr := rfl) ?_
  show xwp G m_B_digest (d + 11) 33 [xR 0, xZ, xZ, xZ] [xL (xw64 ((xw64 (s1 * 31)) + s0))] _ _ _
  refine xr_lstore_n (pc := 33) (i := 1) (L9 := [xR 0, xL (xw64 ((xw64 (s1 * 31)) + s0)), xZ, xZ]) (hI := d_B_digest_33) (hi := rfl) (hn := Nat.le_of_ble_eq_true rfl) (hL9 := rfl) ?_
  refine xr_lload_n (pc := 34) (i := 1) (hI := d_B_digest_34) (hi := rfl) (hl := rfl) ?_
  refine xr_aload_n (pc := 35) (i := 0) (hI := d_B_digest_35) (hi := rfl) (hl := rfl) ?_
  exact xq_callV (pc := 36) (index := 304) (K := m_B_segments) (As := []) (S := [xL (xw64 ((xw64 (s1 * 31)) + s0))]) (L0 := [xR 0]) (hI := d_B_digest_36) (hK := k_B_segments) (hlk := w_1088) (hnoM := rfl) (hS8 := Nat.le_of_ble_eq_true rfl) (ci := 0) (N := 7) (C := "BeaconIndex") (T := xF0) (hc := rfl) (hci := Nat.le_of_ble_eq_true rfl) (htb := (ft_0 F)) (hinst := w_776) (hsel := w_777) (hlen := Nat.le_of_ble_eq_true rfl) (hst := rfl) (hL0 := rfl)  (xwp_mono hyp (fun v9 h9 q9 => xr_drop (L9 := [xR 0, xZ, xZ, xZ]) (xdrs (xdrz (xdrs (xdrs xdr0)))) q9) (fun _ _ z9 => z9))
theorem d_B_digest_39 : decode prog_1_method_38_code 39 = .ok (.i2l, 1) := by decide +kernel
theorem d_B_digest_40 : decode prog_1_method_38_code 40 = .ok (.invokestatic 294, 3) := by decide +kernel
theorem d_B_digest_43 : decode prog_1_method_38_code 43 = .ok (.lstore_n 1, 1) := by decide +kernel
theorem d_B_digest_44 : decode prog_1_method_38_code 44 = .ok (.iconst 0, 1) := by decide +kernel
theorem d_B_digest_45 : decode prog_1_method_38_code 45 = .ok (.istore_n 3, 1) := by decide +kernel
theorem v_B_digest_39 {G : XG} {d : Nat} {h : XH} {Q : XV → XH → Prop} {X : Nat → XH → Prop} {s0 s1 : Int} (F : xFix h) (hyp : (xwp G m_B_digest (d + 11) 46 [xR 0, xL (xw64 ((xw64 (s1 * 31)) + s0)), xZ, xI 0] [] h Q X)) : xwp G m_B_digest (d + 11) 39 [xR 0, xZ, xZ, xZ] [xI s0, xL s1] h Q X := by
  have hnx9 : (93 : Int) ≤ xnx h := F.2.2
  refine xr_okS (fun hs9 => ?_)
  have r_s0 : -2147483648 ≤ s0 ∧ s0 ≤ 2147483647 := hs9 (xI s0) (.head _)
  have r_s1 : -9223372036854775808 ≤ s1 ∧ s1 ≤ 9223372036854775807 := hs9 (xL s1) (.tail _ (.head _))
  refine xr_i2l (pc := 39) (hI := d_B_digest_39) ?_
  refine xq_callS (pc := 40) (index := 294) (K := m_B_stir) (As := [xL s1, xL s0]) (S := []) (L0 := [xL s1, xZ, xL s0, xZ]) (hI := d_B_digest_40) (hK := k_B_stir) (hlk := w_1082) (hnoM := rfl) (hS8 := Nat.le_of_ble_eq_true rfl) (hstat := w_1083) (hlen := Nat.le_of_ble_eq_true rfl) (hst := rfl) (hL0 := rfl)  ?_
  refine xr_lload_n (pc := 0) (i := 0) (hI := d_B_stir_0) (hi := rfl) (hl := rfl) ?_
  refine xr_ldc2 (pc := 1) (z := 31) (hI := d_B_stir_1) (hw := w_1085) (hr := by decide) (hv := by decide) ?_
  refine xr_lmul (pc := 4) (hI := d_B_stir_4) ?_
  refine xr_lload_n (pc := 5) (i := 2) (hI := d_B_stir_5) (hi := rfl) (hl := rfl) ?_
  refine xr_ladd (pc := 6) (hI := d_B_stir_6) ?_
  refine xr_lreturn (S := []) (pc := 7) (hI := d_B_stir_7) (hr := rfl) ?_
  show xwp G m_B_digest (d + 11) 43 [xR 0, xZ, xZ, xZ] [xL (xw64 ((xw64 (s1 * 31)) + s0))] _ _ _
  refine xr_lstore_n (pc := 43) (i := 1) (L9 := [xR 0, xL (xw64 ((xw64 (s1 * 31)) + s0)), xZ, xZ]) (hI := d_B_digest_43) (hi := rfl) (hn := Nat.le_of_ble_eq_true rfl) (hL9 := rfl) ?_
  refine xr_iconst (pc := 44) (hI := d_B_digest_44) (hr := by decide) ?_
  refine xr_istore_n (pc := 45) (i := 3) (L9 := [xR 0, xL (xw64 ((xw64 (s1 * 31)) + s0)), xZ, xI 0]) (hI := d_B_digest_45) (hi := rfl) (hn := Nat.le_of_ble_eq_true rfl) (hL9 := rfl) ?_
  exact hyp
theorem d_B_digest_46 : decode prog_1_method_38_code 46 = .ok (.iload_n 3, 1) := by decide +kernel
theorem d_B_digest_47 : decode prog_1_method_38_code 47 = .ok (.aload_n 0, 1) := by decide +kernel
theorem d_B_digest_48 : decode prog_1_method_38_code 48 = .ok (.invokevirtual 304, 3) := by decide +kernel
theorem v_B_digest_46 {G : XG} {d : Nat} {h : XH} {Q : XV → XH → Prop} {X : Nat → XH → Prop} {x1 x3 : Int} (F : xFix h) (hyp : (xwp G m_B_segments (d + 10) 0 [xR 0] [] h (fun v9 h9 => xwp G m_B_digest (d + 11) 51 [xR 0, xL x1, xZ, xI x3] (xpush v9 [xI x3]) h9 Q X) X)) : xwp G m_B_digest (d + 11) 46 [xR 0, xL x1, xZ, xI x3] [] h Q X := by
  have hnx9 : (93 : Int) ≤ xnx h := F.2.2
  refine xr_okL (fun hl9 => ?_)
  have r_x1 : -9223372036854775808 ≤ x1 ∧ x1 ≤ 9223372036854775807 := hl9 (xL x1) (.tail _ (.head _)) (Nat.le_of_ble_eq_true rfl)
  have r_x3 : -2147483648 ≤ x3 ∧ x3 ≤ 2147483647 := hl9 (xI x3) (.tail _ (.tail _ (.tail _ (.head _)))) (Nat.le_of_ble_eq_true rfl)
  refine xr_iload_n (pc := 46) (i := 3) (hI := d_B_digest_46) (hi := rfl) (hl := rfl) ?_
  refine xr_aload_n (pc := 47) (i := 0) (hI := d_B_digest_47) (hi := rfl) (hl := rfl) ?_
  exact xq_callV (pc := 48) (index := 304) (K := m_B_segments) (As := []) (S := [xI x3]) (L0 := [xR 0]) (hI := d_B_digest_48) (hK := k_B_segments) (hlk := w_1088) (hnoM := rfl) (hS8 := Nat.le_of_ble_eq_true rfl) (ci := 0) (N := 7) (C := "BeaconIndex") (T := xF0) (hc := rfl) (hci := Nat.le_of_ble_eq_true rfl) (htb := (ft_0 F)) (hinst := w_776) (hsel := w_777) (hlen := Nat.le_of_ble_eq_true rfl) (hst := rfl) (hL0 := rfl)  hyp
theorem d_B_digest_51 : decode prog_1_method_38_code 51 = .ok (.if_icmp .ge 16, 3) := by decide +kernel
theorem d_B_digest_67 : decode prog_1_method_38_code 67 = .ok (.aload_n 0, 1) := by decide +kernel
theorem d_B_digest_68 : decode prog_1_method_38_code 68 = .ok (.lload_n 1, 1) := by decide +kernel
theorem d_B_digest_69 : decode prog_1_method_38_code 69 = .ok (.invokevirtual 311, 3) := by decide +kernel
abbrev m_B_stirWord : XM := (⟨"BeaconIndex", "stirWord", "(J)J"⟩, prog_1_method_41_code, 7, (some .long), [])
theorem k_B_stirWord : xCal m_B_stirWord 1 := ⟨List.mem_append_right _ (List.mem_of_getElem? (i := 1208) (by decide +kernel)), w_1, Nat.le_of_ble_eq_true rfl, ⟨by decide +kernel, by decide +kernel⟩, by decide +kernel, by decide +kernel, rfl⟩
theorem w_1205 : Cond.methodLink "BeaconIndex" 311 ⟨"BeaconIndex", "stirWord", "(J)J"⟩ ∈ lw_tbl := List.mem_append_right _ (List.mem_of_getElem? (i := 1205) (by decide +kernel))
theorem w_1207 : Cond.instanceMethod ⟨"BeaconIndex", "stirWord", "(J)J"⟩ ∈ lw_tbl := List.mem_append_right _ (List.mem_of_getElem? (i := 1207) (by decide +kernel))
theorem sel_B_stirWord : Cond.selects "BeaconIndex" ⟨"BeaconIndex", "stirWord", "(J)J"⟩ ⟨"BeaconIndex", "stirWord", "(J)J"⟩ ∈ lw_tbl := List.mem_append_left _ (by decide +kernel)
theorem d_B_digest_54 : decode prog_1_method_38_code 54 = .ok (.aload_n 0, 1) := by decide +kernel
theorem d_B_digest_55 : decode prog_1_method_38_code 55 = .ok (.lload_n 1, 1) := by decide +kernel
theorem d_B_digest_56 : decode prog_1_method_38_code 56 = .ok (.iload_n 3, 1) := by decide +kernel
theorem d_B_digest_57 : decode prog_1_method_38_code 57 = .ok (.invokevirtual 307, 3) := by decide +kernel
abbrev m_B_stirSegment : XM := (⟨"BeaconIndex", "stirSegment", "(JI)J"⟩, prog_1_method_40_code, 7, (some .long), [])
theorem k_B_stirSegment : xCal m_B_stirSegment 2 := ⟨List.mem_append_right _ (List.mem_of_getElem? (i := 1092) (by decide +kernel)), w_1, Nat.le_of_ble_eq_true rfl, ⟨by decide +kernel, by decide +kernel⟩, by decide +kernel, by decide +kernel, rfl⟩
theorem w_1089 : Cond.methodLink "BeaconIndex" 307 ⟨"BeaconIndex", "stirSegment", "(JI)J"⟩ ∈ lw_tbl := List.mem_append_right _ (List.mem_of_getElem? (i := 1089) (by decide +kernel))
theorem w_1091 : Cond.instanceMethod ⟨"BeaconIndex", "stirSegment", "(JI)J"⟩ ∈ lw_tbl := List.mem_append_right _ (List.mem_of_getElem? (i := 1091) (by decide +kernel))
theorem sel_B_stirSegment : Cond.selects "BeaconIndex" ⟨"BeaconIndex", "stirSegment", "(JI)J"⟩ ⟨"BeaconIndex", "stirSegment", "(JI)J"⟩ ∈ lw_tbl := List.mem_append_left _ (by decide +kernel)
theorem v_B_digest_51 {G : XG} {d : Nat} {h : XH} {Q : XV → XH → Prop} {X : Nat → XH → Prop} {x1 x3 s0 s1 : Int} (F : xFix h) (hyp : ((s0 ≤ s1 → (xwp G m_B_stirWord (d + 10) 0 [xR 0, xL x1, xZ, xZ, xZ, xZ, xZ] [] h (fun v9 h9 => xwp G m_B_digest (d + 11) 72 [xR 0, xZ, xZ, xZ] (xpush v9 []) h9 Q X) X)) ∧ (¬ s0 ≤ s1 → (xwp G m_B_stirSegment (d + 10) 0 [xR 0, xL x1, xZ, xI x3, xZ, xZ, xZ] [] h (fun v9 h9 => xwp G m_B_digest (d + 11) 60 [xR 0, xZ, xZ, xI x3] (xpush v9 []) h9 Q X) X)))) : xwp G m_B_digest (d + 11) 51 [xR 0, xL x1, xZ, xI x3] [xI s0, xI s1] h Q X := by
  have hnx9 : (93 : Int) ≤ xnx h := F.2.2
  refine xr_okL (fun hl9 => ?_)
  have r_x1 : -9223372036854775808 ≤ x1 ∧ x1 ≤ 9223372036854775807 := hl9 (xL x1) (.tail _ (.head _)) (Nat.le_of_ble_eq_true rfl)
  have r_x3 : -2147483648 ≤ x3 ∧ x3 ≤ 2147483647 := hl9 (xI x3) (.tail _ (.tail _ (.tail _ (.head _)))) (Nat.le_of_ble_eq_true rfl)
  refine xr_okS (fun hs9 => ?_)
  have r_s0 : -2147483648 ≤ s0 ∧ s0 ≤ 2147483647 := hs9 (xI s0) (.head _)
  have r_s1 : -2147483648 ≤ s1 ∧ s1 ≤ 2147483647 := hs9 (xI s1) (.tail _ (.head _))
  refine xr_icmp_ge (pc := 51) (tgt := 67) (hI := d_B_digest_51) (ht := by decide) (fun q9 => ?_) (fun q9 => ?_)
  · replace hyp := hyp.1 q9
    have q1_ := q9
    clear q9
    refine xr_aload_n (pc := 67) (i := 0) (hI := d_B_digest_67) (hi := rfl) (hl := rfl) ?_
    refine xr_lload_n (pc := 68) (i := 1) (hI := d_B_digest_68) (hi := rfl) (hl := rfl) ?_
    exact xq_callV (pc := 69) (index := 311) (K := m_B_stirWord) (As := [xL x1]) (S := []) (L0 := [xR 0, xL x1, xZ, xZ, xZ, xZ, xZ]) (hI := d_B_digest_69) (hK := k_B_stirWord) (hlk := w_1205) (hnoM := rfl) (hS8 := Nat.le_of_ble_eq_true rfl) (ci := 0) (N := 7) (C := "BeaconIndex") (T := xF0) (hc := rfl) (hci := Nat.le_of_ble_eq_true rfl) (htb := (ft_0 F)) (hinst := w_1207) (hsel := sel_B_stirWord) (hlen := Nat.le_of_ble_eq_true rfl) (hst := rfl) (hL0 := rfl)  (xwp_mono hyp (fun v9 h9 q9 => xr_drop (L9 := [xR 0, xZ, xZ, xZ]) (xdrs (xdrz (xdrs (xdrz xdr0)))) q9) (fun _ _ z9 => z9))
  · replace hyp := hyp.2 q9
    have q1_ := q9
    clear q9
    refine xr_aload_n (pc := 54) (i := 0) (hI := d_B_digest_54) (hi := rfl) (hl := rfl) ?_
    refine xr_lload_n (pc := 55) (i := 1) (hI := d_B_digest_55) (hi := rfl) (hl := rfl) ?_
    refine xr_iload_n (pc := 56) (i := 3) (hI := d_B_digest_56) (hi := rfl) (hl := rfl) ?_
    exact xq_callV (pc := 57) (index := 307) (K := m_B_stirSegment) (As := [xL x1, xI x3]) (S := []) (L0 := [xR 0, xL x1, xZ, xI x3, xZ, xZ, xZ]) (hI := d_B_digest_57) (hK := k_B_stirSegment) (hlk := w_1089) (hnoM := rfl) (hS8 := Nat.le_of_ble_eq_true rfl) (ci := 0) (N := 7) (C := "BeaconIndex") (T := xF0) (hc := rfl) (hci := Nat.le_of_ble_eq_true rfl) (htb := (ft_0 F)) (hinst := w_1091) (hsel := sel_B_stirSegment) (hlen := Nat.le_of_ble_eq_true rfl) (hst := rfl) (hL0 := rfl)  (xwp_mono hyp (fun v9 h9 q9 => xr_drop (L9 := [xR 0, xZ, xZ, xI x3]) (xdrs (xdrz (xdrs (xdrs xdr0)))) q9) (fun _ _ z9 => z9))
theorem d_B_digest_60 : decode prog_1_method_38_code 60 = .ok (.lstore_n 1, 1) := by decide +kernel
theorem d_B_digest_61 : decode prog_1_method_38_code 61 = .ok (.iinc 3 1, 3) := by decide +kernel
theorem d_B_digest_64 : decode prog_1_method_38_code 64 = .ok (.goto (-18), 3) := by decide +kernel
theorem v_B_digest_60 {G : XG} {d : Nat} {h : XH} {Q : XV → XH → Prop} {X : Nat → XH → Prop} {x3 s0 : Int} (F : xFix h) (hyp : xiR (x3 + 1) ∧ (xwp G m_B_digest (d + 11) 46 [xR 0, xL s0, xZ, xI (x3 + 1)] [] h Q X)) : xwp G m_B_digest (d + 11) 60 [xR 0, xZ, xZ, xI x3] [xL s0] h Q X := by
  have hnx9 : (93 : Int) ≤ xnx h := F.2.2
  refine xr_okL (fun hl9 => ?_)
  have r_x3 : -2147483648 ≤ x3 ∧ x3 ≤ 2147483647 := hl9 (xI x3) (.tail _ (.tail _ (.tail _ (.head _)))) (Nat.le_of_ble_eq_true rfl)
  refine xr_okS (fun hs9 => ?_)
  have r_s0 : -9223372036854775808 ≤ s0 ∧ s0 ≤ 9223372036854775807 := hs9 (xL s0) (.head _)
  refine xr_lstore_n (pc := 60) (i := 1) (L9 := [xR 0, xL s0, xZ, xI x3]) (hI := d_B_digest_60) (hi := rfl) (hn := Nat.le_of_ble_eq_true rfl) (hL9 := rfl) ?_
  obtain ⟨c9, hyp⟩ := hyp
  refine xr_iinc (pc := 61) (i := 3) (L9 := [xR 0, xL s0, xZ, xI (x3 + 1)]) (hI := d_B_digest_61) (hl := rfl) (hn := Nat.le_of_ble_eq_true rfl) (hr := c9) (hL9 := rfl) ?_
  refine xr_goto (pc := 64) (tgt := 46) (hI := d_B_digest_64) (ht := by decide) ?_
  exact hyp
theorem d_B_digest_72 : decode prog_1_method_38_code 72 = .ok (.lstore_n 1, 1) := by decide +kernel
theorem d_B_digest_73 : decode prog_1_method_38_code 73 = .ok (.lload_n 1, 1) := by decide +kernel
theorem d_B_digest_74 : decode prog_1_method_38_code 74 = .ok (.aload_n 0, 1) := by decide +kernel
theorem d_B_digest_75 : decode prog_1_method_38_code 75 = .ok (.getfield 51, 3) := by decide +kernel
theorem d_B_digest_78 : decode prog_1_method_38_code 78 = .ok (.invokevirtual 315, 3) := by decide +kernel
theorem d_B_digest_81 : decode prog_1_method_38_code 81 = .ok (.ifCond .eq 7, 3) := by decide +kernel
theorem d_B_digest_88 : decode prog_1_method_38_code 88 = .ok (.lconst 1, 1) := by decide +kernel
theorem d_B_digest_84 : decode prog_1_method_38_code 84 = .ok (.lconst 0, 1) := by decide +kernel
theorem d_B_digest_85 : decode prog_1_method_38_code 85 = .ok (.goto 4, 3) := by decide +kernel
theorem v_B_digest_72 {G : XG} {d : Nat} {h : XH} {Q : XV → XH → Prop} {X : Nat → XH → Prop} {s0 : Int} (F : xFix h) (hyp : xtg h (xpl h 0 6) = 13 ∧ alok h (xpl h 0 6) ∧ ((((decide (als h (xpl h 0 6) = 0)) = true) → (xwp G m_B_digest (d + 11) 89 [xR 0, xZ, xZ, xZ] [xL 0, xL s0] h Q X)) ∧ (¬ ((decide (als h (xpl h 0 6) = 0)) = true) → (xwp G m_B_digest (d + 11) 89 [xR 0, xZ, xZ, xZ] [xL 1, xL s0] h Q X)))) : xwp G m_B_digest (d + 11) 72 [xR 0, xZ, xZ, xZ] [xL s0] h Q X := by
  have hnx9 : (93 : Int) ≤ xnx h := F.2.2
  refine xr_okS (fun hs9 => ?_)
  have r_s0 : -9223372036854775808 ≤ s0 ∧ s0 ≤ 9223372036854775807 := hs9 (xL s0) (.head _)
  refine xr_lstore_n (pc := 72) (i := 1) (L9 := [xR 0, xL s0, xZ, xZ]) (hI := d_B_digest_72) (hi := rfl) (hn := Nat.le_of_ble_eq_true rfl) (hL9 := rfl) ?_
  refine xr_lload_n (pc := 73) (i := 1) (hI := d_B_digest_73) (hi := rfl) (hl := rfl) ?_
  refine xr_aload_n (pc := 74) (i := 0) (hI := d_B_digest_74) (hi := rfl) (hl := rfl) ?_
  refine xg_getf (pc := 75) (ci := 0) (k := 6) (N := 7) (v9 := 2) (v := (xpl h 0 6)) (T := xF0) (hI := d_B_digest_75) (hw := w_436) rfl xi0 (Or.inl rfl) (Nat.le_of_ble_eq_true rfl) (Nat.le_of_ble_eq_true rfl) rfl (ft_0 F) rfl (fun f1_ => ?_)
  clear f1_
  obtain ⟨c9, hyp⟩ := hyp
  have t2_ := c9
  clear c9
  obtain ⟨c3_, hyp⟩ := hyp
  refine xq_callV (pc := 78) (index := 315) (K := m_ArrayList_isEmpty) (As := []) (S := [xL s0]) (L0 := [xR (xpl h 0 6)]) (hI := d_B_digest_78) (hK := k_ArrayList_isEmpty) (hlk := w_1229) (hnoM := rfl) (hS8 := Nat.le_of_ble_eq_true rfl) (ci := 13) (N := 3) (C := "java/util/ArrayList") (T := xF13) (hc := rfl) (hci := Nat.le_of_ble_eq_true rfl) (htb := t2_) (hinst := w_461) (hsel := w_462) (hlen := Nat.le_of_ble_eq_true rfl) (hst := rfl) (hL0 := rfl)  (p_AL_isEmpty F c3_ ?_)
  show xwp G m_B_digest (d + 11) 81 [xR 0, xL s0, xZ, xZ] [xI (b2i (decide (als h (xpl h 0 6) = 0))), xL s0] _ _ _
  refine xr_if_eq (pc := 81) (tgt := 88) (hI := d_B_digest_81) (ht := by decide) (fun q9 => ?_) (fun q9 => ?_)
  · replace hyp := hyp.2 (b2i_0.mp q9)
    have q4_ := b2i_0.mp q9
    clear q9
    refine xr_lconst (pc := 88) (z := 1) (hI := d_B_digest_88) (hr := by decide) (hv := by decide) ?_
    exact xr_drop (L9 := [xR 0, xZ, xZ, xZ]) (xdrs (xdrz (xdrs (xdrs xdr0)))) hyp
  · replace hyp := hyp.1 (b2i_1.mp q9)
    have q4_ := b2i_1.mp q9
    clear q9
    refine xr_lconst (pc := 84) (z := 0) (hI := d_B_digest_84) (hr := by decide) (hv := by decide) ?_
    refine xr_goto (pc := 85) (tgt := 89) (hI := d_B_digest_85) (ht := by decide) ?_
    exact xr_drop (L9 := [xR 0, xZ, xZ, xZ]) (xdrs (xdrz (xdrs (xdrs xdr0)))) hyp
theorem d_B_digest_89 : decode prog_1_method_38_code 89 = .ok (.invokestatic 294, 3) := by decide +kernel
theorem d_B_digest_92 : decode prog_1_method_38_code 92 = .ok (.lstore_n 1, 1) := by decide +kernel
theorem d_B_digest_93 : decode prog_1_method_38_code 93 = .ok (.aload_n 0, 1) := by decide +kernel
theorem d_B_digest_94 : decode prog_1_method_38_code 94 = .ok (.getfield 51, 3) := by decide +kernel
theorem d_B_digest_97 : decode prog_1_method_38_code 97 = .ok (.invokevirtual 315, 3) := by decide +kernel
theorem d_B_digest_100 : decode prog_1_method_38_code 100 = .ok (.ifCond .eq 7, 3) := by decide +kernel
theorem d_B_digest_107 : decode prog_1_method_38_code 107 = .ok (.aload_n 0, 1) := by decide +kernel
theorem d_B_digest_108 : decode prog_1_method_38_code 108 = .ok (.lload_n 1, 1) := by decide +kernel
theorem d_B_digest_109 : decode prog_1_method_38_code 109 = .ok (.invokevirtual 319, 3) := by decide +kernel
abbrev m_B_stirQuestion : XM := (⟨"BeaconIndex", "stirQuestion", "(J)J"⟩, prog_1_method_42_code, 7, (some .long), [])
theorem k_B_stirQuestion : xCal m_B_stirQuestion 1 := ⟨List.mem_append_right _ (List.mem_of_getElem? (i := 1233) (by decide +kernel)), w_1, Nat.le_of_ble_eq_true rfl, ⟨by decide +kernel, by decide +kernel⟩, by decide +kernel, by decide +kernel, rfl⟩
theorem w_1230 : Cond.methodLink "BeaconIndex" 319 ⟨"BeaconIndex", "stirQuestion", "(J)J"⟩ ∈ lw_tbl := List.mem_append_right _ (List.mem_of_getElem? (i := 1230) (by decide +kernel))
theorem w_1232 : Cond.instanceMethod ⟨"BeaconIndex", "stirQuestion", "(J)J"⟩ ∈ lw_tbl := List.mem_append_right _ (List.mem_of_getElem? (i := 1232) (by decide +kernel))
theorem sel_B_stirQuestion : Cond.selects "BeaconIndex" ⟨"BeaconIndex", "stirQuestion", "(J)J"⟩ ⟨"BeaconIndex", "stirQuestion", "(J)J"⟩ ∈ lw_tbl := List.mem_append_left _ (by decide +kernel)
theorem d_B_digest_103 : decode prog_1_method_38_code 103 = .ok (.lload_n 1, 1) := by decide +kernel
theorem d_B_digest_104 : decode prog_1_method_38_code 104 = .ok (.goto 8, 3) := by decide +kernel
theorem v_B_digest_89 {G : XG} {d : Nat} {h : XH} {Q : XV → XH → Prop} {X : Nat → XH → Prop} {s0 s1 : Int} (F : xFix h) (hyp : xtg h (xpl h 0 6) = 13 ∧ alok h (xpl h 0 6) ∧ ((((decide (als h (xpl h 0 6) = 0)) = true) → (xwp G m_B_digest (d + 11) 112 [xZ, xZ, xZ, xZ] [xL (xw64 ((xw64 (s1 * 31)) + s0))] h Q X)) ∧ (¬ ((decide (als h (xpl h 0 6) = 0)) = true) → (xwp G m_B_stirQuestion (d + 10) 0 [xR 0, xL (xw64 ((xw64 (s1 * 31)) + s0)), xZ, xZ, xZ, xZ, xZ] [] h (fun v9 h9 => xwp G m_B_digest (d + 11) 112 [xZ, xZ, xZ, xZ] (xpush v9 []) h9 Q X) X)))) : xwp G m_B_digest (d + 11) 89 [xR 0, xZ, xZ, xZ] [xL s0, xL s1] h Q X := by
  have hnx9 : (93 : Int) ≤ xnx h := F.2.2
  refine xr_okS (fun hs9 => ?_)
  have r_s0 : -9223372036854775808 ≤ s0 ∧ s0 ≤ 9223372036854775807 := hs9 (xL s0) (.head _)
  have r_s1 : -9223372036854775808 ≤ s1 ∧ s1 ≤ 9223372036854775807 := hs9 (xL s1) (.tail _ (.head _))
  refine xq_callS (pc := 89) (index := 294) (K := m_B_stir) (As := [xL s1, xL s0]) (S := []) (L0 := [xL s1, xZ, xL s0, xZ]) (hI := d_B_digest_89) (hK := k_B_stir) (hlk := w_1082) (hnoM := rfl) (hS8 := Nat.le_of_ble_eq_true rfl) (hstat := w_1083) (hlen := Nat.le_of_ble_eq_true rfl) (hst := rfl) (hL0 := rfl)  ?_
  refine xr_lload_n (pc := 0) (i := 0) (hI := d_B_stir_0) (hi := rfl) (hl := rfl) ?_
  refine xr_ldc2 (pc := 1) (z := 31) (hI := d_B_stir_1) (hw := w_1085) (hr := by decide) (hv := by decide) ?_
  refine xr_lmul (pc := 4) (hI := d_B_stir_4) ?_
  refine xr_lload_n (pc := 5) (i := 2) (hI := d_B_stir_5) (hi := rfl) (hl := rfl) ?_
  refine xr_ladd (pc := 6) (hI := d_B_stir_6) ?_
  refine xr_lreturn (S := []) (pc := 7) (hI := d_B_stir_7) (hr := rfl) ?_
  show xwp G m_B_digest (d + 11) 92 [xR 0, xZ, xZ, xZ] [xL (xw64 ((xw64 (s1 * 31)) + s0))] _ _ _
  refine xr_lstore_n (pc := 92) (i := 1) (L9 := [xR 0, xL (xw64 ((xw64 (s1 * 31)) + s0)), xZ, xZ]) (hI := d_B_digest_92) (hi := rfl) (hn := Nat.le_of_ble_eq_true rfl) (hL9 := rfl) ?_
  refine xr_aload_n (pc := 93) (i := 0) (hI := d_B_digest_93) (hi := rfl) (hl := rfl) ?_
  refine xg_getf (pc := 94) (ci := 0) (k := 6) (N := 7) (v9 := 2) (v := (xpl h 0 6)) (T := xF0) (hI := d_B_digest_94) (hw := w_436) rfl xi0 (Or.inl rfl) (Nat.le_of_ble_eq_true rfl) (Nat.le_of_ble_eq_true rfl) rfl (ft_0 F) rfl (fun f1_ => ?_)
  clear f1_
  obtain ⟨c9, hyp⟩ := hyp
  have t2_ := c9
  clear c9
  obtain ⟨c3_, hyp⟩ := hyp
  refine xq_callV (pc := 97) (index := 315) (K := m_ArrayList_isEmpty) (As := []) (S := []) (L0 := [xR (xpl h 0 6)]) (hI := d_B_digest_97) (hK := k_ArrayList_isEmpty) (hlk := w_1229) (hnoM := rfl) (hS8 := Nat.le_of_ble_eq_true rfl) (ci := 13) (N := 3) (C := "java/util/ArrayList") (T := xF13) (hc := rfl) (hci := Nat.le_of_ble_eq_true rfl) (htb := t2_) (hinst := w_461) (hsel := w_462) (hlen := Nat.le_of_ble_eq_true rfl) (hst := rfl) (hL0 := rfl)  (p_AL_isEmpty F c3_ ?_)
  show xwp G m_B_digest (d + 11) 100 [xR 0, xL (xw64 ((xw64 (s1 * 31)) + s0)), xZ, xZ] [xI (b2i (decide (als h (xpl h 0 6) = 0)))] _ _ _
  refine xr_if_eq (pc := 100) (tgt := 107) (hI := d_B_digest_100) (ht := by decide) (fun q9 => ?_) (fun q9 => ?_)
  · replace hyp := hyp.2 (b2i_0.mp q9)
    have q4_ := b2i_0.mp q9
    clear q9
    refine xr_aload_n (pc := 107) (i := 0) (hI := d_B_digest_107) (hi := rfl) (hl := rfl) ?_
    refine xr_lload_n (pc := 108) (i := 1) (hI := d_B_digest_108) (hi := rfl) (hl := rfl) ?_
    exact xq_callV (pc := 109) (index := 319) (K := m_B_stirQuestion) (As := [xL (xw64 ((xw64 (s1 * 31)) + s0))]) (S := []) (L0 := [xR 0, xL (xw64 ((xw64 (s1 * 31)) + s0)), xZ, xZ, xZ, xZ, xZ]) (hI := d_B_digest_109) (hK := k_B_stirQuestion) (hlk := w_1230) (hnoM := rfl) (hS8 := Nat.le_of_ble_eq_true rfl) (ci := 0) (N := 7) (C := "BeaconIndex") (T := xF0) (hc := rfl) (hci := Nat.le_of_ble_eq_true rfl) (htb := (ft_0 F)) (hinst := w_1232) (hsel := sel_B_stirQuestion) (hlen := Nat.le_of_ble_eq_true rfl) (hst := rfl) (hL0 := rfl)  (xwp_mono hyp (fun v9 h9 q9 => xr_drop (L9 := [xZ, xZ, xZ, xZ]) (xdrz (xdrz (xdrs (xdrs xdr0)))) q9) (fun _ _ z9 => z9))
  · replace hyp := hyp.1 (b2i_1.mp q9)
    have q4_ := b2i_1.mp q9
    clear q9
    refine xr_lload_n (pc := 103) (i := 1) (hI := d_B_digest_103) (hi := rfl) (hl := rfl) ?_
    refine xr_goto (pc := 104) (tgt := 112) (hI := d_B_digest_104) (ht := by decide) ?_
    exact xr_drop (L9 := [xZ, xZ, xZ, xZ]) (xdrz (xdrz (xdrs (xdrs xdr0)))) hyp
theorem d_B_digest_112 : decode prog_1_method_38_code 112 = .ok (.lreturn, 1) := by decide +kernel
theorem v_B_digest_112 {G : XG} {d : Nat} {h : XH} {Q : XV → XH → Prop} {X : Nat → XH → Prop} {s0 : Int} (F : xFix h) (hyp : (Q (xL s0) h)) : xwp G m_B_digest (d + 11) 112 [xZ, xZ, xZ, xZ] [xL s0] h Q X := by
  have hnx9 : (93 : Int) ≤ xnx h := F.2.2
  refine xr_okS (fun hs9 => ?_)
  have r_s0 : -9223372036854775808 ≤ s0 ∧ s0 ≤ 9223372036854775807 := hs9 (xL s0) (.head _)
  refine xr_lreturn (S := []) (pc := 112) (hI := d_B_digest_112) (hr := rfl) ?_
  exact hyp
theorem d_B_stirSegment_0 : decode prog_1_method_40_code 0 = .ok (.lload_n 1, 1) := by decide +kernel
theorem d_B_stirSegment_1 : decode prog_1_method_40_code 1 = .ok (.lstore 4, 2) := by decide +kernel
theorem d_B_stirSegment_3 : decode prog_1_method_40_code 3 = .ok (.lload 4, 2) := by decide +kernel
theorem d_B_stirSegment_5 : decode prog_1_method_40_code 5 = .ok (.aload_n 0, 1) := by decide +kernel
theorem d_B_stirSegment_6 : decode prog_1_method_40_code 6 = .ok (.iload_n 3, 1) := by decide +kernel
theorem d_B_stirSegment_7 : decode prog_1_method_40_code 7 = .ok (.invokevirtual 324, 3) := by decide +kernel
theorem k_B_textsIn : xCal m_B_textsIn 1 := ⟨List.mem_append_right _ (List.mem_of_getElem? (i := 1096) (by decide +kernel)), w_1, Nat.le_of_ble_eq_true rfl, ⟨by decide +kernel, by decide +kernel⟩, by decide +kernel, by decide +kernel, rfl⟩
theorem w_1093 : Cond.methodLink "BeaconIndex" 324 ⟨"BeaconIndex", "textsIn", "(I)I"⟩ ∈ lw_tbl := List.mem_append_right _ (List.mem_of_getElem? (i := 1093) (by decide +kernel))
theorem w_1094 : Cond.instanceMethod ⟨"BeaconIndex", "textsIn", "(I)I"⟩ ∈ lw_tbl := List.mem_append_right _ (List.mem_of_getElem? (i := 1094) (by decide +kernel))
theorem w_1095 : Cond.selects "BeaconIndex" ⟨"BeaconIndex", "textsIn", "(I)I"⟩ ⟨"BeaconIndex", "textsIn", "(I)I"⟩ ∈ lw_tbl := List.mem_append_right _ (List.mem_of_getElem? (i := 1095) (by decide +kernel))
theorem v_B_stirSegment_0 {G : XG} {d : Nat} {h : XH} {Q : XV → XH → Prop} {X : Nat → XH → Prop} {x1 x3 : Int} (F : xFix h) (hyp : (xwp G m_B_textsIn (d + 9) 0 [xR 0, xI x3] [] h (fun v9 h9 => xwp G m_B_stirSegment (d + 10) 10 [xR 0, xZ, xZ, xI x3, xZ, xZ, xZ] (xpush v9 [xL x1]) h9 Q X) X)) : xwp G m_B_stirSegment (d + 10) 0 [xR 0, xL x1, xZ, xI x3, xZ, xZ, xZ] [] h Q X := by
  have hnx9 : (93 : Int) ≤ xnx h := F.2.2
  refine xr_okL (fun hl9 => ?_)
  have r_x1 : -9223372036854775808 ≤ x1 ∧ x1 ≤ 9223372036854775807 := hl9 (xL x1) (.tail _ (.head _)) (Nat.le_of_ble_eq_true rfl)
  have r_x3 : -2147483648 ≤ x3 ∧ x3 ≤ 2147483647 := hl9 (xI x3) (.tail _ (.tail _ (.tail _ (.head _)))) (Nat.le_of_ble_eq_true rfl)
  refine xr_lload_n (pc := 0) (i := 1) (hI := d_B_stirSegment_0) (hi := rfl) (hl := rfl) ?_
  refine xr_lstore (pc := 1) (i := 4) (L9 := [xR 0, xL x1, xZ, xI x3, xL x1, xZ, xZ]) (hI := d_B_stirSegment_1) (hn := Nat.le_of_ble_eq_true rfl) (hL9 := rfl) ?_
  refine xr_lload (pc := 3) (i := 4) (hI := d_B_stirSegment_3) (hl := rfl) ?_
  refine xr_aload_n (pc := 5) (i := 0) (hI := d_B_stirSegment_5) (hi := rfl) (hl := rfl) ?_
  refine xr_iload_n (pc := 6) (i := 3) (hI := d_B_stirSegment_6) (hi := rfl) (hl := rfl) ?_
  exact xq_callV (pc := 7) (index := 324) (K := m_B_textsIn) (As := [xI x3]) (S := [xL x1]) (L0 := [xR 0, xI x3]) (hI := d_B_stirSegment_7) (hK := k_B_textsIn) (hlk := w_1093) (hnoM := rfl) (hS8 := Nat.le_of_ble_eq_true rfl) (ci := 0) (N := 7) (C := "BeaconIndex") (T := xF0) (hc := rfl) (hci := Nat.le_of_ble_eq_true rfl) (htb := (ft_0 F)) (hinst := w_1094) (hsel := w_1095) (hlen := Nat.le_of_ble_eq_true rfl) (hst := rfl) (hL0 := rfl)  (xwp_mono hyp (fun v9 h9 q9 => xr_drop (L9 := [xR 0, xZ, xZ, xI x3, xZ, xZ, xZ]) (xdrs (xdrz (xdrs (xdrs (xdrz (xdrs (xdrs xdr0))))))) q9) (fun _ _ z9 => z9))
theorem d_B_stirSegment_10 : decode prog_1_method_40_code 10 = .ok (.i2l, 1) := by decide +kernel
theorem d_B_stirSegment_11 : decode prog_1_method_40_code 11 = .ok (.invokestatic 294, 3) := by decide +kernel
theorem d_B_stirSegment_14 : decode prog_1_method_40_code 14 = .ok (.lstore 4, 2) := by decide +kernel
theorem d_B_stirSegment_16 : decode prog_1_method_40_code 16 = .ok (.lload 4, 2) := by decide +kernel
theorem d_B_stirSegment_18 : decode prog_1_method_40_code 18 = .ok (.aload_n 0, 1) := by decide +kernel
theorem d_B_stirSegment_19 : decode prog_1_method_40_code 19 = .ok (.iload_n 3, 1) := by decide +kernel
theorem d_B_stirSegment_20 : decode prog_1_method_40_code 20 = .ok (.invokevirtual 327, 3) := by decide +kernel
theorem k_B_markedIn : xCal m_B_markedIn 1 := ⟨List.mem_append_right _ (List.mem_of_getElem? (i := 1170) (by decide +kernel)), w_1, Nat.le_of_ble_eq_true rfl, ⟨by decide +kernel, by decide +kernel⟩, by decide +kernel, by decide +kernel, rfl⟩
theorem w_1167 : Cond.methodLink "BeaconIndex" 327 ⟨"BeaconIndex", "markedIn", "(I)I"⟩ ∈ lw_tbl := List.mem_append_right _ (List.mem_of_getElem? (i := 1167) (by decide +kernel))
theorem w_1168 : Cond.instanceMethod ⟨"BeaconIndex", "markedIn", "(I)I"⟩ ∈ lw_tbl := List.mem_append_right _ (List.mem_of_getElem? (i := 1168) (by decide +kernel))
theorem w_1169 : Cond.selects "BeaconIndex" ⟨"BeaconIndex", "markedIn", "(I)I"⟩ ⟨"BeaconIndex", "markedIn", "(I)I"⟩ ∈ lw_tbl := List.mem_append_right _ (List.mem_of_getElem? (i := 1169) (by decide +kernel))
theorem v_B_stirSegment_10 {G : XG} {d : Nat} {h : XH} {Q : XV → XH → Prop} {X : Nat → XH → Prop} {x3 s0 s1 : Int} (F : xFix h) (hyp : (xwp G m_B_markedIn (d + 9) 0 [xR 0, xI x3] [] h (fun v9 h9 => xwp G m_B_stirSegment (d + 10) 23 [xR 0, xZ, xZ, xI x3, xZ, xZ, xZ] (xpush v9 [xL (xw64 ((xw64 (s1 * 31)) + s0))]) h9 Q X) X)) : xwp G m_B_stirSegment (d + 10) 10 [xR 0, xZ, xZ, xI x3, xZ, xZ, xZ] [xI s0, xL s1] h Q X := by
  have hnx9 : (93 : Int) ≤ xnx h := F.2.2
  refine xr_okL (fun hl9 => ?_)
  have r_x3 : -2147483648 ≤ x3 ∧ x3 ≤ 2147483647 := hl9 (xI x3) (.tail _ (.tail _ (.tail _ (.head _)))) (Nat.le_of_ble_eq_true rfl)
  refine xr_okS (fun hs9 => ?_)
  have r_s0 : -2147483648 ≤ s0 ∧ s0 ≤ 2147483647 := hs9 (xI s0) (.head _)
  have r_s1 : -9223372036854775808 ≤ s1 ∧ s1 ≤ 9223372036854775807 := hs9 (xL s1) (.tail _ (.head _))
  refine xr_i2l (pc := 10) (hI := d_B_stirSegment_10) ?_
  refine xq_callS (pc := 11) (index := 294) (K := m_B_stir) (As := [xL s1, xL s0]) (S := []) (L0 := [xL s1, xZ, xL s0, xZ]) (hI := d_B_stirSegment_11) (hK := k_B_stir) (hlk := w_1082) (hnoM := rfl) (hS8 := Nat.le_of_ble_eq_true rfl) (hstat := w_1083) (hlen := Nat.le_of_ble_eq_true rfl) (hst := rfl) (hL0 := rfl)  ?_
  refine xr_lload_n (pc := 0) (i := 0) (hI := d_B_stir_0) (hi := rfl) (hl := rfl) ?_
  refine xr_ldc2 (pc := 1) (z := 31) (hI := d_B_stir_1) (hw := w_1085) (hr := by decide) (hv := by decide) ?_
  refine xr_lmul (pc := 4) (hI := d_B_stir_4) ?_
  refine xr_lload_n (pc := 5) (i := 2) (hI := d_B_stir_5) (hi := rfl) (hl := rfl) ?_
  refine xr_ladd (pc := 6) (hI := d_B_stir_6) ?_
  refine xr_lreturn (S := []) (pc := 7) (hI := d_B_stir_7) (hr := rfl) ?_
  show xwp G m_B_stirSegment (d + 10) 14 [xR 0, xZ, xZ, xI x3, xZ, xZ, xZ] [xL (xw64 ((xw64 (s1 * 31)) + s0))] _ _ _
  refine xr_lstore (pc := 14) (i := 4) (L9 := [xR 0, xZ, xZ, xI x3, xL (xw64 ((xw64 (s1 * 31)) + s0)), xZ, xZ]) (hI := d_B_stirSegment_14) (hn := Nat.le_of_ble_eq_true rfl) (hL9 := rfl) ?_
  refine xr_lload (pc := 16) (i := 4) (hI := d_B_stirSegment_16) (hl := rfl) ?_
  refine xr_aload_n (pc := 18) (i := 0) (hI := d_B_stirSegment_18) (hi := rfl) (hl := rfl) ?_
  refine xr_iload_n (pc := 19) (i := 3) (hI := d_B_stirSegment_19) (hi := rfl) (hl := rfl) ?_
  exact xq_callV (pc := 20) (index := 327) (K := m_B_markedIn) (As := [xI x3]) (S := [xL (xw64 ((xw64 (s1 * 31)) + s0))]) (L0 := [xR 0, xI x3]) (hI := d_B_stirSegment_20) (hK := k_B_markedIn) (hlk := w_1167) (hnoM := rfl) (hS8 := Nat.le_of_ble_eq_true rfl) (ci := 0) (N := 7) (C := "BeaconIndex") (T := xF0) (hc := rfl) (hci := Nat.le_of_ble_eq_true rfl) (htb := (ft_0 F)) (hinst := w_1168) (hsel := w_1169) (hlen := Nat.le_of_ble_eq_true rfl) (hst := rfl) (hL0 := rfl)  (xwp_mono hyp (fun v9 h9 q9 => xr_drop (L9 := [xR 0, xZ, xZ, xI x3, xZ, xZ, xZ]) (xdrs (xdrs (xdrs (xdrs (xdrz (xdrs (xdrs xdr0))))))) q9) (fun _ _ z9 => z9))
theorem d_B_stirSegment_23 : decode prog_1_method_40_code 23 = .ok (.i2l, 1) := by decide +kernel
theorem d_B_stirSegment_24 : decode prog_1_method_40_code 24 = .ok (.invokestatic 294, 3) := by decide +kernel
theorem d_B_stirSegment_27 : decode prog_1_method_40_code 27 = .ok (.lstore 4, 2) := by decide +kernel
theorem d_B_stirSegment_29 : decode prog_1_method_40_code 29 = .ok (.lload 4, 2) := by decide +kernel
theorem d_B_stirSegment_31 : decode prog_1_method_40_code 31 = .ok (.aload_n 0, 1) := by decide +kernel
theorem d_B_stirSegment_32 : decode prog_1_method_40_code 32 = .ok (.iload_n 3, 1) := by decide +kernel
theorem d_B_stirSegment_33 : decode prog_1_method_40_code 33 = .ok (.invokevirtual 330, 3) := by decide +kernel
theorem k_B_levelOf : xCal m_B_levelOf 1 := ⟨List.mem_append_right _ (List.mem_of_getElem? (i := 1175) (by decide +kernel)), w_1, Nat.le_of_ble_eq_true rfl, ⟨by decide +kernel, by decide +kernel⟩, by decide +kernel, by decide +kernel, rfl⟩
theorem w_1172 : Cond.methodLink "BeaconIndex" 330 ⟨"BeaconIndex", "levelOf", "(I)I"⟩ ∈ lw_tbl := List.mem_append_right _ (List.mem_of_getElem? (i := 1172) (by decide +kernel))
theorem w_1173 : Cond.instanceMethod ⟨"BeaconIndex", "levelOf", "(I)I"⟩ ∈ lw_tbl := List.mem_append_right _ (List.mem_of_getElem? (i := 1173) (by decide +kernel))
theorem w_1174 : Cond.selects "BeaconIndex" ⟨"BeaconIndex", "levelOf", "(I)I"⟩ ⟨"BeaconIndex", "levelOf", "(I)I"⟩ ∈ lw_tbl := List.mem_append_right _ (List.mem_of_getElem? (i := 1174) (by decide +kernel))
theorem v_B_stirSegment_23 {G : XG} {d : Nat} {h : XH} {Q : XV → XH → Prop} {X : Nat → XH → Prop} {x3 s0 s1 : Int} (F : xFix h) (hyp : (xwp G m_B_levelOf (d + 9) 0 [xR 0, xI x3] [] h (fun v9 h9 => xwp G m_B_stirSegment (d + 10) 36 [xR 0, xZ, xZ, xI x3, xZ, xZ, xZ] (xpush v9 [xL (xw64 ((xw64 (s1 * 31)) + s0))]) h9 Q X) X)) : xwp G m_B_stirSegment (d + 10) 23 [xR 0, xZ, xZ, xI x3, xZ, xZ, xZ] [xI s0, xL s1] h Q X := by
  have hnx9 : (93 : Int) ≤ xnx h := F.2.2
  refine xr_okL (fun hl9 => ?_)
  have r_x3 : -2147483648 ≤ x3 ∧ x3 ≤ 2147483647 := hl9 (xI x3) (.tail _ (.tail _ (.tail _ (.head _)))) (Nat.le_of_ble_eq_true rfl)
  refine xr_okS (fun hs9 => ?_)
  have r_s0 : -2147483648 ≤ s0 ∧ s0 ≤ 2147483647 := hs9 (xI s0) (.head _)
  have r_s1 : -9223372036854775808 ≤ s1 ∧ s1 ≤ 9223372036854775807 := hs9 (xL s1) (.tail _ (.head _))
  refine xr_i2l (pc := 23) (hI := d_B_stirSegment_23) ?_
  refine xq_callS (pc := 24) (index := 294) (K := m_B_stir) (As := [xL s1, xL s0]) (S := []) (L0 := [xL s1, xZ, xL s0, xZ]) (hI := d_B_stirSegment_24) (hK := k_B_stir) (hlk := w_1082) (hnoM := rfl) (hS8 := Nat.le_of_ble_eq_true rfl) (hstat := w_1083) (hlen := Nat.le_of_ble_eq_true rfl) (hst := rfl) (hL0 := rfl)  ?_
  refine xr_lload_n (pc := 0) (i := 0) (hI := d_B_stir_0) (hi := rfl) (hl := rfl) ?_
  refine xr_ldc2 (pc := 1) (z := 31) (hI := d_B_stir_1) (hw := w_1085) (hr := by decide) (hv := by decide) ?_
  refine xr_lmul (pc := 4) (hI := d_B_stir_4) ?_
  refine xr_lload_n (pc := 5) (i := 2) (hI := d_B_stir_5) (hi := rfl) (hl := rfl) ?_
  refine xr_ladd (pc := 6) (hI := d_B_stir_6) ?_
  refine xr_lreturn (S := []) (pc := 7) (hI := d_B_stir_7) (hr := rfl) ?_
  show xwp G m_B_stirSegment (d + 10) 27 [xR 0, xZ, xZ, xI x3, xZ, xZ, xZ] [xL (xw64 ((xw64 (s1 * 31)) + s0))] _ _ _
  refine xr_lstore (pc := 27) (i := 4) (L9 := [xR 0, xZ, xZ, xI x3, xL (xw64 ((xw64 (s1 * 31)) + s0)), xZ, xZ]) (hI := d_B_stirSegment_27) (hn := Nat.le_of_ble_eq_true rfl) (hL9 := rfl) ?_
  refine xr_lload (pc := 29) (i := 4) (hI := d_B_stirSegment_29) (hl := rfl) ?_
  refine xr_aload_n (pc := 31) (i := 0) (hI := d_B_stirSegment_31) (hi := rfl) (hl := rfl) ?_
  refine xr_iload_n (pc := 32) (i := 3) (hI := d_B_stirSegment_32) (hi := rfl) (hl := rfl) ?_
  exact xq_callV (pc := 33) (index := 330) (K := m_B_levelOf) (As := [xI x3]) (S := [xL (xw64 ((xw64 (s1 * 31)) + s0))]) (L0 := [xR 0, xI x3]) (hI := d_B_stirSegment_33) (hK := k_B_levelOf) (hlk := w_1172) (hnoM := rfl) (hS8 := Nat.le_of_ble_eq_true rfl) (ci := 0) (N := 7) (C := "BeaconIndex") (T := xF0) (hc := rfl) (hci := Nat.le_of_ble_eq_true rfl) (htb := (ft_0 F)) (hinst := w_1173) (hsel := w_1174) (hlen := Nat.le_of_ble_eq_true rfl) (hst := rfl) (hL0 := rfl)  (xwp_mono hyp (fun v9 h9 q9 => xr_drop (L9 := [xR 0, xZ, xZ, xI x3, xZ, xZ, xZ]) (xdrs (xdrs (xdrs (xdrs (xdrz (xdrs (xdrs xdr0))))))) q9) (fun _ _ z9 => z9))
theorem d_B_stirSegment_36 : decode prog_1_method_40_code 36 = .ok (.i2l, 1) := by decide +kernel
theorem d_B_stirSegment_37 : decode prog_1_method_40_code 37 = .ok (.invokestatic 294, 3) := by decide +kernel
theorem d_B_stirSegment_40 : decode prog_1_method_40_code 40 = .ok (.lstore 4, 2) := by decide +kernel
theorem d_B_stirSegment_42 : decode prog_1_method_40_code 42 = .ok (.lload 4, 2) := by decide +kernel
theorem d_B_stirSegment_44 : decode prog_1_method_40_code 44 = .ok (.aload_n 0, 1) := by decide +kernel
theorem d_B_stirSegment_45 : decode prog_1_method_40_code 45 = .ok (.iload_n 3, 1) := by decide +kernel
theorem d_B_stirSegment_46 : decode prog_1_method_40_code 46 = .ok (.iconst 0, 1) := by decide +kernel
theorem d_B_stirSegment_47 : decode prog_1_method_40_code 47 = .ok (.invokevirtual 333, 3) := by decide +kernel
theorem k_B_wordsIn : xCal m_B_wordsIn 2 := ⟨List.mem_append_right _ (List.mem_of_getElem? (i := 1180) (by decide +kernel)), w_1, Nat.le_of_ble_eq_true rfl, ⟨by decide +kernel, by decide +kernel⟩, by decide +kernel, by decide +kernel, rfl⟩
theorem w_1177 : Cond.methodLink "BeaconIndex" 333 ⟨"BeaconIndex", "wordsIn", "(II)I"⟩ ∈ lw_tbl := List.mem_append_right _ (List.mem_of_getElem? (i := 1177) (by decide +kernel))
theorem w_1178 : Cond.instanceMethod ⟨"BeaconIndex", "wordsIn", "(II)I"⟩ ∈ lw_tbl := List.mem_append_right _ (List.mem_of_getElem? (i := 1178) (by decide +kernel))
theorem w_1179 : Cond.selects "BeaconIndex" ⟨"BeaconIndex", "wordsIn", "(II)I"⟩ ⟨"BeaconIndex", "wordsIn", "(II)I"⟩ ∈ lw_tbl := List.mem_append_right _ (List.mem_of_getElem? (i := 1179) (by decide +kernel))
theorem v_B_stirSegment_36 {G : XG} {d : Nat} {h : XH} {Q : XV → XH → Prop} {X : Nat → XH → Prop} {x3 s0 s1 : Int} (F : xFix h) (hyp : (xwp G m_B_wordsIn (d + 9) 0 [xR 0, xI x3, xI 0, xZ, xZ] [] h (fun v9 h9 => xwp G m_B_stirSegment (d + 10) 50 [xR 0, xZ, xZ, xI x3, xZ, xZ, xZ] (xpush v9 [xL (xw64 ((xw64 (s1 * 31)) + s0))]) h9 Q X) X)) : xwp G m_B_stirSegment (d + 10) 36 [xR 0, xZ, xZ, xI x3, xZ, xZ, xZ] [xI s0, xL s1] h Q X := by
  have hnx9 : (93 : Int) ≤ xnx h := F.2.2
  refine xr_okL (fun hl9 => ?_)
  have r_x3 : -2147483648 ≤ x3 ∧ x3 ≤ 2147483647 := hl9 (xI x3) (.tail _ (.tail _ (.tail _ (.head _)))) (Nat.le_of_ble_eq_true rfl)
  refine xr_okS (fun hs9 => ?_)
  have r_s0 : -2147483648 ≤ s0 ∧ s0 ≤ 2147483647 := hs9 (xI s0) (.head _)
  have r_s1 : -9223372036854775808 ≤ s1 ∧ s1 ≤ 9223372036854775807 := hs9 (xL s1) (.tail _ (.head _))
  refine xr_i2l (pc := 36) (hI := d_B_stirSegment_36) ?_
  refine xq_callS (pc := 37) (index := 294) (K := m_B_stir) (As := [xL s1, xL s0]) (S := []) (L0 := [xL s1, xZ, xL s0, xZ]) (hI := d_B_stirSegment_37) (hK := k_B_stir) (hlk := w_1082) (hnoM := rfl) (hS8 := Nat.le_of_ble_eq_true rfl) (hstat := w_1083) (hlen := Nat.le_of_ble_eq_true rfl) (hst := rfl) (hL0 := rfl)  ?_
  refine xr_lload_n (pc := 0) (i := 0) (hI := d_B_stir_0) (hi := rfl) (hl := rfl) ?_
  refine xr_ldc2 (pc := 1) (z := 31) (hI := d_B_stir_1) (hw := w_1085) (hr := by decide) (hv := by decide) ?_
  refine xr_lmul (pc := 4) (hI := d_B_stir_4) ?_
  refine xr_lload_n (pc := 5) (i := 2) (hI := d_B_stir_5) (hi := rfl) (hl := rfl) ?_
  refine xr_ladd (pc := 6) (hI := d_B_stir_6) ?_
  refine xr_lreturn (S := []) (pc := 7) (hI := d_B_stir_7) (hr := rfl) ?_
  show xwp G m_B_stirSegment (d + 10) 40 [xR 0, xZ, xZ, xI x3, xZ, xZ, xZ] [xL (xw64 ((xw64 (s1 * 31)) + s0))] _ _ _
  refine xr_lstore (pc := 40) (i := 4) (L9 := [xR 0, xZ, xZ, xI x3, xL (xw64 ((xw64 (s1 * 31)) + s0)), xZ, xZ]) (hI := d_B_stirSegment_40) (hn := Nat.le_of_ble_eq_true rfl) (hL9 := rfl) ?_
  refine xr_lload (pc := 42) (i := 4) (hI := d_B_stirSegment_42) (hl := rfl) ?_
  refine xr_aload_n (pc := 44) (i := 0) (hI := d_B_stirSegment_44) (hi := rfl) (hl := rfl) ?_
  refine xr_iload_n (pc := 45) (i := 3) (hI := d_B_stirSegment_45) (hi := rfl) (hl := rfl) ?_
  refine xr_iconst (pc := 46) (hI := d_B_stirSegment_46) (hr := by decide) ?_
  exact xq_callV (pc := 47) (index := 333) (K := m_B_wordsIn) (As := [xI x3, xI 0]) (S := [xL (xw64 ((xw64 (s1 * 31)) + s0))]) (L0 := [xR 0, xI x3, xI 0, xZ, xZ]) (hI := d_B_stirSegment_47) (hK := k_B_wordsIn) (hlk := w_1177) (hnoM := rfl) (hS8 := Nat.le_of_ble_eq_true rfl) (ci := 0) (N := 7) (C := "BeaconIndex") (T := xF0) (hc := rfl) (hci := Nat.le_of_ble_eq_true rfl) (htb := (ft_0 F)) (hinst := w_1178) (hsel := w_1179) (hlen := Nat.le_of_ble_eq_true rfl) (hst := rfl) (hL0 := rfl)  (xwp_mono hyp (fun v9 h9 q9 => xr_drop (L9 := [xR 0, xZ, xZ, xI x3, xZ, xZ, xZ]) (xdrs (xdrs (xdrs (xdrs (xdrz (xdrs (xdrs xdr0))))))) q9) (fun _ _ z9 => z9))
theorem d_B_stirSegment_50 : decode prog_1_method_40_code 50 = .ok (.i2l, 1) := by decide +kernel
theorem d_B_stirSegment_51 : decode prog_1_method_40_code 51 = .ok (.invokestatic 294, 3) := by decide +kernel
theorem d_B_stirSegment_54 : decode prog_1_method_40_code 54 = .ok (.lstore 4, 2) := by decide +kernel
theorem d_B_stirSegment_56 : decode prog_1_method_40_code 56 = .ok (.lload 4, 2) := by decide +kernel
theorem d_B_stirSegment_58 : decode prog_1_method_40_code 58 = .ok (.aload_n 0, 1) := by decide +kernel
theorem d_B_stirSegment_59 : decode prog_1_method_40_code 59 = .ok (.iload_n 3, 1) := by decide +kernel
theorem d_B_stirSegment_60 : decode prog_1_method_40_code 60 = .ok (.iconst 1, 1) := by decide +kernel
theorem d_B_stirSegment_61 : decode prog_1_method_40_code 61 = .ok (.invokevirtual 333, 3) := by decide +kernel
theorem v_B_stirSegment_50 {G : XG} {d : Nat} {h : XH} {Q : XV → XH → Prop} {X : Nat → XH → Prop} {x3 s0 s1 : Int} (F : xFix h) (hyp : (xwp G m_B_wordsIn (d + 9) 0 [xR 0, xI x3, xI 1, xZ, xZ] [] h (fun v9 h9 => xwp G m_B_stirSegment (d + 10) 64 [xR 0, xZ, xZ, xI x3, xZ, xZ, xZ] (xpush v9 [xL (xw64 ((xw64 (s1 * 31)) + s0))]) h9 Q X) X)) : xwp G m_B_stirSegment (d + 10) 50 [xR 0, xZ, xZ, xI x3, xZ, xZ, xZ] [xI s0, xL s1] h Q X := by
  have hnx9 : (93 : Int) ≤ xnx h := F.2.2
  refine xr_okL (fun hl9 => ?_)
  have r_x3 : -2147483648 ≤ x3 ∧ x3 ≤ 2147483647 := hl9 (xI x3) (.tail _ (.tail _ (.tail _ (.head _)))) (Nat.le_of_ble_eq_true rfl)
  refine xr_okS (fun hs9 => ?_)
  have r_s0 : -2147483648 ≤ s0 ∧ s0 ≤ 2147483647 := hs9 (xI s0) (.head _)
  have r_s1 : -9223372036854775808 ≤ s1 ∧ s1 ≤ 9223372036854775807 := hs9 (xL s1) (.tail _ (.head _))
  refine xr_i2l (pc := 50) (hI := d_B_stirSegment_50) ?_
  refine xq_callS (pc := 51) (index := 294) (K := m_B_stir) (As := [xL s1, xL s0]) (S := []) (L0 := [xL s1, xZ, xL s0, xZ]) (hI := d_B_stirSegment_51) (hK := k_B_stir) (hlk := w_1082) (hnoM := rfl) (hS8 := Nat.le_of_ble_eq_true rfl) (hstat := w_1083) (hlen := Nat.le_of_ble_eq_true rfl) (hst := rfl) (hL0 := rfl)  ?_
  refine xr_lload_n (pc := 0) (i := 0) (hI := d_B_stir_0) (hi := rfl) (hl := rfl) ?_
  refine xr_ldc2 (pc := 1) (z := 31) (hI := d_B_stir_1) (hw := w_1085) (hr := by decide) (hv := by decide) ?_
  refine xr_lmul (pc := 4) (hI := d_B_stir_4) ?_
  refine xr_lload_n (pc := 5) (i := 2) (hI := d_B_stir_5) (hi := rfl) (hl := rfl) ?_
  refine xr_ladd (pc := 6) (hI := d_B_stir_6) ?_
  refine xr_lreturn (S := []) (pc := 7) (hI := d_B_stir_7) (hr := rfl) ?_
  show xwp G m_B_stirSegment (d + 10) 54 [xR 0, xZ, xZ, xI x3, xZ, xZ, xZ] [xL (xw64 ((xw64 (s1 * 31)) + s0))] _ _ _
  refine xr_lstore (pc := 54) (i := 4) (L9 := [xR 0, xZ, xZ, xI x3, xL (xw64 ((xw64 (s1 * 31)) + s0)), xZ, xZ]) (hI := d_B_stirSegment_54) (hn := Nat.le_of_ble_eq_true rfl) (hL9 := rfl) ?_
  refine xr_lload (pc := 56) (i := 4) (hI := d_B_stirSegment_56) (hl := rfl) ?_
  refine xr_aload_n (pc := 58) (i := 0) (hI := d_B_stirSegment_58) (hi := rfl) (hl := rfl) ?_
  refine xr_iload_n (pc := 59) (i := 3) (hI := d_B_stirSegment_59) (hi := rfl) (hl := rfl) ?_
  refine xr_iconst (pc := 60) (hI := d_B_stirSegment_60) (hr := by decide) ?_
  exact xq_callV (pc := 61) (index := 333) (K := m_B_wordsIn) (As := [xI x3, xI 1]) (S := [xL (xw64 ((xw64 (s1 * 31)) + s0))]) (L0 := [xR 0, xI x3, xI 1, xZ, xZ]) (hI := d_B_stirSegment_61) (hK := k_B_wordsIn) (hlk := w_1177) (hnoM := rfl) (hS8 := Nat.le_of_ble_eq_true rfl) (ci := 0) (N := 7) (C := "BeaconIndex") (T := xF0) (hc := rfl) (hci := Nat.le_of_ble_eq_true rfl) (htb := (ft_0 F)) (hinst := w_1178) (hsel := w_1179) (hlen := Nat.le_of_ble_eq_true rfl) (hst := rfl) (hL0 := rfl)  (xwp_mono hyp (fun v9 h9 q9 => xr_drop (L9 := [xR 0, xZ, xZ, xI x3, xZ, xZ, xZ]) (xdrs (xdrs (xdrs (xdrs (xdrz (xdrs (xdrs xdr0))))))) q9) (fun _ _ z9 => z9))
theorem d_B_stirSegment_64 : decode prog_1_method_40_code 64 = .ok (.i2l, 1) := by decide +kernel
theorem d_B_stirSegment_65 : decode prog_1_method_40_code 65 = .ok (.invokestatic 294, 3) := by decide +kernel
theorem d_B_stirSegment_68 : decode prog_1_method_40_code 68 = .ok (.lstore 4, 2) := by decide +kernel
theorem d_B_stirSegment_70 : decode prog_1_method_40_code 70 = .ok (.iconst 0, 1) := by decide +kernel
theorem d_B_stirSegment_71 : decode prog_1_method_40_code 71 = .ok (.istore 6, 2) := by decide +kernel
theorem v_B_stirSegment_64 {G : XG} {d : Nat} {h : XH} {Q : XV → XH → Prop} {X : Nat → XH → Prop} {x3 s0 s1 : Int} (F : xFix h) (hyp : (xwp G m_B_stirSegment (d + 10) 73 [xR 0, xZ, xZ, xI x3, xL (xw64 ((xw64 (s1 * 31)) + s0)), xZ, xI 0] [] h Q X)) : xwp G m_B_stirSegment (d + 10) 64 [xR 0, xZ, xZ, xI x3, xZ, xZ, xZ] [xI s0, xL s1] h Q X := by
  have hnx9 : (93 : Int) ≤ xnx h := F.2.2
  refine xr_okL (fun hl9 => ?_)
  have r_x3 : -2147483648 ≤ x3 ∧ x3 ≤ 2147483647 := hl9 (xI x3) (.tail _ (.tail _ (.tail _ (.head _)))) (Nat.le_of_ble_eq_true rfl)
  refine xr_okS (fun hs9 => ?_)
  have r_s0 : -2147483648 ≤ s0 ∧ s0 ≤ 2147483647 := hs9 (xI s0) (.head _)
  have r_s1 : -9223372036854775808 ≤ s1 ∧ s1 ≤ 9223372036854775807 := hs9 (xL s1) (.tail _ (.head _))
  refine xr_i2l (pc := 64) (hI := d_B_stirSegment_64) ?_
  refine xq_callS (pc := 65) (index := 294) (K := m_B_stir) (As := [xL s1, xL s0]) (S := []) (L0 := [xL s1, xZ, xL s0, xZ]) (hI := d_B_stirSegment_65) (hK := k_B_stir) (hlk := w_1082) (hnoM := rfl) (hS8 := Nat.le_of_ble_eq_true rfl) (hstat := w_1083) (hlen := Nat.le_of_ble_eq_true rfl) (hst := rfl) (hL0 := rfl)  ?_
  refine xr_lload_n (pc := 0) (i := 0) (hI := d_B_stir_0) (hi := rfl) (hl := rfl) ?_
  refine xr_ldc2 (pc := 1) (z := 31) (hI := d_B_stir_1) (hw := w_1085) (hr := by decide) (hv := by decide) ?_
  refine xr_lmul (pc := 4) (hI := d_B_stir_4) ?_
  refine xr_lload_n (pc := 5) (i := 2) (hI := d_B_stir_5) (hi := rfl) (hl := rfl) ?_
  refine xr_ladd (pc := 6) (hI := d_B_stir_6) ?_
  refine xr_lreturn (S := []) (pc := 7) (hI := d_B_stir_7) (hr := rfl) ?_
  show xwp G m_B_stirSegment (d + 10) 68 [xR 0, xZ, xZ, xI x3, xZ, xZ, xZ] [xL (xw64 ((xw64 (s1 * 31)) + s0))] _ _ _
  refine xr_lstore (pc := 68) (i := 4) (L9 := [xR 0, xZ, xZ, xI x3, xL (xw64 ((xw64 (s1 * 31)) + s0)), xZ, xZ]) (hI := d_B_stirSegment_68) (hn := Nat.le_of_ble_eq_true rfl) (hL9 := rfl) ?_
  refine xr_iconst (pc := 70) (hI := d_B_stirSegment_70) (hr := by decide) ?_
  refine xr_istore (pc := 71) (i := 6) (L9 := [xR 0, xZ, xZ, xI x3, xL (xw64 ((xw64 (s1 * 31)) + s0)), xZ, xI 0]) (hI := d_B_stirSegment_71) (hn := Nat.le_of_ble_eq_true rfl) (hL9 := rfl) ?_
  exact hyp
theorem d_B_stirSegment_73 : decode prog_1_method_40_code 73 = .ok (.iload 6, 2) := by decide +kernel
theorem d_B_stirSegment_75 : decode prog_1_method_40_code 75 = .ok (.aload_n 0, 1) := by decide +kernel
theorem d_B_stirSegment_76 : decode prog_1_method_40_code 76 = .ok (.iload_n 3, 1) := by decide +kernel
theorem d_B_stirSegment_77 : decode prog_1_method_40_code 77 = .ok (.invokevirtual 324, 3) := by decide +kernel
theorem v_B_stirSegment_73 {G : XG} {d : Nat} {h : XH} {Q : XV → XH → Prop} {X : Nat → XH → Prop} {x3 x4 x6 : Int} (F : xFix h) (hyp : (xwp G m_B_textsIn (d + 9) 0 [xR 0, xI x3] [] h (fun v9 h9 => xwp G m_B_stirSegment (d + 10) 80 [xR 0, xZ, xZ, xI x3, xL x4, xZ, xI x6] (xpush v9 [xI x6]) h9 Q X) X)) : xwp G m_B_stirSegment (d + 10) 73 [xR 0, xZ, xZ, xI x3, xL x4, xZ, xI x6] [] h Q X := by
  have hnx9 : (93 : Int) ≤ xnx h := F.2.2
  refine xr_okL (fun hl9 => ?_)
  have r_x3 : -2147483648 ≤ x3 ∧ x3 ≤ 2147483647 := hl9 (xI x3) (.tail _ (.tail _ (.tail _ (.head _)))) (Nat.le_of_ble_eq_true rfl)
  have r_x4 : -9223372036854775808 ≤ x4 ∧ x4 ≤ 9223372036854775807 := hl9 (xL x4) (.tail _ (.tail _ (.tail _ (.tail _ (.head _))))) (Nat.le_of_ble_eq_true rfl)
  have r_x6 : -2147483648 ≤ x6 ∧ x6 ≤ 2147483647 := hl9 (xI x6) (.tail _ (.tail _ (.tail _ (.tail _ (.tail _ (.tail _ (.head _))))))) (Nat.le_of_ble_eq_true rfl)
  refine xr_iload (pc := 73) (i := 6) (hI := d_B_stirSegment_73) (hl := rfl) ?_
  refine xr_aload_n (pc := 75) (i := 0) (hI := d_B_stirSegment_75) (hi := rfl) (hl := rfl) ?_
  refine xr_iload_n (pc := 76) (i := 3) (hI := d_B_stirSegment_76) (hi := rfl) (hl := rfl) ?_
  exact xq_callV (pc := 77) (index := 324) (K := m_B_textsIn) (As := [xI x3]) (S := [xI x6]) (L0 := [xR 0, xI x3]) (hI := d_B_stirSegment_77) (hK := k_B_textsIn) (hlk := w_1093) (hnoM := rfl) (hS8 := Nat.le_of_ble_eq_true rfl) (ci := 0) (N := 7) (C := "BeaconIndex") (T := xF0) (hc := rfl) (hci := Nat.le_of_ble_eq_true rfl) (htb := (ft_0 F)) (hinst := w_1094) (hsel := w_1095) (hlen := Nat.le_of_ble_eq_true rfl) (hst := rfl) (hL0 := rfl)  hyp
theorem d_B_stirSegment_80 : decode prog_1_method_40_code 80 = .ok (.if_icmp .ge 78, 3) := by decide +kernel
theorem d_B_stirSegment_158 : decode prog_1_method_40_code 158 = .ok (.lload 4, 2) := by decide +kernel
theorem d_B_stirSegment_160 : decode prog_1_method_40_code 160 = .ok (.lreturn, 1) := by decide +kernel
theorem d_B_stirSegment_83 : decode prog_1_method_40_code 83 = .ok (.lload 4, 2) := by decide +kernel
theorem d_B_stirSegment_85 : decode prog_1_method_40_code 85 = .ok (.aload_n 0, 1) := by decide +kernel
theorem d_B_stirSegment_86 : decode prog_1_method_40_code 86 = .ok (.iload_n 3, 1) := by decide +kernel
theorem d_B_stirSegment_87 : decode prog_1_method_40_code 87 = .ok (.iload 6, 2) := by decide +kernel
theorem d_B_stirSegment_89 : decode prog_1_method_40_code 89 = .ok (.invokevirtual 336, 3) := by decide +kernel
theorem k_B_keyAt : xCal m_B_keyAt 2 := ⟨List.mem_append_right _ (List.mem_of_getElem? (i := 1188) (by decide +kernel)), w_1, Nat.le_of_ble_eq_true rfl, ⟨by decide +kernel, by decide +kernel⟩, by decide +kernel, by decide +kernel, rfl⟩
theorem w_1185 : Cond.methodLink "BeaconIndex" 336 ⟨"BeaconIndex", "keyAt", "(II)I"⟩ ∈ lw_tbl := List.mem_append_right _ (List.mem_of_getElem? (i := 1185) (by decide +kernel))
theorem w_1186 : Cond.instanceMethod ⟨"BeaconIndex", "keyAt", "(II)I"⟩ ∈ lw_tbl := List.mem_append_right _ (List.mem_of_getElem? (i := 1186) (by decide +kernel))
theorem w_1187 : Cond.selects "BeaconIndex" ⟨"BeaconIndex", "keyAt", "(II)I"⟩ ⟨"BeaconIndex", "keyAt", "(II)I"⟩ ∈ lw_tbl := List.mem_append_right _ (List.mem_of_getElem? (i := 1187) (by decide +kernel))
theorem v_B_stirSegment_80 {G : XG} {d : Nat} {h : XH} {Q : XV → XH → Prop} {X : Nat → XH → Prop} {x3 x4 x6 s0 s1 : Int} (F : xFix h) (hyp : ((s0 ≤ s1 → (Q (xL x4) h)) ∧ (¬ s0 ≤ s1 → (xwp G m_B_keyAt (d + 9) 0 [xR 0, xI x3, xI x6] [] h (fun v9 h9 => xwp G m_B_stirSegment (d + 10) 92 [xR 0, xZ, xZ, xI x3, xZ, xZ, xI x6] (xpush v9 [xL x4]) h9 Q X) X)))) : xwp G m_B_stirSegment (d + 10) 80 [xR 0, xZ, xZ, xI x3, xL x4, xZ, xI x6] [xI s0, xI s1] h Q X := by
  have hnx9 : (93 : Int) ≤ xnx h := F.2.2
  refine xr_okL (fun hl9 => ?_)
  have r_x3 : -2147483648 ≤ x3 ∧ x3 ≤ 2147483647 := hl9 (xI x3) (.tail _ (.tail _ (.tail _ (.head _)))) (Nat.le_of_ble_eq_true rfl)
  have r_x4 : -9223372036854775808 ≤ x4 ∧ x4 ≤ 9223372036854775807 := hl9 (xL x4) (.tail _ (.tail _ (.tail _ (.tail _ (.head _))))) (Nat.le_of_ble_eq_true rfl)
  have r_x6 : -2147483648 ≤ x6 ∧ x6 ≤ 2147483647 := hl9 (xI x6) (.tail _ (.tail _ (.tail _ (.tail _ (.tail _ (.tail _ (.head _))))))) (Nat.le_of_ble_eq_true rfl)
  refine xr_okS (fun hs9 => ?_)
  have r_s0 : -2147483648 ≤ s0 ∧ s0 ≤ 2147483647 := hs9 (xI s0) (.head _)
  have r_s1 : -2147483648 ≤ s1 ∧ s1 ≤ 2147483647 := hs9 (xI s1) (.tail _ (.head _))
  refine xr_icmp_ge (pc := 80) (tgt := 158) (hI := d_B_stirSegment_80) (ht := by decide) (fun q9 => ?_) (fun q9 => ?_)
  · replace hyp := hyp.1 q9
    have q1_ := q9
    clear q9
    refine xr_lload (pc := 158) (i := 4) (hI := d_B_stirSegment_158) (hl := rfl) ?_
    refine xr_lreturn (S := []) (pc := 160) (hI := d_B_stirSegment_160) (hr := rfl) ?_
    exact hyp
  · replace hyp := hyp.2 q9
    have q1_ := q9
    clear q9
    refine xr_lload (pc := 83) (i := 4) (hI := d_B_stirSegment_83) (hl := rfl) ?_
    refine xr_aload_n (pc := 85) (i := 0) (hI := d_B_stirSegment_85) (hi := rfl) (hl := rfl) ?_
    refine xr_iload_n (pc := 86) (i := 3) (hI := d_B_stirSegment_86) (hi := rfl) (hl := rfl) ?_
    refine xr_iload (pc := 87) (i := 6) (hI := d_B_stirSegment_87) (hl := rfl) ?_
    exact xq_callV (pc := 89) (index := 336) (K := m_B_keyAt) (As := [xI x3, xI x6]) (S := [xL x4]) (L0 := [xR 0, xI x3, xI x6]) (hI := d_B_stirSegment_89) (hK := k_B_keyAt) (hlk := w_1185) (hnoM := rfl) (hS8 := Nat.le_of_ble_eq_true rfl) (ci := 0) (N := 7) (C := "BeaconIndex") (T := xF0) (hc := rfl) (hci := Nat.le_of_ble_eq_true rfl) (htb := (ft_0 F)) (hinst := w_1186) (hsel := w_1187) (hlen := Nat.le_of_ble_eq_true rfl) (hst := rfl) (hL0 := rfl)  (xwp_mono hyp (fun v9 h9 q9 => xr_drop (L9 := [xR 0, xZ, xZ, xI x3, xZ, xZ, xI x6]) (xdrs (xdrs (xdrs (xdrs (xdrz (xdrs (xdrs xdr0))))))) q9) (fun _ _ z9 => z9))
theorem d_B_stirSegment_92 : decode prog_1_method_40_code 92 = .ok (.i2l, 1) := by decide +kernel
theorem d_B_stirSegment_93 : decode prog_1_method_40_code 93 = .ok (.invokestatic 294, 3) := by decide +kernel
theorem d_B_stirSegment_96 : decode prog_1_method_40_code 96 = .ok (.lstore 4, 2) := by decide +kernel
theorem d_B_stirSegment_98 : decode prog_1_method_40_code 98 = .ok (.lload 4, 2) := by decide +kernel
theorem d_B_stirSegment_100 : decode prog_1_method_40_code 100 = .ok (.aload_n 0, 1) := by decide +kernel
theorem d_B_stirSegment_101 : decode prog_1_method_40_code 101 = .ok (.iload_n 3, 1) := by decide +kernel
theorem d_B_stirSegment_102 : decode prog_1_method_40_code 102 = .ok (.iload 6, 2) := by decide +kernel
theorem d_B_stirSegment_104 : decode prog_1_method_40_code 104 = .ok (.invokevirtual 339, 3) := by decide +kernel
theorem k_B_isMarked : xCal m_B_isMarked 2 := ⟨List.mem_append_right _ (List.mem_of_getElem? (i := 1200) (by decide +kernel)), w_1, Nat.le_of_ble_eq_true rfl, ⟨by decide +kernel, by decide +kernel⟩, by decide +kernel, by decide +kernel, rfl⟩
theorem w_1197 : Cond.methodLink "BeaconIndex" 339 ⟨"BeaconIndex", "isMarked", "(II)Z"⟩ ∈ lw_tbl := List.mem_append_right _ (List.mem_of_getElem? (i := 1197) (by decide +kernel))
theorem w_1198 : Cond.instanceMethod ⟨"BeaconIndex", "isMarked", "(II)Z"⟩ ∈ lw_tbl := List.mem_append_right _ (List.mem_of_getElem? (i := 1198) (by decide +kernel))
theorem w_1199 : Cond.selects "BeaconIndex" ⟨"BeaconIndex", "isMarked", "(II)Z"⟩ ⟨"BeaconIndex", "isMarked", "(II)Z"⟩ ∈ lw_tbl := List.mem_append_right _ (List.mem_of_getElem? (i := 1199) (by decide +kernel))
theorem v_B_stirSegment_92 {G : XG} {d : Nat} {h : XH} {Q : XV → XH → Prop} {X : Nat → XH → Prop} {x3 x6 s0 s1 : Int} (F : xFix h) (hyp : (xwp G m_B_isMarked (d + 9) 0 [xR 0, xI x3, xI x6] [] h (fun v9 h9 => xwp G m_B_stirSegment (d + 10) 107 [xR 0, xZ, xZ, xI x3, xZ, xZ, xI x6] (xpush v9 [xL (xw64 ((xw64 (s1 * 31)) + s0))]) h9 Q X) X)) : xwp G m_B_stirSegment (d + 10) 92 [xR 0, xZ, xZ, xI x3, xZ, xZ, xI x6] [xI s0, xL s1] h Q X := by
  have hnx9 : (93 : Int) ≤ xnx h := F.2.2
  refine xr_okL (fun hl9 => ?_)
  have r_x3 : -2147483648 ≤ x3 ∧ x3 ≤ 2147483647 := hl9 (xI x3) (.tail _ (.tail _ (.tail _ (.head _)))) (Nat.le_of_ble_eq_true rfl)
  have r_x6 : -2147483648 ≤ x6 ∧ x6 ≤ 2147483647 := hl9 (xI x6) (.tail _ (.tail _ (.tail _ (.tail _ (.tail _ (.tail _ (.head _))))))) (Nat.le_of_ble_eq_true rfl)
  refine xr_okS (fun hs9 => ?_)
  have r_s0 : -2147483648 ≤ s0 ∧ s0 ≤ 2147483647 := hs9 (xI s0) (.head _)
  have r_s1 : -9223372036854775808 ≤ s1 ∧ s1 ≤ 9223372036854775807 := hs9 (xL s1) (.tail _ (.head _))
  refine xr_i2l (pc := 92) (hI := d_B_stirSegment_92) ?_
  refine xq_callS (pc := 93) (index := 294) (K := m_B_stir) (As := [xL s1, xL s0]) (S := []) (L0 := [xL s1, xZ, xL s0, xZ]) (hI := d_B_stirSegment_93) (hK := k_B_stir) (hlk := w_1082) (hnoM := rfl) (hS8 := Nat.le_of_ble_eq_true rfl) (hstat := w_1083) (hlen := Nat.le_of_ble_eq_true rfl) (hst := rfl) (hL0 := rfl)  ?_
  refine xr_lload_n (pc := 0) (i := 0) (hI := d_B_stir_0) (hi := rfl) (hl := rfl) ?_
  refine xr_ldc2 (pc := 1) (z := 31) (hI := d_B_stir_1) (hw := w_1085) (hr := by decide) (hv := by decide) ?_
  refine xr_lmul (pc := 4) (hI := d_B_stir_4) ?_
  refine xr_lload_n (pc := 5) (i := 2) (hI := d_B_stir_5) (hi := rfl) (hl := rfl) ?_
  refine xr_ladd (pc := 6) (hI := d_B_stir_6) ?_
  refine xr_lreturn (S := []) (pc := 7) (hI := d_B_stir_7) (hr := rfl) ?_
  show xwp G m_B_stirSegment (d + 10) 96 [xR 0, xZ, xZ, xI x3, xZ, xZ, xI x6] [xL (xw64 ((xw64 (s1 * 31)) + s0))] _ _ _
  refine xr_lstore (pc := 96) (i := 4) (L9 := [xR 0, xZ, xZ, xI x3, xL (xw64 ((xw64 (s1 * 31)) + s0)), xZ, xI x6]) (hI := d_B_stirSegment_96) (hn := Nat.le_of_ble_eq_true rfl) (hL9 := rfl) ?_
  refine xr_lload (pc := 98) (i := 4) (hI := d_B_stirSegment_98) (hl := rfl) ?_
  refine xr_aload_n (pc := 100) (i := 0) (hI := d_B_stirSegment_100) (hi := rfl) (hl := rfl) ?_
  refine xr_iload_n (pc := 101) (i := 3) (hI := d_B_stirSegment_101) (hi := rfl) (hl := rfl) ?_
  refine xr_iload (pc := 102) (i := 6) (hI := d_B_stirSegment_102) (hl := rfl) ?_
  exact xq_callV (pc := 104) (index := 339) (K := m_B_isMarked) (As := [xI x3, xI x6]) (S := [xL (xw64 ((xw64 (s1 * 31)) + s0))]) (L0 := [xR 0, xI x3, xI x6]) (hI := d_B_stirSegment_104) (hK := k_B_isMarked) (hlk := w_1197) (hnoM := rfl) (hS8 := Nat.le_of_ble_eq_true rfl) (ci := 0) (N := 7) (C := "BeaconIndex") (T := xF0) (hc := rfl) (hci := Nat.le_of_ble_eq_true rfl) (htb := (ft_0 F)) (hinst := w_1198) (hsel := w_1199) (hlen := Nat.le_of_ble_eq_true rfl) (hst := rfl) (hL0 := rfl)  (xwp_mono hyp (fun v9 h9 q9 => xr_drop (L9 := [xR 0, xZ, xZ, xI x3, xZ, xZ, xI x6]) (xdrs (xdrs (xdrs (xdrs (xdrz (xdrs (xdrs xdr0))))))) q9) (fun _ _ z9 => z9))
theorem d_B_stirSegment_107 : decode prog_1_method_40_code 107 = .ok (.ifCond .eq 7, 3) := by decide +kernel
theorem d_B_stirSegment_114 : decode prog_1_method_40_code 114 = .ok (.lconst 0, 1) := by decide +kernel
theorem d_B_stirSegment_110 : decode prog_1_method_40_code 110 = .ok (.lconst 1, 1) := by decide +kernel
theorem d_B_stirSegment_111 : decode prog_1_method_40_code 111 = .ok (.goto 4, 3) := by decide +kernel
theorem v_B_stirSegment_107 {G : XG} {d : Nat} {h : XH} {Q : XV → XH → Prop} {X : Nat → XH → Prop} {x3 x6 s0 s1 : Int} (F : xFix h) (hyp : ((s0 = 0 → (xwp G m_B_stirSegment (d + 10) 115 [xR 0, xZ, xZ, xI x3, xZ, xZ, xI x6] [xL 0, xL s1] h Q X)) ∧ (¬ s0 = 0 → (xwp G m_B_stirSegment (d + 10) 115 [xR 0, xZ, xZ, xI x3, xZ, xZ, xI x6] [xL 1, xL s1] h Q X)))) : xwp G m_B_stirSegment (d + 10) 107 [xR 0, xZ, xZ, xI x3, xZ, xZ, xI x6] [xI s0, xL s1] h Q X := by
  have hnx9 : (93 : Int) ≤ xnx h := F.2.2
  refine xr_okL (fun hl9 => ?_)
  have r_x3 : -2147483648 ≤ x3 ∧ x3 ≤ 2147483647 := hl9 (xI x3) (.tail _ (.tail _ (.tail _ (.head _)))) (Nat.le_of_ble_eq_true rfl)
  have r_x6 : -2147483648 ≤ x6 ∧ x6 ≤ 2147483647 := hl9 (xI x6) (.tail _ (.tail _ (.tail _ (.tail _ (.tail _ (.tail _ (.head _))))))) (Nat.le_of_ble_eq_true rfl)
  refine xr_okS (fun hs9 => ?_)
  have r_s0 : -2147483648 ≤ s0 ∧ s0 ≤ 2147483647 := hs9 (xI s0) (.head _)
  have r_s1 : -9223372036854775808 ≤ s1 ∧ s1 ≤ 9223372036854775807 := hs9 (xL s1) (.tail _ (.head _))
  refine xr_if_eq (pc := 107) (tgt := 114) (hI := d_B_stirSegment_107) (ht := by decide) (fun q9 => ?_) (fun q9 => ?_)
  · replace hyp := hyp.1 q9
    have q1_ := q9
    clear q9
    refine xr_lconst (pc := 114) (z := 0) (hI := d_B_stirSegment_114) (hr := by decide) (hv := by decide) ?_
    exact hyp
  · replace hyp := hyp.2 q9
    have q1_ := q9
    clear q9
    refine xr_lconst (pc := 110) (z := 1) (hI := d_B_stirSegment_110) (hr := by decide) (hv := by decide) ?_
    refine xr_goto (pc := 111) (tgt := 115) (hI := d_B_stirSegment_111) (ht := by decide) ?_
    exact hyp
theorem d_B_stirSegment_115 : decode prog_1_method_40_code 115 = .ok (.invokestatic 294, 3) := by decide +kernel
theorem d_B_stirSegment_118 : decode prog_1_method_40_code 118 = .ok (.lstore 4, 2) := by decide +kernel
theorem d_B_stirSegment_120 : decode prog_1_method_40_code 120 = .ok (.lload 4, 2) := by decide +kernel
theorem d_B_stirSegment_122 : decode prog_1_method_40_code 122 = .ok (.aload_n 0, 1) := by decide +kernel
theorem d_B_stirSegment_123 : decode prog_1_method_40_code 123 = .ok (.iload_n 3, 1) := by decide +kernel
theorem d_B_stirSegment_124 : decode prog_1_method_40_code 124 = .ok (.iload 6, 2) := by decide +kernel
theorem d_B_stirSegment_126 : decode prog_1_method_40_code 126 = .ok (.iconst 0, 1) := by decide +kernel
theorem d_B_stirSegment_127 : decode prog_1_method_40_code 127 = .ok (.invokevirtual 342, 3) := by decide +kernel
theorem k_B_lengthOf : xCal m_B_lengthOf 3 := ⟨List.mem_append_right _ (List.mem_of_getElem? (i := 1204) (by decide +kernel)), w_1, Nat.le_of_ble_eq_true rfl, ⟨by decide +kernel, by decide +kernel⟩, by decide +kernel, by decide +kernel, rfl⟩
theorem w_1201 : Cond.methodLink "BeaconIndex" 342 ⟨"BeaconIndex", "lengthOf", "(III)I"⟩ ∈ lw_tbl := List.mem_append_right _ (List.mem_of_getElem? (i := 1201) (by decide +kernel))
theorem w_1202 : Cond.instanceMethod ⟨"BeaconIndex", "lengthOf", "(III)I"⟩ ∈ lw_tbl := List.mem_append_right _ (List.mem_of_getElem? (i := 1202) (by decide +kernel))
theorem w_1203 : Cond.selects "BeaconIndex" ⟨"BeaconIndex", "lengthOf", "(III)I"⟩ ⟨"BeaconIndex", "lengthOf", "(III)I"⟩ ∈ lw_tbl := List.mem_append_right _ (List.mem_of_getElem? (i := 1203) (by decide +kernel))
theorem v_B_stirSegment_115 {G : XG} {d : Nat} {h : XH} {Q : XV → XH → Prop} {X : Nat → XH → Prop} {x3 x6 s0 s1 : Int} (F : xFix h) (hyp : (xwp G m_B_lengthOf (d + 9) 0 [xR 0, xI x3, xI x6, xI 0] [] h (fun v9 h9 => xwp G m_B_stirSegment (d + 10) 130 [xR 0, xZ, xZ, xI x3, xZ, xZ, xI x6] (xpush v9 [xL (xw64 ((xw64 (s1 * 31)) + s0))]) h9 Q X) X)) : xwp G m_B_stirSegment (d + 10) 115 [xR 0, xZ, xZ, xI x3, xZ, xZ, xI x6] [xL s0, xL s1] h Q X := by
  have hnx9 : (93 : Int) ≤ xnx h := F.2.2
  refine xr_okL (fun hl9 => ?_)
  have r_x3 : -2147483648 ≤ x3 ∧ x3 ≤ 2147483647 := hl9 (xI x3) (.tail _ (.tail _ (.tail _ (.head _)))) (Nat.le_of_ble_eq_true rfl)
  have r_x6 : -2147483648 ≤ x6 ∧ x6 ≤ 2147483647 := hl9 (xI x6) (.tail _ (.tail _ (.tail _ (.tail _ (.tail _ (.tail _ (.head _))))))) (Nat.le_of_ble_eq_true rfl)
  refine xr_okS (fun hs9 => ?_)
  have r_s0 : -9223372036854775808 ≤ s0 ∧ s0 ≤ 9223372036854775807 := hs9 (xL s0) (.head _)
  have r_s1 : -9223372036854775808 ≤ s1 ∧ s1 ≤ 9223372036854775807 := hs9 (xL s1) (.tail _ (.head _))
  refine xq_callS (pc := 115) (index := 294) (K := m_B_stir) (As := [xL s1, xL s0]) (S := []) (L0 := [xL s1, xZ, xL s0, xZ]) (hI := d_B_stirSegment_115) (hK := k_B_stir) (hlk := w_1082) (hnoM := rfl) (hS8 := Nat.le_of_ble_eq_true rfl) (hstat := w_1083) (hlen := Nat.le_of_ble_eq_true rfl) (hst := rfl) (hL0 := rfl)  ?_
  refine xr_lload_n (pc := 0) (i := 0) (hI := d_B_stir_0) (hi := rfl) (hl := rfl) ?_
  refine xr_ldc2 (pc := 1) (z := 31) (hI := d_B_stir_1) (hw := w_1085) (hr := by decide) (hv := by decide) ?_
  refine xr_lmul (pc := 4) (hI := d_B_stir_4) ?_
  refine xr_lload_n (pc := 5) (i := 2) (hI := d_B_stir_5) (hi := rfl) (hl := rfl) ?_
  refine xr_ladd (pc := 6) (hI := d_B_stir_6) ?_
  refine xr_lreturn (S := []) (pc := 7) (hI := d_B_stir_7) (hr := rfl) ?_
  show xwp G m_B_stirSegment (d + 10) 118 [xR 0, xZ, xZ, xI x3, xZ, xZ, xI x6] [xL (xw64 ((xw64 (s1 * 31)) + s0))] _ _ _
  refine xr_lstore (pc := 118) (i := 4) (L9 := [xR 0, xZ, xZ, xI x3, xL (xw64 ((xw64 (s1 * 31)) + s0)), xZ, xI x6]) (hI := d_B_stirSegment_118) (hn := Nat.le_of_ble_eq_true rfl) (hL9 := rfl) ?_
  refine xr_lload (pc := 120) (i := 4) (hI := d_B_stirSegment_120) (hl := rfl) ?_
  refine xr_aload_n (pc := 122) (i := 0) (hI := d_B_stirSegment_122) (hi := rfl) (hl := rfl) ?_
  refine xr_iload_n (pc := 123) (i := 3) (hI := d_B_stirSegment_123) (hi := rfl) (hl := rfl) ?_
  refine xr_iload (pc := 124) (i := 6) (hI := d_B_stirSegment_124) (hl := rfl) ?_
  refine xr_iconst (pc := 126) (hI := d_B_stirSegment_126) (hr := by decide) ?_
  exact xq_callV (pc := 127) (index := 342) (K := m_B_lengthOf) (As := [xI x3, xI x6, xI 0]) (S := [xL (xw64 ((xw64 (s1 * 31)) + s0))]) (L0 := [xR 0, xI x3, xI x6, xI 0]) (hI := d_B_stirSegment_127) (hK := k_B_lengthOf) (hlk := w_1201) (hnoM := rfl) (hS8 := Nat.le_of_ble_eq_true rfl) (ci := 0) (N := 7) (C := "BeaconIndex") (T := xF0) (hc := rfl) (hci := Nat.le_of_ble_eq_true rfl) (htb := (ft_0 F)) (hinst := w_1202) (hsel := w_1203) (hlen := Nat.le_of_ble_eq_true rfl) (hst := rfl) (hL0 := rfl)  (xwp_mono hyp (fun v9 h9 q9 => xr_drop (L9 := [xR 0, xZ, xZ, xI x3, xZ, xZ, xI x6]) (xdrs (xdrs (xdrs (xdrs (xdrz (xdrs (xdrs xdr0))))))) q9) (fun _ _ z9 => z9))
theorem d_B_stirSegment_130 : decode prog_1_method_40_code 130 = .ok (.i2l, 1) := by decide +kernel
theorem d_B_stirSegment_131 : decode prog_1_method_40_code 131 = .ok (.invokestatic 294, 3) := by decide +kernel
theorem d_B_stirSegment_134 : decode prog_1_method_40_code 134 = .ok (.lstore 4, 2) := by decide +kernel
theorem d_B_stirSegment_136 : decode prog_1_method_40_code 136 = .ok (.lload 4, 2) := by decide +kernel
theorem d_B_stirSegment_138 : decode prog_1_method_40_code 138 = .ok (.aload_n 0, 1) := by decide +kernel
theorem d_B_stirSegment_139 : decode prog_1_method_40_code 139 = .ok (.iload_n 3, 1) := by decide +kernel
theorem d_B_stirSegment_140 : decode prog_1_method_40_code 140 = .ok (.iload 6, 2) := by decide +kernel
theorem d_B_stirSegment_142 : decode prog_1_method_40_code 142 = .ok (.iconst 1, 1) := by decide +kernel
theorem d_B_stirSegment_143 : decode prog_1_method_40_code 143 = .ok (.invokevirtual 342, 3) := by decide +kernel
theorem v_B_stirSegment_130 {G : XG} {d : Nat} {h : XH} {Q : XV → XH → Prop} {X : Nat → XH → Prop} {x3 x6 s0 s1 : Int} (F : xFix h) (hyp : (xwp G m_B_lengthOf (d + 9) 0 [xR 0, xI x3, xI x6, xI 1] [] h (fun v9 h9 => xwp G m_B_stirSegment (d + 10) 146 [xR 0, xZ, xZ, xI x3, xZ, xZ, xI x6] (xpush v9 [xL (xw64 ((xw64 (s1 * 31)) + s0))]) h9 Q X) X)) : xwp G m_B_stirSegment (d + 10) 130 [xR 0, xZ, xZ, xI x3, xZ, xZ, xI x6] [xI s0, xL s1] h Q X := by
  have hnx9 : (93 : Int) ≤ xnx h := F.2.2
  refine xr_okL (fun hl9 => ?_)
  have r_x3 : -2147483648 ≤ x3 ∧ x3 ≤ 2147483647 := hl9 (xI x3) (.tail _ (.tail _ (.tail _ (.head _)))) (Nat.le_of_ble_eq_true rfl)
  have r_x6 : -2147483648 ≤ x6 ∧ x6 ≤ 2147483647 := hl9 (xI x6) (.tail _ (.tail _ (.tail _ (.tail _ (.tail _ (.tail _ (.head _))))))) (Nat.le_of_ble_eq_true rfl)
  refine xr_okS (fun hs9 => ?_)
  have r_s0 : -2147483648 ≤ s0 ∧ s0 ≤ 2147483647 := hs9 (xI s0) (.head _)
  have r_s1 : -9223372036854775808 ≤ s1 ∧ s1 ≤ 9223372036854775807 := hs9 (xL s1) (.tail _ (.head _))
  refine xr_i2l (pc := 130) (hI := d_B_stirSegment_130) ?_
  refine xq_callS (pc := 131) (index := 294) (K := m_B_stir) (As := [xL s1, xL s0]) (S := []) (L0 := [xL s1, xZ, xL s0, xZ]) (hI := d_B_stirSegment_131) (hK := k_B_stir) (hlk := w_1082) (hnoM := rfl) (hS8 := Nat.le_of_ble_eq_true rfl) (hstat := w_1083) (hlen := Nat.le_of_ble_eq_true rfl) (hst := rfl) (hL0 := rfl)  ?_
  refine xr_lload_n (pc := 0) (i := 0) (hI := d_B_stir_0) (hi := rfl) (hl := rfl) ?_
  refine xr_ldc2 (pc := 1) (z := 31) (hI := d_B_stir_1) (hw := w_1085) (hr := by decide) (hv := by decide) ?_
  refine xr_lmul (pc := 4) (hI := d_B_stir_4) ?_
  refine xr_lload_n (pc := 5) (i := 2) (hI := d_B_stir_5) (hi := rfl) (hl := rfl) ?_
  refine xr_ladd (pc := 6) (hI := d_B_stir_6) ?_
  refine xr_lreturn (S := []) (pc := 7) (hI := d_B_stir_7) (hr := rfl) ?_
  show xwp G m_B_stirSegment (d + 10) 134 [xR 0, xZ, xZ, xI x3, xZ, xZ, xI x6] [xL (xw64 ((xw64 (s1 * 31)) + s0))] _ _ _
  refine xr_lstore (pc := 134) (i := 4) (L9 := [xR 0, xZ, xZ, xI x3, xL (xw64 ((xw64 (s1 * 31)) + s0)), xZ, xI x6]) (hI := d_B_stirSegment_134) (hn := Nat.le_of_ble_eq_true rfl) (hL9 := rfl) ?_
  refine xr_lload (pc := 136) (i := 4) (hI := d_B_stirSegment_136) (hl := rfl) ?_
  refine xr_aload_n (pc := 138) (i := 0) (hI := d_B_stirSegment_138) (hi := rfl) (hl := rfl) ?_
  refine xr_iload_n (pc := 139) (i := 3) (hI := d_B_stirSegment_139) (hi := rfl) (hl := rfl) ?_
  refine xr_iload (pc := 140) (i := 6) (hI := d_B_stirSegment_140) (hl := rfl) ?_
  refine xr_iconst (pc := 142) (hI := d_B_stirSegment_142) (hr := by decide) ?_
  exact xq_callV (pc := 143) (index := 342) (K := m_B_lengthOf) (As := [xI x3, xI x6, xI 1]) (S := [xL (xw64 ((xw64 (s1 * 31)) + s0))]) (L0 := [xR 0, xI x3, xI x6, xI 1]) (hI := d_B_stirSegment_143) (hK := k_B_lengthOf) (hlk := w_1201) (hnoM := rfl) (hS8 := Nat.le_of_ble_eq_true rfl) (ci := 0) (N := 7) (C := "BeaconIndex") (T := xF0) (hc := rfl) (hci := Nat.le_of_ble_eq_true rfl) (htb := (ft_0 F)) (hinst := w_1202) (hsel := w_1203) (hlen := Nat.le_of_ble_eq_true rfl) (hst := rfl) (hL0 := rfl)  (xwp_mono hyp (fun v9 h9 q9 => xr_drop (L9 := [xR 0, xZ, xZ, xI x3, xZ, xZ, xI x6]) (xdrs (xdrs (xdrs (xdrs (xdrz (xdrs (xdrs xdr0))))))) q9) (fun _ _ z9 => z9))
theorem d_B_stirSegment_146 : decode prog_1_method_40_code 146 = .ok (.i2l, 1) := by decide +kernel
theorem d_B_stirSegment_147 : decode prog_1_method_40_code 147 = .ok (.invokestatic 294, 3) := by decide +kernel
theorem d_B_stirSegment_150 : decode prog_1_method_40_code 150 = .ok (.lstore 4, 2) := by decide +kernel
theorem d_B_stirSegment_152 : decode prog_1_method_40_code 152 = .ok (.iinc 6 1, 3) := by decide +kernel
theorem d_B_stirSegment_155 : decode prog_1_method_40_code 155 = .ok (.goto (-82), 3) := by decide +kernel
theorem v_B_stirSegment_146 {G : XG} {d : Nat} {h : XH} {Q : XV → XH → Prop} {X : Nat → XH → Prop} {x3 x6 s0 s1 : Int} (F : xFix h) (hyp : xiR (x6 + 1) ∧ (xwp G m_B_stirSegment (d + 10) 73 [xR 0, xZ, xZ, xI x3, xL (xw64 ((xw64 (s1 * 31)) + s0)), xZ, xI (x6 + 1)] [] h Q X)) : xwp G m_B_stirSegment (d + 10) 146 [xR 0, xZ, xZ, xI x3, xZ, xZ, xI x6] [xI s0, xL s1] h Q X := by
  have hnx9 : (93 : Int) ≤ xnx h := F.2.2
  refine xr_okL (fun hl9 => ?_)
  have r_x3 : -2147483648 ≤ x3 ∧ x3 ≤ 2147483647 := hl9 (xI x3) (.tail _ (.tail _ (.tail _ (.head _)))) (Nat.le_of_ble_eq_true rfl)
  have r_x6 : -2147483648 ≤ x6 ∧ x6 ≤ 2147483647 := hl9 (xI x6) (.tail _ (.tail _ (.tail _ (.tail _ (.tail _ (.tail _ (.head _))))))) (Nat.le_of_ble_eq_true rfl)
  refine xr_okS (fun hs9 => ?_)
  have r_s0 : -2147483648 ≤ s0 ∧ s0 ≤ 2147483647 := hs9 (xI s0) (.head _)
  have r_s1 : -9223372036854775808 ≤ s1 ∧ s1 ≤ 9223372036854775807 := hs9 (xL s1) (.tail _ (.head _))
  refine xr_i2l (pc := 146) (hI := d_B_stirSegment_146) ?_
  refine xq_callS (pc := 147) (index := 294) (K := m_B_stir) (As := [xL s1, xL s0]) (S := []) (L0 := [xL s1, xZ, xL s0, xZ]) (hI := d_B_stirSegment_147) (hK := k_B_stir) (hlk := w_1082) (hnoM := rfl) (hS8 := Nat.le_of_ble_eq_true rfl) (hstat := w_1083) (hlen := Nat.le_of_ble_eq_true rfl) (hst := rfl) (hL0 := rfl)  ?_
  refine xr_lload_n (pc := 0) (i := 0) (hI := d_B_stir_0) (hi := rfl) (hl := rfl) ?_
  refine xr_ldc2 (pc := 1) (z := 31) (hI := d_B_stir_1) (hw := w_1085) (hr := by decide) (hv := by decide) ?_
  refine xr_lmul (pc := 4) (hI := d_B_stir_4) ?_
  refine xr_lload_n (pc := 5) (i := 2) (hI := d_B_stir_5) (hi := rfl) (hl := rfl) ?_
  refine xr_ladd (pc := 6) (hI := d_B_stir_6) ?_
  refine xr_lreturn (S := []) (pc := 7) (hI := d_B_stir_7) (hr := rfl) ?_
  show xwp G m_B_stirSegment (d + 10) 150 [xR 0, xZ, xZ, xI x3, xZ, xZ, xI x6] [xL (xw64 ((xw64 (s1 * 31)) + s0))] _ _ _
  refine xr_lstore (pc := 150) (i := 4) (L9 := [xR 0, xZ, xZ, xI x3, xL (xw64 ((xw64 (s1 * 31)) + s0)), xZ, xI x6]) (hI := d_B_stirSegment_150) (hn := Nat.le_of_ble_eq_true rfl) (hL9 := rfl) ?_
  obtain ⟨c9, hyp⟩ := hyp
  refine xr_iinc (pc := 152) (i := 6) (L9 := [xR 0, xZ, xZ, xI x3, xL (xw64 ((xw64 (s1 * 31)) + s0)), xZ, xI (x6 + 1)]) (hI := d_B_stirSegment_152) (hl := rfl) (hn := Nat.le_of_ble_eq_true rfl) (hr := c9) (hL9 := rfl) ?_
  refine xr_goto (pc := 155) (tgt := 73) (hI := d_B_stirSegment_155) (ht := by decide) ?_
  exact hyp
theorem d_B_stirWord_0 : decode prog_1_method_41_code 0 = .ok (.aload_n 0, 1) := by decide +kernel
theorem d_B_stirWord_1 : decode prog_1_method_41_code 1 = .ok (.getfield 44, 3) := by decide +kernel
theorem d_B_stirWord_4 : decode prog_1_method_41_code 4 = .ok (.invokestatic 199, 3) := by decide +kernel
theorem d_B_stirWord_7 : decode prog_1_method_41_code 7 = .ok (.istore_n 3, 1) := by decide +kernel
theorem d_B_stirWord_8 : decode prog_1_method_41_code 8 = .ok (.lload_n 1, 1) := by decide +kernel
theorem d_B_stirWord_9 : decode prog_1_method_41_code 9 = .ok (.iload_n 3, 1) := by decide +kernel
theorem d_B_stirWord_10 : decode prog_1_method_41_code 10 = .ok (.i2l, 1) := by decide +kernel
theorem d_B_stirWord_11 : decode prog_1_method_41_code 11 = .ok (.invokestatic 294, 3) := by decide +kernel
theorem d_B_stirWord_14 : decode prog_1_method_41_code 14 = .ok (.lstore 4, 2) := by decide +kernel
theorem d_B_stirWord_16 : decode prog_1_method_41_code 16 = .ok (.iconst 0, 1) := by decide +kernel
theorem d_B_stirWord_17 : decode prog_1_method_41_code 17 = .ok (.istore 6, 2) := by decide +kernel
theorem v_B_stirWord_0 {G : XG} {d : Nat} {h : XH} {Q : XV → XH → Prop} {X : Nat → XH → Prop} {x1 : Int} (F : xFix h) (hyp : (xwp G m_B_stirWord (d + 10) 19 [xR 0, xZ, xZ, xI (wsz (xpl h 0 5)), xL (xw64 ((xw64 (x1 * 31)) + (wsz (xpl h 0 5)))), xZ, xI 0] [] h Q X)) : xwp G m_B_stirWord (d + 10) 0 [xR 0, xL x1, xZ, xZ, xZ, xZ, xZ] [] h Q X := by
  have hnx9 : (93 : Int) ≤ xnx h := F.2.2
  refine xr_okL (fun hl9 => ?_)
  have r_x1 : -9223372036854775808 ≤ x1 ∧ x1 ≤ 9223372036854775807 := hl9 (xL x1) (.tail _ (.head _)) (Nat.le_of_ble_eq_true rfl)
  refine xr_aload_n (pc := 0) (i := 0) (hI := d_B_stirWord_0) (hi := rfl) (hl := rfl) ?_
  refine xg_getf (pc := 1) (ci := 0) (k := 5) (N := 7) (v9 := 1) (v := (xpl h 0 5)) (T := xF0) (hI := d_B_stirWord_1) (hw := w_435) rfl xi0 (Or.inl rfl) (Nat.le_of_ble_eq_true rfl) (Nat.le_of_ble_eq_true rfl) rfl (ft_0 F) rfl (fun f1_ => ?_)
  replace f1_ : -9223372036854775808 ≤ (xpl h 0 5) ∧ (xpl h 0 5) ≤ 9223372036854775807 := f1_
  refine xq_callS (pc := 4) (index := 199) (K := m_Words_sizeOf) (As := [xL (xpl h 0 5)]) (S := []) (L0 := [xL (xpl h 0 5), xZ, xZ]) (hI := d_B_stirWord_4) (hK := k_Words_sizeOf) (hlk := w_870) (hnoM := rfl) (hS8 := Nat.le_of_ble_eq_true rfl) (hstat := w_871) (hlen := Nat.le_of_ble_eq_true rfl) (hst := rfl) (hL0 := rfl)  (p_Words_sizeOf F  ?_)
  show xwp G m_B_stirWord (d + 10) 7 [xR 0, xL x1, xZ, xZ, xZ, xZ, xZ] [xI (wsz (xpl h 0 5))] _ _ _
  have f2_ : 0 ≤ (wsz (xpl h 0 5)) ∧ (wsz (xpl h 0 5)) ≤ 12 := wsz_rng _
  refine xr_istore_n (pc := 7) (i := 3) (L9 := [xR 0, xL x1, xZ, xI (wsz (xpl h 0 5)), xZ, xZ, xZ]) (hI := d_B_stirWord_7) (hi := rfl) (hn := Nat.le_of_ble_eq_true rfl) (hL9 := rfl) ?_
  refine xr_lload_n (pc := 8) (i := 1) (hI := d_B_stirWord_8) (hi := rfl) (hl := rfl) ?_
  refine xr_iload_n (pc := 9) (i := 3) (hI := d_B_stirWord_9) (hi := rfl) (hl := rfl) ?_
  refine xr_i2l (pc := 10) (hI := d_B_stirWord_10) ?_
  refine xq_callS (pc := 11) (index := 294) (K := m_B_stir) (As := [xL x1, xL (wsz (xpl h 0 5))]) (S := []) (L0 := [xL x1, xZ, xL (wsz (xpl h 0 5)), xZ]) (hI := d_B_stirWord_11) (hK := k_B_stir) (hlk := w_1082) (hnoM := rfl) (hS8 := Nat.le_of_ble_eq_true rfl) (hstat := w_1083) (hlen := Nat.le_of_ble_eq_true rfl) (hst := rfl) (hL0 := rfl)  ?_
  refine xr_lload_n (pc := 0) (i := 0) (hI := d_B_stir_0) (hi := rfl) (hl := rfl) ?_
  refine xr_ldc2 (pc := 1) (z := 31) (hI := d_B_stir_1) (hw := w_1085) (hr := by decide) (hv := by decide) ?_
  refine xr_lmul (pc := 4) (hI := d_B_stir_4) ?_
  refine xr_lload_n (pc := 5) (i := 2) (hI := d_B_stir_5) (hi := rfl) (hl := rfl) ?_
  refine xr_ladd (pc := 6) (hI := d_B_stir_6) ?_
  refine xr_lreturn (S := []) (pc := 7) (hI := d_B_stir_7) (hr := rfl) ?_
  show xwp G m_B_stirWord (d + 10) 14 [xR 0, xL x1, xZ, xI (wsz (xpl h 0 5)), xZ, xZ, xZ] [xL (xw64 ((xw64 (x1 * 31)) + (wsz (xpl h 0 5))))] _ _ _
  refine xr_lstore (pc := 14) (i := 4) (L9 := [xR 0, xL x1, xZ, xI (wsz (xpl h 0 5)), xL (xw64 ((xw64 (x1 * 31)) + (wsz (xpl h 0 5)))), xZ, xZ]) (hI := d_B_stirWord_14) (hn := Nat.le_of_ble_eq_true rfl) (hL9 := rfl) ?_
  refine xr_iconst (pc := 16) (hI := d_B_stirWord_16) (hr := by decide) ?_
  refine xr_istore (pc := 17) (i := 6) (L9 := [xR 0, xL x1, xZ, xI (wsz (xpl h 0 5)), xL (xw64 ((xw64 (x1 * 31)) + (wsz (xpl h 0 5)))), xZ, xI 0]) (hI := d_B_stirWord_17) (hn := Nat.le_of_ble_eq_true rfl) (hL9 := rfl) ?_
  exact xr_drop (L9 := [xR 0, xZ, xZ, xI (wsz (xpl h 0 5)), xL (xw64 ((xw64 (x1 * 31)) + (wsz (xpl h 0 5)))), xZ, xI 0]) (xdrs (xdrz (xdrs (xdrs (xdrs (xdrs (xdrs xdr0))))))) hyp
theorem d_B_stirWord_19 : decode prog_1_method_41_code 19 = .ok (.iload 6, 2) := by decide +kernel
theorem d_B_stirWord_21 : decode prog_1_method_41_code 21 = .ok (.iload_n 3, 1) := by decide +kernel
theorem d_B_stirWord_22 : decode prog_1_method_41_code 22 = .ok (.if_icmp .ge 23, 3) := by decide +kernel
theorem d_B_stirWord_45 : decode prog_1_method_41_code 45 = .ok (.iconst 0, 1) := by decide +kernel
theorem d_B_stirWord_46 : decode prog_1_method_41_code 46 = .ok (.istore 6, 2) := by decide +kernel
theorem d_B_stirWord_25 : decode prog_1_method_41_code 25 = .ok (.lload 4, 2) := by decide +kernel
theorem d_B_stirWord_27 : decode prog_1_method_41_code 27 = .ok (.aload_n 0, 1) := by decide +kernel
theorem d_B_stirWord_28 : decode prog_1_method_41_code 28 = .ok (.iload 6, 2) := by decide +kernel
theorem d_B_stirWord_30 : decode prog_1_method_41_code 30 = .ok (.invokevirtual 346, 3) := by decide +kernel
theorem k_B_wordByte : xCal m_B_wordByte 1 := ⟨List.mem_append_right _ (List.mem_of_getElem? (i := 1212) (by decide +kernel)), w_1, Nat.le_of_ble_eq_true rfl, ⟨by decide +kernel, by decide +kernel⟩, by decide +kernel, by decide +kernel, rfl⟩
theorem w_1209 : Cond.methodLink "BeaconIndex" 346 ⟨"BeaconIndex", "wordByte", "(I)I"⟩ ∈ lw_tbl := List.mem_append_right _ (List.mem_of_getElem? (i := 1209) (by decide +kernel))
theorem w_1210 : Cond.instanceMethod ⟨"BeaconIndex", "wordByte", "(I)I"⟩ ∈ lw_tbl := List.mem_append_right _ (List.mem_of_getElem? (i := 1210) (by decide +kernel))
theorem w_1211 : Cond.selects "BeaconIndex" ⟨"BeaconIndex", "wordByte", "(I)I"⟩ ⟨"BeaconIndex", "wordByte", "(I)I"⟩ ∈ lw_tbl := List.mem_append_right _ (List.mem_of_getElem? (i := 1211) (by decide +kernel))
theorem v_B_stirWord_19 {G : XG} {d : Nat} {h : XH} {Q : XV → XH → Prop} {X : Nat → XH → Prop} {x3 x4 x6 : Int} (F : xFix h) (hyp : ((x3 ≤ x6 → (xwp G m_B_stirWord (d + 10) 48 [xR 0, xZ, xZ, xZ, xL x4, xZ, xI 0] [] h Q X)) ∧ (¬ x3 ≤ x6 → (xwp G m_B_wordByte (d + 9) 0 [xR 0, xI x6] [] h (fun v9 h9 => xwp G m_B_stirWord (d + 10) 33 [xR 0, xZ, xZ, xI x3, xZ, xZ, xI x6] (xpush v9 [xL x4]) h9 Q X) X)))) : xwp G m_B_stirWord (d + 10) 19 [xR 0, xZ, xZ, xI x3, xL x4, xZ, xI x6] [] h Q X := by
  have hnx9 : (93 : Int) ≤ xnx h := F.2.2
  refine xr_okL (fun hl9 => ?_)
  have r_x3 : -2147483648 ≤ x3 ∧ x3 ≤ 2147483647 := hl9 (xI x3) (.tail _ (.tail _ (.tail _ (.head _)))) (Nat.le_of_ble_eq_true rfl)
  have r_x4 : -9223372036854775808 ≤ x4 ∧ x4 ≤ 9223372036854775807 := hl9 (xL x4) (.tail _ (.tail _ (.tail _ (.tail _ (.head _))))) (Nat.le_of_ble_eq_true rfl)
  have r_x6 : -2147483648 ≤ x6 ∧ x6 ≤ 2147483647 := hl9 (xI x6) (.tail _ (.tail _ (.tail _ (.tail _ (.tail _ (.tail _ (.head _))))))) (Nat.le_of_ble_eq_true rfl)
  refine xr_iload (pc := 19) (i := 6) (hI := d_B_stirWord_19) (hl := rfl) ?_
  refine xr_iload_n (pc := 21) (i := 3) (hI := d_B_stirWord_21) (hi := rfl) (hl := rfl) ?_
  refine xr_icmp_ge (pc := 22) (tgt := 45) (hI := d_B_stirWord_22) (ht := by decide) (fun q9 => ?_) (fun q9 => ?_)
  · replace hyp := hyp.1 q9
    have q1_ := q9
    clear q9
    refine xr_iconst (pc := 45) (hI := d_B_stirWord_45) (hr := by decide) ?_
    refine xr_istore (pc := 46) (i := 6) (L9 := [xR 0, xZ, xZ, xI x3, xL x4, xZ, xI 0]) (hI := d_B_stirWord_46) (hn := Nat.le_of_ble_eq_true rfl) (hL9 := rfl) ?_
    exact xr_drop (L9 := [xR 0, xZ, xZ, xZ, xL x4, xZ, xI 0]) (xdrs (xdrs (xdrs (xdrz (xdrs (xdrs (xdrs xdr0))))))) hyp
  · replace hyp := hyp.2 q9
    have q1_ := q9
    clear q9
    refine xr_lload (pc := 25) (i := 4) (hI := d_B_stirWord_25) (hl := rfl) ?_
    refine xr_aload_n (pc := 27) (i := 0) (hI := d_B_stirWord_27) (hi := rfl) (hl := rfl) ?_
    refine xr_iload (pc := 28) (i := 6) (hI := d_B_stirWord_28) (hl := rfl) ?_
    exact xq_callV (pc := 30) (index := 346) (K := m_B_wordByte) (As := [xI x6]) (S := [xL x4]) (L0 := [xR 0, xI x6]) (hI := d_B_stirWord_30) (hK := k_B_wordByte) (hlk := w_1209) (hnoM := rfl) (hS8 := Nat.le_of_ble_eq_true rfl) (ci := 0) (N := 7) (C := "BeaconIndex") (T := xF0) (hc := rfl) (hci := Nat.le_of_ble_eq_true rfl) (htb := (ft_0 F)) (hinst := w_1210) (hsel := w_1211) (hlen := Nat.le_of_ble_eq_true rfl) (hst := rfl) (hL0 := rfl)  (xwp_mono hyp (fun v9 h9 q9 => xr_drop (L9 := [xR 0, xZ, xZ, xI x3, xZ, xZ, xI x6]) (xdrs (xdrs (xdrs (xdrs (xdrz (xdrs (xdrs xdr0))))))) q9) (fun _ _ z9 => z9))
theorem d_B_stirWord_33 : decode prog_1_method_41_code 33 = .ok (.i2l, 1) := by decide +kernel
theorem d_B_stirWord_34 : decode prog_1_method_41_code 34 = .ok (.invokestatic 294, 3) := by decide +kernel
theorem d_B_stirWord_37 : decode prog_1_method_41_code 37 = .ok (.lstore 4, 2) := by decide +kernel
theorem d_B_stirWord_39 : decode prog_1_method_41_code 39 = .ok (.iinc 6 1, 3) := by decide +kernel
theorem d_B_stirWord_42 : decode prog_1_method_41_code 42 = .ok (.goto (-23), 3) := by decide +kernel
theorem v_B_stirWord_33 {G : XG} {d : Nat} {h : XH} {Q : XV → XH → Prop} {X : Nat → XH → Prop} {x3 x6 s0 s1 : Int} (F : xFix h) (hyp : xiR (x6 + 1) ∧ (xwp G m_B_stirWord (d + 10) 19 [xR 0, xZ, xZ, xI x3, xL (xw64 ((xw64 (s1 * 31)) + s0)), xZ, xI (x6 + 1)] [] h Q X)) : xwp G m_B_stirWord (d + 10) 33 [xR 0, xZ, xZ, xI x3, xZ, xZ, xI x6] [xI s0, xL s1] h Q X := by
  have hnx9 : (93 : Int) ≤ xnx h := F.2.2
  refine xr_okL (fun hl9 => ?_)
  have r_x3 : -2147483648 ≤ x3 ∧ x3 ≤ 2147483647 := hl9 (xI x3) (.tail _ (.tail _ (.tail _ (.head _)))) (Nat.le_of_ble_eq_true rfl)
  have r_x6 : -2147483648 ≤ x6 ∧ x6 ≤ 2147483647 := hl9 (xI x6) (.tail _ (.tail _ (.tail _ (.tail _ (.tail _ (.tail _ (.head _))))))) (Nat.le_of_ble_eq_true rfl)
  refine xr_okS (fun hs9 => ?_)
  have r_s0 : -2147483648 ≤ s0 ∧ s0 ≤ 2147483647 := hs9 (xI s0) (.head _)
  have r_s1 : -9223372036854775808 ≤ s1 ∧ s1 ≤ 9223372036854775807 := hs9 (xL s1) (.tail _ (.head _))
  refine xr_i2l (pc := 33) (hI := d_B_stirWord_33) ?_
  refine xq_callS (pc := 34) (index := 294) (K := m_B_stir) (As := [xL s1, xL s0]) (S := []) (L0 := [xL s1, xZ, xL s0, xZ]) (hI := d_B_stirWord_34) (hK := k_B_stir) (hlk := w_1082) (hnoM := rfl) (hS8 := Nat.le_of_ble_eq_true rfl) (hstat := w_1083) (hlen := Nat.le_of_ble_eq_true rfl) (hst := rfl) (hL0 := rfl)  ?_
  refine xr_lload_n (pc := 0) (i := 0) (hI := d_B_stir_0) (hi := rfl) (hl := rfl) ?_
  refine xr_ldc2 (pc := 1) (z := 31) (hI := d_B_stir_1) (hw := w_1085) (hr := by decide) (hv := by decide) ?_
  refine xr_lmul (pc := 4) (hI := d_B_stir_4) ?_
  refine xr_lload_n (pc := 5) (i := 2) (hI := d_B_stir_5) (hi := rfl) (hl := rfl) ?_
  refine xr_ladd (pc := 6) (hI := d_B_stir_6) ?_
  refine xr_lreturn (S := []) (pc := 7) (hI := d_B_stir_7) (hr := rfl) ?_
  show xwp G m_B_stirWord (d + 10) 37 [xR 0, xZ, xZ, xI x3, xZ, xZ, xI x6] [xL (xw64 ((xw64 (s1 * 31)) + s0))] _ _ _
  refine xr_lstore (pc := 37) (i := 4) (L9 := [xR 0, xZ, xZ, xI x3, xL (xw64 ((xw64 (s1 * 31)) + s0)), xZ, xI x6]) (hI := d_B_stirWord_37) (hn := Nat.le_of_ble_eq_true rfl) (hL9 := rfl) ?_
  obtain ⟨c9, hyp⟩ := hyp
  refine xr_iinc (pc := 39) (i := 6) (L9 := [xR 0, xZ, xZ, xI x3, xL (xw64 ((xw64 (s1 * 31)) + s0)), xZ, xI (x6 + 1)]) (hI := d_B_stirWord_39) (hl := rfl) (hn := Nat.le_of_ble_eq_true rfl) (hr := c9) (hL9 := rfl) ?_
  refine xr_goto (pc := 42) (tgt := 19) (hI := d_B_stirWord_42) (ht := by decide) ?_
  exact hyp
theorem d_B_stirWord_48 : decode prog_1_method_41_code 48 = .ok (.iload 6, 2) := by decide +kernel
theorem d_B_stirWord_50 : decode prog_1_method_41_code 50 = .ok (.iconst 2, 1) := by decide +kernel
theorem d_B_stirWord_51 : decode prog_1_method_41_code 51 = .ok (.if_icmp .ge 37, 3) := by decide +kernel
theorem d_B_stirWord_88 : decode prog_1_method_41_code 88 = .ok (.lload 4, 2) := by decide +kernel
theorem d_B_stirWord_90 : decode prog_1_method_41_code 90 = .ok (.lreturn, 1) := by decide +kernel
theorem d_B_stirWord_54 : decode prog_1_method_41_code 54 = .ok (.lload 4, 2) := by decide +kernel
theorem d_B_stirWord_56 : decode prog_1_method_41_code 56 = .ok (.aload_n 0, 1) := by decide +kernel
theorem d_B_stirWord_57 : decode prog_1_method_41_code 57 = .ok (.iload 6, 2) := by decide +kernel
theorem d_B_stirWord_59 : decode prog_1_method_41_code 59 = .ok (.invokevirtual 217, 3) := by decide +kernel
theorem v_B_stirWord_48 {G : XG} {d : Nat} {h : XH} {Q : XV → XH → Prop} {X : Nat → XH → Prop} {x4 x6 : Int} (F : xFix h) (hyp : (((2 : Int) ≤ x6 → (Q (xL x4) h)) ∧ (¬ (2 : Int) ≤ x6 → (xwp G m_B_textsWith (d + 9) 0 [xR 0, xI x6, xZ, xZ] [] h (fun v9 h9 => xwp G m_B_stirWord (d + 10) 62 [xR 0, xZ, xZ, xZ, xZ, xZ, xI x6] (xpush v9 [xL x4]) h9 Q X) X)))) : xwp G m_B_stirWord (d + 10) 48 [xR 0, xZ, xZ, xZ, xL x4, xZ, xI x6] [] h Q X := by
  have hnx9 : (93 : Int) ≤ xnx h := F.2.2
  refine xr_okL (fun hl9 => ?_)
  have r_x4 : -9223372036854775808 ≤ x4 ∧ x4 ≤ 9223372036854775807 := hl9 (xL x4) (.tail _ (.tail _ (.tail _ (.tail _ (.head _))))) (Nat.le_of_ble_eq_true rfl)
  have r_x6 : -2147483648 ≤ x6 ∧ x6 ≤ 2147483647 := hl9 (xI x6) (.tail _ (.tail _ (.tail _ (.tail _ (.tail _ (.tail _ (.head _))))))) (Nat.le_of_ble_eq_true rfl)
  refine xr_iload (pc := 48) (i := 6) (hI := d_B_stirWord_48) (hl := rfl) ?_
  refine xr_iconst (pc := 50) (hI := d_B_stirWord_50) (hr := by decide) ?_
  refine xr_icmp_ge (pc := 51) (tgt := 88) (hI := d_B_stirWord_51) (ht := by decide) (fun q9 => ?_) (fun q9 => ?_)
  · replace hyp := hyp.1 q9
    have q1_ := q9
    clear q9
    refine xr_lload (pc := 88) (i := 4) (hI := d_B_stirWord_88) (hl := rfl) ?_
    refine xr_lreturn (S := []) (pc := 90) (hI := d_B_stirWord_90) (hr := rfl) ?_
    exact hyp
  · replace hyp := hyp.2 q9
    have q1_ := q9
    clear q9
    refine xr_lload (pc := 54) (i := 4) (hI := d_B_stirWord_54) (hl := rfl) ?_
    refine xr_aload_n (pc := 56) (i := 0) (hI := d_B_stirWord_56) (hi := rfl) (hl := rfl) ?_
    refine xr_iload (pc := 57) (i := 6) (hI := d_B_stirWord_57) (hl := rfl) ?_
    exact xq_callV (pc := 59) (index := 217) (K := m_B_textsWith) (As := [xI x6]) (S := [xL x4]) (L0 := [xR 0, xI x6, xZ, xZ]) (hI := d_B_stirWord_59) (hK := k_B_textsWith) (hlk := w_1215) (hnoM := rfl) (hS8 := Nat.le_of_ble_eq_true rfl) (ci := 0) (N := 7) (C := "BeaconIndex") (T := xF0) (hc := rfl) (hci := Nat.le_of_ble_eq_true rfl) (htb := (ft_0 F)) (hinst := w_1216) (hsel := w_1217) (hlen := Nat.le_of_ble_eq_true rfl) (hst := rfl) (hL0 := rfl)  (xwp_mono hyp (fun v9 h9 q9 => xr_drop (L9 := [xR 0, xZ, xZ, xZ, xZ, xZ, xI x6]) (xdrs (xdrs (xdrs (xdrs (xdrz (xdrs (xdrs xdr0))))))) q9) (fun _ _ z9 => z9))
theorem d_B_stirWord_62 : decode prog_1_method_41_code 62 = .ok (.i2l, 1) := by decide +kernel
theorem d_B_stirWord_63 : decode prog_1_method_41_code 63 = .ok (.invokestatic 294, 3) := by decide +kernel
theorem d_B_stirWord_66 : decode prog_1_method_41_code 66 = .ok (.lstore 4, 2) := by decide +kernel
theorem d_B_stirWord_68 : decode prog_1_method_41_code 68 = .ok (.lload 4, 2) := by decide +kernel
theorem d_B_stirWord_70 : decode prog_1_method_41_code 70 = .ok (.aload_n 0, 1) := by decide +kernel
theorem d_B_stirWord_71 : decode prog_1_method_41_code 71 = .ok (.iload 6, 2) := by decide +kernel
theorem d_B_stirWord_73 : decode prog_1_method_41_code 73 = .ok (.invokevirtual 349, 3) := by decide +kernel
theorem k_B_rarity : xCal m_B_rarity 1 := ⟨List.mem_append_right _ (List.mem_of_getElem? (i := 1227) (by decide +kernel)), w_1, Nat.le_of_ble_eq_true rfl, ⟨by decide +kernel, by decide +kernel⟩, by decide +kernel, by decide +kernel, rfl⟩
theorem w_1224 : Cond.methodLink "BeaconIndex" 349 ⟨"BeaconIndex", "rarity", "(I)I"⟩ ∈ lw_tbl := List.mem_append_right _ (List.mem_of_getElem? (i := 1224) (by decide +kernel))
theorem w_1225 : Cond.instanceMethod ⟨"BeaconIndex", "rarity", "(I)I"⟩ ∈ lw_tbl := List.mem_append_right _ (List.mem_of_getElem? (i := 1225) (by decide +kernel))
theorem w_1226 : Cond.selects "BeaconIndex" ⟨"BeaconIndex", "rarity", "(I)I"⟩ ⟨"BeaconIndex", "rarity", "(I)I"⟩ ∈ lw_tbl := List.mem_append_right _ (List.mem_of_getElem? (i := 1226) (by decide +kernel))
theorem v_B_stirWord_62 {G : XG} {d : Nat} {h : XH} {Q : XV → XH → Prop} {X : Nat → XH → Prop} {x6 s0 s1 : Int} (F : xFix h) (hyp : (xwp G m_B_rarity (d + 9) 0 [xR 0, xI x6] [] h (fun v9 h9 => xwp G m_B_stirWord (d + 10) 76 [xR 0, xZ, xZ, xZ, xZ, xZ, xI x6] (xpush v9 [xL (xw64 ((xw64 (s1 * 31)) + s0))]) h9 Q X) X)) : xwp G m_B_stirWord (d + 10) 62 [xR 0, xZ, xZ, xZ, xZ, xZ, xI x6] [xI s0, xL s1] h Q X := by
  have hnx9 : (93 : Int) ≤ xnx h := F.2.2
  refine xr_okL (fun hl9 => ?_)
  have r_x6 : -2147483648 ≤ x6 ∧ x6 ≤ 2147483647 := hl9 (xI x6) (.tail _ (.tail _ (.tail _ (.tail _ (.tail _ (.tail _ (.head _))))))) (Nat.le_of_ble_eq_true rfl)
  refine xr_okS (fun hs9 => ?_)
  have r_s0 : -2147483648 ≤ s0 ∧ s0 ≤ 2147483647 := hs9 (xI s0) (.head _)
  have r_s1 : -9223372036854775808 ≤ s1 ∧ s1 ≤ 9223372036854775807 := hs9 (xL s1) (.tail _ (.head _))
  refine xr_i2l (pc := 62) (hI := d_B_stirWord_62) ?_
  refine xq_callS (pc := 63) (index := 294) (K := m_B_stir) (As := [xL s1, xL s0]) (S := []) (L0 := [xL s1, xZ, xL s0, xZ]) (hI := d_B_stirWord_63) (hK := k_B_stir) (hlk := w_1082) (hnoM := rfl) (hS8 := Nat.le_of_ble_eq_true rfl) (hstat := w_1083) (hlen := Nat.le_of_ble_eq_true rfl) (hst := rfl) (hL0 := rfl)  ?_
  refine xr_lload_n (pc := 0) (i := 0) (hI := d_B_stir_0) (hi := rfl) (hl := rfl) ?_
  refine xr_ldc2 (pc := 1) (z := 31) (hI := d_B_stir_1) (hw := w_1085) (hr := by decide) (hv := by decide) ?_
  refine xr_lmul (pc := 4) (hI := d_B_stir_4) ?_
  refine xr_lload_n (pc := 5) (i := 2) (hI := d_B_stir_5) (hi := rfl) (hl := rfl) ?_
  refine xr_ladd (pc := 6) (hI := d_B_stir_6) ?_
  refine xr_lreturn (S := []) (pc := 7) (hI := d_B_stir_7) (hr := rfl) ?_
  show xwp G m_B_stirWord (d + 10) 66 [xR 0, xZ, xZ, xZ, xZ, xZ, xI x6] [xL (xw64 ((xw64 (s1 * 31)) + s0))] _ _ _
  refine xr_lstore (pc := 66) (i := 4) (L9 := [xR 0, xZ, xZ, xZ, xL (xw64 ((xw64 (s1 * 31)) + s0)), xZ, xI x6]) (hI := d_B_stirWord_66) (hn := Nat.le_of_ble_eq_true rfl) (hL9 := rfl) ?_
  refine xr_lload (pc := 68) (i := 4) (hI := d_B_stirWord_68) (hl := rfl) ?_
  refine xr_aload_n (pc := 70) (i := 0) (hI := d_B_stirWord_70) (hi := rfl) (hl := rfl) ?_
  refine xr_iload (pc := 71) (i := 6) (hI := d_B_stirWord_71) (hl := rfl) ?_
  exact xq_callV (pc := 73) (index := 349) (K := m_B_rarity) (As := [xI x6]) (S := [xL (xw64 ((xw64 (s1 * 31)) + s0))]) (L0 := [xR 0, xI x6]) (hI := d_B_stirWord_73) (hK := k_B_rarity) (hlk := w_1224) (hnoM := rfl) (hS8 := Nat.le_of_ble_eq_true rfl) (ci := 0) (N := 7) (C := "BeaconIndex") (T := xF0) (hc := rfl) (hci := Nat.le_of_ble_eq_true rfl) (htb := (ft_0 F)) (hinst := w_1225) (hsel := w_1226) (hlen := Nat.le_of_ble_eq_true rfl) (hst := rfl) (hL0 := rfl)  (xwp_mono hyp (fun v9 h9 q9 => xr_drop (L9 := [xR 0, xZ, xZ, xZ, xZ, xZ, xI x6]) (xdrs (xdrs (xdrs (xdrs (xdrz (xdrs (xdrs xdr0))))))) q9) (fun _ _ z9 => z9))
theorem d_B_stirWord_76 : decode prog_1_method_41_code 76 = .ok (.i2l, 1) := by decide +kernel
theorem d_B_stirWord_77 : decode prog_1_method_41_code 77 = .ok (.invokestatic 294, 3) := by decide +kernel
theorem d_B_stirWord_80 : decode prog_1_method_41_code 80 = .ok (.lstore 4, 2) := by decide +kernel
theorem d_B_stirWord_82 : decode prog_1_method_41_code 82 = .ok (.iinc 6 1, 3) := by decide +kernel
theorem d_B_stirWord_85 : decode prog_1_method_41_code 85 = .ok (.goto (-37), 3) := by decide +kernel
theorem v_B_stirWord_76 {G : XG} {d : Nat} {h : XH} {Q : XV → XH → Prop} {X : Nat → XH → Prop} {x6 s0 s1 : Int} (F : xFix h) (hyp : xiR (x6 + 1) ∧ (xwp G m_B_stirWord (d + 10) 48 [xR 0, xZ, xZ, xZ, xL (xw64 ((xw64 (s1 * 31)) + s0)), xZ, xI (x6 + 1)] [] h Q X)) : xwp G m_B_stirWord (d + 10) 76 [xR 0, xZ, xZ, xZ, xZ, xZ, xI x6] [xI s0, xL s1] h Q X := by
  have hnx9 : (93 : Int) ≤ xnx h := F.2.2
  refine xr_okL (fun hl9 => ?_)
  have r_x6 : -2147483648 ≤ x6 ∧ x6 ≤ 2147483647 := hl9 (xI x6) (.tail _ (.tail _ (.tail _ (.tail _ (.tail _ (.tail _ (.head _))))))) (Nat.le_of_ble_eq_true rfl)
  refine xr_okS (fun hs9 => ?_)
  have r_s0 : -2147483648 ≤ s0 ∧ s0 ≤ 2147483647 := hs9 (xI s0) (.head _)
  have r_s1 : -9223372036854775808 ≤ s1 ∧ s1 ≤ 9223372036854775807 := hs9 (xL s1) (.tail _ (.head _))
  refine xr_i2l (pc := 76) (hI := d_B_stirWord_76) ?_
  refine xq_callS (pc := 77) (index := 294) (K := m_B_stir) (As := [xL s1, xL s0]) (S := []) (L0 := [xL s1, xZ, xL s0, xZ]) (hI := d_B_stirWord_77) (hK := k_B_stir) (hlk := w_1082) (hnoM := rfl) (hS8 := Nat.le_of_ble_eq_true rfl) (hstat := w_1083) (hlen := Nat.le_of_ble_eq_true rfl) (hst := rfl) (hL0 := rfl)  ?_
  refine xr_lload_n (pc := 0) (i := 0) (hI := d_B_stir_0) (hi := rfl) (hl := rfl) ?_
  refine xr_ldc2 (pc := 1) (z := 31) (hI := d_B_stir_1) (hw := w_1085) (hr := by decide) (hv := by decide) ?_
  refine xr_lmul (pc := 4) (hI := d_B_stir_4) ?_
  refine xr_lload_n (pc := 5) (i := 2) (hI := d_B_stir_5) (hi := rfl) (hl := rfl) ?_
  refine xr_ladd (pc := 6) (hI := d_B_stir_6) ?_
  refine xr_lreturn (S := []) (pc := 7) (hI := d_B_stir_7) (hr := rfl) ?_
  show xwp G m_B_stirWord (d + 10) 80 [xR 0, xZ, xZ, xZ, xZ, xZ, xI x6] [xL (xw64 ((xw64 (s1 * 31)) + s0))] _ _ _
  refine xr_lstore (pc := 80) (i := 4) (L9 := [xR 0, xZ, xZ, xZ, xL (xw64 ((xw64 (s1 * 31)) + s0)), xZ, xI x6]) (hI := d_B_stirWord_80) (hn := Nat.le_of_ble_eq_true rfl) (hL9 := rfl) ?_
  obtain ⟨c9, hyp⟩ := hyp
  refine xr_iinc (pc := 82) (i := 6) (L9 := [xR 0, xZ, xZ, xZ, xL (xw64 ((xw64 (s1 * 31)) + s0)), xZ, xI (x6 + 1)]) (hI := d_B_stirWord_82) (hl := rfl) (hn := Nat.le_of_ble_eq_true rfl) (hr := c9) (hL9 := rfl) ?_
  refine xr_goto (pc := 85) (tgt := 48) (hI := d_B_stirWord_85) (ht := by decide) ?_
  exact hyp
theorem d_B_stirQuestion_0 : decode prog_1_method_42_code 0 = .ok (.lload_n 1, 1) := by decide +kernel
theorem d_B_stirQuestion_1 : decode prog_1_method_42_code 1 = .ok (.aload_n 0, 1) := by decide +kernel
theorem d_B_stirQuestion_2 : decode prog_1_method_42_code 2 = .ok (.invokevirtual 352, 3) := by decide +kernel
theorem k_B_parts : xCal m_B_parts 0 := ⟨List.mem_append_right _ (List.mem_of_getElem? (i := 1237) (by decide +kernel)), w_1, Nat.le_of_ble_eq_true rfl, ⟨by decide +kernel, by decide +kernel⟩, by decide +kernel, by decide +kernel, rfl⟩
theorem w_1234 : Cond.methodLink "BeaconIndex" 352 ⟨"BeaconIndex", "parts", "()I"⟩ ∈ lw_tbl := List.mem_append_right _ (List.mem_of_getElem? (i := 1234) (by decide +kernel))
theorem w_1235 : Cond.instanceMethod ⟨"BeaconIndex", "parts", "()I"⟩ ∈ lw_tbl := List.mem_append_right _ (List.mem_of_getElem? (i := 1235) (by decide +kernel))
theorem w_1236 : Cond.selects "BeaconIndex" ⟨"BeaconIndex", "parts", "()I"⟩ ⟨"BeaconIndex", "parts", "()I"⟩ ∈ lw_tbl := List.mem_append_right _ (List.mem_of_getElem? (i := 1236) (by decide +kernel))
theorem v_B_stirQuestion_0 {G : XG} {d : Nat} {h : XH} {Q : XV → XH → Prop} {X : Nat → XH → Prop} {x1 : Int} (F : xFix h) (hyp : (xwp G m_B_parts (d + 8) 0 [xR 0] [] h (fun v9 h9 => xwp G m_B_stirQuestion (d + 9) 5 [xR 0, xZ, xZ, xZ, xZ, xZ, xZ] (xpush v9 [xL x1]) h9 Q X) X)) : xwp G m_B_stirQuestion (d + 9) 0 [xR 0, xL x1, xZ, xZ, xZ, xZ, xZ] [] h Q X := by
  have hnx9 : (93 : Int) ≤ xnx h := F.2.2
  refine xr_okL (fun hl9 => ?_)
  have r_x1 : -9223372036854775808 ≤ x1 ∧ x1 ≤ 9223372036854775807 := hl9 (xL x1) (.tail _ (.head _)) (Nat.le_of_ble_eq_true rfl)
  refine xr_lload_n (pc := 0) (i := 1) (hI := d_B_stirQuestion_0) (hi := rfl) (hl := rfl) ?_
  refine xr_aload_n (pc := 1) (i := 0) (hI := d_B_stirQuestion_1) (hi := rfl) (hl := rfl) ?_
  exact xq_callV (pc := 2) (index := 352) (K := m_B_parts) (As := []) (S := [xL x1]) (L0 := [xR 0]) (hI := d_B_stirQuestion_2) (hK := k_B_parts) (hlk := w_1234) (hnoM := rfl) (hS8 := Nat.le_of_ble_eq_true rfl) (ci := 0) (N := 7) (C := "BeaconIndex") (T := xF0) (hc := rfl) (hci := Nat.le_of_ble_eq_true rfl) (htb := (ft_0 F)) (hinst := w_1235) (hsel := w_1236) (hlen := Nat.le_of_ble_eq_true rfl) (hst := rfl) (hL0 := rfl)  (xwp_mono hyp (fun v9 h9 q9 => xr_drop (L9 := [xR 0, xZ, xZ, xZ, xZ, xZ, xZ]) (xdrs (xdrz (xdrs (xdrs (xdrs (xdrs (xdrs xdr0))))))) q9) (fun _ _ z9 => z9))
theorem d_B_stirQuestion_5 : decode prog_1_method_42_code 5 = .ok (.i2l, 1) := by decide +kernel
theorem d_B_stirQuestion_6 : decode prog_1_method_42_code 6 = .ok (.invokestatic 294, 3) := by decide +kernel
theorem d_B_stirQuestion_9 : decode prog_1_method_42_code 9 = .ok (.lstore_n 3, 1) := by decide +kernel
theorem d_B_stirQuestion_10 : decode prog_1_method_42_code 10 = .ok (.lload_n 3, 1) := by decide +kernel
theorem d_B_stirQuestion_11 : decode prog_1_method_42_code 11 = .ok (.aload_n 0, 1) := by decide +kernel
theorem d_B_stirQuestion_12 : decode prog_1_method_42_code 12 = .ok (.invokevirtual 354, 3) := by decide +kernel
theorem k_B_found : xCal m_B_found 0 := ⟨List.mem_append_right _ (List.mem_of_getElem? (i := 1266) (by decide +kernel)), w_1, Nat.le_of_ble_eq_true rfl, ⟨by decide +kernel, by decide +kernel⟩, by decide +kernel, by decide +kernel, rfl⟩
theorem w_1263 : Cond.methodLink "BeaconIndex" 354 ⟨"BeaconIndex", "found", "()I"⟩ ∈ lw_tbl := List.mem_append_right _ (List.mem_of_getElem? (i := 1263) (by decide +kernel))
theorem w_1264 : Cond.instanceMethod ⟨"BeaconIndex", "found", "()I"⟩ ∈ lw_tbl := List.mem_append_right _ (List.mem_of_getElem? (i := 1264) (by decide +kernel))
theorem w_1265 : Cond.selects "BeaconIndex" ⟨"BeaconIndex", "found", "()I"⟩ ⟨"BeaconIndex", "found", "()I"⟩ ∈ lw_tbl := List.mem_append_right _ (List.mem_of_getElem? (i := 1265) (by decide +kernel))
theorem v_B_stirQuestion_5 {G : XG} {d : Nat} {h : XH} {Q : XV → XH → Prop} {X : Nat → XH → Prop} {s0 s1 : Int} (F : xFix h) (hyp : (xwp G m_B_found (d + 8) 0 [xR 0] [] h (fun v9 h9 => xwp G m_B_stirQuestion (d + 9) 15 [xR 0, xZ, xZ, xZ, xZ, xZ, xZ] (xpush v9 [xL (xw64 ((xw64 (s1 * 31)) + s0))]) h9 Q X) X)) : xwp G m_B_stirQuestion (d + 9) 5 [xR 0, xZ, xZ, xZ, xZ, xZ, xZ] [xI s0, xL s1] h Q X := by
  have hnx9 : (93 : Int) ≤ xnx h := F.2.2
  refine xr_okS (fun hs9 => ?_)
  have r_s0 : -2147483648 ≤ s0 ∧ s0 ≤ 2147483647 := hs9 (xI s0) (.head _)
  have r_s1 : -9223372036854775808 ≤ s1 ∧ s1 ≤ 9223372036854775807 := hs9 (xL s1) (.tail _ (.head _))
  refine xr_i2l (pc := 5) (hI := d_B_stirQuestion_5) ?_
  refine xq_callS (pc := 6) (index := 294) (K := m_B_stir) (As := [xL s1, xL s0]) (S := []) (L0 := [xL s1, xZ, xL s0, xZ]) (hI := d_B_stirQuestion_6) (hK := k_B_stir) (hlk := w_1082) (hnoM := rfl) (hS8 := Nat.le_of_ble_eq_true rfl) (hstat := w_1083) (hlen := Nat.le_of_ble_eq_true rfl) (hst := rfl) (hL0 := rfl)  ?_
  refine xr_lload_n (pc := 0) (i := 0) (hI := d_B_stir_0) (hi := rfl) (hl := rfl) ?_
  refine xr_ldc2 (pc := 1) (z := 31) (hI := d_B_stir_1) (hw := w_1085) (hr := by decide) (hv := by decide) ?_
  refine xr_lmul (pc := 4) (hI := d_B_stir_4) ?_
  refine xr_lload_n (pc := 5) (i := 2) (hI := d_B_stir_5) (hi := rfl) (hl := rfl) ?_
  refine xr_ladd (pc := 6) (hI := d_B_stir_6) ?_
  refine xr_lreturn (S := []) (pc := 7) (hI := d_B_stir_7) (hr := rfl) ?_
  show xwp G m_B_stirQuestion (d + 9) 9 [xR 0, xZ, xZ, xZ, xZ, xZ, xZ] [xL (xw64 ((xw64 (s1 * 31)) + s0))] _ _ _
  refine xr_lstore_n (pc := 9) (i := 3) (L9 := [xR 0, xZ, xZ, xL (xw64 ((xw64 (s1 * 31)) + s0)), xZ, xZ, xZ]) (hI := d_B_stirQuestion_9) (hi := rfl) (hn := Nat.le_of_ble_eq_true rfl) (hL9 := rfl) ?_
  refine xr_lload_n (pc := 10) (i := 3) (hI := d_B_stirQuestion_10) (hi := rfl) (hl := rfl) ?_
  refine xr_aload_n (pc := 11) (i := 0) (hI := d_B_stirQuestion_11) (hi := rfl) (hl := rfl) ?_
  exact xq_callV (pc := 12) (index := 354) (K := m_B_found) (As := []) (S := [xL (xw64 ((xw64 (s1 * 31)) + s0))]) (L0 := [xR 0]) (hI := d_B_stirQuestion_12) (hK := k_B_found) (hlk := w_1263) (hnoM := rfl) (hS8 := Nat.le_of_ble_eq_true rfl) (ci := 0) (N := 7) (C := "BeaconIndex") (T := xF0) (hc := rfl) (hci := Nat.le_of_ble_eq_true rfl) (htb := (ft_0 F)) (hinst := w_1264) (hsel := w_1265) (hlen := Nat.le_of_ble_eq_true rfl) (hst := rfl) (hL0 := rfl)  (xwp_mono hyp (fun v9 h9 q9 => xr_drop (L9 := [xR 0, xZ, xZ, xZ, xZ, xZ, xZ]) (xdrs (xdrs (xdrs (xdrz (xdrs (xdrs (xdrs xdr0))))))) q9) (fun _ _ z9 => z9))
theorem d_B_stirQuestion_15 : decode prog_1_method_42_code 15 = .ok (.i2l, 1) := by decide +kernel
theorem d_B_stirQuestion_16 : decode prog_1_method_42_code 16 = .ok (.invokestatic 294, 3) := by decide +kernel
theorem d_B_stirQuestion_19 : decode prog_1_method_42_code 19 = .ok (.lstore_n 3, 1) := by decide +kernel
theorem d_B_stirQuestion_20 : decode prog_1_method_42_code 20 = .ok (.iconst 0, 1) := by decide +kernel
theorem d_B_stirQuestion_21 : decode prog_1_method_42_code 21 = .ok (.istore 5, 2) := by decide +kernel
theorem v_B_stirQuestion_15 {G : XG} {d : Nat} {h : XH} {Q : XV → XH → Prop} {X : Nat → XH → Prop} {s0 s1 : Int} (F : xFix h) (hyp : (xwp G m_B_stirQuestion (d + 9) 23 [xR 0, xZ, xZ, xL (xw64 ((xw64 (s1 * 31)) + s0)), xZ, xI 0, xZ] [] h Q X)) : xwp G m_B_stirQuestion (d + 9) 15 [xR 0, xZ, xZ, xZ, xZ, xZ, xZ] [xI s0, xL s1] h Q X := by
  have hnx9 : (93 : Int) ≤ xnx h := F.2.2
  refine xr_okS (fun hs9 => ?_)
  have r_s0 : -2147483648 ≤ s0 ∧ s0 ≤ 2147483647 := hs9 (xI s0) (.head _)
  have r_s1 : -9223372036854775808 ≤ s1 ∧ s1 ≤ 9223372036854775807 := hs9 (xL s1) (.tail _ (.head _))
  refine xr_i2l (pc := 15) (hI := d_B_stirQuestion_15) ?_
  refine xq_callS (pc := 16) (index := 294) (K := m_B_stir) (As := [xL s1, xL s0]) (S := []) (L0 := [xL s1, xZ, xL s0, xZ]) (hI := d_B_stirQuestion_16) (hK := k_B_stir) (hlk := w_1082) (hnoM := rfl) (hS8 := Nat.le_of_ble_eq_true rfl) (hstat := w_1083) (hlen := Nat.le_of_ble_eq_true rfl) (hst := rfl) (hL0 := rfl)  ?_
  refine xr_lload_n (pc := 0) (i := 0) (hI := d_B_stir_0) (hi := rfl) (hl := rfl) ?_
  refine xr_ldc2 (pc := 1) (z := 31) (hI := d_B_stir_1) (hw := w_1085) (hr := by decide) (hv := by decide) ?_
  refine xr_lmul (pc := 4) (hI := d_B_stir_4) ?_
  refine xr_lload_n (pc := 5) (i := 2) (hI := d_B_stir_5) (hi := rfl) (hl := rfl) ?_
  refine xr_ladd (pc := 6) (hI := d_B_stir_6) ?_
  refine xr_lreturn (S := []) (pc := 7) (hI := d_B_stir_7) (hr := rfl) ?_
  show xwp G m_B_stirQuestion (d + 9) 19 [xR 0, xZ, xZ, xZ, xZ, xZ, xZ] [xL (xw64 ((xw64 (s1 * 31)) + s0))] _ _ _
  refine xr_lstore_n (pc := 19) (i := 3) (L9 := [xR 0, xZ, xZ, xL (xw64 ((xw64 (s1 * 31)) + s0)), xZ, xZ, xZ]) (hI := d_B_stirQuestion_19) (hi := rfl) (hn := Nat.le_of_ble_eq_true rfl) (hL9 := rfl) ?_
  refine xr_iconst (pc := 20) (hI := d_B_stirQuestion_20) (hr := by decide) ?_
  refine xr_istore (pc := 21) (i := 5) (L9 := [xR 0, xZ, xZ, xL (xw64 ((xw64 (s1 * 31)) + s0)), xZ, xI 0, xZ]) (hI := d_B_stirQuestion_21) (hn := Nat.le_of_ble_eq_true rfl) (hL9 := rfl) ?_
  exact hyp
theorem d_B_stirQuestion_23 : decode prog_1_method_42_code 23 = .ok (.iload 5, 2) := by decide +kernel
theorem d_B_stirQuestion_25 : decode prog_1_method_42_code 25 = .ok (.aload_n 0, 1) := by decide +kernel
theorem d_B_stirQuestion_26 : decode prog_1_method_42_code 26 = .ok (.invokevirtual 354, 3) := by decide +kernel
theorem v_B_stirQuestion_23 {G : XG} {d : Nat} {h : XH} {Q : XV → XH → Prop} {X : Nat → XH → Prop} {x3 x5 : Int} (F : xFix h) (hyp : (xwp G m_B_found (d + 8) 0 [xR 0] [] h (fun v9 h9 => xwp G m_B_stirQuestion (d + 9) 29 [xR 0, xZ, xZ, xL x3, xZ, xI x5, xZ] (xpush v9 [xI x5]) h9 Q X) X)) : xwp G m_B_stirQuestion (d + 9) 23 [xR 0, xZ, xZ, xL x3, xZ, xI x5, xZ] [] h Q X := by
  have hnx9 : (93 : Int) ≤ xnx h := F.2.2
  refine xr_okL (fun hl9 => ?_)
  have r_x3 : -9223372036854775808 ≤ x3 ∧ x3 ≤ 9223372036854775807 := hl9 (xL x3) (.tail _ (.tail _ (.tail _ (.head _)))) (Nat.le_of_ble_eq_true rfl)
  have r_x5 : -2147483648 ≤ x5 ∧ x5 ≤ 2147483647 := hl9 (xI x5) (.tail _ (.tail _ (.tail _ (.tail _ (.tail _ (.head _)))))) (Nat.le_of_ble_eq_true rfl)
  refine xr_iload (pc := 23) (i := 5) (hI := d_B_stirQuestion_23) (hl := rfl) ?_
  refine xr_aload_n (pc := 25) (i := 0) (hI := d_B_stirQuestion_25) (hi := rfl) (hl := rfl) ?_
  exact xq_callV (pc := 26) (index := 354) (K := m_B_found) (As := []) (S := [xI x5]) (L0 := [xR 0]) (hI := d_B_stirQuestion_26) (hK := k_B_found) (hlk := w_1263) (hnoM := rfl) (hS8 := Nat.le_of_ble_eq_true rfl) (ci := 0) (N := 7) (C := "BeaconIndex") (T := xF0) (hc := rfl) (hci := Nat.le_of_ble_eq_true rfl) (htb := (ft_0 F)) (hinst := w_1264) (hsel := w_1265) (hlen := Nat.le_of_ble_eq_true rfl) (hst := rfl) (hL0 := rfl)  hyp
theorem d_B_stirQuestion_29 : decode prog_1_method_42_code 29 = .ok (.if_icmp .ge 63, 3) := by decide +kernel
theorem d_B_stirQuestion_92 : decode prog_1_method_42_code 92 = .ok (.iconst 0, 1) := by decide +kernel
theorem d_B_stirQuestion_93 : decode prog_1_method_42_code 93 = .ok (.istore 5, 2) := by decide +kernel
theorem d_B_stirQuestion_32 : decode prog_1_method_42_code 32 = .ok (.aload_n 0, 1) := by decide +kernel
theorem d_B_stirQuestion_33 : decode prog_1_method_42_code 33 = .ok (.iload 5, 2) := by decide +kernel
theorem d_B_stirQuestion_35 : decode prog_1_method_42_code 35 = .ok (.invokevirtual 357, 3) := by decide +kernel
theorem k_B_keyFound : xCal m_B_keyFound 1 := ⟨List.mem_append_right _ (List.mem_of_getElem? (i := 1270) (by decide +kernel)), w_1, Nat.le_of_ble_eq_true rfl, ⟨by decide +kernel, by decide +kernel⟩, by decide +kernel, by decide +kernel, rfl⟩
theorem w_1267 : Cond.methodLink "BeaconIndex" 357 ⟨"BeaconIndex", "keyFound", "(I)I"⟩ ∈ lw_tbl := List.mem_append_right _ (List.mem_of_getElem? (i := 1267) (by decide +kernel))
theorem w_1268 : Cond.instanceMethod ⟨"BeaconIndex", "keyFound", "(I)I"⟩ ∈ lw_tbl := List.mem_append_right _ (List.mem_of_getElem? (i := 1268) (by decide +kernel))
theorem w_1269 : Cond.selects "BeaconIndex" ⟨"BeaconIndex", "keyFound", "(I)I"⟩ ⟨"BeaconIndex", "keyFound", "(I)I"⟩ ∈ lw_tbl := List.mem_append_right _ (List.mem_of_getElem? (i := 1269) (by decide +kernel))
theorem v_B_stirQuestion_29 {G : XG} {d : Nat} {h : XH} {Q : XV → XH → Prop} {X : Nat → XH → Prop} {x3 x5 s0 s1 : Int} (F : xFix h) (hyp : ((s0 ≤ s1 → (xwp G m_B_stirQuestion (d + 9) 95 [xR 0, xZ, xZ, xL x3, xZ, xI 0, xZ] [] h Q X)) ∧ (¬ s0 ≤ s1 → (xwp G m_B_keyFound (d + 8) 0 [xR 0, xI x5] [] h (fun v9 h9 => xwp G m_B_stirQuestion (d + 9) 38 [xR 0, xZ, xZ, xL x3, xZ, xI x5, xZ] (xpush v9 []) h9 Q X) X)))) : xwp G m_B_stirQuestion (d + 9) 29 [xR 0, xZ, xZ, xL x3, xZ, xI x5, xZ] [xI s0, xI s1] h Q X := by
  have hnx9 : (93 : Int) ≤ xnx h := F.2.2
  refine xr_okL (fun hl9 => ?_)
  have r_x3 : -9223372036854775808 ≤ x3 ∧ x3 ≤ 9223372036854775807 := hl9 (xL x3) (.tail _ (.tail _ (.tail _ (.head _)))) (Nat.le_of_ble_eq_true rfl)
  have r_x5 : -2147483648 ≤ x5 ∧ x5 ≤ 2147483647 := hl9 (xI x5) (.tail _ (.tail _ (.tail _ (.tail _ (.tail _ (.head _)))))) (Nat.le_of_ble_eq_true rfl)
  refine xr_okS (fun hs9 => ?_)
  have r_s0 : -2147483648 ≤ s0 ∧ s0 ≤ 2147483647 := hs9 (xI s0) (.head _)
  have r_s1 : -2147483648 ≤ s1 ∧ s1 ≤ 2147483647 := hs9 (xI s1) (.tail _ (.head _))
  refine xr_icmp_ge (pc := 29) (tgt := 92) (hI := d_B_stirQuestion_29) (ht := by decide) (fun q9 => ?_) (fun q9 => ?_)
  · replace hyp := hyp.1 q9
    have q1_ := q9
    clear q9
    refine xr_iconst (pc := 92) (hI := d_B_stirQuestion_92) (hr := by decide) ?_
    refine xr_istore (pc := 93) (i := 5) (L9 := [xR 0, xZ, xZ, xL x3, xZ, xI 0, xZ]) (hI := d_B_stirQuestion_93) (hn := Nat.le_of_ble_eq_true rfl) (hL9 := rfl) ?_
    exact hyp
  · replace hyp := hyp.2 q9
    have q1_ := q9
    clear q9
    refine xr_aload_n (pc := 32) (i := 0) (hI := d_B_stirQuestion_32) (hi := rfl) (hl := rfl) ?_
    refine xr_iload (pc := 33) (i := 5) (hI := d_B_stirQuestion_33) (hl := rfl) ?_
    exact xq_callV (pc := 35) (index := 357) (K := m_B_keyFound) (As := [xI x5]) (S := []) (L0 := [xR 0, xI x5]) (hI := d_B_stirQuestion_35) (hK := k_B_keyFound) (hlk := w_1267) (hnoM := rfl) (hS8 := Nat.le_of_ble_eq_true rfl) (ci := 0) (N := 7) (C := "BeaconIndex") (T := xF0) (hc := rfl) (hci := Nat.le_of_ble_eq_true rfl) (htb := (ft_0 F)) (hinst := w_1268) (hsel := w_1269) (hlen := Nat.le_of_ble_eq_true rfl) (hst := rfl) (hL0 := rfl)  hyp
theorem d_B_stirQuestion_38 : decode prog_1_method_42_code 38 = .ok (.istore 6, 2) := by decide +kernel
theorem d_B_stirQuestion_40 : decode prog_1_method_42_code 40 = .ok (.lload_n 3, 1) := by decide +kernel
theorem d_B_stirQuestion_41 : decode prog_1_method_42_code 41 = .ok (.iload 6, 2) := by decide +kernel
theorem d_B_stirQuestion_43 : decode prog_1_method_42_code 43 = .ok (.i2l, 1) := by decide +kernel
theorem d_B_stirQuestion_44 : decode prog_1_method_42_code 44 = .ok (.invokestatic 294, 3) := by decide +kernel
theorem d_B_stirQuestion_47 : decode prog_1_method_42_code 47 = .ok (.lstore_n 3, 1) := by decide +kernel
theorem d_B_stirQuestion_48 : decode prog_1_method_42_code 48 = .ok (.lload_n 3, 1) := by decide +kernel
theorem d_B_stirQuestion_49 : decode prog_1_method_42_code 49 = .ok (.aload_n 0, 1) := by decide +kernel
theorem d_B_stirQuestion_50 : decode prog_1_method_42_code 50 = .ok (.iload 5, 2) := by decide +kernel
theorem d_B_stirQuestion_52 : decode prog_1_method_42_code 52 = .ok (.invokevirtual 360, 3) := by decide +kernel
theorem k_B_weightFound : xCal m_B_weightFound 1 := ⟨List.mem_append_right _ (List.mem_of_getElem? (i := 1282) (by decide +kernel)), w_1, Nat.le_of_ble_eq_true rfl, ⟨by decide +kernel, by decide +kernel⟩, by decide +kernel, by decide +kernel, rfl⟩
theorem w_1279 : Cond.methodLink "BeaconIndex" 360 ⟨"BeaconIndex", "weightFound", "(I)I"⟩ ∈ lw_tbl := List.mem_append_right _ (List.mem_of_getElem? (i := 1279) (by decide +kernel))
theorem w_1280 : Cond.instanceMethod ⟨"BeaconIndex", "weightFound", "(I)I"⟩ ∈ lw_tbl := List.mem_append_right _ (List.mem_of_getElem? (i := 1280) (by decide +kernel))
theorem w_1281 : Cond.selects "BeaconIndex" ⟨"BeaconIndex", "weightFound", "(I)I"⟩ ⟨"BeaconIndex", "weightFound", "(I)I"⟩ ∈ lw_tbl := List.mem_append_right _ (List.mem_of_getElem? (i := 1281) (by decide +kernel))
theorem v_B_stirQuestion_38 {G : XG} {d : Nat} {h : XH} {Q : XV → XH → Prop} {X : Nat → XH → Prop} {x3 x5 s0 : Int} (F : xFix h) (hyp : (xwp G m_B_weightFound (d + 8) 0 [xR 0, xI x5] [] h (fun v9 h9 => xwp G m_B_stirQuestion (d + 9) 55 [xR 0, xZ, xZ, xZ, xZ, xI x5, xI s0] (xpush v9 [xL (xw64 ((xw64 (x3 * 31)) + s0))]) h9 Q X) X)) : xwp G m_B_stirQuestion (d + 9) 38 [xR 0, xZ, xZ, xL x3, xZ, xI x5, xZ] [xI s0] h Q X := by
  have hnx9 : (93 : Int) ≤ xnx h := F.2.2
  refine xr_okL (fun hl9 => ?_)
  have r_x3 : -9223372036854775808 ≤ x3 ∧ x3 ≤ 9223372036854775807 := hl9 (xL x3) (.tail _ (.tail _ (.tail _ (.head _)))) (Nat.le_of_ble_eq_true rfl)
  have r_x5 : -2147483648 ≤ x5 ∧ x5 ≤ 2147483647 := hl9 (xI x5) (.tail _ (.tail _ (.tail _ (.tail _ (.tail _ (.head _)))))) (Nat.le_of_ble_eq_true rfl)
  refine xr_okS (fun hs9 => ?_)
  have r_s0 : -2147483648 ≤ s0 ∧ s0 ≤ 2147483647 := hs9 (xI s0) (.head _)
  refine xr_istore (pc := 38) (i := 6) (L9 := [xR 0, xZ, xZ, xL x3, xZ, xI x5, xI s0]) (hI := d_B_stirQuestion_38) (hn := Nat.le_of_ble_eq_true rfl) (hL9 := rfl) ?_
  refine xr_lload_n (pc := 40) (i := 3) (hI := d_B_stirQuestion_40) (hi := rfl) (hl := rfl) ?_
  refine xr_iload (pc := 41) (i := 6) (hI := d_B_stirQuestion_41) (hl := rfl) ?_
  refine xr_i2l (pc := 43) (hI := d_B_stirQuestion_43) ?_
  refine xq_callS (pc := 44) (index := 294) (K := m_B_stir) (As := [xL x3, xL s0]) (S := []) (L0 := [xL x3, xZ, xL s0, xZ]) (hI := d_B_stirQuestion_44) (hK := k_B_stir) (hlk := w_1082) (hnoM := rfl) (hS8 := Nat.le_of_ble_eq_true rfl) (hstat := w_1083) (hlen := Nat.le_of_ble_eq_true rfl) (hst := rfl) (hL0 := rfl)  ?_
  refine xr_lload_n (pc := 0) (i := 0) (hI := d_B_stir_0) (hi := rfl) (hl := rfl) ?_
  refine xr_ldc2 (pc := 1) (z := 31) (hI := d_B_stir_1) (hw := w_1085) (hr := by decide) (hv := by decide) ?_
  refine xr_lmul (pc := 4) (hI := d_B_stir_4) ?_
  refine xr_lload_n (pc := 5) (i := 2) (hI := d_B_stir_5) (hi := rfl) (hl := rfl) ?_
  refine xr_ladd (pc := 6) (hI := d_B_stir_6) ?_
  refine xr_lreturn (S := []) (pc := 7) (hI := d_B_stir_7) (hr := rfl) ?_
  show xwp G m_B_stirQuestion (d + 9) 47 [xR 0, xZ, xZ, xL x3, xZ, xI x5, xI s0] [xL (xw64 ((xw64 (x3 * 31)) + s0))] _ _ _
  refine xr_lstore_n (pc := 47) (i := 3) (L9 := [xR 0, xZ, xZ, xL (xw64 ((xw64 (x3 * 31)) + s0)), xZ, xI x5, xI s0]) (hI := d_B_stirQuestion_47) (hi := rfl) (hn := Nat.le_of_ble_eq_true rfl) (hL9 := rfl) ?_
  refine xr_lload_n (pc := 48) (i := 3) (hI := d_B_stirQuestion_48) (hi := rfl) (hl := rfl) ?_
  refine xr_aload_n (pc := 49) (i := 0) (hI := d_B_stirQuestion_49) (hi := rfl) (hl := rfl) ?_
  refine xr_iload (pc := 50) (i := 5) (hI := d_B_stirQuestion_50) (hl := rfl) ?_
  exact xq_callV (pc := 52) (index := 360) (K := m_B_weightFound) (As := [xI x5]) (S := [xL (xw64 ((xw64 (x3 * 31)) + s0))]) (L0 := [xR 0, xI x5]) (hI := d_B_stirQuestion_52) (hK := k_B_weightFound) (hlk := w_1279) (hnoM := rfl) (hS8 := Nat.le_of_ble_eq_true rfl) (ci := 0) (N := 7) (C := "BeaconIndex") (T := xF0) (hc := rfl) (hci := Nat.le_of_ble_eq_true rfl) (htb := (ft_0 F)) (hinst := w_1280) (hsel := w_1281) (hlen := Nat.le_of_ble_eq_true rfl) (hst := rfl) (hL0 := rfl)  (xwp_mono hyp (fun v9 h9 q9 => xr_drop (L9 := [xR 0, xZ, xZ, xZ, xZ, xI x5, xI s0]) (xdrs (xdrs (xdrs (xdrz (xdrs (xdrs (xdrs xdr0))))))) q9) (fun _ _ z9 => z9))
theorem d_B_stirQuestion_55 : decode prog_1_method_42_code 55 = .ok (.i2l, 1) := by decide +kernel
theorem d_B_stirQuestion_56 : decode prog_1_method_42_code 56 = .ok (.invokestatic 294, 3) := by decide +kernel
theorem d_B_stirQuestion_59 : decode prog_1_method_42_code 59 = .ok (.lstore_n 3, 1) := by decide +kernel
theorem d_B_stirQuestion_60 : decode prog_1_method_42_code 60 = .ok (.lload_n 3, 1) := by decide +kernel
theorem d_B_stirQuestion_61 : decode prog_1_method_42_code 61 = .ok (.aload_n 0, 1) := by decide +kernel
theorem d_B_stirQuestion_62 : decode prog_1_method_42_code 62 = .ok (.iload 6, 2) := by decide +kernel
theorem d_B_stirQuestion_64 : decode prog_1_method_42_code 64 = .ok (.iconst 0, 1) := by decide +kernel
theorem d_B_stirQuestion_65 : decode prog_1_method_42_code 65 = .ok (.invokevirtual 363, 3) := by decide +kernel
theorem k_B_firstFit : xCal m_B_firstFit 2 := ⟨List.mem_append_right _ (List.mem_of_getElem? (i := 1291) (by decide +kernel)), w_1, Nat.le_of_ble_eq_true rfl, ⟨by decide +kernel, by decide +kernel⟩, by decide +kernel, by decide +kernel, rfl⟩
theorem w_1288 : Cond.methodLink "BeaconIndex" 363 ⟨"BeaconIndex", "firstFit", "(II)I"⟩ ∈ lw_tbl := List.mem_append_right _ (List.mem_of_getElem? (i := 1288) (by decide +kernel))
theorem w_1289 : Cond.instanceMethod ⟨"BeaconIndex", "firstFit", "(II)I"⟩ ∈ lw_tbl := List.mem_append_right _ (List.mem_of_getElem? (i := 1289) (by decide +kernel))
theorem w_1290 : Cond.selects "BeaconIndex" ⟨"BeaconIndex", "firstFit", "(II)I"⟩ ⟨"BeaconIndex", "firstFit", "(II)I"⟩ ∈ lw_tbl := List.mem_append_right _ (List.mem_of_getElem? (i := 1290) (by decide +kernel))
theorem v_B_stirQuestion_55 {G : XG} {d : Nat} {h : XH} {Q : XV → XH → Prop} {X : Nat → XH → Prop} {x5 x6 s0 s1 : Int} (F : xFix h) (hyp : (xwp G m_B_firstFit (d + 8) 0 [xR 0, xI x6, xI 0, xZ] [] h (fun v9 h9 => xwp G m_B_stirQuestion (d + 9) 68 [xR 0, xZ, xZ, xZ, xZ, xI x5, xI x6] (xpush v9 [xL (xw64 ((xw64 (s1 * 31)) + s0))]) h9 Q X) X)) : xwp G m_B_stirQuestion (d + 9) 55 [xR 0, xZ, xZ, xZ, xZ, xI x5, xI x6] [xI s0, xL s1] h Q X := by
  have hnx9 : (93 : Int) ≤ xnx h := F.2.2
  refine xr_okL (fun hl9 => ?_)
  have r_x5 : -2147483648 ≤ x5 ∧ x5 ≤ 2147483647 := hl9 (xI x5) (.tail _ (.tail _ (.tail _ (.tail _ (.tail _ (.head _)))))) (Nat.le_of_ble_eq_true rfl)
  have r_x6 : -2147483648 ≤ x6 ∧ x6 ≤ 2147483647 := hl9 (xI x6) (.tail _ (.tail _ (.tail _ (.tail _ (.tail _ (.tail _ (.head _))))))) (Nat.le_of_ble_eq_true rfl)
  refine xr_okS (fun hs9 => ?_)
  have r_s0 : -2147483648 ≤ s0 ∧ s0 ≤ 2147483647 := hs9 (xI s0) (.head _)
  have r_s1 : -9223372036854775808 ≤ s1 ∧ s1 ≤ 9223372036854775807 := hs9 (xL s1) (.tail _ (.head _))
  refine xr_i2l (pc := 55) (hI := d_B_stirQuestion_55) ?_
  refine xq_callS (pc := 56) (index := 294) (K := m_B_stir) (As := [xL s1, xL s0]) (S := []) (L0 := [xL s1, xZ, xL s0, xZ]) (hI := d_B_stirQuestion_56) (hK := k_B_stir) (hlk := w_1082) (hnoM := rfl) (hS8 := Nat.le_of_ble_eq_true rfl) (hstat := w_1083) (hlen := Nat.le_of_ble_eq_true rfl) (hst := rfl) (hL0 := rfl)  ?_
  refine xr_lload_n (pc := 0) (i := 0) (hI := d_B_stir_0) (hi := rfl) (hl := rfl) ?_
  refine xr_ldc2 (pc := 1) (z := 31) (hI := d_B_stir_1) (hw := w_1085) (hr := by decide) (hv := by decide) ?_
  refine xr_lmul (pc := 4) (hI := d_B_stir_4) ?_
  refine xr_lload_n (pc := 5) (i := 2) (hI := d_B_stir_5) (hi := rfl) (hl := rfl) ?_
  refine xr_ladd (pc := 6) (hI := d_B_stir_6) ?_
  refine xr_lreturn (S := []) (pc := 7) (hI := d_B_stir_7) (hr := rfl) ?_
  show xwp G m_B_stirQuestion (d + 9) 59 [xR 0, xZ, xZ, xZ, xZ, xI x5, xI x6] [xL (xw64 ((xw64 (s1 * 31)) + s0))] _ _ _
  refine xr_lstore_n (pc := 59) (i := 3) (L9 := [xR 0, xZ, xZ, xL (xw64 ((xw64 (s1 * 31)) + s0)), xZ, xI x5, xI x6]) (hI := d_B_stirQuestion_59) (hi := rfl) (hn := Nat.le_of_ble_eq_true rfl) (hL9 := rfl) ?_
  refine xr_lload_n (pc := 60) (i := 3) (hI := d_B_stirQuestion_60) (hi := rfl) (hl := rfl) ?_
  refine xr_aload_n (pc := 61) (i := 0) (hI := d_B_stirQuestion_61) (hi := rfl) (hl := rfl) ?_
  refine xr_iload (pc := 62) (i := 6) (hI := d_B_stirQuestion_62) (hl := rfl) ?_
  refine xr_iconst (pc := 64) (hI := d_B_stirQuestion_64) (hr := by decide) ?_
  exact xq_callV (pc := 65) (index := 363) (K := m_B_firstFit) (As := [xI x6, xI 0]) (S := [xL (xw64 ((xw64 (s1 * 31)) + s0))]) (L0 := [xR 0, xI x6, xI 0, xZ]) (hI := d_B_stirQuestion_65) (hK := k_B_firstFit) (hlk := w_1288) (hnoM := rfl) (hS8 := Nat.le_of_ble_eq_true rfl) (ci := 0) (N := 7) (C := "BeaconIndex") (T := xF0) (hc := rfl) (hci := Nat.le_of_ble_eq_true rfl) (htb := (ft_0 F)) (hinst := w_1289) (hsel := w_1290) (hlen := Nat.le_of_ble_eq_true rfl) (hst := rfl) (hL0 := rfl)  (xwp_mono hyp (fun v9 h9 q9 => xr_drop (L9 := [xR 0, xZ, xZ, xZ, xZ, xI x5, xI x6]) (xdrs (xdrs (xdrs (xdrz (xdrs (xdrs (xdrs xdr0))))))) q9) (fun _ _ z9 => z9))
theorem d_B_stirQuestion_68 : decode prog_1_method_42_code 68 = .ok (.i2l, 1) := by decide +kernel
theorem d_B_stirQuestion_69 : decode prog_1_method_42_code 69 = .ok (.invokestatic 294, 3) := by decide +kernel
theorem d_B_stirQuestion_72 : decode prog_1_method_42_code 72 = .ok (.lstore_n 3, 1) := by decide +kernel
theorem d_B_stirQuestion_73 : decode prog_1_method_42_code 73 = .ok (.lload_n 3, 1) := by decide +kernel
theorem d_B_stirQuestion_74 : decode prog_1_method_42_code 74 = .ok (.aload_n 0, 1) := by decide +kernel
theorem d_B_stirQuestion_75 : decode prog_1_method_42_code 75 = .ok (.iload 6, 2) := by decide +kernel
theorem d_B_stirQuestion_77 : decode prog_1_method_42_code 77 = .ok (.iconst 1, 1) := by decide +kernel
theorem d_B_stirQuestion_78 : decode prog_1_method_42_code 78 = .ok (.invokevirtual 363, 3) := by decide +kernel
theorem v_B_stirQuestion_68 {G : XG} {d : Nat} {h : XH} {Q : XV → XH → Prop} {X : Nat → XH → Prop} {x5 x6 s0 s1 : Int} (F : xFix h) (hyp : (xwp G m_B_firstFit (d + 8) 0 [xR 0, xI x6, xI 1, xZ] [] h (fun v9 h9 => xwp G m_B_stirQuestion (d + 9) 81 [xR 0, xZ, xZ, xZ, xZ, xI x5, xZ] (xpush v9 [xL (xw64 ((xw64 (s1 * 31)) + s0))]) h9 Q X) X)) : xwp G m_B_stirQuestion (d + 9) 68 [xR 0, xZ, xZ, xZ, xZ, xI x5, xI x6] [xI s0, xL s1] h Q X := by
  have hnx9 : (93 : Int) ≤ xnx h := F.2.2
  refine xr_okL (fun hl9 => ?_)
  have r_x5 : -2147483648 ≤ x5 ∧ x5 ≤ 2147483647 := hl9 (xI x5) (.tail _ (.tail _ (.tail _ (.tail _ (.tail _ (.head _)))))) (Nat.le_of_ble_eq_true rfl)
  have r_x6 : -2147483648 ≤ x6 ∧ x6 ≤ 2147483647 := hl9 (xI x6) (.tail _ (.tail _ (.tail _ (.tail _ (.tail _ (.tail _ (.head _))))))) (Nat.le_of_ble_eq_true rfl)
  refine xr_okS (fun hs9 => ?_)
  have r_s0 : -2147483648 ≤ s0 ∧ s0 ≤ 2147483647 := hs9 (xI s0) (.head _)
  have r_s1 : -9223372036854775808 ≤ s1 ∧ s1 ≤ 9223372036854775807 := hs9 (xL s1) (.tail _ (.head _))
  refine xr_i2l (pc := 68) (hI := d_B_stirQuestion_68) ?_
  refine xq_callS (pc := 69) (index := 294) (K := m_B_stir) (As := [xL s1, xL s0]) (S := []) (L0 := [xL s1, xZ, xL s0, xZ]) (hI := d_B_stirQuestion_69) (hK := k_B_stir) (hlk := w_1082) (hnoM := rfl) (hS8 := Nat.le_of_ble_eq_true rfl) (hstat := w_1083) (hlen := Nat.le_of_ble_eq_true rfl) (hst := rfl) (hL0 := rfl)  ?_
  refine xr_lload_n (pc := 0) (i := 0) (hI := d_B_stir_0) (hi := rfl) (hl := rfl) ?_
  refine xr_ldc2 (pc := 1) (z := 31) (hI := d_B_stir_1) (hw := w_1085) (hr := by decide) (hv := by decide) ?_
  refine xr_lmul (pc := 4) (hI := d_B_stir_4) ?_
  refine xr_lload_n (pc := 5) (i := 2) (hI := d_B_stir_5) (hi := rfl) (hl := rfl) ?_
  refine xr_ladd (pc := 6) (hI := d_B_stir_6) ?_
  refine xr_lreturn (S := []) (pc := 7) (hI := d_B_stir_7) (hr := rfl) ?_
  show xwp G m_B_stirQuestion (d + 9) 72 [xR 0, xZ, xZ, xZ, xZ, xI x5, xI x6] [xL (xw64 ((xw64 (s1 * 31)) + s0))] _ _ _
  refine xr_lstore_n (pc := 72) (i := 3) (L9 := [xR 0, xZ, xZ, xL (xw64 ((xw64 (s1 * 31)) + s0)), xZ, xI x5, xI x6]) (hI := d_B_stirQuestion_72) (hi := rfl) (hn := Nat.le_of_ble_eq_true rfl) (hL9 := rfl) ?_
  refine xr_lload_n (pc := 73) (i := 3) (hI := d_B_stirQuestion_73) (hi := rfl) (hl := rfl) ?_
  refine xr_aload_n (pc := 74) (i := 0) (hI := d_B_stirQuestion_74) (hi := rfl) (hl := rfl) ?_
  refine xr_iload (pc := 75) (i := 6) (hI := d_B_stirQuestion_75) (hl := rfl) ?_
  refine xr_iconst (pc := 77) (hI := d_B_stirQuestion_77) (hr := by decide) ?_
  exact xq_callV (pc := 78) (index := 363) (K := m_B_firstFit) (As := [xI x6, xI 1]) (S := [xL (xw64 ((xw64 (s1 * 31)) + s0))]) (L0 := [xR 0, xI x6, xI 1, xZ]) (hI := d_B_stirQuestion_78) (hK := k_B_firstFit) (hlk := w_1288) (hnoM := rfl) (hS8 := Nat.le_of_ble_eq_true rfl) (ci := 0) (N := 7) (C := "BeaconIndex") (T := xF0) (hc := rfl) (hci := Nat.le_of_ble_eq_true rfl) (htb := (ft_0 F)) (hinst := w_1289) (hsel := w_1290) (hlen := Nat.le_of_ble_eq_true rfl) (hst := rfl) (hL0 := rfl)  (xwp_mono hyp (fun v9 h9 q9 => xr_drop (L9 := [xR 0, xZ, xZ, xZ, xZ, xI x5, xZ]) (xdrs (xdrs (xdrs (xdrz (xdrs (xdrs (xdrz xdr0))))))) q9) (fun _ _ z9 => z9))
theorem d_B_stirQuestion_81 : decode prog_1_method_42_code 81 = .ok (.i2l, 1) := by decide +kernel
theorem d_B_stirQuestion_82 : decode prog_1_method_42_code 82 = .ok (.invokestatic 294, 3) := by decide +kernel
theorem d_B_stirQuestion_85 : decode prog_1_method_42_code 85 = .ok (.lstore_n 3, 1) := by decide +kernel
theorem d_B_stirQuestion_86 : decode prog_1_method_42_code 86 = .ok (.iinc 5 1, 3) := by decide +kernel
theorem d_B_stirQuestion_89 : decode prog_1_method_42_code 89 = .ok (.goto (-66), 3) := by decide +kernel
theorem v_B_stirQuestion_81 {G : XG} {d : Nat} {h : XH} {Q : XV → XH → Prop} {X : Nat → XH → Prop} {x5 s0 s1 : Int} (F : xFix h) (hyp : xiR (x5 + 1) ∧ (xwp G m_B_stirQuestion (d + 9) 23 [xR 0, xZ, xZ, xL (xw64 ((xw64 (s1 * 31)) + s0)), xZ, xI (x5 + 1), xZ] [] h Q X)) : xwp G m_B_stirQuestion (d + 9) 81 [xR 0, xZ, xZ, xZ, xZ, xI x5, xZ] [xI s0, xL s1] h Q X := by
  have hnx9 : (93 : Int) ≤ xnx h := F.2.2
  refine xr_okL (fun hl9 => ?_)
  have r_x5 : -2147483648 ≤ x5 ∧ x5 ≤ 2147483647 := hl9 (xI x5) (.tail _ (.tail _ (.tail _ (.tail _ (.tail _ (.head _)))))) (Nat.le_of_ble_eq_true rfl)
  refine xr_okS (fun hs9 => ?_)
  have r_s0 : -2147483648 ≤ s0 ∧ s0 ≤ 2147483647 := hs9 (xI s0) (.head _)
  have r_s1 : -9223372036854775808 ≤ s1 ∧ s1 ≤ 9223372036854775807 := hs9 (xL s1) (.tail _ (.head _))
  refine xr_i2l (pc := 81) (hI := d_B_stirQuestion_81) ?_
  refine xq_callS (pc := 82) (index := 294) (K := m_B_stir) (As := [xL s1, xL s0]) (S := []) (L0 := [xL s1, xZ, xL s0, xZ]) (hI := d_B_stirQuestion_82) (hK := k_B_stir) (hlk := w_1082) (hnoM := rfl) (hS8 := Nat.le_of_ble_eq_true rfl) (hstat := w_1083) (hlen := Nat.le_of_ble_eq_true rfl) (hst := rfl) (hL0 := rfl)  ?_
  refine xr_lload_n (pc := 0) (i := 0) (hI := d_B_stir_0) (hi := rfl) (hl := rfl) ?_
  refine xr_ldc2 (pc := 1) (z := 31) (hI := d_B_stir_1) (hw := w_1085) (hr := by decide) (hv := by decide) ?_
  refine xr_lmul (pc := 4) (hI := d_B_stir_4) ?_
  refine xr_lload_n (pc := 5) (i := 2) (hI := d_B_stir_5) (hi := rfl) (hl := rfl) ?_
  refine xr_ladd (pc := 6) (hI := d_B_stir_6) ?_
  refine xr_lreturn (S := []) (pc := 7) (hI := d_B_stir_7) (hr := rfl) ?_
  show xwp G m_B_stirQuestion (d + 9) 85 [xR 0, xZ, xZ, xZ, xZ, xI x5, xZ] [xL (xw64 ((xw64 (s1 * 31)) + s0))] _ _ _
  refine xr_lstore_n (pc := 85) (i := 3) (L9 := [xR 0, xZ, xZ, xL (xw64 ((xw64 (s1 * 31)) + s0)), xZ, xI x5, xZ]) (hI := d_B_stirQuestion_85) (hi := rfl) (hn := Nat.le_of_ble_eq_true rfl) (hL9 := rfl) ?_
  obtain ⟨c9, hyp⟩ := hyp
  refine xr_iinc (pc := 86) (i := 5) (L9 := [xR 0, xZ, xZ, xL (xw64 ((xw64 (s1 * 31)) + s0)), xZ, xI (x5 + 1), xZ]) (hI := d_B_stirQuestion_86) (hl := rfl) (hn := Nat.le_of_ble_eq_true rfl) (hr := c9) (hL9 := rfl) ?_
  refine xr_goto (pc := 89) (tgt := 23) (hI := d_B_stirQuestion_89) (ht := by decide) ?_
  exact hyp
theorem d_B_stirQuestion_95 : decode prog_1_method_42_code 95 = .ok (.iload 5, 2) := by decide +kernel
theorem d_B_stirQuestion_97 : decode prog_1_method_42_code 97 = .ok (.bipush 8, 2) := by decide +kernel
theorem d_B_stirQuestion_99 : decode prog_1_method_42_code 99 = .ok (.if_icmp .ge 21, 3) := by decide +kernel
theorem d_B_stirQuestion_120 : decode prog_1_method_42_code 120 = .ok (.iconst 0, 1) := by decide +kernel
theorem d_B_stirQuestion_121 : decode prog_1_method_42_code 121 = .ok (.istore 5, 2) := by decide +kernel
theorem d_B_stirQuestion_102 : decode prog_1_method_42_code 102 = .ok (.lload_n 3, 1) := by decide +kernel
theorem d_B_stirQuestion_103 : decode prog_1_method_42_code 103 = .ok (.aload_n 0, 1) := by decide +kernel
theorem d_B_stirQuestion_104 : decode prog_1_method_42_code 104 = .ok (.iload 5, 2) := by decide +kernel
theorem d_B_stirQuestion_106 : decode prog_1_method_42_code 106 = .ok (.invokevirtual 366, 3) := by decide +kernel
theorem k_B_foundOn : xCal m_B_foundOn 1 := ⟨List.mem_append_right _ (List.mem_of_getElem? (i := 1321) (by decide +kernel)), w_1, Nat.le_of_ble_eq_true rfl, ⟨by decide +kernel, by decide +kernel⟩, by decide +kernel, by decide +kernel, rfl⟩
theorem w_1318 : Cond.methodLink "BeaconIndex" 366 ⟨"BeaconIndex", "foundOn", "(I)I"⟩ ∈ lw_tbl := List.mem_append_right _ (List.mem_of_getElem? (i := 1318) (by decide +kernel))
theorem w_1319 : Cond.instanceMethod ⟨"BeaconIndex", "foundOn", "(I)I"⟩ ∈ lw_tbl := List.mem_append_right _ (List.mem_of_getElem? (i := 1319) (by decide +kernel))
theorem w_1320 : Cond.selects "BeaconIndex" ⟨"BeaconIndex", "foundOn", "(I)I"⟩ ⟨"BeaconIndex", "foundOn", "(I)I"⟩ ∈ lw_tbl := List.mem_append_right _ (List.mem_of_getElem? (i := 1320) (by decide +kernel))
theorem v_B_stirQuestion_95 {G : XG} {d : Nat} {h : XH} {Q : XV → XH → Prop} {X : Nat → XH → Prop} {x3 x5 : Int} (F : xFix h) (hyp : (((8 : Int) ≤ x5 → (xwp G m_B_stirQuestion (d + 9) 123 [xR 0, xZ, xZ, xL x3, xZ, xI 0, xZ] [] h Q X)) ∧ (¬ (8 : Int) ≤ x5 → (xwp G m_B_foundOn (d + 8) 0 [xR 0, xI x5, xZ, xZ] [] h (fun v9 h9 => xwp G m_B_stirQuestion (d + 9) 109 [xR 0, xZ, xZ, xZ, xZ, xI x5, xZ] (xpush v9 [xL x3]) h9 Q X) X)))) : xwp G m_B_stirQuestion (d + 9) 95 [xR 0, xZ, xZ, xL x3, xZ, xI x5, xZ] [] h Q X := by
  have hnx9 : (93 : Int) ≤ xnx h := F.2.2
  refine xr_okL (fun hl9 => ?_)
  have r_x3 : -9223372036854775808 ≤ x3 ∧ x3 ≤ 9223372036854775807 := hl9 (xL x3) (.tail _ (.tail _ (.tail _ (.head _)))) (Nat.le_of_ble_eq_true rfl)
  have r_x5 : -2147483648 ≤ x5 ∧ x5 ≤ 2147483647 := hl9 (xI x5) (.tail _ (.tail _ (.tail _ (.tail _ (.tail _ (.head _)))))) (Nat.le_of_ble_eq_true rfl)
  refine xr_iload (pc := 95) (i := 5) (hI := d_B_stirQuestion_95) (hl := rfl) ?_
  refine xr_bipush (pc := 97) (hI := d_B_stirQuestion_97) (hr := by decide) (hv := by decide) ?_
  refine xr_icmp_ge (pc := 99) (tgt := 120) (hI := d_B_stirQuestion_99) (ht := by decide) (fun q9 => ?_) (fun q9 => ?_)
  · replace hyp := hyp.1 q9
    have q1_ := q9
    clear q9
    refine xr_iconst (pc := 120) (hI := d_B_stirQuestion_120) (hr := by decide) ?_
    refine xr_istore (pc := 121) (i := 5) (L9 := [xR 0, xZ, xZ, xL x3, xZ, xI 0, xZ]) (hI := d_B_stirQuestion_121) (hn := Nat.le_of_ble_eq_true rfl) (hL9 := rfl) ?_
    exact hyp
  · replace hyp := hyp.2 q9
    have q1_ := q9
    clear q9
    refine xr_lload_n (pc := 102) (i := 3) (hI := d_B_stirQuestion_102) (hi := rfl) (hl := rfl) ?_
    refine xr_aload_n (pc := 103) (i := 0) (hI := d_B_stirQuestion_103) (hi := rfl) (hl := rfl) ?_
    refine xr_iload (pc := 104) (i := 5) (hI := d_B_stirQuestion_104) (hl := rfl) ?_
    exact xq_callV (pc := 106) (index := 366) (K := m_B_foundOn) (As := [xI x5]) (S := [xL x3]) (L0 := [xR 0, xI x5, xZ, xZ]) (hI := d_B_stirQuestion_106) (hK := k_B_foundOn) (hlk := w_1318) (hnoM := rfl) (hS8 := Nat.le_of_ble_eq_true rfl) (ci := 0) (N := 7) (C := "BeaconIndex") (T := xF0) (hc := rfl) (hci := Nat.le_of_ble_eq_true rfl) (htb := (ft_0 F)) (hinst := w_1319) (hsel := w_1320) (hlen := Nat.le_of_ble_eq_true rfl) (hst := rfl) (hL0 := rfl)  (xwp_mono hyp (fun v9 h9 q9 => xr_drop (L9 := [xR 0, xZ, xZ, xZ, xZ, xI x5, xZ]) (xdrs (xdrs (xdrs (xdrz (xdrs (xdrs (xdrs xdr0))))))) q9) (fun _ _ z9 => z9))
theorem d_B_stirQuestion_109 : decode prog_1_method_42_code 109 = .ok (.i2l, 1) := by decide +kernel
theorem d_B_stirQuestion_110 : decode prog_1_method_42_code 110 = .ok (.invokestatic 294, 3) := by decide +kernel
theorem d_B_stirQuestion_113 : decode prog_1_method_42_code 113 = .ok (.lstore_n 3, 1) := by decide +kernel
theorem d_B_stirQuestion_114 : decode prog_1_method_42_code 114 = .ok (.iinc 5 1, 3) := by decide +kernel
theorem d_B_stirQuestion_117 : decode prog_1_method_42_code 117 = .ok (.goto (-22), 3) := by decide +kernel
theorem v_B_stirQuestion_109 {G : XG} {d : Nat} {h : XH} {Q : XV → XH → Prop} {X : Nat → XH → Prop} {x5 s0 s1 : Int} (F : xFix h) (hyp : xiR (x5 + 1) ∧ (xwp G m_B_stirQuestion (d + 9) 95 [xR 0, xZ, xZ, xL (xw64 ((xw64 (s1 * 31)) + s0)), xZ, xI (x5 + 1), xZ] [] h Q X)) : xwp G m_B_stirQuestion (d + 9) 109 [xR 0, xZ, xZ, xZ, xZ, xI x5, xZ] [xI s0, xL s1] h Q X := by
  have hnx9 : (93 : Int) ≤ xnx h := F.2.2
  refine xr_okL (fun hl9 => ?_)
  have r_x5 : -2147483648 ≤ x5 ∧ x5 ≤ 2147483647 := hl9 (xI x5) (.tail _ (.tail _ (.tail _ (.tail _ (.tail _ (.head _)))))) (Nat.le_of_ble_eq_true rfl)
  refine xr_okS (fun hs9 => ?_)
  have r_s0 : -2147483648 ≤ s0 ∧ s0 ≤ 2147483647 := hs9 (xI s0) (.head _)
  have r_s1 : -9223372036854775808 ≤ s1 ∧ s1 ≤ 9223372036854775807 := hs9 (xL s1) (.tail _ (.head _))
  refine xr_i2l (pc := 109) (hI := d_B_stirQuestion_109) ?_
  refine xq_callS (pc := 110) (index := 294) (K := m_B_stir) (As := [xL s1, xL s0]) (S := []) (L0 := [xL s1, xZ, xL s0, xZ]) (hI := d_B_stirQuestion_110) (hK := k_B_stir) (hlk := w_1082) (hnoM := rfl) (hS8 := Nat.le_of_ble_eq_true rfl) (hstat := w_1083) (hlen := Nat.le_of_ble_eq_true rfl) (hst := rfl) (hL0 := rfl)  ?_
  refine xr_lload_n (pc := 0) (i := 0) (hI := d_B_stir_0) (hi := rfl) (hl := rfl) ?_
  refine xr_ldc2 (pc := 1) (z := 31) (hI := d_B_stir_1) (hw := w_1085) (hr := by decide) (hv := by decide) ?_
  refine xr_lmul (pc := 4) (hI := d_B_stir_4) ?_
  refine xr_lload_n (pc := 5) (i := 2) (hI := d_B_stir_5) (hi := rfl) (hl := rfl) ?_
  refine xr_ladd (pc := 6) (hI := d_B_stir_6) ?_
  refine xr_lreturn (S := []) (pc := 7) (hI := d_B_stir_7) (hr := rfl) ?_
  show xwp G m_B_stirQuestion (d + 9) 113 [xR 0, xZ, xZ, xZ, xZ, xI x5, xZ] [xL (xw64 ((xw64 (s1 * 31)) + s0))] _ _ _
  refine xr_lstore_n (pc := 113) (i := 3) (L9 := [xR 0, xZ, xZ, xL (xw64 ((xw64 (s1 * 31)) + s0)), xZ, xI x5, xZ]) (hI := d_B_stirQuestion_113) (hi := rfl) (hn := Nat.le_of_ble_eq_true rfl) (hL9 := rfl) ?_
  obtain ⟨c9, hyp⟩ := hyp
  refine xr_iinc (pc := 114) (i := 5) (L9 := [xR 0, xZ, xZ, xL (xw64 ((xw64 (s1 * 31)) + s0)), xZ, xI (x5 + 1), xZ]) (hI := d_B_stirQuestion_114) (hl := rfl) (hn := Nat.le_of_ble_eq_true rfl) (hr := c9) (hL9 := rfl) ?_
  refine xr_goto (pc := 117) (tgt := 95) (hI := d_B_stirQuestion_117) (ht := by decide) ?_
  exact hyp
theorem d_B_stirQuestion_123 : decode prog_1_method_42_code 123 = .ok (.iload 5, 2) := by decide +kernel
theorem d_B_stirQuestion_125 : decode prog_1_method_42_code 125 = .ok (.aload_n 0, 1) := by decide +kernel
theorem d_B_stirQuestion_126 : decode prog_1_method_42_code 126 = .ok (.invokevirtual 352, 3) := by decide +kernel
theorem v_B_stirQuestion_123 {G : XG} {d : Nat} {h : XH} {Q : XV → XH → Prop} {X : Nat → XH → Prop} {x3 x5 : Int} (F : xFix h) (hyp : (xwp G m_B_parts (d + 8) 0 [xR 0] [] h (fun v9 h9 => xwp G m_B_stirQuestion (d + 9) 129 [xR 0, xZ, xZ, xL x3, xZ, xI x5, xZ] (xpush v9 [xI x5]) h9 Q X) X)) : xwp G m_B_stirQuestion (d + 9) 123 [xR 0, xZ, xZ, xL x3, xZ, xI x5, xZ] [] h Q X := by
  have hnx9 : (93 : Int) ≤ xnx h := F.2.2
  refine xr_okL (fun hl9 => ?_)
  have r_x3 : -9223372036854775808 ≤ x3 ∧ x3 ≤ 9223372036854775807 := hl9 (xL x3) (.tail _ (.tail _ (.tail _ (.head _)))) (Nat.le_of_ble_eq_true rfl)
  have r_x5 : -2147483648 ≤ x5 ∧ x5 ≤ 2147483647 := hl9 (xI x5) (.tail _ (.tail _ (.tail _ (.tail _ (.tail _ (.head _)))))) (Nat.le_of_ble_eq_true rfl)
  refine xr_iload (pc := 123) (i := 5) (hI := d_B_stirQuestion_123) (hl := rfl) ?_
  refine xr_aload_n (pc := 125) (i := 0) (hI := d_B_stirQuestion_125) (hi := rfl) (hl := rfl) ?_
  exact xq_callV (pc := 126) (index := 352) (K := m_B_parts) (As := []) (S := [xI x5]) (L0 := [xR 0]) (hI := d_B_stirQuestion_126) (hK := k_B_parts) (hlk := w_1234) (hnoM := rfl) (hS8 := Nat.le_of_ble_eq_true rfl) (ci := 0) (N := 7) (C := "BeaconIndex") (T := xF0) (hc := rfl) (hci := Nat.le_of_ble_eq_true rfl) (htb := (ft_0 F)) (hinst := w_1235) (hsel := w_1236) (hlen := Nat.le_of_ble_eq_true rfl) (hst := rfl) (hL0 := rfl)  hyp
theorem d_B_stirQuestion_129 : decode prog_1_method_42_code 129 = .ok (.if_icmp .ge 21, 3) := by decide +kernel
theorem d_B_stirQuestion_150 : decode prog_1_method_42_code 150 = .ok (.lload_n 3, 1) := by decide +kernel
theorem d_B_stirQuestion_151 : decode prog_1_method_42_code 151 = .ok (.lreturn, 1) := by decide +kernel
theorem d_B_stirQuestion_132 : decode prog_1_method_42_code 132 = .ok (.lload_n 3, 1) := by decide +kernel
theorem d_B_stirQuestion_133 : decode prog_1_method_42_code 133 = .ok (.aload_n 0, 1) := by decide +kernel
theorem d_B_stirQuestion_134 : decode prog_1_method_42_code 134 = .ok (.iload 5, 2) := by decide +kernel
theorem d_B_stirQuestion_136 : decode prog_1_method_42_code 136 = .ok (.invokevirtual 369, 3) := by decide +kernel
theorem k_B_foundWithout : xCal m_B_foundWithout 1 := ⟨List.mem_append_right _ (List.mem_of_getElem? (i := 1325) (by decide +kernel)), w_1, Nat.le_of_ble_eq_true rfl, ⟨by decide +kernel, by decide +kernel⟩, by decide +kernel, by decide +kernel, rfl⟩
theorem w_1322 : Cond.methodLink "BeaconIndex" 369 ⟨"BeaconIndex", "foundWithout", "(I)I"⟩ ∈ lw_tbl := List.mem_append_right _ (List.mem_of_getElem? (i := 1322) (by decide +kernel))
theorem w_1323 : Cond.instanceMethod ⟨"BeaconIndex", "foundWithout", "(I)I"⟩ ∈ lw_tbl := List.mem_append_right _ (List.mem_of_getElem? (i := 1323) (by decide +kernel))
theorem w_1324 : Cond.selects "BeaconIndex" ⟨"BeaconIndex", "foundWithout", "(I)I"⟩ ⟨"BeaconIndex", "foundWithout", "(I)I"⟩ ∈ lw_tbl := List.mem_append_right _ (List.mem_of_getElem? (i := 1324) (by decide +kernel))
theorem v_B_stirQuestion_129 {G : XG} {d : Nat} {h : XH} {Q : XV → XH → Prop} {X : Nat → XH → Prop} {x3 x5 s0 s1 : Int} (F : xFix h) (hyp : ((s0 ≤ s1 → (Q (xL x3) h)) ∧ (¬ s0 ≤ s1 → (xwp G m_B_foundWithout (d + 8) 0 [xR 0, xI x5] [] h (fun v9 h9 => xwp G m_B_stirQuestion (d + 9) 139 [xR 0, xZ, xZ, xZ, xZ, xI x5, xZ] (xpush v9 [xL x3]) h9 Q X) X)))) : xwp G m_B_stirQuestion (d + 9) 129 [xR 0, xZ, xZ, xL x3, xZ, xI x5, xZ] [xI s0, xI s1] h Q X := by
  have hnx9 : (93 : Int) ≤ xnx h := F.2.2
  refine xr_okL (fun hl9 => ?_)
  have r_x3 : -9223372036854775808 ≤ x3 ∧ x3 ≤ 9223372036854775807 := hl9 (xL x3) (.tail _ (.tail _ (.tail _ (.head _)))) (Nat.le_of_ble_eq_true rfl)
  have r_x5 : -2147483648 ≤ x5 ∧ x5 ≤ 2147483647 := hl9 (xI x5) (.tail _ (.tail _ (.tail _ (.tail _ (.tail _ (.head _)))))) (Nat.le_of_ble_eq_true rfl)
  refine xr_okS (fun hs9 => ?_)
  have r_s0 : -2147483648 ≤ s0 ∧ s0 ≤ 2147483647 := hs9 (xI s0) (.head _)
  have r_s1 : -2147483648 ≤ s1 ∧ s1 ≤ 2147483647 := hs9 (xI s1) (.tail _ (.head _))
  refine xr_icmp_ge (pc := 129) (tgt := 150) (hI := d_B_stirQuestion_129) (ht := by decide) (fun q9 => ?_) (fun q9 => ?_)
  · replace hyp := hyp.1 q9
    have q1_ := q9
    clear q9
    refine xr_lload_n (pc := 150) (i := 3) (hI := d_B_stirQuestion_150) (hi := rfl) (hl := rfl) ?_
    refine xr_lreturn (S := []) (pc := 151) (hI := d_B_stirQuestion_151) (hr := rfl) ?_
    exact hyp
  · replace hyp := hyp.2 q9
    have q1_ := q9
    clear q9
    refine xr_lload_n (pc := 132) (i := 3) (hI := d_B_stirQuestion_132) (hi := rfl) (hl := rfl) ?_
    refine xr_aload_n (pc := 133) (i := 0) (hI := d_B_stirQuestion_133) (hi := rfl) (hl := rfl) ?_
    refine xr_iload (pc := 134) (i := 5) (hI := d_B_stirQuestion_134) (hl := rfl) ?_
    exact xq_callV (pc := 136) (index := 369) (K := m_B_foundWithout) (As := [xI x5]) (S := [xL x3]) (L0 := [xR 0, xI x5]) (hI := d_B_stirQuestion_136) (hK := k_B_foundWithout) (hlk := w_1322) (hnoM := rfl) (hS8 := Nat.le_of_ble_eq_true rfl) (ci := 0) (N := 7) (C := "BeaconIndex") (T := xF0) (hc := rfl) (hci := Nat.le_of_ble_eq_true rfl) (htb := (ft_0 F)) (hinst := w_1323) (hsel := w_1324) (hlen := Nat.le_of_ble_eq_true rfl) (hst := rfl) (hL0 := rfl)  (xwp_mono hyp (fun v9 h9 q9 => xr_drop (L9 := [xR 0, xZ, xZ, xZ, xZ, xI x5, xZ]) (xdrs (xdrs (xdrs (xdrz (xdrs (xdrs (xdrs xdr0))))))) q9) (fun _ _ z9 => z9))
theorem d_B_stirQuestion_139 : decode prog_1_method_42_code 139 = .ok (.i2l, 1) := by decide +kernel
theorem d_B_stirQuestion_140 : decode prog_1_method_42_code 140 = .ok (.invokestatic 294, 3) := by decide +kernel
theorem d_B_stirQuestion_143 : decode prog_1_method_42_code 143 = .ok (.lstore_n 3, 1) := by decide +kernel
theorem d_B_stirQuestion_144 : decode prog_1_method_42_code 144 = .ok (.iinc 5 1, 3) := by decide +kernel
theorem d_B_stirQuestion_147 : decode prog_1_method_42_code 147 = .ok (.goto (-24), 3) := by decide +kernel
theorem v_B_stirQuestion_139 {G : XG} {d : Nat} {h : XH} {Q : XV → XH → Prop} {X : Nat → XH → Prop} {x5 s0 s1 : Int} (F : xFix h) (hyp : xiR (x5 + 1) ∧ (xwp G m_B_stirQuestion (d + 9) 123 [xR 0, xZ, xZ, xL (xw64 ((xw64 (s1 * 31)) + s0)), xZ, xI (x5 + 1), xZ] [] h Q X)) : xwp G m_B_stirQuestion (d + 9) 139 [xR 0, xZ, xZ, xZ, xZ, xI x5, xZ] [xI s0, xL s1] h Q X := by
  have hnx9 : (93 : Int) ≤ xnx h := F.2.2
  refine xr_okL (fun hl9 => ?_)
  have r_x5 : -2147483648 ≤ x5 ∧ x5 ≤ 2147483647 := hl9 (xI x5) (.tail _ (.tail _ (.tail _ (.tail _ (.tail _ (.head _)))))) (Nat.le_of_ble_eq_true rfl)
  refine xr_okS (fun hs9 => ?_)
  have r_s0 : -2147483648 ≤ s0 ∧ s0 ≤ 2147483647 := hs9 (xI s0) (.head _)
  have r_s1 : -9223372036854775808 ≤ s1 ∧ s1 ≤ 9223372036854775807 := hs9 (xL s1) (.tail _ (.head _))
  refine xr_i2l (pc := 139) (hI := d_B_stirQuestion_139) ?_
  refine xq_callS (pc := 140) (index := 294) (K := m_B_stir) (As := [xL s1, xL s0]) (S := []) (L0 := [xL s1, xZ, xL s0, xZ]) (hI := d_B_stirQuestion_140) (hK := k_B_stir) (hlk := w_1082) (hnoM := rfl) (hS8 := Nat.le_of_ble_eq_true rfl) (hstat := w_1083) (hlen := Nat.le_of_ble_eq_true rfl) (hst := rfl) (hL0 := rfl)  ?_
  refine xr_lload_n (pc := 0) (i := 0) (hI := d_B_stir_0) (hi := rfl) (hl := rfl) ?_
  refine xr_ldc2 (pc := 1) (z := 31) (hI := d_B_stir_1) (hw := w_1085) (hr := by decide) (hv := by decide) ?_
  refine xr_lmul (pc := 4) (hI := d_B_stir_4) ?_
  refine xr_lload_n (pc := 5) (i := 2) (hI := d_B_stir_5) (hi := rfl) (hl := rfl) ?_
  refine xr_ladd (pc := 6) (hI := d_B_stir_6) ?_
  refine xr_lreturn (S := []) (pc := 7) (hI := d_B_stir_7) (hr := rfl) ?_
  show xwp G m_B_stirQuestion (d + 9) 143 [xR 0, xZ, xZ, xZ, xZ, xI x5, xZ] [xL (xw64 ((xw64 (s1 * 31)) + s0))] _ _ _
  refine xr_lstore_n (pc := 143) (i := 3) (L9 := [xR 0, xZ, xZ, xL (xw64 ((xw64 (s1 * 31)) + s0)), xZ, xI x5, xZ]) (hI := d_B_stirQuestion_143) (hi := rfl) (hn := Nat.le_of_ble_eq_true rfl) (hL9 := rfl) ?_
  obtain ⟨c9, hyp⟩ := hyp
  refine xr_iinc (pc := 144) (i := 5) (L9 := [xR 0, xZ, xZ, xL (xw64 ((xw64 (s1 * 31)) + s0)), xZ, xI (x5 + 1), xZ]) (hI := d_B_stirQuestion_144) (hl := rfl) (hn := Nat.le_of_ble_eq_true rfl) (hr := c9) (hL9 := rfl) ?_
  refine xr_goto (pc := 147) (tgt := 123) (hI := d_B_stirQuestion_147) (ht := by decide) ?_
  exact hyp

end
