/-! ===== lwvc ===== -/
section
-- feed
abbrev m_W_feed : XM := (⟨"BeaconIndexLaw", "feed", "(LBeaconIndex;IIIII[J)I"⟩, method_3_code, 8, (some .int), [(0, 16, 19, 13)])
theorem d_W_feed_0 : decode method_3_code 0 = .ok (.aload 6, 2) := by decide +kernel
theorem d_W_feed_2 : decode method_3_code 2 = .ok (.iconst 0, 1) := by decide +kernel
theorem d_W_feed_3 : decode method_3_code 3 = .ok (.aload_n 0, 1) := by decide +kernel
theorem d_W_feed_4 : decode method_3_code 4 = .ok (.iload_n 1, 1) := by decide +kernel
theorem d_W_feed_5 : decode method_3_code 5 = .ok (.iload_n 2, 1) := by decide +kernel
theorem d_W_feed_6 : decode method_3_code 6 = .ok (.iload_n 3, 1) := by decide +kernel
theorem d_W_feed_7 : decode method_3_code 7 = .ok (.iload 4, 2) := by decide +kernel
theorem d_W_feed_9 : decode method_3_code 9 = .ok (.iload 5, 2) := by decide +kernel
theorem d_W_feed_11 : decode method_3_code 11 = .ok (.invokevirtual 7, 3) := by decide +kernel
theorem k_B_feed : xCal m_B_feed 5 := ⟨List.mem_append_right _ (List.mem_of_getElem? (i := 1345) (by decide +kernel)), w_1, Nat.le_of_ble_eq_true rfl, ⟨by decide +kernel, by decide +kernel⟩, by decide +kernel, by decide +kernel, rfl⟩
theorem w_1342 : Cond.methodLink "BeaconIndexLaw" 7 ⟨"BeaconIndex", "feed", "(IIIII)I"⟩ ∈ lw_tbl := List.mem_append_right _ (List.mem_of_getElem? (i := 1342) (by decide +kernel))
theorem w_1343 : Cond.instanceMethod ⟨"BeaconIndex", "feed", "(IIIII)I"⟩ ∈ lw_tbl := List.mem_append_right _ (List.mem_of_getElem? (i := 1343) (by decide +kernel))
theorem w_1344 : Cond.selects "BeaconIndex" ⟨"BeaconIndex", "feed", "(IIIII)I"⟩ ⟨"BeaconIndex", "feed", "(IIIII)I"⟩ ∈ lw_tbl := List.mem_append_right _ (List.mem_of_getElem? (i := 1344) (by decide +kernel))
theorem d_W_feed_19 : decode method_3_code 19 = .ok (.astore 7, 2) := by decide +kernel
theorem d_W_feed_21 : decode method_3_code 21 = .ok (.iconst 1, 1) := by decide +kernel
theorem d_W_feed_22 : decode method_3_code 22 = .ok (.ireturn, 1) := by decide +kernel
theorem w_1341 : Cond.classLink "BeaconIndexLaw" 13 "java/lang/IllegalStateException" ∈ lw_tbl := List.mem_append_right _ (List.mem_of_getElem? (i := 1341) (by decide +kernel))
theorem w_1244 : Cond.castable "java/lang/IllegalStateException" "java/lang/IllegalStateException" ∈ lw_tbl := List.mem_append_right _ (List.mem_of_getElem? (i := 1244) (by decide +kernel))
theorem v_W_feed_0 {G : XG} {d : Nat} {h : XH} {Q : XV → XH → Prop} {X : Nat → XH → Prop} {x1 x2 x3 x4 x5 : Int} {X9 : Nat → XH → Prop} (F : xFix h) (hyp : ((xwp G m_B_feed (d + 7) 0 [xR 0, xI x1, xI x2, xI x3, xI x4, xI x5] [] h (fun v9 h9 => xwp G m_W_feed (d + 8) 14 [xZ, xZ, xZ, xZ, xZ, xZ, xZ, xZ] (xpush v9 [xI 0, xR 91]) h9 Q X) X9) ∧ (∀ (k9 : Nat) (h9 : XH), k9 < 3 → X9 k9 h9 → (k9 = 0 → False) ∧ (k9 = 1 → Q (xI 1) h9) ∧ (k9 = 2 → False)))) : xwp G m_W_feed (d + 8) 0 [xR 0, xI x1, xI x2, xI x3, xI x4, xI x5, xR 91, xZ] [] h Q X := by
  have hnx9 : (93 : Int) ≤ xnx h := F.2.2
  refine xr_okL (fun hl9 => ?_)
  have r_x1 : -2147483648 ≤ x1 ∧ x1 ≤ 2147483647 := hl9 (xI x1) (.tail _ (.head _)) (Nat.le_of_ble_eq_true rfl)
  have r_x2 : -2147483648 ≤ x2 ∧ x2 ≤ 2147483647 := hl9 (xI x2) (.tail _ (.tail _ (.head _))) (Nat.le_of_ble_eq_true rfl)
  have r_x3 : -2147483648 ≤ x3 ∧ x3 ≤ 2147483647 := hl9 (xI x3) (.tail _ (.tail _ (.tail _ (.head _)))) (Nat.le_of_ble_eq_true rfl)
  have r_x4 : -2147483648 ≤ x4 ∧ x4 ≤ 2147483647 := hl9 (xI x4) (.tail _ (.tail _ (.tail _ (.tail _ (.head _))))) (Nat.le_of_ble_eq_true rfl)
  have r_x5 : -2147483648 ≤ x5 ∧ x5 ≤ 2147483647 := hl9 (xI x5) (.tail _ (.tail _ (.tail _ (.tail _ (.tail _ (.head _)))))) (Nat.le_of_ble_eq_true rfl)
  refine xr_aload (pc := 0) (i := 6) (hI := d_W_feed_0) (hl := rfl) ?_
  refine xr_iconst (pc := 2) (hI := d_W_feed_2) (hr := by decide) ?_
  refine xr_aload_n (pc := 3) (i := 0) (hI := d_W_feed_3) (hi := rfl) (hl := rfl) ?_
  refine xr_iload_n (pc := 4) (i := 1) (hI := d_W_feed_4) (hi := rfl) (hl := rfl) ?_
  refine xr_iload_n (pc := 5) (i := 2) (hI := d_W_feed_5) (hi := rfl) (hl := rfl) ?_
  refine xr_iload_n (pc := 6) (i := 3) (hI := d_W_feed_6) (hi := rfl) (hl := rfl) ?_
  refine xr_iload (pc := 7) (i := 4) (hI := d_W_feed_7) (hl := rfl) ?_
  refine xr_iload (pc := 9) (i := 5) (hI := d_W_feed_9) (hl := rfl) ?_
  obtain ⟨hyp, hyz⟩ := hyp
  exact xr_callVH (pc := 11) (index := 7) (K := m_B_feed) (As := [xI x1, xI x2, xI x3, xI x4, xI x5]) (S := [xI 0, xR 91]) (L0 := [xR 0, xI x1, xI x2, xI x3, xI x4, xI x5]) (hI := d_W_feed_11) (hcd := k_B_feed.1) (hini := k_B_feed.2.1) (hlk := w_1342) (hmax := k_B_feed.2.2.1) (hnm := k_B_feed.2.2.2.1) (hsig := k_B_feed.2.2.2.2.1) (hpl := k_B_feed.2.2.2.2.2.1) (hnoK := k_B_feed.2.2.2.2.2.2) (hS8 := Nat.le_of_ble_eq_true rfl) (ci := 0) (N := 7) (C := "BeaconIndex") (T := xF0) (hc := rfl) (hci := Nat.le_of_ble_eq_true rfl) (htb := (ft_0 F)) (hinst := w_1343) (hsel := w_1344) (hlen := Nat.le_of_ble_eq_true rfl) (hst := rfl) (hL0 := rfl) (X1 := X9)  (xwp_mono hyp (fun v9 h9 q9 => xr_drop (L9 := [xZ, xZ, xZ, xZ, xZ, xZ, xZ, xZ]) (xdrz (xdrz (xdrz (xdrz (xdrz (xdrz (xdrz (xdrs xdr0)))))))) q9) (fun _ _ z9 => z9)) (fun k9 h9 hk9 hx9 => by
    have z9 := hyz k9 h9 hk9 hx9
    match k9, hk9, z9 with
    | 0, _, z9 => exact (z9.1 rfl).elim
    | 1, _, z9 => exact ⟨19, 2, 7, ⟨[], (0, 16, 19, 13), [], "java/lang/IllegalStateException", rfl, (fun _ hz9 => absurd hz9 List.not_mem_nil), ⟨by decide, by decide⟩, rfl, by decide, w_1341, w_1244⟩, by decide, Or.inr ⟨rfl, d_W_feed_19⟩, xr_iconst (hI := d_W_feed_21) (hr := by decide) (xr_ireturn (S := []) (hI := d_W_feed_22) (hr := rfl) (z9.2.1 rfl))⟩
    | 2, _, z9 => exact (z9.2.2 rfl).elim)
theorem d_W_feed_14 : decode method_3_code 14 = .ok (.i2l, 1) := by decide +kernel
theorem d_W_feed_15 : decode method_3_code 15 = .ok (.lastore, 1) := by decide +kernel
theorem d_W_feed_16 : decode method_3_code 16 = .ok (.goto 7, 3) := by decide +kernel
theorem d_W_feed_23 : decode method_3_code 23 = .ok (.iconst 0, 1) := by decide +kernel
theorem d_W_feed_24 : decode method_3_code 24 = .ok (.ireturn, 1) := by decide +kernel
theorem v_W_feed_14 {G : XG} {d : Nat} {h : XH} {Q : XV → XH → Prop} {X : Nat → XH → Prop} {s0 s1 s2 : Int} (F : xFix h) (hyp : xtg h s2 = 101 ∧ 0 ≤ s2 ∧ 0 ≤ s1 ∧ s1 < (xln h s2) ∧ (xFix (xst h s2 s1 s0) → Q (xI 0) (xst h s2 s1 s0))) : xwp G m_W_feed (d + 8) 14 [xZ, xZ, xZ, xZ, xZ, xZ, xZ, xZ] [xI s0, xI s1, xR s2] h Q X := by
  have hnx9 : (93 : Int) ≤ xnx h := F.2.2
  refine xr_okS (fun hs9 => ?_)
  have r_s0 : -2147483648 ≤ s0 ∧ s0 ≤ 2147483647 := hs9 (xI s0) (.head _)
  have r_s1 : -2147483648 ≤ s1 ∧ s1 ≤ 2147483647 := hs9 (xI s1) (.tail _ (.head _))
  refine xr_i2l (pc := 14) (hI := d_W_feed_14) ?_
  obtain ⟨c9, hyp⟩ := hyp
  have t1_ := c9
  clear c9
  obtain ⟨c2_, hyp⟩ := hyp
  obtain ⟨c3_, hyp⟩ := hyp
  obtain ⟨c4_, hyp⟩ := hyp
  refine xr_lastore (pc := 15) (hI := d_W_feed_15) t1_ c2_ c3_ (xlt_of rfl c4_) ?_
  have F5_ : xFix (xst h s2 s1 s0) := F.stTA (t := 101) c2_ t1_ xta_101
  refine xr_goto (pc := 16) (tgt := 23) (hI := d_W_feed_16) (ht := by decide) ?_
  refine xr_iconst (pc := 23) (hI := d_W_feed_23) (hr := by decide) ?_
  refine xr_ireturn (S := []) (pc := 24) (hI := d_W_feed_24) (hr := rfl) ?_
  exact hyp F5_
-- trim
abbrev m_W_trim : XM := (⟨"BeaconIndexLaw", "trim", "(LBeaconIndex;I[J)I"⟩, method_4_code, 4, (some .int), [(0, 9, 12, 19)])
theorem d_W_trim_0 : decode method_4_code 0 = .ok (.aload_n 2, 1) := by decide +kernel
theorem d_W_trim_1 : decode method_4_code 1 = .ok (.iconst 0, 1) := by decide +kernel
theorem d_W_trim_2 : decode method_4_code 2 = .ok (.aload_n 0, 1) := by decide +kernel
theorem d_W_trim_3 : decode method_4_code 3 = .ok (.iload_n 1, 1) := by decide +kernel
theorem d_W_trim_4 : decode method_4_code 4 = .ok (.invokevirtual 15, 3) := by decide +kernel
theorem k_B_trim : xCal m_B_trim 1 := ⟨List.mem_append_right _ (List.mem_of_getElem? (i := 1357) (by decide +kernel)), w_1, Nat.le_of_ble_eq_true rfl, ⟨by decide +kernel, by decide +kernel⟩, by decide +kernel, by decide +kernel, rfl⟩
theorem w_1354 : Cond.methodLink "BeaconIndexLaw" 15 ⟨"BeaconIndex", "trim", "(I)I"⟩ ∈ lw_tbl := List.mem_append_right _ (List.mem_of_getElem? (i := 1354) (by decide +kernel))
theorem w_1355 : Cond.instanceMethod ⟨"BeaconIndex", "trim", "(I)I"⟩ ∈ lw_tbl := List.mem_append_right _ (List.mem_of_getElem? (i := 1355) (by decide +kernel))
theorem w_1356 : Cond.selects "BeaconIndex" ⟨"BeaconIndex", "trim", "(I)I"⟩ ⟨"BeaconIndex", "trim", "(I)I"⟩ ∈ lw_tbl := List.mem_append_right _ (List.mem_of_getElem? (i := 1356) (by decide +kernel))
theorem d_W_trim_12 : decode method_4_code 12 = .ok (.astore_n 3, 1) := by decide +kernel
theorem d_W_trim_13 : decode method_4_code 13 = .ok (.iconst 1, 1) := by decide +kernel
theorem d_W_trim_14 : decode method_4_code 14 = .ok (.ireturn, 1) := by decide +kernel
theorem w_1353 : Cond.classLink "BeaconIndexLaw" 19 "java/lang/IllegalArgumentException" ∈ lw_tbl := List.mem_append_right _ (List.mem_of_getElem? (i := 1353) (by decide +kernel))
theorem w_1297 : Cond.castable "java/lang/IllegalArgumentException" "java/lang/IllegalArgumentException" ∈ lw_tbl := List.mem_append_right _ (List.mem_of_getElem? (i := 1297) (by decide +kernel))
theorem v_W_trim_0 {G : XG} {d : Nat} {h : XH} {Q : XV → XH → Prop} {X : Nat → XH → Prop} {x1 : Int} {X9 : Nat → XH → Prop} (F : xFix h) (hyp : ((xwp G m_B_trim (d + 7) 0 [xR 0, xI x1] [] h (fun v9 h9 => xwp G m_W_trim (d + 8) 7 [xZ, xZ, xZ, xZ] (xpush v9 [xI 0, xR 91]) h9 Q X) X9) ∧ (∀ (k9 : Nat) (h9 : XH), k9 < 3 → X9 k9 h9 → (k9 = 0 → Q (xI 1) h9) ∧ (k9 = 1 → False) ∧ (k9 = 2 → False)))) : xwp G m_W_trim (d + 8) 0 [xR 0, xI x1, xR 91, xZ] [] h Q X := by
  have hnx9 : (93 : Int) ≤ xnx h := F.2.2
  refine xr_okL (fun hl9 => ?_)
  have r_x1 : -2147483648 ≤ x1 ∧ x1 ≤ 2147483647 := hl9 (xI x1) (.tail _ (.head _)) (Nat.le_of_ble_eq_true rfl)
  refine xr_aload_n (pc := 0) (i := 2) (hI := d_W_trim_0) (hi := rfl) (hl := rfl) ?_
  refine xr_iconst (pc := 1) (hI := d_W_trim_1) (hr := by decide) ?_
  refine xr_aload_n (pc := 2) (i := 0) (hI := d_W_trim_2) (hi := rfl) (hl := rfl) ?_
  refine xr_iload_n (pc := 3) (i := 1) (hI := d_W_trim_3) (hi := rfl) (hl := rfl) ?_
  obtain ⟨hyp, hyz⟩ := hyp
  exact xr_callVH (pc := 4) (index := 15) (K := m_B_trim) (As := [xI x1]) (S := [xI 0, xR 91]) (L0 := [xR 0, xI x1]) (hI := d_W_trim_4) (hcd := k_B_trim.1) (hini := k_B_trim.2.1) (hlk := w_1354) (hmax := k_B_trim.2.2.1) (hnm := k_B_trim.2.2.2.1) (hsig := k_B_trim.2.2.2.2.1) (hpl := k_B_trim.2.2.2.2.2.1) (hnoK := k_B_trim.2.2.2.2.2.2) (hS8 := Nat.le_of_ble_eq_true rfl) (ci := 0) (N := 7) (C := "BeaconIndex") (T := xF0) (hc := rfl) (hci := Nat.le_of_ble_eq_true rfl) (htb := (ft_0 F)) (hinst := w_1355) (hsel := w_1356) (hlen := Nat.le_of_ble_eq_true rfl) (hst := rfl) (hL0 := rfl) (X1 := X9)  (xwp_mono hyp (fun v9 h9 q9 => xr_drop (L9 := [xZ, xZ, xZ, xZ]) (xdrz (xdrz (xdrz (xdrs xdr0)))) q9) (fun _ _ z9 => z9)) (fun k9 h9 hk9 hx9 => by
    have z9 := hyz k9 h9 hk9 hx9
    match k9, hk9, z9 with
    | 0, _, z9 => exact ⟨12, 1, 3, ⟨[], (0, 9, 12, 19), [], "java/lang/IllegalArgumentException", rfl, (fun _ hz9 => absurd hz9 List.not_mem_nil), ⟨by decide, by decide⟩, rfl, by decide, w_1353, w_1297⟩, by decide, Or.inl ⟨rfl, (3 : Fin 4), rfl, d_W_trim_12⟩, xr_iconst (hI := d_W_trim_13) (hr := by decide) (xr_ireturn (S := []) (hI := d_W_trim_14) (hr := rfl) (z9.1 rfl))⟩
    | 1, _, z9 => exact (z9.2.1 rfl).elim
    | 2, _, z9 => exact (z9.2.2 rfl).elim)
theorem d_W_trim_7 : decode method_4_code 7 = .ok (.i2l, 1) := by decide +kernel
theorem d_W_trim_8 : decode method_4_code 8 = .ok (.lastore, 1) := by decide +kernel
theorem d_W_trim_9 : decode method_4_code 9 = .ok (.goto 6, 3) := by decide +kernel
theorem d_W_trim_15 : decode method_4_code 15 = .ok (.iconst 0, 1) := by decide +kernel
theorem d_W_trim_16 : decode method_4_code 16 = .ok (.ireturn, 1) := by decide +kernel
theorem v_W_trim_7 {G : XG} {d : Nat} {h : XH} {Q : XV → XH → Prop} {X : Nat → XH → Prop} {s0 s1 s2 : Int} (F : xFix h) (hyp : xtg h s2 = 101 ∧ 0 ≤ s2 ∧ 0 ≤ s1 ∧ s1 < (xln h s2) ∧ (xFix (xst h s2 s1 s0) → Q (xI 0) (xst h s2 s1 s0))) : xwp G m_W_trim (d + 8) 7 [xZ, xZ, xZ, xZ] [xI s0, xI s1, xR s2] h Q X := by
  have hnx9 : (93 : Int) ≤ xnx h := F.2.2
  refine xr_okS (fun hs9 => ?_)
  have r_s0 : -2147483648 ≤ s0 ∧ s0 ≤ 2147483647 := hs9 (xI s0) (.head _)
  have r_s1 : -2147483648 ≤ s1 ∧ s1 ≤ 2147483647 := hs9 (xI s1) (.tail _ (.head _))
  refine xr_i2l (pc := 7) (hI := d_W_trim_7) ?_
  obtain ⟨c9, hyp⟩ := hyp
  have t1_ := c9
  clear c9
  obtain ⟨c2_, hyp⟩ := hyp
  obtain ⟨c3_, hyp⟩ := hyp
  obtain ⟨c4_, hyp⟩ := hyp
  refine xr_lastore (pc := 8) (hI := d_W_trim_8) t1_ c2_ c3_ (xlt_of rfl c4_) ?_
  have F5_ : xFix (xst h s2 s1 s0) := F.stTA (t := 101) c2_ t1_ xta_101
  refine xr_goto (pc := 9) (tgt := 15) (hI := d_W_trim_9) (ht := by decide) ?_
  refine xr_iconst (pc := 15) (hI := d_W_trim_15) (hr := by decide) ?_
  refine xr_ireturn (S := []) (pc := 16) (hI := d_W_trim_16) (hr := rfl) ?_
  exact hyp F5_
-- add
abbrev m_W_add : XM := (⟨"BeaconIndexLaw", "add", "(LBeaconIndex;III[J)I"⟩, method_5_code, 6, (some .int), [(0, 12, 15, 19), (0, 12, 19, 13)])
theorem d_W_add_0 : decode method_5_code 0 = .ok (.aload 4, 2) := by decide +kernel
theorem d_W_add_2 : decode method_5_code 2 = .ok (.iconst 0, 1) := by decide +kernel
theorem d_W_add_3 : decode method_5_code 3 = .ok (.aload_n 0, 1) := by decide +kernel
theorem d_W_add_4 : decode method_5_code 4 = .ok (.iload_n 1, 1) := by decide +kernel
theorem d_W_add_5 : decode method_5_code 5 = .ok (.iload_n 2, 1) := by decide +kernel
theorem d_W_add_6 : decode method_5_code 6 = .ok (.iload_n 3, 1) := by decide +kernel
theorem d_W_add_7 : decode method_5_code 7 = .ok (.invokevirtual 21, 3) := by decide +kernel
theorem k_B_add : xCal m_B_add 3 := ⟨List.mem_append_right _ (List.mem_of_getElem? (i := 1364) (by decide +kernel)), w_1, Nat.le_of_ble_eq_true rfl, ⟨by decide +kernel, by decide +kernel⟩, by decide +kernel, by decide +kernel, rfl⟩
theorem w_1361 : Cond.methodLink "BeaconIndexLaw" 21 ⟨"BeaconIndex", "add", "(III)I"⟩ ∈ lw_tbl := List.mem_append_right _ (List.mem_of_getElem? (i := 1361) (by decide +kernel))
theorem w_1362 : Cond.instanceMethod ⟨"BeaconIndex", "add", "(III)I"⟩ ∈ lw_tbl := List.mem_append_right _ (List.mem_of_getElem? (i := 1362) (by decide +kernel))
theorem w_1363 : Cond.selects "BeaconIndex" ⟨"BeaconIndex", "add", "(III)I"⟩ ⟨"BeaconIndex", "add", "(III)I"⟩ ∈ lw_tbl := List.mem_append_right _ (List.mem_of_getElem? (i := 1363) (by decide +kernel))
theorem d_W_add_15 : decode method_5_code 15 = .ok (.astore 5, 2) := by decide +kernel
theorem d_W_add_17 : decode method_5_code 17 = .ok (.iconst 1, 1) := by decide +kernel
theorem d_W_add_18 : decode method_5_code 18 = .ok (.ireturn, 1) := by decide +kernel
theorem d_W_add_19 : decode method_5_code 19 = .ok (.astore 5, 2) := by decide +kernel
theorem d_W_add_21 : decode method_5_code 21 = .ok (.iconst 2, 1) := by decide +kernel
theorem d_W_add_22 : decode method_5_code 22 = .ok (.ireturn, 1) := by decide +kernel
theorem v_W_add_0 {G : XG} {d : Nat} {h : XH} {Q : XV → XH → Prop} {X : Nat → XH → Prop} {x1 x2 x3 : Int} {X9 : Nat → XH → Prop} (F : xFix h) (hyp : ((xwp G m_B_add (d + 10) 0 [xR 0, xI x1, xI x2, xI x3, xZ, xZ, xZ] [] h (fun v9 h9 => xwp G m_W_add (d + 11) 10 [xZ, xZ, xZ, xZ, xZ, xZ] (xpush v9 [xI 0, xR 91]) h9 Q X) X9) ∧ (∀ (k9 : Nat) (h9 : XH), k9 < 3 → X9 k9 h9 → (k9 = 0 → Q (xI 1) h9) ∧ (k9 = 1 → Q (xI 2) h9) ∧ (k9 = 2 → False)))) : xwp G m_W_add (d + 11) 0 [xR 0, xI x1, xI x2, xI x3, xR 91, xZ] [] h Q X := by
  have hnx9 : (93 : Int) ≤ xnx h := F.2.2
  refine xr_okL (fun hl9 => ?_)
  have r_x1 : -2147483648 ≤ x1 ∧ x1 ≤ 2147483647 := hl9 (xI x1) (.tail _ (.head _)) (Nat.le_of_ble_eq_true rfl)
  have r_x2 : -2147483648 ≤ x2 ∧ x2 ≤ 2147483647 := hl9 (xI x2) (.tail _ (.tail _ (.head _))) (Nat.le_of_ble_eq_true rfl)
  have r_x3 : -2147483648 ≤ x3 ∧ x3 ≤ 2147483647 := hl9 (xI x3) (.tail _ (.tail _ (.tail _ (.head _)))) (Nat.le_of_ble_eq_true rfl)
  refine xr_aload (pc := 0) (i := 4) (hI := d_W_add_0) (hl := rfl) ?_
  refine xr_iconst (pc := 2) (hI := d_W_add_2) (hr := by decide) ?_
  refine xr_aload_n (pc := 3) (i := 0) (hI := d_W_add_3) (hi := rfl) (hl := rfl) ?_
  refine xr_iload_n (pc := 4) (i := 1) (hI := d_W_add_4) (hi := rfl) (hl := rfl) ?_
  refine xr_iload_n (pc := 5) (i := 2) (hI := d_W_add_5) (hi := rfl) (hl := rfl) ?_
  refine xr_iload_n (pc := 6) (i := 3) (hI := d_W_add_6) (hi := rfl) (hl := rfl) ?_
  obtain ⟨hyp, hyz⟩ := hyp
  exact xr_callVH (pc := 7) (index := 21) (K := m_B_add) (As := [xI x1, xI x2, xI x3]) (S := [xI 0, xR 91]) (L0 := [xR 0, xI x1, xI x2, xI x3, xZ, xZ, xZ]) (hI := d_W_add_7) (hcd := k_B_add.1) (hini := k_B_add.2.1) (hlk := w_1361) (hmax := k_B_add.2.2.1) (hnm := k_B_add.2.2.2.1) (hsig := k_B_add.2.2.2.2.1) (hpl := k_B_add.2.2.2.2.2.1) (hnoK := k_B_add.2.2.2.2.2.2) (hS8 := Nat.le_of_ble_eq_true rfl) (ci := 0) (N := 7) (C := "BeaconIndex") (T := xF0) (hc := rfl) (hci := Nat.le_of_ble_eq_true rfl) (htb := (ft_0 F)) (hinst := w_1362) (hsel := w_1363) (hlen := Nat.le_of_ble_eq_true rfl) (hst := rfl) (hL0 := rfl) (X1 := X9)  (xwp_mono hyp (fun v9 h9 q9 => xr_drop (L9 := [xZ, xZ, xZ, xZ, xZ, xZ]) (xdrz (xdrz (xdrz (xdrz (xdrz (xdrs xdr0)))))) q9) (fun _ _ z9 => z9)) (fun k9 h9 hk9 hx9 => by
    have z9 := hyz k9 h9 hk9 hx9
    match k9, hk9, z9 with
    | 0, _, z9 => exact ⟨15, 2, 5, ⟨[], (0, 12, 15, 19), [(0, 12, 19, 13)], "java/lang/IllegalArgumentException", rfl, (fun _ hz9 => absurd hz9 List.not_mem_nil), ⟨by decide, by decide⟩, rfl, by decide, w_1353, w_1297⟩, by decide, Or.inr ⟨rfl, d_W_add_15⟩, xr_iconst (hI := d_W_add_17) (hr := by decide) (xr_ireturn (S := []) (hI := d_W_add_18) (hr := rfl) (z9.1 rfl))⟩
    | 1, _, z9 => exact ⟨19, 2, 5, ⟨[(0, 12, 15, 19)], (0, 12, 19, 13), [], "java/lang/IllegalStateException", rfl, (List.forall_mem_cons.mpr ⟨⟨by decide, "java/lang/IllegalArgumentException", w_1353, List.mem_of_getElem? (i := 0) rfl⟩, (fun _ hz9 => absurd hz9 List.not_mem_nil)⟩), ⟨by decide, by decide⟩, rfl, by decide, w_1341, w_1244⟩, by decide, Or.inr ⟨rfl, d_W_add_19⟩, xr_iconst (hI := d_W_add_21) (hr := by decide) (xr_ireturn (S := []) (hI := d_W_add_22) (hr := rfl) (z9.2.1 rfl))⟩
    | 2, _, z9 => exact (z9.2.2 rfl).elim)
theorem d_W_add_10 : decode method_5_code 10 = .ok (.i2l, 1) := by decide +kernel
theorem d_W_add_11 : decode method_5_code 11 = .ok (.lastore, 1) := by decide +kernel
theorem d_W_add_12 : decode method_5_code 12 = .ok (.goto 11, 3) := by decide +kernel
theorem d_W_add_23 : decode method_5_code 23 = .ok (.iconst 0, 1) := by decide +kernel
theorem d_W_add_24 : decode method_5_code 24 = .ok (.ireturn, 1) := by decide +kernel
theorem v_W_add_10 {G : XG} {d : Nat} {h : XH} {Q : XV → XH → Prop} {X : Nat → XH → Prop} {s0 s1 s2 : Int} (F : xFix h) (hyp : xtg h s2 = 101 ∧ 0 ≤ s2 ∧ 0 ≤ s1 ∧ s1 < (xln h s2) ∧ (xFix (xst h s2 s1 s0) → Q (xI 0) (xst h s2 s1 s0))) : xwp G m_W_add (d + 11) 10 [xZ, xZ, xZ, xZ, xZ, xZ] [xI s0, xI s1, xR s2] h Q X := by
  have hnx9 : (93 : Int) ≤ xnx h := F.2.2
  refine xr_okS (fun hs9 => ?_)
  have r_s0 : -2147483648 ≤ s0 ∧ s0 ≤ 2147483647 := hs9 (xI s0) (.head _)
  have r_s1 : -2147483648 ≤ s1 ∧ s1 ≤ 2147483647 := hs9 (xI s1) (.tail _ (.head _))
  refine xr_i2l (pc := 10) (hI := d_W_add_10) ?_
  obtain ⟨c9, hyp⟩ := hyp
  have t1_ := c9
  clear c9
  obtain ⟨c2_, hyp⟩ := hyp
  obtain ⟨c3_, hyp⟩ := hyp
  obtain ⟨c4_, hyp⟩ := hyp
  refine xr_lastore (pc := 11) (hI := d_W_add_11) t1_ c2_ c3_ (xlt_of rfl c4_) ?_
  have F5_ : xFix (xst h s2 s1 s0) := F.stTA (t := 101) c2_ t1_ xta_101
  refine xr_goto (pc := 12) (tgt := 23) (hI := d_W_add_12) (ht := by decide) ?_
  refine xr_iconst (pc := 23) (hI := d_W_add_23) (hr := by decide) ?_
  refine xr_ireturn (S := []) (pc := 24) (hI := d_W_add_24) (hr := rfl) ?_
  exact hyp F5_
-- takeOut
abbrev m_W_takeOut : XM := (⟨"BeaconIndexLaw", "takeOut", "(LBeaconIndex;I[J)I"⟩, method_6_code, 4, (some .int), [(0, 16, 19, 19), (0, 16, 22, 13)])
theorem d_W_takeOut_0 : decode method_6_code 0 = .ok (.aload_n 2, 1) := by decide +kernel
theorem d_W_takeOut_1 : decode method_6_code 1 = .ok (.iconst 0, 1) := by decide +kernel
theorem d_W_takeOut_2 : decode method_6_code 2 = .ok (.aload_n 0, 1) := by decide +kernel
theorem d_W_takeOut_3 : decode method_6_code 3 = .ok (.iload_n 1, 1) := by decide +kernel
theorem d_W_takeOut_4 : decode method_6_code 4 = .ok (.invokevirtual 25, 3) := by decide +kernel
theorem k_B_takeOut : xCal m_B_takeOut 1 := ⟨List.mem_append_right _ (List.mem_of_getElem? (i := 1403) (by decide +kernel)), w_1, Nat.le_of_ble_eq_true rfl, ⟨by decide +kernel, by decide +kernel⟩, by decide +kernel, by decide +kernel, rfl⟩
theorem w_1400 : Cond.methodLink "BeaconIndexLaw" 25 ⟨"BeaconIndex", "takeOut", "(I)Z"⟩ ∈ lw_tbl := List.mem_append_right _ (List.mem_of_getElem? (i := 1400) (by decide +kernel))
theorem w_1401 : Cond.instanceMethod ⟨"BeaconIndex", "takeOut", "(I)Z"⟩ ∈ lw_tbl := List.mem_append_right _ (List.mem_of_getElem? (i := 1401) (by decide +kernel))
theorem w_1402 : Cond.selects "BeaconIndex" ⟨"BeaconIndex", "takeOut", "(I)Z"⟩ ⟨"BeaconIndex", "takeOut", "(I)Z"⟩ ∈ lw_tbl := List.mem_append_right _ (List.mem_of_getElem? (i := 1402) (by decide +kernel))
theorem d_W_takeOut_19 : decode method_6_code 19 = .ok (.astore_n 3, 1) := by decide +kernel
theorem d_W_takeOut_20 : decode method_6_code 20 = .ok (.iconst 1, 1) := by decide +kernel
theorem d_W_takeOut_21 : decode method_6_code 21 = .ok (.ireturn, 1) := by decide +kernel
theorem d_W_takeOut_22 : decode method_6_code 22 = .ok (.astore_n 3, 1) := by decide +kernel
theorem d_W_takeOut_23 : decode method_6_code 23 = .ok (.iconst 2, 1) := by decide +kernel
theorem d_W_takeOut_24 : decode method_6_code 24 = .ok (.ireturn, 1) := by decide +kernel
theorem v_W_takeOut_0 {G : XG} {d : Nat} {h : XH} {Q : XV → XH → Prop} {X : Nat → XH → Prop} {x1 : Int} {X9 : Nat → XH → Prop} (F : xFix h) (hyp : ((xwp G m_B_takeOut (d + 8) 0 [xR 0, xI x1, xZ] [] h (fun v9 h9 => xwp G m_W_takeOut (d + 9) 7 [xZ, xZ, xZ, xZ] (xpush v9 [xI 0, xR 91]) h9 Q X) X9) ∧ (∀ (k9 : Nat) (h9 : XH), k9 < 3 → X9 k9 h9 → (k9 = 0 → Q (xI 1) h9) ∧ (k9 = 1 → Q (xI 2) h9) ∧ (k9 = 2 → False)))) : xwp G m_W_takeOut (d + 9) 0 [xR 0, xI x1, xR 91, xZ] [] h Q X := by
  have hnx9 : (93 : Int) ≤ xnx h := F.2.2
  refine xr_okL (fun hl9 => ?_)
  have r_x1 : -2147483648 ≤ x1 ∧ x1 ≤ 2147483647 := hl9 (xI x1) (.tail _ (.head _)) (Nat.le_of_ble_eq_true rfl)
  refine xr_aload_n (pc := 0) (i := 2) (hI := d_W_takeOut_0) (hi := rfl) (hl := rfl) ?_
  refine xr_iconst (pc := 1) (hI := d_W_takeOut_1) (hr := by decide) ?_
  refine xr_aload_n (pc := 2) (i := 0) (hI := d_W_takeOut_2) (hi := rfl) (hl := rfl) ?_
  refine xr_iload_n (pc := 3) (i := 1) (hI := d_W_takeOut_3) (hi := rfl) (hl := rfl) ?_
  obtain ⟨hyp, hyz⟩ := hyp
  exact xr_callVH (pc := 4) (index := 25) (K := m_B_takeOut) (As := [xI x1]) (S := [xI 0, xR 91]) (L0 := [xR 0, xI x1, xZ]) (hI := d_W_takeOut_4) (hcd := k_B_takeOut.1) (hini := k_B_takeOut.2.1) (hlk := w_1400) (hmax := k_B_takeOut.2.2.1) (hnm := k_B_takeOut.2.2.2.1) (hsig := k_B_takeOut.2.2.2.2.1) (hpl := k_B_takeOut.2.2.2.2.2.1) (hnoK := k_B_takeOut.2.2.2.2.2.2) (hS8 := Nat.le_of_ble_eq_true rfl) (ci := 0) (N := 7) (C := "BeaconIndex") (T := xF0) (hc := rfl) (hci := Nat.le_of_ble_eq_true rfl) (htb := (ft_0 F)) (hinst := w_1401) (hsel := w_1402) (hlen := Nat.le_of_ble_eq_true rfl) (hst := rfl) (hL0 := rfl) (X1 := X9)  (xwp_mono hyp (fun v9 h9 q9 => xr_drop (L9 := [xZ, xZ, xZ, xZ]) (xdrz (xdrz (xdrz (xdrs xdr0)))) q9) (fun _ _ z9 => z9)) (fun k9 h9 hk9 hx9 => by
    have z9 := hyz k9 h9 hk9 hx9
    match k9, hk9, z9 with
    | 0, _, z9 => exact ⟨19, 1, 3, ⟨[], (0, 16, 19, 19), [(0, 16, 22, 13)], "java/lang/IllegalArgumentException", rfl, (fun _ hz9 => absurd hz9 List.not_mem_nil), ⟨by decide, by decide⟩, rfl, by decide, w_1353, w_1297⟩, by decide, Or.inl ⟨rfl, (3 : Fin 4), rfl, d_W_takeOut_19⟩, xr_iconst (hI := d_W_takeOut_20) (hr := by decide) (xr_ireturn (S := []) (hI := d_W_takeOut_21) (hr := rfl) (z9.1 rfl))⟩
    | 1, _, z9 => exact ⟨22, 1, 3, ⟨[(0, 16, 19, 19)], (0, 16, 22, 13), [], "java/lang/IllegalStateException", rfl, (List.forall_mem_cons.mpr ⟨⟨by decide, "java/lang/IllegalArgumentException", w_1353, List.mem_of_getElem? (i := 0) rfl⟩, (fun _ hz9 => absurd hz9 List.not_mem_nil)⟩), ⟨by decide, by decide⟩, rfl, by decide, w_1341, w_1244⟩, by decide, Or.inl ⟨rfl, (3 : Fin 4), rfl, d_W_takeOut_22⟩, xr_iconst (hI := d_W_takeOut_23) (hr := by decide) (xr_ireturn (S := []) (hI := d_W_takeOut_24) (hr := rfl) (z9.2.1 rfl))⟩
    | 2, _, z9 => exact (z9.2.2 rfl).elim)
theorem d_W_takeOut_7 : decode method_6_code 7 = .ok (.ifCond .eq 7, 3) := by decide +kernel
theorem d_W_takeOut_14 : decode method_6_code 14 = .ok (.lconst 0, 1) := by decide +kernel
theorem d_W_takeOut_15 : decode method_6_code 15 = .ok (.lastore, 1) := by decide +kernel
theorem d_W_takeOut_16 : decode method_6_code 16 = .ok (.goto 9, 3) := by decide +kernel
theorem d_W_takeOut_25 : decode method_6_code 25 = .ok (.iconst 0, 1) := by decide +kernel
theorem d_W_takeOut_26 : decode method_6_code 26 = .ok (.ireturn, 1) := by decide +kernel
theorem d_W_takeOut_10 : decode method_6_code 10 = .ok (.lconst 1, 1) := by decide +kernel
theorem d_W_takeOut_11 : decode method_6_code 11 = .ok (.goto 4, 3) := by decide +kernel
theorem v_W_takeOut_7 {G : XG} {d : Nat} {h : XH} {Q : XV → XH → Prop} {X : Nat → XH → Prop} {s0 s1 s2 : Int} (F : xFix h) (hyp : ((s0 = 0 → xtg h s2 = 101 ∧ 0 ≤ s2 ∧ 0 ≤ s1 ∧ s1 < (xln h s2) ∧ (xFix (xst h s2 s1 0) → Q (xI 0) (xst h s2 s1 0))) ∧ (¬ s0 = 0 → xtg h s2 = 101 ∧ 0 ≤ s2 ∧ 0 ≤ s1 ∧ s1 < (xln h s2) ∧ (xFix (xst h s2 s1 1) → Q (xI 0) (xst h s2 s1 1))))) : xwp G m_W_takeOut (d + 9) 7 [xZ, xZ, xZ, xZ] [xI s0, xI s1, xR s2] h Q X := by
  have hnx9 : (93 : Int) ≤ xnx h := F.2.2
  refine xr_okS (fun hs9 => ?_)
  have r_s0 : -2147483648 ≤ s0 ∧ s0 ≤ 2147483647 := hs9 (xI s0) (.head _)
  have r_s1 : -2147483648 ≤ s1 ∧ s1 ≤ 2147483647 := hs9 (xI s1) (.tail _ (.head _))
  refine xr_if_eq (pc := 7) (tgt := 14) (hI := d_W_takeOut_7) (ht := by decide) (fun q9 => ?_) (fun q9 => ?_)
  · replace hyp := hyp.1 q9
    have q1_ := q9
    clear q9
    refine xr_lconst (pc := 14) (z := 0) (hI := d_W_takeOut_14) (hr := by decide) (hv := by decide) ?_
    obtain ⟨c9, hyp⟩ := hyp
    have t2_ := c9
    clear c9
    obtain ⟨c3_, hyp⟩ := hyp
    obtain ⟨c4_, hyp⟩ := hyp
    obtain ⟨c5_, hyp⟩ := hyp
    refine xr_lastore (pc := 15) (hI := d_W_takeOut_15) t2_ c3_ c4_ (xlt_of rfl c5_) ?_
    have F6_ : xFix (xst h s2 s1 0) := F.stTA (t := 101) c3_ t2_ xta_101
    refine xr_goto (pc := 16) (tgt := 25) (hI := d_W_takeOut_16) (ht := by decide) ?_
    refine xr_iconst (pc := 25) (hI := d_W_takeOut_25) (hr := by decide) ?_
    refine xr_ireturn (S := []) (pc := 26) (hI := d_W_takeOut_26) (hr := rfl) ?_
    exact hyp F6_
  · replace hyp := hyp.2 q9
    have q1_ := q9
    clear q9
    refine xr_lconst (pc := 10) (z := 1) (hI := d_W_takeOut_10) (hr := by decide) (hv := by decide) ?_
    refine xr_goto (pc := 11) (tgt := 15) (hI := d_W_takeOut_11) (ht := by decide) ?_
    obtain ⟨c9, hyp⟩ := hyp
    have t7_ := c9
    clear c9
    obtain ⟨c8_, hyp⟩ := hyp
    obtain ⟨c9_, hyp⟩ := hyp
    obtain ⟨c10_, hyp⟩ := hyp
    refine xr_lastore (pc := 15) (hI := d_W_takeOut_15) t7_ c8_ c9_ (xlt_of rfl c10_) ?_
    have F11_ : xFix (xst h s2 s1 1) := F.stTA (t := 101) c8_ t7_ xta_101
    refine xr_goto (pc := 16) (tgt := 25) (hI := d_W_takeOut_16) (ht := by decide) ?_
    refine xr_iconst (pc := 25) (hI := d_W_takeOut_25) (hr := by decide) ?_
    refine xr_ireturn (S := []) (pc := 26) (hI := d_W_takeOut_26) (hr := rfl) ?_
    exact hyp F11_
-- textsIn
abbrev m_W_textsIn : XM := (⟨"BeaconIndexLaw", "textsIn", "(LBeaconIndex;I[J)I"⟩, method_7_code, 4, (some .int), [(0, 9, 12, 32)])
theorem d_W_textsIn_0 : decode method_7_code 0 = .ok (.aload_n 2, 1) := by decide +kernel
theorem d_W_textsIn_1 : decode method_7_code 1 = .ok (.iconst 0, 1) := by decide +kernel
theorem d_W_textsIn_2 : decode method_7_code 2 = .ok (.aload_n 0, 1) := by decide +kernel
theorem d_W_textsIn_3 : decode method_7_code 3 = .ok (.iload_n 1, 1) := by decide +kernel
theorem d_W_textsIn_4 : decode method_7_code 4 = .ok (.invokevirtual 29, 3) := by decide +kernel
theorem w_1408 : Cond.methodLink "BeaconIndexLaw" 29 ⟨"BeaconIndex", "textsIn", "(I)I"⟩ ∈ lw_tbl := List.mem_append_right _ (List.mem_of_getElem? (i := 1408) (by decide +kernel))
theorem d_W_textsIn_12 : decode method_7_code 12 = .ok (.astore_n 3, 1) := by decide +kernel
theorem d_W_textsIn_13 : decode method_7_code 13 = .ok (.iconst 1, 1) := by decide +kernel
theorem d_W_textsIn_14 : decode method_7_code 14 = .ok (.ireturn, 1) := by decide +kernel
theorem w_1407 : Cond.classLink "BeaconIndexLaw" 32 "java/lang/IndexOutOfBoundsException" ∈ lw_tbl := List.mem_append_right _ (List.mem_of_getElem? (i := 1407) (by decide +kernel))
theorem w_1103 : Cond.castable "java/lang/IndexOutOfBoundsException" "java/lang/IndexOutOfBoundsException" ∈ lw_tbl := List.mem_append_right _ (List.mem_of_getElem? (i := 1103) (by decide +kernel))
theorem v_W_textsIn_0 {G : XG} {d : Nat} {h : XH} {Q : XV → XH → Prop} {X : Nat → XH → Prop} {x1 : Int} {X9 : Nat → XH → Prop} (F : xFix h) (hyp : ((xwp G m_B_textsIn (d + 8) 0 [xR 0, xI x1] [] h (fun v9 h9 => xwp G m_W_textsIn (d + 9) 7 [xZ, xZ, xZ, xZ] (xpush v9 [xI 0, xR 91]) h9 Q X) X9) ∧ (∀ (k9 : Nat) (h9 : XH), k9 < 3 → X9 k9 h9 → (k9 = 0 → False) ∧ (k9 = 1 → False) ∧ (k9 = 2 → Q (xI 1) h9)))) : xwp G m_W_textsIn (d + 9) 0 [xR 0, xI x1, xR 91, xZ] [] h Q X := by
  have hnx9 : (93 : Int) ≤ xnx h := F.2.2
  refine xr_okL (fun hl9 => ?_)
  have r_x1 : -2147483648 ≤ x1 ∧ x1 ≤ 2147483647 := hl9 (xI x1) (.tail _ (.head _)) (Nat.le_of_ble_eq_true rfl)
  refine xr_aload_n (pc := 0) (i := 2) (hI := d_W_textsIn_0) (hi := rfl) (hl := rfl) ?_
  refine xr_iconst (pc := 1) (hI := d_W_textsIn_1) (hr := by decide) ?_
  refine xr_aload_n (pc := 2) (i := 0) (hI := d_W_textsIn_2) (hi := rfl) (hl := rfl) ?_
  refine xr_iload_n (pc := 3) (i := 1) (hI := d_W_textsIn_3) (hi := rfl) (hl := rfl) ?_
  obtain ⟨hyp, hyz⟩ := hyp
  exact xr_callVH (pc := 4) (index := 29) (K := m_B_textsIn) (As := [xI x1]) (S := [xI 0, xR 91]) (L0 := [xR 0, xI x1]) (hI := d_W_textsIn_4) (hcd := k_B_textsIn.1) (hini := k_B_textsIn.2.1) (hlk := w_1408) (hmax := k_B_textsIn.2.2.1) (hnm := k_B_textsIn.2.2.2.1) (hsig := k_B_textsIn.2.2.2.2.1) (hpl := k_B_textsIn.2.2.2.2.2.1) (hnoK := k_B_textsIn.2.2.2.2.2.2) (hS8 := Nat.le_of_ble_eq_true rfl) (ci := 0) (N := 7) (C := "BeaconIndex") (T := xF0) (hc := rfl) (hci := Nat.le_of_ble_eq_true rfl) (htb := (ft_0 F)) (hinst := w_1094) (hsel := w_1095) (hlen := Nat.le_of_ble_eq_true rfl) (hst := rfl) (hL0 := rfl) (X1 := X9)  (xwp_mono hyp (fun v9 h9 q9 => xr_drop (L9 := [xZ, xZ, xZ, xZ]) (xdrz (xdrz (xdrz (xdrs xdr0)))) q9) (fun _ _ z9 => z9)) (fun k9 h9 hk9 hx9 => by
    have z9 := hyz k9 h9 hk9 hx9
    match k9, hk9, z9 with
    | 0, _, z9 => exact (z9.1 rfl).elim
    | 1, _, z9 => exact (z9.2.1 rfl).elim
    | 2, _, z9 => exact ⟨12, 1, 3, ⟨[], (0, 9, 12, 32), [], "java/lang/IndexOutOfBoundsException", rfl, (fun _ hz9 => absurd hz9 List.not_mem_nil), ⟨by decide, by decide⟩, rfl, by decide, w_1407, w_1103⟩, by decide, Or.inl ⟨rfl, (3 : Fin 4), rfl, d_W_textsIn_12⟩, xr_iconst (hI := d_W_textsIn_13) (hr := by decide) (xr_ireturn (S := []) (hI := d_W_textsIn_14) (hr := rfl) (z9.2.2 rfl))⟩)
theorem d_W_textsIn_7 : decode method_7_code 7 = .ok (.i2l, 1) := by decide +kernel
theorem d_W_textsIn_8 : decode method_7_code 8 = .ok (.lastore, 1) := by decide +kernel
theorem d_W_textsIn_9 : decode method_7_code 9 = .ok (.goto 6, 3) := by decide +kernel
theorem d_W_textsIn_15 : decode method_7_code 15 = .ok (.iconst 0, 1) := by decide +kernel
theorem d_W_textsIn_16 : decode method_7_code 16 = .ok (.ireturn, 1) := by decide +kernel
theorem v_W_textsIn_7 {G : XG} {d : Nat} {h : XH} {Q : XV → XH → Prop} {X : Nat → XH → Prop} {s0 s1 s2 : Int} (F : xFix h) (hyp : xtg h s2 = 101 ∧ 0 ≤ s2 ∧ 0 ≤ s1 ∧ s1 < (xln h s2) ∧ (xFix (xst h s2 s1 s0) → Q (xI 0) (xst h s2 s1 s0))) : xwp G m_W_textsIn (d + 9) 7 [xZ, xZ, xZ, xZ] [xI s0, xI s1, xR s2] h Q X := by
  have hnx9 : (93 : Int) ≤ xnx h := F.2.2
  refine xr_okS (fun hs9 => ?_)
  have r_s0 : -2147483648 ≤ s0 ∧ s0 ≤ 2147483647 := hs9 (xI s0) (.head _)
  have r_s1 : -2147483648 ≤ s1 ∧ s1 ≤ 2147483647 := hs9 (xI s1) (.tail _ (.head _))
  refine xr_i2l (pc := 7) (hI := d_W_textsIn_7) ?_
  obtain ⟨c9, hyp⟩ := hyp
  have t1_ := c9
  clear c9
  obtain ⟨c2_, hyp⟩ := hyp
  obtain ⟨c3_, hyp⟩ := hyp
  obtain ⟨c4_, hyp⟩ := hyp
  refine xr_lastore (pc := 8) (hI := d_W_textsIn_8) t1_ c2_ c3_ (xlt_of rfl c4_) ?_
  have F5_ : xFix (xst h s2 s1 s0) := F.stTA (t := 101) c2_ t1_ xta_101
  refine xr_goto (pc := 9) (tgt := 15) (hI := d_W_textsIn_9) (ht := by decide) ?_
  refine xr_iconst (pc := 15) (hI := d_W_textsIn_15) (hr := by decide) ?_
  refine xr_ireturn (S := []) (pc := 16) (hI := d_W_textsIn_16) (hr := rfl) ?_
  exact hyp F5_
-- markedIn
abbrev m_W_markedIn : XM := (⟨"BeaconIndexLaw", "markedIn", "(LBeaconIndex;I[J)I"⟩, method_8_code, 4, (some .int), [(0, 9, 12, 32)])
theorem d_W_markedIn_0 : decode method_8_code 0 = .ok (.aload_n 2, 1) := by decide +kernel
theorem d_W_markedIn_1 : decode method_8_code 1 = .ok (.iconst 0, 1) := by decide +kernel
theorem d_W_markedIn_2 : decode method_8_code 2 = .ok (.aload_n 0, 1) := by decide +kernel
theorem d_W_markedIn_3 : decode method_8_code 3 = .ok (.iload_n 1, 1) := by decide +kernel
theorem d_W_markedIn_4 : decode method_8_code 4 = .ok (.invokevirtual 34, 3) := by decide +kernel
theorem w_1412 : Cond.methodLink "BeaconIndexLaw" 34 ⟨"BeaconIndex", "markedIn", "(I)I"⟩ ∈ lw_tbl := List.mem_append_right _ (List.mem_of_getElem? (i := 1412) (by decide +kernel))
theorem d_W_markedIn_12 : decode method_8_code 12 = .ok (.astore_n 3, 1) := by decide +kernel
theorem d_W_markedIn_13 : decode method_8_code 13 = .ok (.iconst 1, 1) := by decide +kernel
theorem d_W_markedIn_14 : decode method_8_code 14 = .ok (.ireturn, 1) := by decide +kernel
theorem v_W_markedIn_0 {G : XG} {d : Nat} {h : XH} {Q : XV → XH → Prop} {X : Nat → XH → Prop} {x1 : Int} {X9 : Nat → XH → Prop} (F : xFix h) (hyp : ((xwp G m_B_markedIn (d + 8) 0 [xR 0, xI x1] [] h (fun v9 h9 => xwp G m_W_markedIn (d + 9) 7 [xZ, xZ, xZ, xZ] (xpush v9 [xI 0, xR 91]) h9 Q X) X9) ∧ (∀ (k9 : Nat) (h9 : XH), k9 < 3 → X9 k9 h9 → (k9 = 0 → False) ∧ (k9 = 1 → False) ∧ (k9 = 2 → Q (xI 1) h9)))) : xwp G m_W_markedIn (d + 9) 0 [xR 0, xI x1, xR 91, xZ] [] h Q X := by
  have hnx9 : (93 : Int) ≤ xnx h := F.2.2
  refine xr_okL (fun hl9 => ?_)
  have r_x1 : -2147483648 ≤ x1 ∧ x1 ≤ 2147483647 := hl9 (xI x1) (.tail _ (.head _)) (Nat.le_of_ble_eq_true rfl)
  refine xr_aload_n (pc := 0) (i := 2) (hI := d_W_markedIn_0) (hi := rfl) (hl := rfl) ?_
  refine xr_iconst (pc := 1) (hI := d_W_markedIn_1) (hr := by decide) ?_
  refine xr_aload_n (pc := 2) (i := 0) (hI := d_W_markedIn_2) (hi := rfl) (hl := rfl) ?_
  refine xr_iload_n (pc := 3) (i := 1) (hI := d_W_markedIn_3) (hi := rfl) (hl := rfl) ?_
  obtain ⟨hyp, hyz⟩ := hyp
  exact xr_callVH (pc := 4) (index := 34) (K := m_B_markedIn) (As := [xI x1]) (S := [xI 0, xR 91]) (L0 := [xR 0, xI x1]) (hI := d_W_markedIn_4) (hcd := k_B_markedIn.1) (hini := k_B_markedIn.2.1) (hlk := w_1412) (hmax := k_B_markedIn.2.2.1) (hnm := k_B_markedIn.2.2.2.1) (hsig := k_B_markedIn.2.2.2.2.1) (hpl := k_B_markedIn.2.2.2.2.2.1) (hnoK := k_B_markedIn.2.2.2.2.2.2) (hS8 := Nat.le_of_ble_eq_true rfl) (ci := 0) (N := 7) (C := "BeaconIndex") (T := xF0) (hc := rfl) (hci := Nat.le_of_ble_eq_true rfl) (htb := (ft_0 F)) (hinst := w_1168) (hsel := w_1169) (hlen := Nat.le_of_ble_eq_true rfl) (hst := rfl) (hL0 := rfl) (X1 := X9)  (xwp_mono hyp (fun v9 h9 q9 => xr_drop (L9 := [xZ, xZ, xZ, xZ]) (xdrz (xdrz (xdrz (xdrs xdr0)))) q9) (fun _ _ z9 => z9)) (fun k9 h9 hk9 hx9 => by
    have z9 := hyz k9 h9 hk9 hx9
    match k9, hk9, z9 with
    | 0, _, z9 => exact (z9.1 rfl).elim
    | 1, _, z9 => exact (z9.2.1 rfl).elim
    | 2, _, z9 => exact ⟨12, 1, 3, ⟨[], (0, 9, 12, 32), [], "java/lang/IndexOutOfBoundsException", rfl, (fun _ hz9 => absurd hz9 List.not_mem_nil), ⟨by decide, by decide⟩, rfl, by decide, w_1407, w_1103⟩, by decide, Or.inl ⟨rfl, (3 : Fin 4), rfl, d_W_markedIn_12⟩, xr_iconst (hI := d_W_markedIn_13) (hr := by decide) (xr_ireturn (S := []) (hI := d_W_markedIn_14) (hr := rfl) (z9.2.2 rfl))⟩)
theorem d_W_markedIn_7 : decode method_8_code 7 = .ok (.i2l, 1) := by decide +kernel
theorem d_W_markedIn_8 : decode method_8_code 8 = .ok (.lastore, 1) := by decide +kernel
theorem d_W_markedIn_9 : decode method_8_code 9 = .ok (.goto 6, 3) := by decide +kernel
theorem d_W_markedIn_15 : decode method_8_code 15 = .ok (.iconst 0, 1) := by decide +kernel
theorem d_W_markedIn_16 : decode method_8_code 16 = .ok (.ireturn, 1) := by decide +kernel
theorem v_W_markedIn_7 {G : XG} {d : Nat} {h : XH} {Q : XV → XH → Prop} {X : Nat → XH → Prop} {s0 s1 s2 : Int} (F : xFix h) (hyp : xtg h s2 = 101 ∧ 0 ≤ s2 ∧ 0 ≤ s1 ∧ s1 < (xln h s2) ∧ (xFix (xst h s2 s1 s0) → Q (xI 0) (xst h s2 s1 s0))) : xwp G m_W_markedIn (d + 9) 7 [xZ, xZ, xZ, xZ] [xI s0, xI s1, xR s2] h Q X := by
  have hnx9 : (93 : Int) ≤ xnx h := F.2.2
  refine xr_okS (fun hs9 => ?_)
  have r_s0 : -2147483648 ≤ s0 ∧ s0 ≤ 2147483647 := hs9 (xI s0) (.head _)
  have r_s1 : -2147483648 ≤ s1 ∧ s1 ≤ 2147483647 := hs9 (xI s1) (.tail _ (.head _))
  refine xr_i2l (pc := 7) (hI := d_W_markedIn_7) ?_
  obtain ⟨c9, hyp⟩ := hyp
  have t1_ := c9
  clear c9
  obtain ⟨c2_, hyp⟩ := hyp
  obtain ⟨c3_, hyp⟩ := hyp
  obtain ⟨c4_, hyp⟩ := hyp
  refine xr_lastore (pc := 8) (hI := d_W_markedIn_8) t1_ c2_ c3_ (xlt_of rfl c4_) ?_
  have F5_ : xFix (xst h s2 s1 s0) := F.stTA (t := 101) c2_ t1_ xta_101
  refine xr_goto (pc := 9) (tgt := 15) (hI := d_W_markedIn_9) (ht := by decide) ?_
  refine xr_iconst (pc := 15) (hI := d_W_markedIn_15) (hr := by decide) ?_
  refine xr_ireturn (S := []) (pc := 16) (hI := d_W_markedIn_16) (hr := rfl) ?_
  exact hyp F5_
-- levelOf
abbrev m_W_levelOf : XM := (⟨"BeaconIndexLaw", "levelOf", "(LBeaconIndex;I[J)I"⟩, method_9_code, 4, (some .int), [(0, 9, 12, 32)])
theorem d_W_levelOf_0 : decode method_9_code 0 = .ok (.aload_n 2, 1) := by decide +kernel
theorem d_W_levelOf_1 : decode method_9_code 1 = .ok (.iconst 0, 1) := by decide +kernel
theorem d_W_levelOf_2 : decode method_9_code 2 = .ok (.aload_n 0, 1) := by decide +kernel
theorem d_W_levelOf_3 : decode method_9_code 3 = .ok (.iload_n 1, 1) := by decide +kernel
theorem d_W_levelOf_4 : decode method_9_code 4 = .ok (.invokevirtual 37, 3) := by decide +kernel
theorem w_1416 : Cond.methodLink "BeaconIndexLaw" 37 ⟨"BeaconIndex", "levelOf", "(I)I"⟩ ∈ lw_tbl := List.mem_append_right _ (List.mem_of_getElem? (i := 1416) (by decide +kernel))
theorem d_W_levelOf_12 : decode method_9_code 12 = .ok (.astore_n 3, 1) := by decide +kernel
theorem d_W_levelOf_13 : decode method_9_code 13 = .ok (.iconst 1, 1) := by decide +kernel
theorem d_W_levelOf_14 : decode method_9_code 14 = .ok (.ireturn, 1) := by decide +kernel
theorem v_W_levelOf_0 {G : XG} {d : Nat} {h : XH} {Q : XV → XH → Prop} {X : Nat → XH → Prop} {x1 : Int} {X9 : Nat → XH → Prop} (F : xFix h) (hyp : ((xwp G m_B_levelOf (d + 8) 0 [xR 0, xI x1] [] h (fun v9 h9 => xwp G m_W_levelOf (d + 9) 7 [xZ, xZ, xZ, xZ] (xpush v9 [xI 0, xR 91]) h9 Q X) X9) ∧ (∀ (k9 : Nat) (h9 : XH), k9 < 3 → X9 k9 h9 → (k9 = 0 → False) ∧ (k9 = 1 → False) ∧ (k9 = 2 → Q (xI 1) h9)))) : xwp G m_W_levelOf (d + 9) 0 [xR 0, xI x1, xR 91, xZ] [] h Q X := by
  have hnx9 : (93 : Int) ≤ xnx h := F.2.2
  refine xr_okL (fun hl9 => ?_)
  have r_x1 : -2147483648 ≤ x1 ∧ x1 ≤ 2147483647 := hl9 (xI x1) (.tail _ (.head _)) (Nat.le_of_ble_eq_true rfl)
  refine xr_aload_n (pc := 0) (i := 2) (hI := d_W_levelOf_0) (hi := rfl) (hl := rfl) ?_
  refine xr_iconst (pc := 1) (hI := d_W_levelOf_1) (hr := by decide) ?_
  refine xr_aload_n (pc := 2) (i := 0) (hI := d_W_levelOf_2) (hi := rfl) (hl := rfl) ?_
  refine xr_iload_n (pc := 3) (i := 1) (hI := d_W_levelOf_3) (hi := rfl) (hl := rfl) ?_
  obtain ⟨hyp, hyz⟩ := hyp
  exact xr_callVH (pc := 4) (index := 37) (K := m_B_levelOf) (As := [xI x1]) (S := [xI 0, xR 91]) (L0 := [xR 0, xI x1]) (hI := d_W_levelOf_4) (hcd := k_B_levelOf.1) (hini := k_B_levelOf.2.1) (hlk := w_1416) (hmax := k_B_levelOf.2.2.1) (hnm := k_B_levelOf.2.2.2.1) (hsig := k_B_levelOf.2.2.2.2.1) (hpl := k_B_levelOf.2.2.2.2.2.1) (hnoK := k_B_levelOf.2.2.2.2.2.2) (hS8 := Nat.le_of_ble_eq_true rfl) (ci := 0) (N := 7) (C := "BeaconIndex") (T := xF0) (hc := rfl) (hci := Nat.le_of_ble_eq_true rfl) (htb := (ft_0 F)) (hinst := w_1173) (hsel := w_1174) (hlen := Nat.le_of_ble_eq_true rfl) (hst := rfl) (hL0 := rfl) (X1 := X9)  (xwp_mono hyp (fun v9 h9 q9 => xr_drop (L9 := [xZ, xZ, xZ, xZ]) (xdrz (xdrz (xdrz (xdrs xdr0)))) q9) (fun _ _ z9 => z9)) (fun k9 h9 hk9 hx9 => by
    have z9 := hyz k9 h9 hk9 hx9
    match k9, hk9, z9 with
    | 0, _, z9 => exact (z9.1 rfl).elim
    | 1, _, z9 => exact (z9.2.1 rfl).elim
    | 2, _, z9 => exact ⟨12, 1, 3, ⟨[], (0, 9, 12, 32), [], "java/lang/IndexOutOfBoundsException", rfl, (fun _ hz9 => absurd hz9 List.not_mem_nil), ⟨by decide, by decide⟩, rfl, by decide, w_1407, w_1103⟩, by decide, Or.inl ⟨rfl, (3 : Fin 4), rfl, d_W_levelOf_12⟩, xr_iconst (hI := d_W_levelOf_13) (hr := by decide) (xr_ireturn (S := []) (hI := d_W_levelOf_14) (hr := rfl) (z9.2.2 rfl))⟩)
theorem d_W_levelOf_7 : decode method_9_code 7 = .ok (.i2l, 1) := by decide +kernel
theorem d_W_levelOf_8 : decode method_9_code 8 = .ok (.lastore, 1) := by decide +kernel
theorem d_W_levelOf_9 : decode method_9_code 9 = .ok (.goto 6, 3) := by decide +kernel
theorem d_W_levelOf_15 : decode method_9_code 15 = .ok (.iconst 0, 1) := by decide +kernel
theorem d_W_levelOf_16 : decode method_9_code 16 = .ok (.ireturn, 1) := by decide +kernel
theorem v_W_levelOf_7 {G : XG} {d : Nat} {h : XH} {Q : XV → XH → Prop} {X : Nat → XH → Prop} {s0 s1 s2 : Int} (F : xFix h) (hyp : xtg h s2 = 101 ∧ 0 ≤ s2 ∧ 0 ≤ s1 ∧ s1 < (xln h s2) ∧ (xFix (xst h s2 s1 s0) → Q (xI 0) (xst h s2 s1 s0))) : xwp G m_W_levelOf (d + 9) 7 [xZ, xZ, xZ, xZ] [xI s0, xI s1, xR s2] h Q X := by
  have hnx9 : (93 : Int) ≤ xnx h := F.2.2
  refine xr_okS (fun hs9 => ?_)
  have r_s0 : -2147483648 ≤ s0 ∧ s0 ≤ 2147483647 := hs9 (xI s0) (.head _)
  have r_s1 : -2147483648 ≤ s1 ∧ s1 ≤ 2147483647 := hs9 (xI s1) (.tail _ (.head _))
  refine xr_i2l (pc := 7) (hI := d_W_levelOf_7) ?_
  obtain ⟨c9, hyp⟩ := hyp
  have t1_ := c9
  clear c9
  obtain ⟨c2_, hyp⟩ := hyp
  obtain ⟨c3_, hyp⟩ := hyp
  obtain ⟨c4_, hyp⟩ := hyp
  refine xr_lastore (pc := 8) (hI := d_W_levelOf_8) t1_ c2_ c3_ (xlt_of rfl c4_) ?_
  have F5_ : xFix (xst h s2 s1 s0) := F.stTA (t := 101) c2_ t1_ xta_101
  refine xr_goto (pc := 9) (tgt := 15) (hI := d_W_levelOf_9) (ht := by decide) ?_
  refine xr_iconst (pc := 15) (hI := d_W_levelOf_15) (hr := by decide) ?_
  refine xr_ireturn (S := []) (pc := 16) (hI := d_W_levelOf_16) (hr := rfl) ?_
  exact hyp F5_
-- wordsIn
abbrev m_W_wordsIn : XM := (⟨"BeaconIndexLaw", "wordsIn", "(LBeaconIndex;II[J)I"⟩, method_10_code, 5, (some .int), [(0, 10, 13, 32)])
theorem d_W_wordsIn_0 : decode method_10_code 0 = .ok (.aload_n 3, 1) := by decide +kernel
theorem d_W_wordsIn_1 : decode method_10_code 1 = .ok (.iconst 0, 1) := by decide +kernel
theorem d_W_wordsIn_2 : decode method_10_code 2 = .ok (.aload_n 0, 1) := by decide +kernel
theorem d_W_wordsIn_3 : decode method_10_code 3 = .ok (.iload_n 1, 1) := by decide +kernel
theorem d_W_wordsIn_4 : decode method_10_code 4 = .ok (.iload_n 2, 1) := by decide +kernel
theorem d_W_wordsIn_5 : decode method_10_code 5 = .ok (.invokevirtual 40, 3) := by decide +kernel
theorem w_1420 : Cond.methodLink "BeaconIndexLaw" 40 ⟨"BeaconIndex", "wordsIn", "(II)I"⟩ ∈ lw_tbl := List.mem_append_right _ (List.mem_of_getElem? (i := 1420) (by decide +kernel))
theorem d_W_wordsIn_13 : decode method_10_code 13 = .ok (.astore 4, 2) := by decide +kernel
theorem d_W_wordsIn_15 : decode method_10_code 15 = .ok (.iconst 1, 1) := by decide +kernel
theorem d_W_wordsIn_16 : decode method_10_code 16 = .ok (.ireturn, 1) := by decide +kernel
theorem v_W_wordsIn_0 {G : XG} {d : Nat} {h : XH} {Q : XV → XH → Prop} {X : Nat → XH → Prop} {x1 x2 : Int} {X9 : Nat → XH → Prop} (F : xFix h) (hyp : ((xwp G m_B_wordsIn (d + 8) 0 [xR 0, xI x1, xI x2, xZ, xZ] [] h (fun v9 h9 => xwp G m_W_wordsIn (d + 9) 8 [xZ, xZ, xZ, xZ, xZ] (xpush v9 [xI 0, xR 91]) h9 Q X) X9) ∧ (∀ (k9 : Nat) (h9 : XH), k9 < 3 → X9 k9 h9 → (k9 = 0 → False) ∧ (k9 = 1 → False) ∧ (k9 = 2 → Q (xI 1) h9)))) : xwp G m_W_wordsIn (d + 9) 0 [xR 0, xI x1, xI x2, xR 91, xZ] [] h Q X := by
  have hnx9 : (93 : Int) ≤ xnx h := F.2.2
  refine xr_okL (fun hl9 => ?_)
  have r_x1 : -2147483648 ≤ x1 ∧ x1 ≤ 2147483647 := hl9 (xI x1) (.tail _ (.head _)) (Nat.le_of_ble_eq_true rfl)
  have r_x2 : -2147483648 ≤ x2 ∧ x2 ≤ 2147483647 := hl9 (xI x2) (.tail _ (.tail _ (.head _))) (Nat.le_of_ble_eq_true rfl)
  refine xr_aload_n (pc := 0) (i := 3) (hI := d_W_wordsIn_0) (hi := rfl) (hl := rfl) ?_
  refine xr_iconst (pc := 1) (hI := d_W_wordsIn_1) (hr := by decide) ?_
  refine xr_aload_n (pc := 2) (i := 0) (hI := d_W_wordsIn_2) (hi := rfl) (hl := rfl) ?_
  refine xr_iload_n (pc := 3) (i := 1) (hI := d_W_wordsIn_3) (hi := rfl) (hl := rfl) ?_
  refine xr_iload_n (pc := 4) (i := 2) (hI := d_W_wordsIn_4) (hi := rfl) (hl := rfl) ?_
  obtain ⟨hyp, hyz⟩ := hyp
  exact xr_callVH (pc := 5) (index := 40) (K := m_B_wordsIn) (As := [xI x1, xI x2]) (S := [xI 0, xR 91]) (L0 := [xR 0, xI x1, xI x2, xZ, xZ]) (hI := d_W_wordsIn_5) (hcd := k_B_wordsIn.1) (hini := k_B_wordsIn.2.1) (hlk := w_1420) (hmax := k_B_wordsIn.2.2.1) (hnm := k_B_wordsIn.2.2.2.1) (hsig := k_B_wordsIn.2.2.2.2.1) (hpl := k_B_wordsIn.2.2.2.2.2.1) (hnoK := k_B_wordsIn.2.2.2.2.2.2) (hS8 := Nat.le_of_ble_eq_true rfl) (ci := 0) (N := 7) (C := "BeaconIndex") (T := xF0) (hc := rfl) (hci := Nat.le_of_ble_eq_true rfl) (htb := (ft_0 F)) (hinst := w_1178) (hsel := w_1179) (hlen := Nat.le_of_ble_eq_true rfl) (hst := rfl) (hL0 := rfl) (X1 := X9)  (xwp_mono hyp (fun v9 h9 q9 => xr_drop (L9 := [xZ, xZ, xZ, xZ, xZ]) (xdrz (xdrz (xdrz (xdrz (xdrs xdr0))))) q9) (fun _ _ z9 => z9)) (fun k9 h9 hk9 hx9 => by
    have z9 := hyz k9 h9 hk9 hx9
    match k9, hk9, z9 with
    | 0, _, z9 => exact (z9.1 rfl).elim
    | 1, _, z9 => exact (z9.2.1 rfl).elim
    | 2, _, z9 => exact ⟨13, 2, 4, ⟨[], (0, 10, 13, 32), [], "java/lang/IndexOutOfBoundsException", rfl, (fun _ hz9 => absurd hz9 List.not_mem_nil), ⟨by decide, by decide⟩, rfl, by decide, w_1407, w_1103⟩, by decide, Or.inr ⟨rfl, d_W_wordsIn_13⟩, xr_iconst (hI := d_W_wordsIn_15) (hr := by decide) (xr_ireturn (S := []) (hI := d_W_wordsIn_16) (hr := rfl) (z9.2.2 rfl))⟩)
theorem d_W_wordsIn_8 : decode method_10_code 8 = .ok (.i2l, 1) := by decide +kernel
theorem d_W_wordsIn_9 : decode method_10_code 9 = .ok (.lastore, 1) := by decide +kernel
theorem d_W_wordsIn_10 : decode method_10_code 10 = .ok (.goto 7, 3) := by decide +kernel
theorem d_W_wordsIn_17 : decode method_10_code 17 = .ok (.iconst 0, 1) := by decide +kernel
theorem d_W_wordsIn_18 : decode method_10_code 18 = .ok (.ireturn, 1) := by decide +kernel
theorem v_W_wordsIn_8 {G : XG} {d : Nat} {h : XH} {Q : XV → XH → Prop} {X : Nat → XH → Prop} {s0 s1 s2 : Int} (F : xFix h) (hyp : xtg h s2 = 101 ∧ 0 ≤ s2 ∧ 0 ≤ s1 ∧ s1 < (xln h s2) ∧ (xFix (xst h s2 s1 s0) → Q (xI 0) (xst h s2 s1 s0))) : xwp G m_W_wordsIn (d + 9) 8 [xZ, xZ, xZ, xZ, xZ] [xI s0, xI s1, xR s2] h Q X := by
  have hnx9 : (93 : Int) ≤ xnx h := F.2.2
  refine xr_okS (fun hs9 => ?_)
  have r_s0 : -2147483648 ≤ s0 ∧ s0 ≤ 2147483647 := hs9 (xI s0) (.head _)
  have r_s1 : -2147483648 ≤ s1 ∧ s1 ≤ 2147483647 := hs9 (xI s1) (.tail _ (.head _))
  refine xr_i2l (pc := 8) (hI := d_W_wordsIn_8) ?_
  obtain ⟨c9, hyp⟩ := hyp
  have t1_ := c9
  clear c9
  obtain ⟨c2_, hyp⟩ := hyp
  obtain ⟨c3_, hyp⟩ := hyp
  obtain ⟨c4_, hyp⟩ := hyp
  refine xr_lastore (pc := 9) (hI := d_W_wordsIn_9) t1_ c2_ c3_ (xlt_of rfl c4_) ?_
  have F5_ : xFix (xst h s2 s1 s0) := F.stTA (t := 101) c2_ t1_ xta_101
  refine xr_goto (pc := 10) (tgt := 17) (hI := d_W_wordsIn_10) (ht := by decide) ?_
  refine xr_iconst (pc := 17) (hI := d_W_wordsIn_17) (hr := by decide) ?_
  refine xr_ireturn (S := []) (pc := 18) (hI := d_W_wordsIn_18) (hr := rfl) ?_
  exact hyp F5_
-- keyAt
abbrev m_W_keyAt : XM := (⟨"BeaconIndexLaw", "keyAt", "(LBeaconIndex;II[J)I"⟩, method_11_code, 5, (some .int), [(0, 10, 13, 32)])
theorem d_W_keyAt_0 : decode method_11_code 0 = .ok (.aload_n 3, 1) := by decide +kernel
theorem d_W_keyAt_1 : decode method_11_code 1 = .ok (.iconst 0, 1) := by decide +kernel
theorem d_W_keyAt_2 : decode method_11_code 2 = .ok (.aload_n 0, 1) := by decide +kernel
theorem d_W_keyAt_3 : decode method_11_code 3 = .ok (.iload_n 1, 1) := by decide +kernel
theorem d_W_keyAt_4 : decode method_11_code 4 = .ok (.iload_n 2, 1) := by decide +kernel
theorem d_W_keyAt_5 : decode method_11_code 5 = .ok (.invokevirtual 44, 3) := by decide +kernel
theorem w_1424 : Cond.methodLink "BeaconIndexLaw" 44 ⟨"BeaconIndex", "keyAt", "(II)I"⟩ ∈ lw_tbl := List.mem_append_right _ (List.mem_of_getElem? (i := 1424) (by decide +kernel))
theorem d_W_keyAt_13 : decode method_11_code 13 = .ok (.astore 4, 2) := by decide +kernel
theorem d_W_keyAt_15 : decode method_11_code 15 = .ok (.iconst 1, 1) := by decide +kernel
theorem d_W_keyAt_16 : decode method_11_code 16 = .ok (.ireturn, 1) := by decide +kernel
theorem v_W_keyAt_0 {G : XG} {d : Nat} {h : XH} {Q : XV → XH → Prop} {X : Nat → XH → Prop} {x1 x2 : Int} {X9 : Nat → XH → Prop} (F : xFix h) (hyp : ((xwp G m_B_keyAt (d + 9) 0 [xR 0, xI x1, xI x2] [] h (fun v9 h9 => xwp G m_W_keyAt (d + 10) 8 [xZ, xZ, xZ, xZ, xZ] (xpush v9 [xI 0, xR 91]) h9 Q X) X9) ∧ (∀ (k9 : Nat) (h9 : XH), k9 < 3 → X9 k9 h9 → (k9 = 0 → False) ∧ (k9 = 1 → False) ∧ (k9 = 2 → Q (xI 1) h9)))) : xwp G m_W_keyAt (d + 10) 0 [xR 0, xI x1, xI x2, xR 91, xZ] [] h Q X := by
  have hnx9 : (93 : Int) ≤ xnx h := F.2.2
  refine xr_okL (fun hl9 => ?_)
  have r_x1 : -2147483648 ≤ x1 ∧ x1 ≤ 2147483647 := hl9 (xI x1) (.tail _ (.head _)) (Nat.le_of_ble_eq_true rfl)
  have r_x2 : -2147483648 ≤ x2 ∧ x2 ≤ 2147483647 := hl9 (xI x2) (.tail _ (.tail _ (.head _))) (Nat.le_of_ble_eq_true rfl)
  refine xr_aload_n (pc := 0) (i := 3) (hI := d_W_keyAt_0) (hi := rfl) (hl := rfl) ?_
  refine xr_iconst (pc := 1) (hI := d_W_keyAt_1) (hr := by decide) ?_
  refine xr_aload_n (pc := 2) (i := 0) (hI := d_W_keyAt_2) (hi := rfl) (hl := rfl) ?_
  refine xr_iload_n (pc := 3) (i := 1) (hI := d_W_keyAt_3) (hi := rfl) (hl := rfl) ?_
  refine xr_iload_n (pc := 4) (i := 2) (hI := d_W_keyAt_4) (hi := rfl) (hl := rfl) ?_
  obtain ⟨hyp, hyz⟩ := hyp
  exact xr_callVH (pc := 5) (index := 44) (K := m_B_keyAt) (As := [xI x1, xI x2]) (S := [xI 0, xR 91]) (L0 := [xR 0, xI x1, xI x2]) (hI := d_W_keyAt_5) (hcd := k_B_keyAt.1) (hini := k_B_keyAt.2.1) (hlk := w_1424) (hmax := k_B_keyAt.2.2.1) (hnm := k_B_keyAt.2.2.2.1) (hsig := k_B_keyAt.2.2.2.2.1) (hpl := k_B_keyAt.2.2.2.2.2.1) (hnoK := k_B_keyAt.2.2.2.2.2.2) (hS8 := Nat.le_of_ble_eq_true rfl) (ci := 0) (N := 7) (C := "BeaconIndex") (T := xF0) (hc := rfl) (hci := Nat.le_of_ble_eq_true rfl) (htb := (ft_0 F)) (hinst := w_1186) (hsel := w_1187) (hlen := Nat.le_of_ble_eq_true rfl) (hst := rfl) (hL0 := rfl) (X1 := X9)  (xwp_mono hyp (fun v9 h9 q9 => xr_drop (L9 := [xZ, xZ, xZ, xZ, xZ]) (xdrz (xdrz (xdrz (xdrz (xdrs xdr0))))) q9) (fun _ _ z9 => z9)) (fun k9 h9 hk9 hx9 => by
    have z9 := hyz k9 h9 hk9 hx9
    match k9, hk9, z9 with
    | 0, _, z9 => exact (z9.1 rfl).elim
    | 1, _, z9 => exact (z9.2.1 rfl).elim
    | 2, _, z9 => exact ⟨13, 2, 4, ⟨[], (0, 10, 13, 32), [], "java/lang/IndexOutOfBoundsException", rfl, (fun _ hz9 => absurd hz9 List.not_mem_nil), ⟨by decide, by decide⟩, rfl, by decide, w_1407, w_1103⟩, by decide, Or.inr ⟨rfl, d_W_keyAt_13⟩, xr_iconst (hI := d_W_keyAt_15) (hr := by decide) (xr_ireturn (S := []) (hI := d_W_keyAt_16) (hr := rfl) (z9.2.2 rfl))⟩)
theorem d_W_keyAt_8 : decode method_11_code 8 = .ok (.i2l, 1) := by decide +kernel
theorem d_W_keyAt_9 : decode method_11_code 9 = .ok (.lastore, 1) := by decide +kernel
theorem d_W_keyAt_10 : decode method_11_code 10 = .ok (.goto 7, 3) := by decide +kernel
theorem d_W_keyAt_17 : decode method_11_code 17 = .ok (.iconst 0, 1) := by decide +kernel
theorem d_W_keyAt_18 : decode method_11_code 18 = .ok (.ireturn, 1) := by decide +kernel
theorem v_W_keyAt_8 {G : XG} {d : Nat} {h : XH} {Q : XV → XH → Prop} {X : Nat → XH → Prop} {s0 s1 s2 : Int} (F : xFix h) (hyp : xtg h s2 = 101 ∧ 0 ≤ s2 ∧ 0 ≤ s1 ∧ s1 < (xln h s2) ∧ (xFix (xst h s2 s1 s0) → Q (xI 0) (xst h s2 s1 s0))) : xwp G m_W_keyAt (d + 10) 8 [xZ, xZ, xZ, xZ, xZ] [xI s0, xI s1, xR s2] h Q X := by
  have hnx9 : (93 : Int) ≤ xnx h := F.2.2
  refine xr_okS (fun hs9 => ?_)
  have r_s0 : -2147483648 ≤ s0 ∧ s0 ≤ 2147483647 := hs9 (xI s0) (.head _)
  have r_s1 : -2147483648 ≤ s1 ∧ s1 ≤ 2147483647 := hs9 (xI s1) (.tail _ (.head _))
  refine xr_i2l (pc := 8) (hI := d_W_keyAt_8) ?_
  obtain ⟨c9, hyp⟩ := hyp
  have t1_ := c9
  clear c9
  obtain ⟨c2_, hyp⟩ := hyp
  obtain ⟨c3_, hyp⟩ := hyp
  obtain ⟨c4_, hyp⟩ := hyp
  refine xr_lastore (pc := 9) (hI := d_W_keyAt_9) t1_ c2_ c3_ (xlt_of rfl c4_) ?_
  have F5_ : xFix (xst h s2 s1 s0) := F.stTA (t := 101) c2_ t1_ xta_101
  refine xr_goto (pc := 10) (tgt := 17) (hI := d_W_keyAt_10) (ht := by decide) ?_
  refine xr_iconst (pc := 17) (hI := d_W_keyAt_17) (hr := by decide) ?_
  refine xr_ireturn (S := []) (pc := 18) (hI := d_W_keyAt_18) (hr := rfl) ?_
  exact hyp F5_
-- isMarked
abbrev m_W_isMarked : XM := (⟨"BeaconIndexLaw", "isMarked", "(LBeaconIndex;II[J)I"⟩, method_12_code, 5, (some .int), [(0, 17, 20, 32)])
theorem d_W_isMarked_0 : decode method_12_code 0 = .ok (.aload_n 3, 1) := by decide +kernel
theorem d_W_isMarked_1 : decode method_12_code 1 = .ok (.iconst 0, 1) := by decide +kernel
theorem d_W_isMarked_2 : decode method_12_code 2 = .ok (.aload_n 0, 1) := by decide +kernel
theorem d_W_isMarked_3 : decode method_12_code 3 = .ok (.iload_n 1, 1) := by decide +kernel
theorem d_W_isMarked_4 : decode method_12_code 4 = .ok (.iload_n 2, 1) := by decide +kernel
theorem d_W_isMarked_5 : decode method_12_code 5 = .ok (.invokevirtual 47, 3) := by decide +kernel
theorem w_1428 : Cond.methodLink "BeaconIndexLaw" 47 ⟨"BeaconIndex", "isMarked", "(II)Z"⟩ ∈ lw_tbl := List.mem_append_right _ (List.mem_of_getElem? (i := 1428) (by decide +kernel))
theorem d_W_isMarked_20 : decode method_12_code 20 = .ok (.astore 4, 2) := by decide +kernel
theorem d_W_isMarked_22 : decode method_12_code 22 = .ok (.iconst 1, 1) := by decide +kernel
theorem d_W_isMarked_23 : decode method_12_code 23 = .ok (.ireturn, 1) := by decide +kernel
theorem v_W_isMarked_0 {G : XG} {d : Nat} {h : XH} {Q : XV → XH → Prop} {X : Nat → XH → Prop} {x1 x2 : Int} {X9 : Nat → XH → Prop} (F : xFix h) (hyp : ((xwp G m_B_isMarked (d + 9) 0 [xR 0, xI x1, xI x2] [] h (fun v9 h9 => xwp G m_W_isMarked (d + 10) 8 [xZ, xZ, xZ, xZ, xZ] (xpush v9 [xI 0, xR 91]) h9 Q X) X9) ∧ (∀ (k9 : Nat) (h9 : XH), k9 < 3 → X9 k9 h9 → (k9 = 0 → False) ∧ (k9 = 1 → False) ∧ (k9 = 2 → Q (xI 1) h9)))) : xwp G m_W_isMarked (d + 10) 0 [xR 0, xI x1, xI x2, xR 91, xZ] [] h Q X := by
  have hnx9 : (93 : Int) ≤ xnx h := F.2.2
  refine xr_okL (fun hl9 => ?_)
  have r_x1 : -2147483648 ≤ x1 ∧ x1 ≤ 2147483647 := hl9 (xI x1) (.tail _ (.head _)) (Nat.le_of_ble_eq_true rfl)
  have r_x2 : -2147483648 ≤ x2 ∧ x2 ≤ 2147483647 := hl9 (xI x2) (.tail _ (.tail _ (.head _))) (Nat.le_of_ble_eq_true rfl)
  refine xr_aload_n (pc := 0) (i := 3) (hI := d_W_isMarked_0) (hi := rfl) (hl := rfl) ?_
  refine xr_iconst (pc := 1) (hI := d_W_isMarked_1) (hr := by decide) ?_
  refine xr_aload_n (pc := 2) (i := 0) (hI := d_W_isMarked_2) (hi := rfl) (hl := rfl) ?_
  refine xr_iload_n (pc := 3) (i := 1) (hI := d_W_isMarked_3) (hi := rfl) (hl := rfl) ?_
  refine xr_iload_n (pc := 4) (i := 2) (hI := d_W_isMarked_4) (hi := rfl) (hl := rfl) ?_
  obtain ⟨hyp, hyz⟩ := hyp
  exact xr_callVH (pc := 5) (index := 47) (K := m_B_isMarked) (As := [xI x1, xI x2]) (S := [xI 0, xR 91]) (L0 := [xR 0, xI x1, xI x2]) (hI := d_W_isMarked_5) (hcd := k_B_isMarked.1) (hini := k_B_isMarked.2.1) (hlk := w_1428) (hmax := k_B_isMarked.2.2.1) (hnm := k_B_isMarked.2.2.2.1) (hsig := k_B_isMarked.2.2.2.2.1) (hpl := k_B_isMarked.2.2.2.2.2.1) (hnoK := k_B_isMarked.2.2.2.2.2.2) (hS8 := Nat.le_of_ble_eq_true rfl) (ci := 0) (N := 7) (C := "BeaconIndex") (T := xF0) (hc := rfl) (hci := Nat.le_of_ble_eq_true rfl) (htb := (ft_0 F)) (hinst := w_1198) (hsel := w_1199) (hlen := Nat.le_of_ble_eq_true rfl) (hst := rfl) (hL0 := rfl) (X1 := X9)  (xwp_mono hyp (fun v9 h9 q9 => xr_drop (L9 := [xZ, xZ, xZ, xZ, xZ]) (xdrz (xdrz (xdrz (xdrz (xdrs xdr0))))) q9) (fun _ _ z9 => z9)) (fun k9 h9 hk9 hx9 => by
    have z9 := hyz k9 h9 hk9 hx9
    match k9, hk9, z9 with
    | 0, _, z9 => exact (z9.1 rfl).elim
    | 1, _, z9 => exact (z9.2.1 rfl).elim
    | 2, _, z9 => exact ⟨20, 2, 4, ⟨[], (0, 17, 20, 32), [], "java/lang/IndexOutOfBoundsException", rfl, (fun _ hz9 => absurd hz9 List.not_mem_nil), ⟨by decide, by decide⟩, rfl, by decide, w_1407, w_1103⟩, by decide, Or.inr ⟨rfl, d_W_isMarked_20⟩, xr_iconst (hI := d_W_isMarked_22) (hr := by decide) (xr_ireturn (S := []) (hI := d_W_isMarked_23) (hr := rfl) (z9.2.2 rfl))⟩)
theorem d_W_isMarked_8 : decode method_12_code 8 = .ok (.ifCond .eq 7, 3) := by decide +kernel
theorem d_W_isMarked_15 : decode method_12_code 15 = .ok (.lconst 0, 1) := by decide +kernel
theorem d_W_isMarked_16 : decode method_12_code 16 = .ok (.lastore, 1) := by decide +kernel
theorem d_W_isMarked_17 : decode method_12_code 17 = .ok (.goto 7, 3) := by decide +kernel
theorem d_W_isMarked_24 : decode method_12_code 24 = .ok (.iconst 0, 1) := by decide +kernel
theorem d_W_isMarked_25 : decode method_12_code 25 = .ok (.ireturn, 1) := by decide +kernel
theorem d_W_isMarked_11 : decode method_12_code 11 = .ok (.lconst 1, 1) := by decide +kernel
theorem d_W_isMarked_12 : decode method_12_code 12 = .ok (.goto 4, 3) := by decide +kernel
theorem v_W_isMarked_8 {G : XG} {d : Nat} {h : XH} {Q : XV → XH → Prop} {X : Nat → XH → Prop} {s0 s1 s2 : Int} (F : xFix h) (hyp : ((s0 = 0 → xtg h s2 = 101 ∧ 0 ≤ s2 ∧ 0 ≤ s1 ∧ s1 < (xln h s2) ∧ (xFix (xst h s2 s1 0) → Q (xI 0) (xst h s2 s1 0))) ∧ (¬ s0 = 0 → xtg h s2 = 101 ∧ 0 ≤ s2 ∧ 0 ≤ s1 ∧ s1 < (xln h s2) ∧ (xFix (xst h s2 s1 1) → Q (xI 0) (xst h s2 s1 1))))) : xwp G m_W_isMarked (d + 10) 8 [xZ, xZ, xZ, xZ, xZ] [xI s0, xI s1, xR s2] h Q X := by
  have hnx9 : (93 : Int) ≤ xnx h := F.2.2
  refine xr_okS (fun hs9 => ?_)
  have r_s0 : -2147483648 ≤ s0 ∧ s0 ≤ 2147483647 := hs9 (xI s0) (.head _)
  have r_s1 : -2147483648 ≤ s1 ∧ s1 ≤ 2147483647 := hs9 (xI s1) (.tail _ (.head _))
  refine xr_if_eq (pc := 8) (tgt := 15) (hI := d_W_isMarked_8) (ht := by decide) (fun q9 => ?_) (fun q9 => ?_)
  · replace hyp := hyp.1 q9
    have q1_ := q9
    clear q9
    refine xr_lconst (pc := 15) (z := 0) (hI := d_W_isMarked_15) (hr := by decide) (hv := by decide) ?_
    obtain ⟨c9, hyp⟩ := hyp
    have t2_ := c9
    clear c9
    obtain ⟨c3_, hyp⟩ := hyp
    obtain ⟨c4_, hyp⟩ := hyp
    obtain ⟨c5_, hyp⟩ := hyp
    refine xr_lastore (pc := 16) (hI := d_W_isMarked_16) t2_ c3_ c4_ (xlt_of rfl c5_) ?_
    have F6_ : xFix (xst h s2 s1 0) := F.stTA (t := 101) c3_ t2_ xta_101
    refine xr_goto (pc := 17) (tgt := 24) (hI := d_W_isMarked_17) (ht := by decide) ?_
    refine xr_iconst (pc := 24) (hI := d_W_isMarked_24) (hr := by decide) ?_
    refine xr_ireturn (S := []) (pc := 25) (hI := d_W_isMarked_25) (hr := rfl) ?_
    exact hyp F6_
  · replace hyp := hyp.2 q9
    have q1_ := q9
    clear q9
    refine xr_lconst (pc := 11) (z := 1) (hI := d_W_isMarked_11) (hr := by decide) (hv := by decide) ?_
    refine xr_goto (pc := 12) (tgt := 16) (hI := d_W_isMarked_12) (ht := by decide) ?_
    obtain ⟨c9, hyp⟩ := hyp
    have t7_ := c9
    clear c9
    obtain ⟨c8_, hyp⟩ := hyp
    obtain ⟨c9_, hyp⟩ := hyp
    obtain ⟨c10_, hyp⟩ := hyp
    refine xr_lastore (pc := 16) (hI := d_W_isMarked_16) t7_ c8_ c9_ (xlt_of rfl c10_) ?_
    have F11_ : xFix (xst h s2 s1 1) := F.stTA (t := 101) c8_ t7_ xta_101
    refine xr_goto (pc := 17) (tgt := 24) (hI := d_W_isMarked_17) (ht := by decide) ?_
    refine xr_iconst (pc := 24) (hI := d_W_isMarked_24) (hr := by decide) ?_
    refine xr_ireturn (S := []) (pc := 25) (hI := d_W_isMarked_25) (hr := rfl) ?_
    exact hyp F11_
-- lengthOf
abbrev m_W_lengthOf : XM := (⟨"BeaconIndexLaw", "lengthOf", "(LBeaconIndex;III[J)I"⟩, method_13_code, 6, (some .int), [(0, 12, 15, 32)])
theorem d_W_lengthOf_0 : decode method_13_code 0 = .ok (.aload 4, 2) := by decide +kernel
theorem d_W_lengthOf_2 : decode method_13_code 2 = .ok (.iconst 0, 1) := by decide +kernel
theorem d_W_lengthOf_3 : decode method_13_code 3 = .ok (.aload_n 0, 1) := by decide +kernel
theorem d_W_lengthOf_4 : decode method_13_code 4 = .ok (.iload_n 1, 1) := by decide +kernel
theorem d_W_lengthOf_5 : decode method_13_code 5 = .ok (.iload_n 2, 1) := by decide +kernel
theorem d_W_lengthOf_6 : decode method_13_code 6 = .ok (.iload_n 3, 1) := by decide +kernel
theorem d_W_lengthOf_7 : decode method_13_code 7 = .ok (.invokevirtual 51, 3) := by decide +kernel
theorem w_1432 : Cond.methodLink "BeaconIndexLaw" 51 ⟨"BeaconIndex", "lengthOf", "(III)I"⟩ ∈ lw_tbl := List.mem_append_right _ (List.mem_of_getElem? (i := 1432) (by decide +kernel))
theorem d_W_lengthOf_15 : decode method_13_code 15 = .ok (.astore 5, 2) := by decide +kernel
theorem d_W_lengthOf_17 : decode method_13_code 17 = .ok (.iconst 1, 1) := by decide +kernel
theorem d_W_lengthOf_18 : decode method_13_code 18 = .ok (.ireturn, 1) := by decide +kernel
theorem v_W_lengthOf_0 {G : XG} {d : Nat} {h : XH} {Q : XV → XH → Prop} {X : Nat → XH → Prop} {x1 x2 x3 : Int} {X9 : Nat → XH → Prop} (F : xFix h) (hyp : ((xwp G m_B_lengthOf (d + 9) 0 [xR 0, xI x1, xI x2, xI x3] [] h (fun v9 h9 => xwp G m_W_lengthOf (d + 10) 10 [xZ, xZ, xZ, xZ, xZ, xZ] (xpush v9 [xI 0, xR 91]) h9 Q X) X9) ∧ (∀ (k9 : Nat) (h9 : XH), k9 < 3 → X9 k9 h9 → (k9 = 0 → False) ∧ (k9 = 1 → False) ∧ (k9 = 2 → Q (xI 1) h9)))) : xwp G m_W_lengthOf (d + 10) 0 [xR 0, xI x1, xI x2, xI x3, xR 91, xZ] [] h Q X := by
  have hnx9 : (93 : Int) ≤ xnx h := F.2.2
  refine xr_okL (fun hl9 => ?_)
  have r_x1 : -2147483648 ≤ x1 ∧ x1 ≤ 2147483647 := hl9 (xI x1) (.tail _ (.head _)) (Nat.le_of_ble_eq_true rfl)
  have r_x2 : -2147483648 ≤ x2 ∧ x2 ≤ 2147483647 := hl9 (xI x2) (.tail _ (.tail _ (.head _))) (Nat.le_of_ble_eq_true rfl)
  have r_x3 : -2147483648 ≤ x3 ∧ x3 ≤ 2147483647 := hl9 (xI x3) (.tail _ (.tail _ (.tail _ (.head _)))) (Nat.le_of_ble_eq_true rfl)
  refine xr_aload (pc := 0) (i := 4) (hI := d_W_lengthOf_0) (hl := rfl) ?_
  refine xr_iconst (pc := 2) (hI := d_W_lengthOf_2) (hr := by decide) ?_
  refine xr_aload_n (pc := 3) (i := 0) (hI := d_W_lengthOf_3) (hi := rfl) (hl := rfl) ?_
  refine xr_iload_n (pc := 4) (i := 1) (hI := d_W_lengthOf_4) (hi := rfl) (hl := rfl) ?_
  refine xr_iload_n (pc := 5) (i := 2) (hI := d_W_lengthOf_5) (hi := rfl) (hl := rfl) ?_
  refine xr_iload_n (pc := 6) (i := 3) (hI := d_W_lengthOf_6) (hi := rfl) (hl := rfl) ?_
  obtain ⟨hyp, hyz⟩ := hyp
  exact xr_callVH (pc := 7) (index := 51) (K := m_B_lengthOf) (As := [xI x1, xI x2, xI x3]) (S := [xI 0, xR 91]) (L0 := [xR 0, xI x1, xI x2, xI x3]) (hI := d_W_lengthOf_7) (hcd := k_B_lengthOf.1) (hini := k_B_lengthOf.2.1) (hlk := w_1432) (hmax := k_B_lengthOf.2.2.1) (hnm := k_B_lengthOf.2.2.2.1) (hsig := k_B_lengthOf.2.2.2.2.1) (hpl := k_B_lengthOf.2.2.2.2.2.1) (hnoK := k_B_lengthOf.2.2.2.2.2.2) (hS8 := Nat.le_of_ble_eq_true rfl) (ci := 0) (N := 7) (C := "BeaconIndex") (T := xF0) (hc := rfl) (hci := Nat.le_of_ble_eq_true rfl) (htb := (ft_0 F)) (hinst := w_1202) (hsel := w_1203) (hlen := Nat.le_of_ble_eq_true rfl) (hst := rfl) (hL0 := rfl) (X1 := X9)  (xwp_mono hyp (fun v9 h9 q9 => xr_drop (L9 := [xZ, xZ, xZ, xZ, xZ, xZ]) (xdrz (xdrz (xdrz (xdrz (xdrz (xdrs xdr0)))))) q9) (fun _ _ z9 => z9)) (fun k9 h9 hk9 hx9 => by
    have z9 := hyz k9 h9 hk9 hx9
    match k9, hk9, z9 with
    | 0, _, z9 => exact (z9.1 rfl).elim
    | 1, _, z9 => exact (z9.2.1 rfl).elim
    | 2, _, z9 => exact ⟨15, 2, 5, ⟨[], (0, 12, 15, 32), [], "java/lang/IndexOutOfBoundsException", rfl, (fun _ hz9 => absurd hz9 List.not_mem_nil), ⟨by decide, by decide⟩, rfl, by decide, w_1407, w_1103⟩, by decide, Or.inr ⟨rfl, d_W_lengthOf_15⟩, xr_iconst (hI := d_W_lengthOf_17) (hr := by decide) (xr_ireturn (S := []) (hI := d_W_lengthOf_18) (hr := rfl) (z9.2.2 rfl))⟩)
theorem d_W_lengthOf_10 : decode method_13_code 10 = .ok (.i2l, 1) := by decide +kernel
theorem d_W_lengthOf_11 : decode method_13_code 11 = .ok (.lastore, 1) := by decide +kernel
theorem d_W_lengthOf_12 : decode method_13_code 12 = .ok (.goto 7, 3) := by decide +kernel
theorem d_W_lengthOf_19 : decode method_13_code 19 = .ok (.iconst 0, 1) := by decide +kernel
theorem d_W_lengthOf_20 : decode method_13_code 20 = .ok (.ireturn, 1) := by decide +kernel
theorem v_W_lengthOf_10 {G : XG} {d : Nat} {h : XH} {Q : XV → XH → Prop} {X : Nat → XH → Prop} {s0 s1 s2 : Int} (F : xFix h) (hyp : xtg h s2 = 101 ∧ 0 ≤ s2 ∧ 0 ≤ s1 ∧ s1 < (xln h s2) ∧ (xFix (xst h s2 s1 s0) → Q (xI 0) (xst h s2 s1 s0))) : xwp G m_W_lengthOf (d + 10) 10 [xZ, xZ, xZ, xZ, xZ, xZ] [xI s0, xI s1, xR s2] h Q X := by
  have hnx9 : (93 : Int) ≤ xnx h := F.2.2
  refine xr_okS (fun hs9 => ?_)
  have r_s0 : -2147483648 ≤ s0 ∧ s0 ≤ 2147483647 := hs9 (xI s0) (.head _)
  have r_s1 : -2147483648 ≤ s1 ∧ s1 ≤ 2147483647 := hs9 (xI s1) (.tail _ (.head _))
  refine xr_i2l (pc := 10) (hI := d_W_lengthOf_10) ?_
  obtain ⟨c9, hyp⟩ := hyp
  have t1_ := c9
  clear c9
  obtain ⟨c2_, hyp⟩ := hyp
  obtain ⟨c3_, hyp⟩ := hyp
  obtain ⟨c4_, hyp⟩ := hyp
  refine xr_lastore (pc := 11) (hI := d_W_lengthOf_11) t1_ c2_ c3_ (xlt_of rfl c4_) ?_
  have F5_ : xFix (xst h s2 s1 s0) := F.stTA (t := 101) c2_ t1_ xta_101
  refine xr_goto (pc := 12) (tgt := 19) (hI := d_W_lengthOf_12) (ht := by decide) ?_
  refine xr_iconst (pc := 19) (hI := d_W_lengthOf_19) (hr := by decide) ?_
  refine xr_ireturn (S := []) (pc := 20) (hI := d_W_lengthOf_20) (hr := rfl) ?_
  exact hyp F5_
-- segmentOf
abbrev m_W_segmentOf : XM := (⟨"BeaconIndexLaw", "segmentOf", "(LBeaconIndex;I[J)I"⟩, method_14_code, 4, (some .int), [(0, 9, 12, 19)])
theorem d_W_segmentOf_0 : decode method_14_code 0 = .ok (.aload_n 2, 1) := by decide +kernel
theorem d_W_segmentOf_1 : decode method_14_code 1 = .ok (.iconst 0, 1) := by decide +kernel
theorem d_W_segmentOf_2 : decode method_14_code 2 = .ok (.aload_n 0, 1) := by decide +kernel
theorem d_W_segmentOf_3 : decode method_14_code 3 = .ok (.iload_n 1, 1) := by decide +kernel
theorem d_W_segmentOf_4 : decode method_14_code 4 = .ok (.invokevirtual 54, 3) := by decide +kernel
theorem k_B_segmentOf : xCal m_B_segmentOf 1 := ⟨List.mem_append_right _ (List.mem_of_getElem? (i := 1439) (by decide +kernel)), w_1, Nat.le_of_ble_eq_true rfl, ⟨by decide +kernel, by decide +kernel⟩, by decide +kernel, by decide +kernel, rfl⟩
theorem w_1436 : Cond.methodLink "BeaconIndexLaw" 54 ⟨"BeaconIndex", "segmentOf", "(I)I"⟩ ∈ lw_tbl := List.mem_append_right _ (List.mem_of_getElem? (i := 1436) (by decide +kernel))
theorem w_1437 : Cond.instanceMethod ⟨"BeaconIndex", "segmentOf", "(I)I"⟩ ∈ lw_tbl := List.mem_append_right _ (List.mem_of_getElem? (i := 1437) (by decide +kernel))
theorem w_1438 : Cond.selects "BeaconIndex" ⟨"BeaconIndex", "segmentOf", "(I)I"⟩ ⟨"BeaconIndex", "segmentOf", "(I)I"⟩ ∈ lw_tbl := List.mem_append_right _ (List.mem_of_getElem? (i := 1438) (by decide +kernel))
theorem d_W_segmentOf_12 : decode method_14_code 12 = .ok (.astore_n 3, 1) := by decide +kernel
theorem d_W_segmentOf_13 : decode method_14_code 13 = .ok (.iconst 1, 1) := by decide +kernel
theorem d_W_segmentOf_14 : decode method_14_code 14 = .ok (.ireturn, 1) := by decide +kernel
theorem v_W_segmentOf_0 {G : XG} {d : Nat} {h : XH} {Q : XV → XH → Prop} {X : Nat → XH → Prop} {x1 : Int} {X9 : Nat → XH → Prop} (F : xFix h) (hyp : ((xwp G m_B_segmentOf (d + 8) 0 [xR 0, xI x1, xZ] [] h (fun v9 h9 => xwp G m_W_segmentOf (d + 9) 7 [xZ, xZ, xZ, xZ] (xpush v9 [xI 0, xR 91]) h9 Q X) X9) ∧ (∀ (k9 : Nat) (h9 : XH), k9 < 3 → X9 k9 h9 → (k9 = 0 → Q (xI 1) h9) ∧ (k9 = 1 → False) ∧ (k9 = 2 → False)))) : xwp G m_W_segmentOf (d + 9) 0 [xR 0, xI x1, xR 91, xZ] [] h Q X := by
  have hnx9 : (93 : Int) ≤ xnx h := F.2.2
  refine xr_okL (fun hl9 => ?_)
  have r_x1 : -2147483648 ≤ x1 ∧ x1 ≤ 2147483647 := hl9 (xI x1) (.tail _ (.head _)) (Nat.le_of_ble_eq_true rfl)
  refine xr_aload_n (pc := 0) (i := 2) (hI := d_W_segmentOf_0) (hi := rfl) (hl := rfl) ?_
  refine xr_iconst (pc := 1) (hI := d_W_segmentOf_1) (hr := by decide) ?_
  refine xr_aload_n (pc := 2) (i := 0) (hI := d_W_segmentOf_2) (hi := rfl) (hl := rfl) ?_
  refine xr_iload_n (pc := 3) (i := 1) (hI := d_W_segmentOf_3) (hi := rfl) (hl := rfl) ?_
  obtain ⟨hyp, hyz⟩ := hyp
  exact xr_callVH (pc := 4) (index := 54) (K := m_B_segmentOf) (As := [xI x1]) (S := [xI 0, xR 91]) (L0 := [xR 0, xI x1, xZ]) (hI := d_W_segmentOf_4) (hcd := k_B_segmentOf.1) (hini := k_B_segmentOf.2.1) (hlk := w_1436) (hmax := k_B_segmentOf.2.2.1) (hnm := k_B_segmentOf.2.2.2.1) (hsig := k_B_segmentOf.2.2.2.2.1) (hpl := k_B_segmentOf.2.2.2.2.2.1) (hnoK := k_B_segmentOf.2.2.2.2.2.2) (hS8 := Nat.le_of_ble_eq_true rfl) (ci := 0) (N := 7) (C := "BeaconIndex") (T := xF0) (hc := rfl) (hci := Nat.le_of_ble_eq_true rfl) (htb := (ft_0 F)) (hinst := w_1437) (hsel := w_1438) (hlen := Nat.le_of_ble_eq_true rfl) (hst := rfl) (hL0 := rfl) (X1 := X9)  (xwp_mono hyp (fun v9 h9 q9 => xr_drop (L9 := [xZ, xZ, xZ, xZ]) (xdrz (xdrz (xdrz (xdrs xdr0)))) q9) (fun _ _ z9 => z9)) (fun k9 h9 hk9 hx9 => by
    have z9 := hyz k9 h9 hk9 hx9
    match k9, hk9, z9 with
    | 0, _, z9 => exact ⟨12, 1, 3, ⟨[], (0, 9, 12, 19), [], "java/lang/IllegalArgumentException", rfl, (fun _ hz9 => absurd hz9 List.not_mem_nil), ⟨by decide, by decide⟩, rfl, by decide, w_1353, w_1297⟩, by decide, Or.inl ⟨rfl, (3 : Fin 4), rfl, d_W_segmentOf_12⟩, xr_iconst (hI := d_W_segmentOf_13) (hr := by decide) (xr_ireturn (S := []) (hI := d_W_segmentOf_14) (hr := rfl) (z9.1 rfl))⟩
    | 1, _, z9 => exact (z9.2.1 rfl).elim
    | 2, _, z9 => exact (z9.2.2 rfl).elim)
theorem d_W_segmentOf_7 : decode method_14_code 7 = .ok (.i2l, 1) := by decide +kernel
theorem d_W_segmentOf_8 : decode method_14_code 8 = .ok (.lastore, 1) := by decide +kernel
theorem d_W_segmentOf_9 : decode method_14_code 9 = .ok (.goto 6, 3) := by decide +kernel
theorem d_W_segmentOf_15 : decode method_14_code 15 = .ok (.iconst 0, 1) := by decide +kernel
theorem d_W_segmentOf_16 : decode method_14_code 16 = .ok (.ireturn, 1) := by decide +kernel
theorem v_W_segmentOf_7 {G : XG} {d : Nat} {h : XH} {Q : XV → XH → Prop} {X : Nat → XH → Prop} {s0 s1 s2 : Int} (F : xFix h) (hyp : xtg h s2 = 101 ∧ 0 ≤ s2 ∧ 0 ≤ s1 ∧ s1 < (xln h s2) ∧ (xFix (xst h s2 s1 s0) → Q (xI 0) (xst h s2 s1 s0))) : xwp G m_W_segmentOf (d + 9) 7 [xZ, xZ, xZ, xZ] [xI s0, xI s1, xR s2] h Q X := by
  have hnx9 : (93 : Int) ≤ xnx h := F.2.2
  refine xr_okS (fun hs9 => ?_)
  have r_s0 : -2147483648 ≤ s0 ∧ s0 ≤ 2147483647 := hs9 (xI s0) (.head _)
  have r_s1 : -2147483648 ≤ s1 ∧ s1 ≤ 2147483647 := hs9 (xI s1) (.tail _ (.head _))
  refine xr_i2l (pc := 7) (hI := d_W_segmentOf_7) ?_
  obtain ⟨c9, hyp⟩ := hyp
  have t1_ := c9
  clear c9
  obtain ⟨c2_, hyp⟩ := hyp
  obtain ⟨c3_, hyp⟩ := hyp
  obtain ⟨c4_, hyp⟩ := hyp
  refine xr_lastore (pc := 8) (hI := d_W_segmentOf_8) t1_ c2_ c3_ (xlt_of rfl c4_) ?_
  have F5_ : xFix (xst h s2 s1 s0) := F.stTA (t := 101) c2_ t1_ xta_101
  refine xr_goto (pc := 9) (tgt := 15) (hI := d_W_segmentOf_9) (ht := by decide) ?_
  refine xr_iconst (pc := 15) (hI := d_W_segmentOf_15) (hr := by decide) ?_
  refine xr_ireturn (S := []) (pc := 16) (hI := d_W_segmentOf_16) (hr := rfl) ?_
  exact hyp F5_
-- shelfOf
abbrev m_W_shelfOf : XM := (⟨"BeaconIndexLaw", "shelfOf", "(LBeaconIndex;I[J)I"⟩, method_15_code, 4, (some .int), [(0, 9, 12, 19)])
theorem d_W_shelfOf_0 : decode method_15_code 0 = .ok (.aload_n 2, 1) := by decide +kernel
theorem d_W_shelfOf_1 : decode method_15_code 1 = .ok (.iconst 0, 1) := by decide +kernel
theorem d_W_shelfOf_2 : decode method_15_code 2 = .ok (.aload_n 0, 1) := by decide +kernel
theorem d_W_shelfOf_3 : decode method_15_code 3 = .ok (.iload_n 1, 1) := by decide +kernel
theorem d_W_shelfOf_4 : decode method_15_code 4 = .ok (.invokevirtual 57, 3) := by decide +kernel
theorem k_B_shelfOf : xCal m_B_shelfOf 1 := ⟨List.mem_append_right _ (List.mem_of_getElem? (i := 1450) (by decide +kernel)), w_1, Nat.le_of_ble_eq_true rfl, ⟨by decide +kernel, by decide +kernel⟩, by decide +kernel, by decide +kernel, rfl⟩
theorem w_1447 : Cond.methodLink "BeaconIndexLaw" 57 ⟨"BeaconIndex", "shelfOf", "(I)I"⟩ ∈ lw_tbl := List.mem_append_right _ (List.mem_of_getElem? (i := 1447) (by decide +kernel))
theorem w_1448 : Cond.instanceMethod ⟨"BeaconIndex", "shelfOf", "(I)I"⟩ ∈ lw_tbl := List.mem_append_right _ (List.mem_of_getElem? (i := 1448) (by decide +kernel))
theorem w_1449 : Cond.selects "BeaconIndex" ⟨"BeaconIndex", "shelfOf", "(I)I"⟩ ⟨"BeaconIndex", "shelfOf", "(I)I"⟩ ∈ lw_tbl := List.mem_append_right _ (List.mem_of_getElem? (i := 1449) (by decide +kernel))
theorem d_W_shelfOf_12 : decode method_15_code 12 = .ok (.astore_n 3, 1) := by decide +kernel
theorem d_W_shelfOf_13 : decode method_15_code 13 = .ok (.iconst 1, 1) := by decide +kernel
theorem d_W_shelfOf_14 : decode method_15_code 14 = .ok (.ireturn, 1) := by decide +kernel
theorem v_W_shelfOf_0 {G : XG} {d : Nat} {h : XH} {Q : XV → XH → Prop} {X : Nat → XH → Prop} {x1 : Int} {X9 : Nat → XH → Prop} (F : xFix h) (hyp : ((xwp G m_B_shelfOf (d + 8) 0 [xR 0, xI x1, xZ] [] h (fun v9 h9 => xwp G m_W_shelfOf (d + 9) 7 [xZ, xZ, xZ, xZ] (xpush v9 [xI 0, xR 91]) h9 Q X) X9) ∧ (∀ (k9 : Nat) (h9 : XH), k9 < 3 → X9 k9 h9 → (k9 = 0 → Q (xI 1) h9) ∧ (k9 = 1 → False) ∧ (k9 = 2 → False)))) : xwp G m_W_shelfOf (d + 9) 0 [xR 0, xI x1, xR 91, xZ] [] h Q X := by
  have hnx9 : (93 : Int) ≤ xnx h := F.2.2
  refine xr_okL (fun hl9 => ?_)
  have r_x1 : -2147483648 ≤ x1 ∧ x1 ≤ 2147483647 := hl9 (xI x1) (.tail _ (.head _)) (Nat.le_of_ble_eq_true rfl)
  refine xr_aload_n (pc := 0) (i := 2) (hI := d_W_shelfOf_0) (hi := rfl) (hl := rfl) ?_
  refine xr_iconst (pc := 1) (hI := d_W_shelfOf_1) (hr := by decide) ?_
  refine xr_aload_n (pc := 2) (i := 0) (hI := d_W_shelfOf_2) (hi := rfl) (hl := rfl) ?_
  refine xr_iload_n (pc := 3) (i := 1) (hI := d_W_shelfOf_3) (hi := rfl) (hl := rfl) ?_
  obtain ⟨hyp, hyz⟩ := hyp
  exact xr_callVH (pc := 4) (index := 57) (K := m_B_shelfOf) (As := [xI x1]) (S := [xI 0, xR 91]) (L0 := [xR 0, xI x1, xZ]) (hI := d_W_shelfOf_4) (hcd := k_B_shelfOf.1) (hini := k_B_shelfOf.2.1) (hlk := w_1447) (hmax := k_B_shelfOf.2.2.1) (hnm := k_B_shelfOf.2.2.2.1) (hsig := k_B_shelfOf.2.2.2.2.1) (hpl := k_B_shelfOf.2.2.2.2.2.1) (hnoK := k_B_shelfOf.2.2.2.2.2.2) (hS8 := Nat.le_of_ble_eq_true rfl) (ci := 0) (N := 7) (C := "BeaconIndex") (T := xF0) (hc := rfl) (hci := Nat.le_of_ble_eq_true rfl) (htb := (ft_0 F)) (hinst := w_1448) (hsel := w_1449) (hlen := Nat.le_of_ble_eq_true rfl) (hst := rfl) (hL0 := rfl) (X1 := X9)  (xwp_mono hyp (fun v9 h9 q9 => xr_drop (L9 := [xZ, xZ, xZ, xZ]) (xdrz (xdrz (xdrz (xdrs xdr0)))) q9) (fun _ _ z9 => z9)) (fun k9 h9 hk9 hx9 => by
    have z9 := hyz k9 h9 hk9 hx9
    match k9, hk9, z9 with
    | 0, _, z9 => exact ⟨12, 1, 3, ⟨[], (0, 9, 12, 19), [], "java/lang/IllegalArgumentException", rfl, (fun _ hz9 => absurd hz9 List.not_mem_nil), ⟨by decide, by decide⟩, rfl, by decide, w_1353, w_1297⟩, by decide, Or.inl ⟨rfl, (3 : Fin 4), rfl, d_W_shelfOf_12⟩, xr_iconst (hI := d_W_shelfOf_13) (hr := by decide) (xr_ireturn (S := []) (hI := d_W_shelfOf_14) (hr := rfl) (z9.1 rfl))⟩
    | 1, _, z9 => exact (z9.2.1 rfl).elim
    | 2, _, z9 => exact (z9.2.2 rfl).elim)
theorem d_W_shelfOf_7 : decode method_15_code 7 = .ok (.i2l, 1) := by decide +kernel
theorem d_W_shelfOf_8 : decode method_15_code 8 = .ok (.lastore, 1) := by decide +kernel
theorem d_W_shelfOf_9 : decode method_15_code 9 = .ok (.goto 6, 3) := by decide +kernel
theorem d_W_shelfOf_15 : decode method_15_code 15 = .ok (.iconst 0, 1) := by decide +kernel
theorem d_W_shelfOf_16 : decode method_15_code 16 = .ok (.ireturn, 1) := by decide +kernel
theorem v_W_shelfOf_7 {G : XG} {d : Nat} {h : XH} {Q : XV → XH → Prop} {X : Nat → XH → Prop} {s0 s1 s2 : Int} (F : xFix h) (hyp : xtg h s2 = 101 ∧ 0 ≤ s2 ∧ 0 ≤ s1 ∧ s1 < (xln h s2) ∧ (xFix (xst h s2 s1 s0) → Q (xI 0) (xst h s2 s1 s0))) : xwp G m_W_shelfOf (d + 9) 7 [xZ, xZ, xZ, xZ] [xI s0, xI s1, xR s2] h Q X := by
  have hnx9 : (93 : Int) ≤ xnx h := F.2.2
  refine xr_okS (fun hs9 => ?_)
  have r_s0 : -2147483648 ≤ s0 ∧ s0 ≤ 2147483647 := hs9 (xI s0) (.head _)
  have r_s1 : -2147483648 ≤ s1 ∧ s1 ≤ 2147483647 := hs9 (xI s1) (.tail _ (.head _))
  refine xr_i2l (pc := 7) (hI := d_W_shelfOf_7) ?_
  obtain ⟨c9, hyp⟩ := hyp
  have t1_ := c9
  clear c9
  obtain ⟨c2_, hyp⟩ := hyp
  obtain ⟨c3_, hyp⟩ := hyp
  obtain ⟨c4_, hyp⟩ := hyp
  refine xr_lastore (pc := 8) (hI := d_W_shelfOf_8) t1_ c2_ c3_ (xlt_of rfl c4_) ?_
  have F5_ : xFix (xst h s2 s1 s0) := F.stTA (t := 101) c2_ t1_ xta_101
  refine xr_goto (pc := 9) (tgt := 15) (hI := d_W_shelfOf_9) (ht := by decide) ?_
  refine xr_iconst (pc := 15) (hI := d_W_shelfOf_15) (hr := by decide) ?_
  refine xr_ireturn (S := []) (pc := 16) (hI := d_W_shelfOf_16) (hr := rfl) ?_
  exact hyp F5_
-- wordByte
abbrev m_W_wordByte : XM := (⟨"BeaconIndexLaw", "wordByte", "(LBeaconIndex;I[J)I"⟩, method_16_code, 4, (some .int), [(0, 9, 12, 32)])
theorem d_W_wordByte_0 : decode method_16_code 0 = .ok (.aload_n 2, 1) := by decide +kernel
theorem d_W_wordByte_1 : decode method_16_code 1 = .ok (.iconst 0, 1) := by decide +kernel
theorem d_W_wordByte_2 : decode method_16_code 2 = .ok (.aload_n 0, 1) := by decide +kernel
theorem d_W_wordByte_3 : decode method_16_code 3 = .ok (.iload_n 1, 1) := by decide +kernel
theorem d_W_wordByte_4 : decode method_16_code 4 = .ok (.invokevirtual 60, 3) := by decide +kernel
theorem w_1454 : Cond.methodLink "BeaconIndexLaw" 60 ⟨"BeaconIndex", "wordByte", "(I)I"⟩ ∈ lw_tbl := List.mem_append_right _ (List.mem_of_getElem? (i := 1454) (by decide +kernel))
theorem d_W_wordByte_12 : decode method_16_code 12 = .ok (.astore_n 3, 1) := by decide +kernel
theorem d_W_wordByte_13 : decode method_16_code 13 = .ok (.iconst 1, 1) := by decide +kernel
theorem d_W_wordByte_14 : decode method_16_code 14 = .ok (.ireturn, 1) := by decide +kernel
theorem v_W_wordByte_0 {G : XG} {d : Nat} {h : XH} {Q : XV → XH → Prop} {X : Nat → XH → Prop} {x1 : Int} {X9 : Nat → XH → Prop} (F : xFix h) (hyp : ((xwp G m_B_wordByte (d + 7) 0 [xR 0, xI x1] [] h (fun v9 h9 => xwp G m_W_wordByte (d + 8) 7 [xZ, xZ, xZ, xZ] (xpush v9 [xI 0, xR 91]) h9 Q X) X9) ∧ (∀ (k9 : Nat) (h9 : XH), k9 < 3 → X9 k9 h9 → (k9 = 0 → False) ∧ (k9 = 1 → False) ∧ (k9 = 2 → Q (xI 1) h9)))) : xwp G m_W_wordByte (d + 8) 0 [xR 0, xI x1, xR 91, xZ] [] h Q X := by
  have hnx9 : (93 : Int) ≤ xnx h := F.2.2
  refine xr_okL (fun hl9 => ?_)
  have r_x1 : -2147483648 ≤ x1 ∧ x1 ≤ 2147483647 := hl9 (xI x1) (.tail _ (.head _)) (Nat.le_of_ble_eq_true rfl)
  refine xr_aload_n (pc := 0) (i := 2) (hI := d_W_wordByte_0) (hi := rfl) (hl := rfl) ?_
  refine xr_iconst (pc := 1) (hI := d_W_wordByte_1) (hr := by decide) ?_
  refine xr_aload_n (pc := 2) (i := 0) (hI := d_W_wordByte_2) (hi := rfl) (hl := rfl) ?_
  refine xr_iload_n (pc := 3) (i := 1) (hI := d_W_wordByte_3) (hi := rfl) (hl := rfl) ?_
  obtain ⟨hyp, hyz⟩ := hyp
  exact xr_callVH (pc := 4) (index := 60) (K := m_B_wordByte) (As := [xI x1]) (S := [xI 0, xR 91]) (L0 := [xR 0, xI x1]) (hI := d_W_wordByte_4) (hcd := k_B_wordByte.1) (hini := k_B_wordByte.2.1) (hlk := w_1454) (hmax := k_B_wordByte.2.2.1) (hnm := k_B_wordByte.2.2.2.1) (hsig := k_B_wordByte.2.2.2.2.1) (hpl := k_B_wordByte.2.2.2.2.2.1) (hnoK := k_B_wordByte.2.2.2.2.2.2) (hS8 := Nat.le_of_ble_eq_true rfl) (ci := 0) (N := 7) (C := "BeaconIndex") (T := xF0) (hc := rfl) (hci := Nat.le_of_ble_eq_true rfl) (htb := (ft_0 F)) (hinst := w_1210) (hsel := w_1211) (hlen := Nat.le_of_ble_eq_true rfl) (hst := rfl) (hL0 := rfl) (X1 := X9)  (xwp_mono hyp (fun v9 h9 q9 => xr_drop (L9 := [xZ, xZ, xZ, xZ]) (xdrz (xdrz (xdrz (xdrs xdr0)))) q9) (fun _ _ z9 => z9)) (fun k9 h9 hk9 hx9 => by
    have z9 := hyz k9 h9 hk9 hx9
    match k9, hk9, z9 with
    | 0, _, z9 => exact (z9.1 rfl).elim
    | 1, _, z9 => exact (z9.2.1 rfl).elim
    | 2, _, z9 => exact ⟨12, 1, 3, ⟨[], (0, 9, 12, 32), [], "java/lang/IndexOutOfBoundsException", rfl, (fun _ hz9 => absurd hz9 List.not_mem_nil), ⟨by decide, by decide⟩, rfl, by decide, w_1407, w_1103⟩, by decide, Or.inl ⟨rfl, (3 : Fin 4), rfl, d_W_wordByte_12⟩, xr_iconst (hI := d_W_wordByte_13) (hr := by decide) (xr_ireturn (S := []) (hI := d_W_wordByte_14) (hr := rfl) (z9.2.2 rfl))⟩)
theorem d_W_wordByte_7 : decode method_16_code 7 = .ok (.i2l, 1) := by decide +kernel
theorem d_W_wordByte_8 : decode method_16_code 8 = .ok (.lastore, 1) := by decide +kernel
theorem d_W_wordByte_9 : decode method_16_code 9 = .ok (.goto 6, 3) := by decide +kernel
theorem d_W_wordByte_15 : decode method_16_code 15 = .ok (.iconst 0, 1) := by decide +kernel
theorem d_W_wordByte_16 : decode method_16_code 16 = .ok (.ireturn, 1) := by decide +kernel
theorem v_W_wordByte_7 {G : XG} {d : Nat} {h : XH} {Q : XV → XH → Prop} {X : Nat → XH → Prop} {s0 s1 s2 : Int} (F : xFix h) (hyp : xtg h s2 = 101 ∧ 0 ≤ s2 ∧ 0 ≤ s1 ∧ s1 < (xln h s2) ∧ (xFix (xst h s2 s1 s0) → Q (xI 0) (xst h s2 s1 s0))) : xwp G m_W_wordByte (d + 8) 7 [xZ, xZ, xZ, xZ] [xI s0, xI s1, xR s2] h Q X := by
  have hnx9 : (93 : Int) ≤ xnx h := F.2.2
  refine xr_okS (fun hs9 => ?_)
  have r_s0 : -2147483648 ≤ s0 ∧ s0 ≤ 2147483647 := hs9 (xI s0) (.head _)
  have r_s1 : -2147483648 ≤ s1 ∧ s1 ≤ 2147483647 := hs9 (xI s1) (.tail _ (.head _))
  refine xr_i2l (pc := 7) (hI := d_W_wordByte_7) ?_
  obtain ⟨c9, hyp⟩ := hyp
  have t1_ := c9
  clear c9
  obtain ⟨c2_, hyp⟩ := hyp
  obtain ⟨c3_, hyp⟩ := hyp
  obtain ⟨c4_, hyp⟩ := hyp
  refine xr_lastore (pc := 8) (hI := d_W_wordByte_8) t1_ c2_ c3_ (xlt_of rfl c4_) ?_
  have F5_ : xFix (xst h s2 s1 s0) := F.stTA (t := 101) c2_ t1_ xta_101
  refine xr_goto (pc := 9) (tgt := 15) (hI := d_W_wordByte_9) (ht := by decide) ?_
  refine xr_iconst (pc := 15) (hI := d_W_wordByte_15) (hr := by decide) ?_
  refine xr_ireturn (S := []) (pc := 16) (hI := d_W_wordByte_16) (hr := rfl) ?_
  exact hyp F5_
-- textsWith
abbrev m_W_textsWith : XM := (⟨"BeaconIndexLaw", "textsWith", "(LBeaconIndex;I[J)I"⟩, method_17_code, 4, (some .int), [(0, 9, 12, 32)])
theorem d_W_textsWith_0 : decode method_17_code 0 = .ok (.aload_n 2, 1) := by decide +kernel
theorem d_W_textsWith_1 : decode method_17_code 1 = .ok (.iconst 0, 1) := by decide +kernel
theorem d_W_textsWith_2 : decode method_17_code 2 = .ok (.aload_n 0, 1) := by decide +kernel
theorem d_W_textsWith_3 : decode method_17_code 3 = .ok (.iload_n 1, 1) := by decide +kernel
theorem d_W_textsWith_4 : decode method_17_code 4 = .ok (.invokevirtual 63, 3) := by decide +kernel
theorem w_1458 : Cond.methodLink "BeaconIndexLaw" 63 ⟨"BeaconIndex", "textsWith", "(I)I"⟩ ∈ lw_tbl := List.mem_append_right _ (List.mem_of_getElem? (i := 1458) (by decide +kernel))
theorem d_W_textsWith_12 : decode method_17_code 12 = .ok (.astore_n 3, 1) := by decide +kernel
theorem d_W_textsWith_13 : decode method_17_code 13 = .ok (.iconst 1, 1) := by decide +kernel
theorem d_W_textsWith_14 : decode method_17_code 14 = .ok (.ireturn, 1) := by decide +kernel
theorem v_W_textsWith_0 {G : XG} {d : Nat} {h : XH} {Q : XV → XH → Prop} {X : Nat → XH → Prop} {x1 : Int} {X9 : Nat → XH → Prop} (F : xFix h) (hyp : ((xwp G m_B_textsWith (d + 8) 0 [xR 0, xI x1, xZ, xZ] [] h (fun v9 h9 => xwp G m_W_textsWith (d + 9) 7 [xZ, xZ, xZ, xZ] (xpush v9 [xI 0, xR 91]) h9 Q X) X9) ∧ (∀ (k9 : Nat) (h9 : XH), k9 < 3 → X9 k9 h9 → (k9 = 0 → False) ∧ (k9 = 1 → False) ∧ (k9 = 2 → Q (xI 1) h9)))) : xwp G m_W_textsWith (d + 9) 0 [xR 0, xI x1, xR 91, xZ] [] h Q X := by
  have hnx9 : (93 : Int) ≤ xnx h := F.2.2
  refine xr_okL (fun hl9 => ?_)
  have r_x1 : -2147483648 ≤ x1 ∧ x1 ≤ 2147483647 := hl9 (xI x1) (.tail _ (.head _)) (Nat.le_of_ble_eq_true rfl)
  refine xr_aload_n (pc := 0) (i := 2) (hI := d_W_textsWith_0) (hi := rfl) (hl := rfl) ?_
  refine xr_iconst (pc := 1) (hI := d_W_textsWith_1) (hr := by decide) ?_
  refine xr_aload_n (pc := 2) (i := 0) (hI := d_W_textsWith_2) (hi := rfl) (hl := rfl) ?_
  refine xr_iload_n (pc := 3) (i := 1) (hI := d_W_textsWith_3) (hi := rfl) (hl := rfl) ?_
  obtain ⟨hyp, hyz⟩ := hyp
  exact xr_callVH (pc := 4) (index := 63) (K := m_B_textsWith) (As := [xI x1]) (S := [xI 0, xR 91]) (L0 := [xR 0, xI x1, xZ, xZ]) (hI := d_W_textsWith_4) (hcd := k_B_textsWith.1) (hini := k_B_textsWith.2.1) (hlk := w_1458) (hmax := k_B_textsWith.2.2.1) (hnm := k_B_textsWith.2.2.2.1) (hsig := k_B_textsWith.2.2.2.2.1) (hpl := k_B_textsWith.2.2.2.2.2.1) (hnoK := k_B_textsWith.2.2.2.2.2.2) (hS8 := Nat.le_of_ble_eq_true rfl) (ci := 0) (N := 7) (C := "BeaconIndex") (T := xF0) (hc := rfl) (hci := Nat.le_of_ble_eq_true rfl) (htb := (ft_0 F)) (hinst := w_1216) (hsel := w_1217) (hlen := Nat.le_of_ble_eq_true rfl) (hst := rfl) (hL0 := rfl) (X1 := X9)  (xwp_mono hyp (fun v9 h9 q9 => xr_drop (L9 := [xZ, xZ, xZ, xZ]) (xdrz (xdrz (xdrz (xdrs xdr0)))) q9) (fun _ _ z9 => z9)) (fun k9 h9 hk9 hx9 => by
    have z9 := hyz k9 h9 hk9 hx9
    match k9, hk9, z9 with
    | 0, _, z9 => exact (z9.1 rfl).elim
    | 1, _, z9 => exact (z9.2.1 rfl).elim
    | 2, _, z9 => exact ⟨12, 1, 3, ⟨[], (0, 9, 12, 32), [], "java/lang/IndexOutOfBoundsException", rfl, (fun _ hz9 => absurd hz9 List.not_mem_nil), ⟨by decide, by decide⟩, rfl, by decide, w_1407, w_1103⟩, by decide, Or.inl ⟨rfl, (3 : Fin 4), rfl, d_W_textsWith_12⟩, xr_iconst (hI := d_W_textsWith_13) (hr := by decide) (xr_ireturn (S := []) (hI := d_W_textsWith_14) (hr := rfl) (z9.2.2 rfl))⟩)
theorem d_W_textsWith_7 : decode method_17_code 7 = .ok (.i2l, 1) := by decide +kernel
theorem d_W_textsWith_8 : decode method_17_code 8 = .ok (.lastore, 1) := by decide +kernel
theorem d_W_textsWith_9 : decode method_17_code 9 = .ok (.goto 6, 3) := by decide +kernel
theorem d_W_textsWith_15 : decode method_17_code 15 = .ok (.iconst 0, 1) := by decide +kernel
theorem d_W_textsWith_16 : decode method_17_code 16 = .ok (.ireturn, 1) := by decide +kernel
theorem v_W_textsWith_7 {G : XG} {d : Nat} {h : XH} {Q : XV → XH → Prop} {X : Nat → XH → Prop} {s0 s1 s2 : Int} (F : xFix h) (hyp : xtg h s2 = 101 ∧ 0 ≤ s2 ∧ 0 ≤ s1 ∧ s1 < (xln h s2) ∧ (xFix (xst h s2 s1 s0) → Q (xI 0) (xst h s2 s1 s0))) : xwp G m_W_textsWith (d + 9) 7 [xZ, xZ, xZ, xZ] [xI s0, xI s1, xR s2] h Q X := by
  have hnx9 : (93 : Int) ≤ xnx h := F.2.2
  refine xr_okS (fun hs9 => ?_)
  have r_s0 : -2147483648 ≤ s0 ∧ s0 ≤ 2147483647 := hs9 (xI s0) (.head _)
  have r_s1 : -2147483648 ≤ s1 ∧ s1 ≤ 2147483647 := hs9 (xI s1) (.tail _ (.head _))
  refine xr_i2l (pc := 7) (hI := d_W_textsWith_7) ?_
  obtain ⟨c9, hyp⟩ := hyp
  have t1_ := c9
  clear c9
  obtain ⟨c2_, hyp⟩ := hyp
  obtain ⟨c3_, hyp⟩ := hyp
  obtain ⟨c4_, hyp⟩ := hyp
  refine xr_lastore (pc := 8) (hI := d_W_textsWith_8) t1_ c2_ c3_ (xlt_of rfl c4_) ?_
  have F5_ : xFix (xst h s2 s1 s0) := F.stTA (t := 101) c2_ t1_ xta_101
  refine xr_goto (pc := 9) (tgt := 15) (hI := d_W_textsWith_9) (ht := by decide) ?_
  refine xr_iconst (pc := 15) (hI := d_W_textsWith_15) (hr := by decide) ?_
  refine xr_ireturn (S := []) (pc := 16) (hI := d_W_textsWith_16) (hr := rfl) ?_
  exact hyp F5_
-- timesIn
abbrev m_W_timesIn : XM := (⟨"BeaconIndexLaw", "timesIn", "(LBeaconIndex;II[J)I"⟩, method_18_code, 5, (some .int), [(0, 10, 13, 19), (0, 10, 17, 32)])
theorem d_W_timesIn_0 : decode method_18_code 0 = .ok (.aload_n 3, 1) := by decide +kernel
theorem d_W_timesIn_1 : decode method_18_code 1 = .ok (.iconst 0, 1) := by decide +kernel
theorem d_W_timesIn_2 : decode method_18_code 2 = .ok (.aload_n 0, 1) := by decide +kernel
theorem d_W_timesIn_3 : decode method_18_code 3 = .ok (.iload_n 1, 1) := by decide +kernel
theorem d_W_timesIn_4 : decode method_18_code 4 = .ok (.iload_n 2, 1) := by decide +kernel
theorem d_W_timesIn_5 : decode method_18_code 5 = .ok (.invokevirtual 66, 3) := by decide +kernel
theorem k_B_timesIn : xCal m_B_timesIn 2 := ⟨List.mem_append_right _ (List.mem_of_getElem? (i := 1465) (by decide +kernel)), w_1, Nat.le_of_ble_eq_true rfl, ⟨by decide +kernel, by decide +kernel⟩, by decide +kernel, by decide +kernel, rfl⟩
theorem w_1462 : Cond.methodLink "BeaconIndexLaw" 66 ⟨"BeaconIndex", "timesIn", "(II)I"⟩ ∈ lw_tbl := List.mem_append_right _ (List.mem_of_getElem? (i := 1462) (by decide +kernel))
theorem w_1463 : Cond.instanceMethod ⟨"BeaconIndex", "timesIn", "(II)I"⟩ ∈ lw_tbl := List.mem_append_right _ (List.mem_of_getElem? (i := 1463) (by decide +kernel))
theorem w_1464 : Cond.selects "BeaconIndex" ⟨"BeaconIndex", "timesIn", "(II)I"⟩ ⟨"BeaconIndex", "timesIn", "(II)I"⟩ ∈ lw_tbl := List.mem_append_right _ (List.mem_of_getElem? (i := 1464) (by decide +kernel))
theorem d_W_timesIn_13 : decode method_18_code 13 = .ok (.astore 4, 2) := by decide +kernel
theorem d_W_timesIn_15 : decode method_18_code 15 = .ok (.iconst 1, 1) := by decide +kernel
theorem d_W_timesIn_16 : decode method_18_code 16 = .ok (.ireturn, 1) := by decide +kernel
theorem d_W_timesIn_17 : decode method_18_code 17 = .ok (.astore 4, 2) := by decide +kernel
theorem d_W_timesIn_19 : decode method_18_code 19 = .ok (.iconst 2, 1) := by decide +kernel
theorem d_W_timesIn_20 : decode method_18_code 20 = .ok (.ireturn, 1) := by decide +kernel
theorem v_W_timesIn_0 {G : XG} {d : Nat} {h : XH} {Q : XV → XH → Prop} {X : Nat → XH → Prop} {x1 x2 : Int} {X9 : Nat → XH → Prop} (F : xFix h) (hyp : ((xwp G m_B_timesIn (d + 8) 0 [xR 0, xI x1, xI x2, xZ] [] h (fun v9 h9 => xwp G m_W_timesIn (d + 9) 8 [xZ, xZ, xZ, xZ, xZ] (xpush v9 [xI 0, xR 91]) h9 Q X) X9) ∧ (∀ (k9 : Nat) (h9 : XH), k9 < 3 → X9 k9 h9 → (k9 = 0 → Q (xI 1) h9) ∧ (k9 = 1 → False) ∧ (k9 = 2 → Q (xI 2) h9)))) : xwp G m_W_timesIn (d + 9) 0 [xR 0, xI x1, xI x2, xR 91, xZ] [] h Q X := by
  have hnx9 : (93 : Int) ≤ xnx h := F.2.2
  refine xr_okL (fun hl9 => ?_)
  have r_x1 : -2147483648 ≤ x1 ∧ x1 ≤ 2147483647 := hl9 (xI x1) (.tail _ (.head _)) (Nat.le_of_ble_eq_true rfl)
  have r_x2 : -2147483648 ≤ x2 ∧ x2 ≤ 2147483647 := hl9 (xI x2) (.tail _ (.tail _ (.head _))) (Nat.le_of_ble_eq_true rfl)
  refine xr_aload_n (pc := 0) (i := 3) (hI := d_W_timesIn_0) (hi := rfl) (hl := rfl) ?_
  refine xr_iconst (pc := 1) (hI := d_W_timesIn_1) (hr := by decide) ?_
  refine xr_aload_n (pc := 2) (i := 0) (hI := d_W_timesIn_2) (hi := rfl) (hl := rfl) ?_
  refine xr_iload_n (pc := 3) (i := 1) (hI := d_W_timesIn_3) (hi := rfl) (hl := rfl) ?_
  refine xr_iload_n (pc := 4) (i := 2) (hI := d_W_timesIn_4) (hi := rfl) (hl := rfl) ?_
  obtain ⟨hyp, hyz⟩ := hyp
  exact xr_callVH (pc := 5) (index := 66) (K := m_B_timesIn) (As := [xI x1, xI x2]) (S := [xI 0, xR 91]) (L0 := [xR 0, xI x1, xI x2, xZ]) (hI := d_W_timesIn_5) (hcd := k_B_timesIn.1) (hini := k_B_timesIn.2.1) (hlk := w_1462) (hmax := k_B_timesIn.2.2.1) (hnm := k_B_timesIn.2.2.2.1) (hsig := k_B_timesIn.2.2.2.2.1) (hpl := k_B_timesIn.2.2.2.2.2.1) (hnoK := k_B_timesIn.2.2.2.2.2.2) (hS8 := Nat.le_of_ble_eq_true rfl) (ci := 0) (N := 7) (C := "BeaconIndex") (T := xF0) (hc := rfl) (hci := Nat.le_of_ble_eq_true rfl) (htb := (ft_0 F)) (hinst := w_1463) (hsel := w_1464) (hlen := Nat.le_of_ble_eq_true rfl) (hst := rfl) (hL0 := rfl) (X1 := X9)  (xwp_mono hyp (fun v9 h9 q9 => xr_drop (L9 := [xZ, xZ, xZ, xZ, xZ]) (xdrz (xdrz (xdrz (xdrz (xdrs xdr0))))) q9) (fun _ _ z9 => z9)) (fun k9 h9 hk9 hx9 => by
    have z9 := hyz k9 h9 hk9 hx9
    match k9, hk9, z9 with
    | 0, _, z9 => exact ⟨13, 2, 4, ⟨[], (0, 10, 13, 19), [(0, 10, 17, 32)], "java/lang/IllegalArgumentException", rfl, (fun _ hz9 => absurd hz9 List.not_mem_nil), ⟨by decide, by decide⟩, rfl, by decide, w_1353, w_1297⟩, by decide, Or.inr ⟨rfl, d_W_timesIn_13⟩, xr_iconst (hI := d_W_timesIn_15) (hr := by decide) (xr_ireturn (S := []) (hI := d_W_timesIn_16) (hr := rfl) (z9.1 rfl))⟩
    | 1, _, z9 => exact (z9.2.1 rfl).elim
    | 2, _, z9 => exact ⟨17, 2, 4, ⟨[(0, 10, 13, 19)], (0, 10, 17, 32), [], "java/lang/IndexOutOfBoundsException", rfl, (List.forall_mem_cons.mpr ⟨⟨by decide, "java/lang/IllegalArgumentException", w_1353, List.mem_of_getElem? (i := 1) rfl⟩, (fun _ hz9 => absurd hz9 List.not_mem_nil)⟩), ⟨by decide, by decide⟩, rfl, by decide, w_1407, w_1103⟩, by decide, Or.inr ⟨rfl, d_W_timesIn_17⟩, xr_iconst (hI := d_W_timesIn_19) (hr := by decide) (xr_ireturn (S := []) (hI := d_W_timesIn_20) (hr := rfl) (z9.2.2 rfl))⟩)
theorem d_W_timesIn_8 : decode method_18_code 8 = .ok (.i2l, 1) := by decide +kernel
theorem d_W_timesIn_9 : decode method_18_code 9 = .ok (.lastore, 1) := by decide +kernel
theorem d_W_timesIn_10 : decode method_18_code 10 = .ok (.goto 11, 3) := by decide +kernel
theorem d_W_timesIn_21 : decode method_18_code 21 = .ok (.iconst 0, 1) := by decide +kernel
theorem d_W_timesIn_22 : decode method_18_code 22 = .ok (.ireturn, 1) := by decide +kernel
theorem v_W_timesIn_8 {G : XG} {d : Nat} {h : XH} {Q : XV → XH → Prop} {X : Nat → XH → Prop} {s0 s1 s2 : Int} (F : xFix h) (hyp : xtg h s2 = 101 ∧ 0 ≤ s2 ∧ 0 ≤ s1 ∧ s1 < (xln h s2) ∧ (xFix (xst h s2 s1 s0) → Q (xI 0) (xst h s2 s1 s0))) : xwp G m_W_timesIn (d + 9) 8 [xZ, xZ, xZ, xZ, xZ] [xI s0, xI s1, xR s2] h Q X := by
  have hnx9 : (93 : Int) ≤ xnx h := F.2.2
  refine xr_okS (fun hs9 => ?_)
  have r_s0 : -2147483648 ≤ s0 ∧ s0 ≤ 2147483647 := hs9 (xI s0) (.head _)
  have r_s1 : -2147483648 ≤ s1 ∧ s1 ≤ 2147483647 := hs9 (xI s1) (.tail _ (.head _))
  refine xr_i2l (pc := 8) (hI := d_W_timesIn_8) ?_
  obtain ⟨c9, hyp⟩ := hyp
  have t1_ := c9
  clear c9
  obtain ⟨c2_, hyp⟩ := hyp
  obtain ⟨c3_, hyp⟩ := hyp
  obtain ⟨c4_, hyp⟩ := hyp
  refine xr_lastore (pc := 9) (hI := d_W_timesIn_9) t1_ c2_ c3_ (xlt_of rfl c4_) ?_
  have F5_ : xFix (xst h s2 s1 s0) := F.stTA (t := 101) c2_ t1_ xta_101
  refine xr_goto (pc := 10) (tgt := 21) (hI := d_W_timesIn_10) (ht := by decide) ?_
  refine xr_iconst (pc := 21) (hI := d_W_timesIn_21) (hr := by decide) ?_
  refine xr_ireturn (S := []) (pc := 22) (hI := d_W_timesIn_22) (hr := rfl) ?_
  exact hyp F5_
-- rarity
abbrev m_W_rarity : XM := (⟨"BeaconIndexLaw", "rarity", "(LBeaconIndex;I[J)I"⟩, method_19_code, 4, (some .int), [(0, 9, 12, 32)])
theorem d_W_rarity_0 : decode method_19_code 0 = .ok (.aload_n 2, 1) := by decide +kernel
theorem d_W_rarity_1 : decode method_19_code 1 = .ok (.iconst 0, 1) := by decide +kernel
theorem d_W_rarity_2 : decode method_19_code 2 = .ok (.aload_n 0, 1) := by decide +kernel
theorem d_W_rarity_3 : decode method_19_code 3 = .ok (.iload_n 1, 1) := by decide +kernel
theorem d_W_rarity_4 : decode method_19_code 4 = .ok (.invokevirtual 69, 3) := by decide +kernel
theorem w_1469 : Cond.methodLink "BeaconIndexLaw" 69 ⟨"BeaconIndex", "rarity", "(I)I"⟩ ∈ lw_tbl := List.mem_append_right _ (List.mem_of_getElem? (i := 1469) (by decide +kernel))
theorem d_W_rarity_12 : decode method_19_code 12 = .ok (.astore_n 3, 1) := by decide +kernel
theorem d_W_rarity_13 : decode method_19_code 13 = .ok (.iconst 1, 1) := by decide +kernel
theorem d_W_rarity_14 : decode method_19_code 14 = .ok (.ireturn, 1) := by decide +kernel
theorem v_W_rarity_0 {G : XG} {d : Nat} {h : XH} {Q : XV → XH → Prop} {X : Nat → XH → Prop} {x1 : Int} {X9 : Nat → XH → Prop} (F : xFix h) (hyp : ((xwp G m_B_rarity (d + 9) 0 [xR 0, xI x1] [] h (fun v9 h9 => xwp G m_W_rarity (d + 10) 7 [xZ, xZ, xZ, xZ] (xpush v9 [xI 0, xR 91]) h9 Q X) X9) ∧ (∀ (k9 : Nat) (h9 : XH), k9 < 3 → X9 k9 h9 → (k9 = 0 → False) ∧ (k9 = 1 → False) ∧ (k9 = 2 → Q (xI 1) h9)))) : xwp G m_W_rarity (d + 10) 0 [xR 0, xI x1, xR 91, xZ] [] h Q X := by
  have hnx9 : (93 : Int) ≤ xnx h := F.2.2
  refine xr_okL (fun hl9 => ?_)
  have r_x1 : -2147483648 ≤ x1 ∧ x1 ≤ 2147483647 := hl9 (xI x1) (.tail _ (.head _)) (Nat.le_of_ble_eq_true rfl)
  refine xr_aload_n (pc := 0) (i := 2) (hI := d_W_rarity_0) (hi := rfl) (hl := rfl) ?_
  refine xr_iconst (pc := 1) (hI := d_W_rarity_1) (hr := by decide) ?_
  refine xr_aload_n (pc := 2) (i := 0) (hI := d_W_rarity_2) (hi := rfl) (hl := rfl) ?_
  refine xr_iload_n (pc := 3) (i := 1) (hI := d_W_rarity_3) (hi := rfl) (hl := rfl) ?_
  obtain ⟨hyp, hyz⟩ := hyp
  exact xr_callVH (pc := 4) (index := 69) (K := m_B_rarity) (As := [xI x1]) (S := [xI 0, xR 91]) (L0 := [xR 0, xI x1]) (hI := d_W_rarity_4) (hcd := k_B_rarity.1) (hini := k_B_rarity.2.1) (hlk := w_1469) (hmax := k_B_rarity.2.2.1) (hnm := k_B_rarity.2.2.2.1) (hsig := k_B_rarity.2.2.2.2.1) (hpl := k_B_rarity.2.2.2.2.2.1) (hnoK := k_B_rarity.2.2.2.2.2.2) (hS8 := Nat.le_of_ble_eq_true rfl) (ci := 0) (N := 7) (C := "BeaconIndex") (T := xF0) (hc := rfl) (hci := Nat.le_of_ble_eq_true rfl) (htb := (ft_0 F)) (hinst := w_1225) (hsel := w_1226) (hlen := Nat.le_of_ble_eq_true rfl) (hst := rfl) (hL0 := rfl) (X1 := X9)  (xwp_mono hyp (fun v9 h9 q9 => xr_drop (L9 := [xZ, xZ, xZ, xZ]) (xdrz (xdrz (xdrz (xdrs xdr0)))) q9) (fun _ _ z9 => z9)) (fun k9 h9 hk9 hx9 => by
    have z9 := hyz k9 h9 hk9 hx9
    match k9, hk9, z9 with
    | 0, _, z9 => exact (z9.1 rfl).elim
    | 1, _, z9 => exact (z9.2.1 rfl).elim
    | 2, _, z9 => exact ⟨12, 1, 3, ⟨[], (0, 9, 12, 32), [], "java/lang/IndexOutOfBoundsException", rfl, (fun _ hz9 => absurd hz9 List.not_mem_nil), ⟨by decide, by decide⟩, rfl, by decide, w_1407, w_1103⟩, by decide, Or.inl ⟨rfl, (3 : Fin 4), rfl, d_W_rarity_12⟩, xr_iconst (hI := d_W_rarity_13) (hr := by decide) (xr_ireturn (S := []) (hI := d_W_rarity_14) (hr := rfl) (z9.2.2 rfl))⟩)
theorem d_W_rarity_7 : decode method_19_code 7 = .ok (.i2l, 1) := by decide +kernel
theorem d_W_rarity_8 : decode method_19_code 8 = .ok (.lastore, 1) := by decide +kernel
theorem d_W_rarity_9 : decode method_19_code 9 = .ok (.goto 6, 3) := by decide +kernel
theorem d_W_rarity_15 : decode method_19_code 15 = .ok (.iconst 0, 1) := by decide +kernel
theorem d_W_rarity_16 : decode method_19_code 16 = .ok (.ireturn, 1) := by decide +kernel
theorem v_W_rarity_7 {G : XG} {d : Nat} {h : XH} {Q : XV → XH → Prop} {X : Nat → XH → Prop} {s0 s1 s2 : Int} (F : xFix h) (hyp : xtg h s2 = 101 ∧ 0 ≤ s2 ∧ 0 ≤ s1 ∧ s1 < (xln h s2) ∧ (xFix (xst h s2 s1 s0) → Q (xI 0) (xst h s2 s1 s0))) : xwp G m_W_rarity (d + 10) 7 [xZ, xZ, xZ, xZ] [xI s0, xI s1, xR s2] h Q X := by
  have hnx9 : (93 : Int) ≤ xnx h := F.2.2
  refine xr_okS (fun hs9 => ?_)
  have r_s0 : -2147483648 ≤ s0 ∧ s0 ≤ 2147483647 := hs9 (xI s0) (.head _)
  have r_s1 : -2147483648 ≤ s1 ∧ s1 ≤ 2147483647 := hs9 (xI s1) (.tail _ (.head _))
  refine xr_i2l (pc := 7) (hI := d_W_rarity_7) ?_
  obtain ⟨c9, hyp⟩ := hyp
  have t1_ := c9
  clear c9
  obtain ⟨c2_, hyp⟩ := hyp
  obtain ⟨c3_, hyp⟩ := hyp
  obtain ⟨c4_, hyp⟩ := hyp
  refine xr_lastore (pc := 8) (hI := d_W_rarity_8) t1_ c2_ c3_ (xlt_of rfl c4_) ?_
  have F5_ : xFix (xst h s2 s1 s0) := F.stTA (t := 101) c2_ t1_ xta_101
  refine xr_goto (pc := 9) (tgt := 15) (hI := d_W_rarity_9) (ht := by decide) ?_
  refine xr_iconst (pc := 15) (hI := d_W_rarity_15) (hr := by decide) ?_
  refine xr_ireturn (S := []) (pc := 16) (hI := d_W_rarity_16) (hr := rfl) ?_
  exact hyp F5_
-- parts
abbrev m_W_parts : XM := (⟨"BeaconIndexLaw", "parts", "(LBeaconIndex;[J)I"⟩, method_20_code, 3, (some .int), [(0, 8, 11, 13)])
theorem d_W_parts_0 : decode method_20_code 0 = .ok (.aload_n 1, 1) := by decide +kernel
theorem d_W_parts_1 : decode method_20_code 1 = .ok (.iconst 0, 1) := by decide +kernel
theorem d_W_parts_2 : decode method_20_code 2 = .ok (.aload_n 0, 1) := by decide +kernel
theorem d_W_parts_3 : decode method_20_code 3 = .ok (.invokevirtual 72, 3) := by decide +kernel
theorem w_1473 : Cond.methodLink "BeaconIndexLaw" 72 ⟨"BeaconIndex", "parts", "()I"⟩ ∈ lw_tbl := List.mem_append_right _ (List.mem_of_getElem? (i := 1473) (by decide +kernel))
theorem d_W_parts_11 : decode method_20_code 11 = .ok (.astore_n 2, 1) := by decide +kernel
theorem d_W_parts_12 : decode method_20_code 12 = .ok (.iconst 1, 1) := by decide +kernel
theorem d_W_parts_13 : decode method_20_code 13 = .ok (.ireturn, 1) := by decide +kernel
theorem v_W_parts_0 {G : XG} {d : Nat} {h : XH} {Q : XV → XH → Prop} {X : Nat → XH → Prop} {X9 : Nat → XH → Prop} (F : xFix h) (hyp : ((xwp G m_B_parts (d + 8) 0 [xR 0] [] h (fun v9 h9 => xwp G m_W_parts (d + 9) 6 [xZ, xZ, xZ] (xpush v9 [xI 0, xR 91]) h9 Q X) X9) ∧ (∀ (k9 : Nat) (h9 : XH), k9 < 3 → X9 k9 h9 → (k9 = 0 → False) ∧ (k9 = 1 → Q (xI 1) h9) ∧ (k9 = 2 → False)))) : xwp G m_W_parts (d + 9) 0 [xR 0, xR 91, xZ] [] h Q X := by
  have hnx9 : (93 : Int) ≤ xnx h := F.2.2
  refine xr_aload_n (pc := 0) (i := 1) (hI := d_W_parts_0) (hi := rfl) (hl := rfl) ?_
  refine xr_iconst (pc := 1) (hI := d_W_parts_1) (hr := by decide) ?_
  refine xr_aload_n (pc := 2) (i := 0) (hI := d_W_parts_2) (hi := rfl) (hl := rfl) ?_
  obtain ⟨hyp, hyz⟩ := hyp
  exact xr_callVH (pc := 3) (index := 72) (K := m_B_parts) (As := []) (S := [xI 0, xR 91]) (L0 := [xR 0]) (hI := d_W_parts_3) (hcd := k_B_parts.1) (hini := k_B_parts.2.1) (hlk := w_1473) (hmax := k_B_parts.2.2.1) (hnm := k_B_parts.2.2.2.1) (hsig := k_B_parts.2.2.2.2.1) (hpl := k_B_parts.2.2.2.2.2.1) (hnoK := k_B_parts.2.2.2.2.2.2) (hS8 := Nat.le_of_ble_eq_true rfl) (ci := 0) (N := 7) (C := "BeaconIndex") (T := xF0) (hc := rfl) (hci := Nat.le_of_ble_eq_true rfl) (htb := (ft_0 F)) (hinst := w_1235) (hsel := w_1236) (hlen := Nat.le_of_ble_eq_true rfl) (hst := rfl) (hL0 := rfl) (X1 := X9)  (xwp_mono hyp (fun v9 h9 q9 => xr_drop (L9 := [xZ, xZ, xZ]) (xdrz (xdrz (xdrs xdr0))) q9) (fun _ _ z9 => z9)) (fun k9 h9 hk9 hx9 => by
    have z9 := hyz k9 h9 hk9 hx9
    match k9, hk9, z9 with
    | 0, _, z9 => exact (z9.1 rfl).elim
    | 1, _, z9 => exact ⟨11, 1, 2, ⟨[], (0, 8, 11, 13), [], "java/lang/IllegalStateException", rfl, (fun _ hz9 => absurd hz9 List.not_mem_nil), ⟨by decide, by decide⟩, rfl, by decide, w_1341, w_1244⟩, by decide, Or.inl ⟨rfl, (2 : Fin 4), rfl, d_W_parts_11⟩, xr_iconst (hI := d_W_parts_12) (hr := by decide) (xr_ireturn (S := []) (hI := d_W_parts_13) (hr := rfl) (z9.2.1 rfl))⟩
    | 2, _, z9 => exact (z9.2.2 rfl).elim)
theorem d_W_parts_6 : decode method_20_code 6 = .ok (.i2l, 1) := by decide +kernel
theorem d_W_parts_7 : decode method_20_code 7 = .ok (.lastore, 1) := by decide +kernel
theorem d_W_parts_8 : decode method_20_code 8 = .ok (.goto 6, 3) := by decide +kernel
theorem d_W_parts_14 : decode method_20_code 14 = .ok (.iconst 0, 1) := by decide +kernel
theorem d_W_parts_15 : decode method_20_code 15 = .ok (.ireturn, 1) := by decide +kernel
theorem v_W_parts_6 {G : XG} {d : Nat} {h : XH} {Q : XV → XH → Prop} {X : Nat → XH → Prop} {s0 s1 s2 : Int} (F : xFix h) (hyp : xtg h s2 = 101 ∧ 0 ≤ s2 ∧ 0 ≤ s1 ∧ s1 < (xln h s2) ∧ (xFix (xst h s2 s1 s0) → Q (xI 0) (xst h s2 s1 s0))) : xwp G m_W_parts (d + 9) 6 [xZ, xZ, xZ] [xI s0, xI s1, xR s2] h Q X := by
  have hnx9 : (93 : Int) ≤ xnx h := F.2.2
  refine xr_okS (fun hs9 => ?_)
  have r_s0 : -2147483648 ≤ s0 ∧ s0 ≤ 2147483647 := hs9 (xI s0) (.head _)
  have r_s1 : -2147483648 ≤ s1 ∧ s1 ≤ 2147483647 := hs9 (xI s1) (.tail _ (.head _))
  refine xr_i2l (pc := 6) (hI := d_W_parts_6) ?_
  obtain ⟨c9, hyp⟩ := hyp
  have t1_ := c9
  clear c9
  obtain ⟨c2_, hyp⟩ := hyp
  obtain ⟨c3_, hyp⟩ := hyp
  obtain ⟨c4_, hyp⟩ := hyp
  refine xr_lastore (pc := 7) (hI := d_W_parts_7) t1_ c2_ c3_ (xlt_of rfl c4_) ?_
  have F5_ : xFix (xst h s2 s1 s0) := F.stTA (t := 101) c2_ t1_ xta_101
  refine xr_goto (pc := 8) (tgt := 14) (hI := d_W_parts_8) (ht := by decide) ?_
  refine xr_iconst (pc := 14) (hI := d_W_parts_14) (hr := by decide) ?_
  refine xr_ireturn (S := []) (pc := 15) (hI := d_W_parts_15) (hr := rfl) ?_
  exact hyp F5_
-- found
abbrev m_W_found : XM := (⟨"BeaconIndexLaw", "found", "(LBeaconIndex;[J)I"⟩, method_21_code, 3, (some .int), [(0, 8, 11, 13)])
theorem d_W_found_0 : decode method_21_code 0 = .ok (.aload_n 1, 1) := by decide +kernel
theorem d_W_found_1 : decode method_21_code 1 = .ok (.iconst 0, 1) := by decide +kernel
theorem d_W_found_2 : decode method_21_code 2 = .ok (.aload_n 0, 1) := by decide +kernel
theorem d_W_found_3 : decode method_21_code 3 = .ok (.invokevirtual 76, 3) := by decide +kernel
theorem w_1477 : Cond.methodLink "BeaconIndexLaw" 76 ⟨"BeaconIndex", "found", "()I"⟩ ∈ lw_tbl := List.mem_append_right _ (List.mem_of_getElem? (i := 1477) (by decide +kernel))
theorem d_W_found_11 : decode method_21_code 11 = .ok (.astore_n 2, 1) := by decide +kernel
theorem d_W_found_12 : decode method_21_code 12 = .ok (.iconst 1, 1) := by decide +kernel
theorem d_W_found_13 : decode method_21_code 13 = .ok (.ireturn, 1) := by decide +kernel
theorem v_W_found_0 {G : XG} {d : Nat} {h : XH} {Q : XV → XH → Prop} {X : Nat → XH → Prop} {X9 : Nat → XH → Prop} (F : xFix h) (hyp : ((xwp G m_B_found (d + 8) 0 [xR 0] [] h (fun v9 h9 => xwp G m_W_found (d + 9) 6 [xZ, xZ, xZ] (xpush v9 [xI 0, xR 91]) h9 Q X) X9) ∧ (∀ (k9 : Nat) (h9 : XH), k9 < 3 → X9 k9 h9 → (k9 = 0 → False) ∧ (k9 = 1 → Q (xI 1) h9) ∧ (k9 = 2 → False)))) : xwp G m_W_found (d + 9) 0 [xR 0, xR 91, xZ] [] h Q X := by
  have hnx9 : (93 : Int) ≤ xnx h := F.2.2
  refine xr_aload_n (pc := 0) (i := 1) (hI := d_W_found_0) (hi := rfl) (hl := rfl) ?_
  refine xr_iconst (pc := 1) (hI := d_W_found_1) (hr := by decide) ?_
  refine xr_aload_n (pc := 2) (i := 0) (hI := d_W_found_2) (hi := rfl) (hl := rfl) ?_
  obtain ⟨hyp, hyz⟩ := hyp
  exact xr_callVH (pc := 3) (index := 76) (K := m_B_found) (As := []) (S := [xI 0, xR 91]) (L0 := [xR 0]) (hI := d_W_found_3) (hcd := k_B_found.1) (hini := k_B_found.2.1) (hlk := w_1477) (hmax := k_B_found.2.2.1) (hnm := k_B_found.2.2.2.1) (hsig := k_B_found.2.2.2.2.1) (hpl := k_B_found.2.2.2.2.2.1) (hnoK := k_B_found.2.2.2.2.2.2) (hS8 := Nat.le_of_ble_eq_true rfl) (ci := 0) (N := 7) (C := "BeaconIndex") (T := xF0) (hc := rfl) (hci := Nat.le_of_ble_eq_true rfl) (htb := (ft_0 F)) (hinst := w_1264) (hsel := w_1265) (hlen := Nat.le_of_ble_eq_true rfl) (hst := rfl) (hL0 := rfl) (X1 := X9)  (xwp_mono hyp (fun v9 h9 q9 => xr_drop (L9 := [xZ, xZ, xZ]) (xdrz (xdrz (xdrs xdr0))) q9) (fun _ _ z9 => z9)) (fun k9 h9 hk9 hx9 => by
    have z9 := hyz k9 h9 hk9 hx9
    match k9, hk9, z9 with
    | 0, _, z9 => exact (z9.1 rfl).elim
    | 1, _, z9 => exact ⟨11, 1, 2, ⟨[], (0, 8, 11, 13), [], "java/lang/IllegalStateException", rfl, (fun _ hz9 => absurd hz9 List.not_mem_nil), ⟨by decide, by decide⟩, rfl, by decide, w_1341, w_1244⟩, by decide, Or.inl ⟨rfl, (2 : Fin 4), rfl, d_W_found_11⟩, xr_iconst (hI := d_W_found_12) (hr := by decide) (xr_ireturn (S := []) (hI := d_W_found_13) (hr := rfl) (z9.2.1 rfl))⟩
    | 2, _, z9 => exact (z9.2.2 rfl).elim)
theorem d_W_found_6 : decode method_21_code 6 = .ok (.i2l, 1) := by decide +kernel
theorem d_W_found_7 : decode method_21_code 7 = .ok (.lastore, 1) := by decide +kernel
theorem d_W_found_8 : decode method_21_code 8 = .ok (.goto 6, 3) := by decide +kernel
theorem d_W_found_14 : decode method_21_code 14 = .ok (.iconst 0, 1) := by decide +kernel
theorem d_W_found_15 : decode method_21_code 15 = .ok (.ireturn, 1) := by decide +kernel
theorem v_W_found_6 {G : XG} {d : Nat} {h : XH} {Q : XV → XH → Prop} {X : Nat → XH → Prop} {s0 s1 s2 : Int} (F : xFix h) (hyp : xtg h s2 = 101 ∧ 0 ≤ s2 ∧ 0 ≤ s1 ∧ s1 < (xln h s2) ∧ (xFix (xst h s2 s1 s0) → Q (xI 0) (xst h s2 s1 s0))) : xwp G m_W_found (d + 9) 6 [xZ, xZ, xZ] [xI s0, xI s1, xR s2] h Q X := by
  have hnx9 : (93 : Int) ≤ xnx h := F.2.2
  refine xr_okS (fun hs9 => ?_)
  have r_s0 : -2147483648 ≤ s0 ∧ s0 ≤ 2147483647 := hs9 (xI s0) (.head _)
  have r_s1 : -2147483648 ≤ s1 ∧ s1 ≤ 2147483647 := hs9 (xI s1) (.tail _ (.head _))
  refine xr_i2l (pc := 6) (hI := d_W_found_6) ?_
  obtain ⟨c9, hyp⟩ := hyp
  have t1_ := c9
  clear c9
  obtain ⟨c2_, hyp⟩ := hyp
  obtain ⟨c3_, hyp⟩ := hyp
  obtain ⟨c4_, hyp⟩ := hyp
  refine xr_lastore (pc := 7) (hI := d_W_found_7) t1_ c2_ c3_ (xlt_of rfl c4_) ?_
  have F5_ : xFix (xst h s2 s1 s0) := F.stTA (t := 101) c2_ t1_ xta_101
  refine xr_goto (pc := 8) (tgt := 14) (hI := d_W_found_8) (ht := by decide) ?_
  refine xr_iconst (pc := 14) (hI := d_W_found_14) (hr := by decide) ?_
  refine xr_ireturn (S := []) (pc := 15) (hI := d_W_found_15) (hr := rfl) ?_
  exact hyp F5_
-- keyFound
abbrev m_W_keyFound : XM := (⟨"BeaconIndexLaw", "keyFound", "(LBeaconIndex;I[J)I"⟩, method_22_code, 4, (some .int), [(0, 9, 12, 13), (0, 9, 15, 32)])
theorem d_W_keyFound_0 : decode method_22_code 0 = .ok (.aload_n 2, 1) := by decide +kernel
theorem d_W_keyFound_1 : decode method_22_code 1 = .ok (.iconst 0, 1) := by decide +kernel
theorem d_W_keyFound_2 : decode method_22_code 2 = .ok (.aload_n 0, 1) := by decide +kernel
theorem d_W_keyFound_3 : decode method_22_code 3 = .ok (.iload_n 1, 1) := by decide +kernel
theorem d_W_keyFound_4 : decode method_22_code 4 = .ok (.invokevirtual 79, 3) := by decide +kernel
theorem w_1481 : Cond.methodLink "BeaconIndexLaw" 79 ⟨"BeaconIndex", "keyFound", "(I)I"⟩ ∈ lw_tbl := List.mem_append_right _ (List.mem_of_getElem? (i := 1481) (by decide +kernel))
theorem d_W_keyFound_12 : decode method_22_code 12 = .ok (.astore_n 3, 1) := by decide +kernel
theorem d_W_keyFound_13 : decode method_22_code 13 = .ok (.iconst 1, 1) := by decide +kernel
theorem d_W_keyFound_14 : decode method_22_code 14 = .ok (.ireturn, 1) := by decide +kernel
theorem d_W_keyFound_15 : decode method_22_code 15 = .ok (.astore_n 3, 1) := by decide +kernel
theorem d_W_keyFound_16 : decode method_22_code 16 = .ok (.iconst 2, 1) := by decide +kernel
theorem d_W_keyFound_17 : decode method_22_code 17 = .ok (.ireturn, 1) := by decide +kernel
theorem v_W_keyFound_0 {G : XG} {d : Nat} {h : XH} {Q : XV → XH → Prop} {X : Nat → XH → Prop} {x1 : Int} {X9 : Nat → XH → Prop} (F : xFix h) (hyp : ((xwp G m_B_keyFound (d + 8) 0 [xR 0, xI x1] [] h (fun v9 h9 => xwp G m_W_keyFound (d + 9) 7 [xZ, xZ, xZ, xZ] (xpush v9 [xI 0, xR 91]) h9 Q X) X9) ∧ (∀ (k9 : Nat) (h9 : XH), k9 < 3 → X9 k9 h9 → (k9 = 0 → False) ∧ (k9 = 1 → Q (xI 1) h9) ∧ (k9 = 2 → Q (xI 2) h9)))) : xwp G m_W_keyFound (d + 9) 0 [xR 0, xI x1, xR 91, xZ] [] h Q X := by
  have hnx9 : (93 : Int) ≤ xnx h := F.2.2
  refine xr_okL (fun hl9 => ?_)
  have r_x1 : -2147483648 ≤ x1 ∧ x1 ≤ 2147483647 := hl9 (xI x1) (.tail _ (.head _)) (Nat.le_of_ble_eq_true rfl)
  refine xr_aload_n (pc := 0) (i := 2) (hI := d_W_keyFound_0) (hi := rfl) (hl := rfl) ?_
  refine xr_iconst (pc := 1) (hI := d_W_keyFound_1) (hr := by decide) ?_
  refine xr_aload_n (pc := 2) (i := 0) (hI := d_W_keyFound_2) (hi := rfl) (hl := rfl) ?_
  refine xr_iload_n (pc := 3) (i := 1) (hI := d_W_keyFound_3) (hi := rfl) (hl := rfl) ?_
  obtain ⟨hyp, hyz⟩ := hyp
  exact xr_callVH (pc := 4) (index := 79) (K := m_B_keyFound) (As := [xI x1]) (S := [xI 0, xR 91]) (L0 := [xR 0, xI x1]) (hI := d_W_keyFound_4) (hcd := k_B_keyFound.1) (hini := k_B_keyFound.2.1) (hlk := w_1481) (hmax := k_B_keyFound.2.2.1) (hnm := k_B_keyFound.2.2.2.1) (hsig := k_B_keyFound.2.2.2.2.1) (hpl := k_B_keyFound.2.2.2.2.2.1) (hnoK := k_B_keyFound.2.2.2.2.2.2) (hS8 := Nat.le_of_ble_eq_true rfl) (ci := 0) (N := 7) (C := "BeaconIndex") (T := xF0) (hc := rfl) (hci := Nat.le_of_ble_eq_true rfl) (htb := (ft_0 F)) (hinst := w_1268) (hsel := w_1269) (hlen := Nat.le_of_ble_eq_true rfl) (hst := rfl) (hL0 := rfl) (X1 := X9)  (xwp_mono hyp (fun v9 h9 q9 => xr_drop (L9 := [xZ, xZ, xZ, xZ]) (xdrz (xdrz (xdrz (xdrs xdr0)))) q9) (fun _ _ z9 => z9)) (fun k9 h9 hk9 hx9 => by
    have z9 := hyz k9 h9 hk9 hx9
    match k9, hk9, z9 with
    | 0, _, z9 => exact (z9.1 rfl).elim
    | 1, _, z9 => exact ⟨12, 1, 3, ⟨[], (0, 9, 12, 13), [(0, 9, 15, 32)], "java/lang/IllegalStateException", rfl, (fun _ hz9 => absurd hz9 List.not_mem_nil), ⟨by decide, by decide⟩, rfl, by decide, w_1341, w_1244⟩, by decide, Or.inl ⟨rfl, (3 : Fin 4), rfl, d_W_keyFound_12⟩, xr_iconst (hI := d_W_keyFound_13) (hr := by decide) (xr_ireturn (S := []) (hI := d_W_keyFound_14) (hr := rfl) (z9.2.1 rfl))⟩
    | 2, _, z9 => exact ⟨15, 1, 3, ⟨[(0, 9, 12, 13)], (0, 9, 15, 32), [], "java/lang/IndexOutOfBoundsException", rfl, (List.forall_mem_cons.mpr ⟨⟨by decide, "java/lang/IllegalStateException", w_1341, List.mem_of_getElem? (i := 3) rfl⟩, (fun _ hz9 => absurd hz9 List.not_mem_nil)⟩), ⟨by decide, by decide⟩, rfl, by decide, w_1407, w_1103⟩, by decide, Or.inl ⟨rfl, (3 : Fin 4), rfl, d_W_keyFound_15⟩, xr_iconst (hI := d_W_keyFound_16) (hr := by decide) (xr_ireturn (S := []) (hI := d_W_keyFound_17) (hr := rfl) (z9.2.2 rfl))⟩)
theorem d_W_keyFound_7 : decode method_22_code 7 = .ok (.i2l, 1) := by decide +kernel
theorem d_W_keyFound_8 : decode method_22_code 8 = .ok (.lastore, 1) := by decide +kernel
theorem d_W_keyFound_9 : decode method_22_code 9 = .ok (.goto 9, 3) := by decide +kernel
theorem d_W_keyFound_18 : decode method_22_code 18 = .ok (.iconst 0, 1) := by decide +kernel
theorem d_W_keyFound_19 : decode method_22_code 19 = .ok (.ireturn, 1) := by decide +kernel
theorem v_W_keyFound_7 {G : XG} {d : Nat} {h : XH} {Q : XV → XH → Prop} {X : Nat → XH → Prop} {s0 s1 s2 : Int} (F : xFix h) (hyp : xtg h s2 = 101 ∧ 0 ≤ s2 ∧ 0 ≤ s1 ∧ s1 < (xln h s2) ∧ (xFix (xst h s2 s1 s0) → Q (xI 0) (xst h s2 s1 s0))) : xwp G m_W_keyFound (d + 9) 7 [xZ, xZ, xZ, xZ] [xI s0, xI s1, xR s2] h Q X := by
  have hnx9 : (93 : Int) ≤ xnx h := F.2.2
  refine xr_okS (fun hs9 => ?_)
  have r_s0 : -2147483648 ≤ s0 ∧ s0 ≤ 2147483647 := hs9 (xI s0) (.head _)
  have r_s1 : -2147483648 ≤ s1 ∧ s1 ≤ 2147483647 := hs9 (xI s1) (.tail _ (.head _))
  refine xr_i2l (pc := 7) (hI := d_W_keyFound_7) ?_
  obtain ⟨c9, hyp⟩ := hyp
  have t1_ := c9
  clear c9
  obtain ⟨c2_, hyp⟩ := hyp
  obtain ⟨c3_, hyp⟩ := hyp
  obtain ⟨c4_, hyp⟩ := hyp
  refine xr_lastore (pc := 8) (hI := d_W_keyFound_8) t1_ c2_ c3_ (xlt_of rfl c4_) ?_
  have F5_ : xFix (xst h s2 s1 s0) := F.stTA (t := 101) c2_ t1_ xta_101
  refine xr_goto (pc := 9) (tgt := 18) (hI := d_W_keyFound_9) (ht := by decide) ?_
  refine xr_iconst (pc := 18) (hI := d_W_keyFound_18) (hr := by decide) ?_
  refine xr_ireturn (S := []) (pc := 19) (hI := d_W_keyFound_19) (hr := rfl) ?_
  exact hyp F5_
-- weightFound
abbrev m_W_weightFound : XM := (⟨"BeaconIndexLaw", "weightFound", "(LBeaconIndex;I[J)I"⟩, method_23_code, 4, (some .int), [(0, 9, 12, 13), (0, 9, 15, 32)])
theorem d_W_weightFound_0 : decode method_23_code 0 = .ok (.aload_n 2, 1) := by decide +kernel
theorem d_W_weightFound_1 : decode method_23_code 1 = .ok (.iconst 0, 1) := by decide +kernel
theorem d_W_weightFound_2 : decode method_23_code 2 = .ok (.aload_n 0, 1) := by decide +kernel
theorem d_W_weightFound_3 : decode method_23_code 3 = .ok (.iload_n 1, 1) := by decide +kernel
theorem d_W_weightFound_4 : decode method_23_code 4 = .ok (.invokevirtual 82, 3) := by decide +kernel
theorem w_1485 : Cond.methodLink "BeaconIndexLaw" 82 ⟨"BeaconIndex", "weightFound", "(I)I"⟩ ∈ lw_tbl := List.mem_append_right _ (List.mem_of_getElem? (i := 1485) (by decide +kernel))
theorem d_W_weightFound_12 : decode method_23_code 12 = .ok (.astore_n 3, 1) := by decide +kernel
theorem d_W_weightFound_13 : decode method_23_code 13 = .ok (.iconst 1, 1) := by decide +kernel
theorem d_W_weightFound_14 : decode method_23_code 14 = .ok (.ireturn, 1) := by decide +kernel
theorem d_W_weightFound_15 : decode method_23_code 15 = .ok (.astore_n 3, 1) := by decide +kernel
theorem d_W_weightFound_16 : decode method_23_code 16 = .ok (.iconst 2, 1) := by decide +kernel
theorem d_W_weightFound_17 : decode method_23_code 17 = .ok (.ireturn, 1) := by decide +kernel
theorem v_W_weightFound_0 {G : XG} {d : Nat} {h : XH} {Q : XV → XH → Prop} {X : Nat → XH → Prop} {x1 : Int} {X9 : Nat → XH → Prop} (F : xFix h) (hyp : ((xwp G m_B_weightFound (d + 8) 0 [xR 0, xI x1] [] h (fun v9 h9 => xwp G m_W_weightFound (d + 9) 7 [xZ, xZ, xZ, xZ] (xpush v9 [xI 0, xR 91]) h9 Q X) X9) ∧ (∀ (k9 : Nat) (h9 : XH), k9 < 3 → X9 k9 h9 → (k9 = 0 → False) ∧ (k9 = 1 → Q (xI 1) h9) ∧ (k9 = 2 → Q (xI 2) h9)))) : xwp G m_W_weightFound (d + 9) 0 [xR 0, xI x1, xR 91, xZ] [] h Q X := by
  have hnx9 : (93 : Int) ≤ xnx h := F.2.2
  refine xr_okL (fun hl9 => ?_)
  have r_x1 : -2147483648 ≤ x1 ∧ x1 ≤ 2147483647 := hl9 (xI x1) (.tail _ (.head _)) (Nat.le_of_ble_eq_true rfl)
  refine xr_aload_n (pc := 0) (i := 2) (hI := d_W_weightFound_0) (hi := rfl) (hl := rfl) ?_
  refine xr_iconst (pc := 1) (hI := d_W_weightFound_1) (hr := by decide) ?_
  refine xr_aload_n (pc := 2) (i := 0) (hI := d_W_weightFound_2) (hi := rfl) (hl := rfl) ?_
  refine xr_iload_n (pc := 3) (i := 1) (hI := d_W_weightFound_3) (hi := rfl) (hl := rfl) ?_
  obtain ⟨hyp, hyz⟩ := hyp
  exact xr_callVH (pc := 4) (index := 82) (K := m_B_weightFound) (As := [xI x1]) (S := [xI 0, xR 91]) (L0 := [xR 0, xI x1]) (hI := d_W_weightFound_4) (hcd := k_B_weightFound.1) (hini := k_B_weightFound.2.1) (hlk := w_1485) (hmax := k_B_weightFound.2.2.1) (hnm := k_B_weightFound.2.2.2.1) (hsig := k_B_weightFound.2.2.2.2.1) (hpl := k_B_weightFound.2.2.2.2.2.1) (hnoK := k_B_weightFound.2.2.2.2.2.2) (hS8 := Nat.le_of_ble_eq_true rfl) (ci := 0) (N := 7) (C := "BeaconIndex") (T := xF0) (hc := rfl) (hci := Nat.le_of_ble_eq_true rfl) (htb := (ft_0 F)) (hinst := w_1280) (hsel := w_1281) (hlen := Nat.le_of_ble_eq_true rfl) (hst := rfl) (hL0 := rfl) (X1 := X9)  (xwp_mono hyp (fun v9 h9 q9 => xr_drop (L9 := [xZ, xZ, xZ, xZ]) (xdrz (xdrz (xdrz (xdrs xdr0)))) q9) (fun _ _ z9 => z9)) (fun k9 h9 hk9 hx9 => by
    have z9 := hyz k9 h9 hk9 hx9
    match k9, hk9, z9 with
    | 0, _, z9 => exact (z9.1 rfl).elim
    | 1, _, z9 => exact ⟨12, 1, 3, ⟨[], (0, 9, 12, 13), [(0, 9, 15, 32)], "java/lang/IllegalStateException", rfl, (fun _ hz9 => absurd hz9 List.not_mem_nil), ⟨by decide, by decide⟩, rfl, by decide, w_1341, w_1244⟩, by decide, Or.inl ⟨rfl, (3 : Fin 4), rfl, d_W_weightFound_12⟩, xr_iconst (hI := d_W_weightFound_13) (hr := by decide) (xr_ireturn (S := []) (hI := d_W_weightFound_14) (hr := rfl) (z9.2.1 rfl))⟩
    | 2, _, z9 => exact ⟨15, 1, 3, ⟨[(0, 9, 12, 13)], (0, 9, 15, 32), [], "java/lang/IndexOutOfBoundsException", rfl, (List.forall_mem_cons.mpr ⟨⟨by decide, "java/lang/IllegalStateException", w_1341, List.mem_of_getElem? (i := 3) rfl⟩, (fun _ hz9 => absurd hz9 List.not_mem_nil)⟩), ⟨by decide, by decide⟩, rfl, by decide, w_1407, w_1103⟩, by decide, Or.inl ⟨rfl, (3 : Fin 4), rfl, d_W_weightFound_15⟩, xr_iconst (hI := d_W_weightFound_16) (hr := by decide) (xr_ireturn (S := []) (hI := d_W_weightFound_17) (hr := rfl) (z9.2.2 rfl))⟩)
theorem d_W_weightFound_7 : decode method_23_code 7 = .ok (.i2l, 1) := by decide +kernel
theorem d_W_weightFound_8 : decode method_23_code 8 = .ok (.lastore, 1) := by decide +kernel
theorem d_W_weightFound_9 : decode method_23_code 9 = .ok (.goto 9, 3) := by decide +kernel
theorem d_W_weightFound_18 : decode method_23_code 18 = .ok (.iconst 0, 1) := by decide +kernel
theorem d_W_weightFound_19 : decode method_23_code 19 = .ok (.ireturn, 1) := by decide +kernel
theorem v_W_weightFound_7 {G : XG} {d : Nat} {h : XH} {Q : XV → XH → Prop} {X : Nat → XH → Prop} {s0 s1 s2 : Int} (F : xFix h) (hyp : xtg h s2 = 101 ∧ 0 ≤ s2 ∧ 0 ≤ s1 ∧ s1 < (xln h s2) ∧ (xFix (xst h s2 s1 s0) → Q (xI 0) (xst h s2 s1 s0))) : xwp G m_W_weightFound (d + 9) 7 [xZ, xZ, xZ, xZ] [xI s0, xI s1, xR s2] h Q X := by
  have hnx9 : (93 : Int) ≤ xnx h := F.2.2
  refine xr_okS (fun hs9 => ?_)
  have r_s0 : -2147483648 ≤ s0 ∧ s0 ≤ 2147483647 := hs9 (xI s0) (.head _)
  have r_s1 : -2147483648 ≤ s1 ∧ s1 ≤ 2147483647 := hs9 (xI s1) (.tail _ (.head _))
  refine xr_i2l (pc := 7) (hI := d_W_weightFound_7) ?_
  obtain ⟨c9, hyp⟩ := hyp
  have t1_ := c9
  clear c9
  obtain ⟨c2_, hyp⟩ := hyp
  obtain ⟨c3_, hyp⟩ := hyp
  obtain ⟨c4_, hyp⟩ := hyp
  refine xr_lastore (pc := 8) (hI := d_W_weightFound_8) t1_ c2_ c3_ (xlt_of rfl c4_) ?_
  have F5_ : xFix (xst h s2 s1 s0) := F.stTA (t := 101) c2_ t1_ xta_101
  refine xr_goto (pc := 9) (tgt := 18) (hI := d_W_weightFound_9) (ht := by decide) ?_
  refine xr_iconst (pc := 18) (hI := d_W_weightFound_18) (hr := by decide) ?_
  refine xr_ireturn (S := []) (pc := 19) (hI := d_W_weightFound_19) (hr := rfl) ?_
  exact hyp F5_
-- foundOn
abbrev m_W_foundOn : XM := (⟨"BeaconIndexLaw", "foundOn", "(LBeaconIndex;I[J)I"⟩, method_24_code, 4, (some .int), [(0, 9, 12, 13), (0, 9, 15, 32)])
theorem d_W_foundOn_0 : decode method_24_code 0 = .ok (.aload_n 2, 1) := by decide +kernel
theorem d_W_foundOn_1 : decode method_24_code 1 = .ok (.iconst 0, 1) := by decide +kernel
theorem d_W_foundOn_2 : decode method_24_code 2 = .ok (.aload_n 0, 1) := by decide +kernel
theorem d_W_foundOn_3 : decode method_24_code 3 = .ok (.iload_n 1, 1) := by decide +kernel
theorem d_W_foundOn_4 : decode method_24_code 4 = .ok (.invokevirtual 85, 3) := by decide +kernel
theorem w_1489 : Cond.methodLink "BeaconIndexLaw" 85 ⟨"BeaconIndex", "foundOn", "(I)I"⟩ ∈ lw_tbl := List.mem_append_right _ (List.mem_of_getElem? (i := 1489) (by decide +kernel))
theorem d_W_foundOn_12 : decode method_24_code 12 = .ok (.astore_n 3, 1) := by decide +kernel
theorem d_W_foundOn_13 : decode method_24_code 13 = .ok (.iconst 1, 1) := by decide +kernel
theorem d_W_foundOn_14 : decode method_24_code 14 = .ok (.ireturn, 1) := by decide +kernel
theorem d_W_foundOn_15 : decode method_24_code 15 = .ok (.astore_n 3, 1) := by decide +kernel
theorem d_W_foundOn_16 : decode method_24_code 16 = .ok (.iconst 2, 1) := by decide +kernel
theorem d_W_foundOn_17 : decode method_24_code 17 = .ok (.ireturn, 1) := by decide +kernel
theorem v_W_foundOn_0 {G : XG} {d : Nat} {h : XH} {Q : XV → XH → Prop} {X : Nat → XH → Prop} {x1 : Int} {X9 : Nat → XH → Prop} (F : xFix h) (hyp : ((xwp G m_B_foundOn (d + 8) 0 [xR 0, xI x1, xZ, xZ] [] h (fun v9 h9 => xwp G m_W_foundOn (d + 9) 7 [xZ, xZ, xZ, xZ] (xpush v9 [xI 0, xR 91]) h9 Q X) X9) ∧ (∀ (k9 : Nat) (h9 : XH), k9 < 3 → X9 k9 h9 → (k9 = 0 → False) ∧ (k9 = 1 → Q (xI 1) h9) ∧ (k9 = 2 → Q (xI 2) h9)))) : xwp G m_W_foundOn (d + 9) 0 [xR 0, xI x1, xR 91, xZ] [] h Q X := by
  have hnx9 : (93 : Int) ≤ xnx h := F.2.2
  refine xr_okL (fun hl9 => ?_)
  have r_x1 : -2147483648 ≤ x1 ∧ x1 ≤ 2147483647 := hl9 (xI x1) (.tail _ (.head _)) (Nat.le_of_ble_eq_true rfl)
  refine xr_aload_n (pc := 0) (i := 2) (hI := d_W_foundOn_0) (hi := rfl) (hl := rfl) ?_
  refine xr_iconst (pc := 1) (hI := d_W_foundOn_1) (hr := by decide) ?_
  refine xr_aload_n (pc := 2) (i := 0) (hI := d_W_foundOn_2) (hi := rfl) (hl := rfl) ?_
  refine xr_iload_n (pc := 3) (i := 1) (hI := d_W_foundOn_3) (hi := rfl) (hl := rfl) ?_
  obtain ⟨hyp, hyz⟩ := hyp
  exact xr_callVH (pc := 4) (index := 85) (K := m_B_foundOn) (As := [xI x1]) (S := [xI 0, xR 91]) (L0 := [xR 0, xI x1, xZ, xZ]) (hI := d_W_foundOn_4) (hcd := k_B_foundOn.1) (hini := k_B_foundOn.2.1) (hlk := w_1489) (hmax := k_B_foundOn.2.2.1) (hnm := k_B_foundOn.2.2.2.1) (hsig := k_B_foundOn.2.2.2.2.1) (hpl := k_B_foundOn.2.2.2.2.2.1) (hnoK := k_B_foundOn.2.2.2.2.2.2) (hS8 := Nat.le_of_ble_eq_true rfl) (ci := 0) (N := 7) (C := "BeaconIndex") (T := xF0) (hc := rfl) (hci := Nat.le_of_ble_eq_true rfl) (htb := (ft_0 F)) (hinst := w_1319) (hsel := w_1320) (hlen := Nat.le_of_ble_eq_true rfl) (hst := rfl) (hL0 := rfl) (X1 := X9)  (xwp_mono hyp (fun v9 h9 q9 => xr_drop (L9 := [xZ, xZ, xZ, xZ]) (xdrz (xdrz (xdrz (xdrs xdr0)))) q9) (fun _ _ z9 => z9)) (fun k9 h9 hk9 hx9 => by
    have z9 := hyz k9 h9 hk9 hx9
    match k9, hk9, z9 with
    | 0, _, z9 => exact (z9.1 rfl).elim
    | 1, _, z9 => exact ⟨12, 1, 3, ⟨[], (0, 9, 12, 13), [(0, 9, 15, 32)], "java/lang/IllegalStateException", rfl, (fun _ hz9 => absurd hz9 List.not_mem_nil), ⟨by decide, by decide⟩, rfl, by decide, w_1341, w_1244⟩, by decide, Or.inl ⟨rfl, (3 : Fin 4), rfl, d_W_foundOn_12⟩, xr_iconst (hI := d_W_foundOn_13) (hr := by decide) (xr_ireturn (S := []) (hI := d_W_foundOn_14) (hr := rfl) (z9.2.1 rfl))⟩
    | 2, _, z9 => exact ⟨15, 1, 3, ⟨[(0, 9, 12, 13)], (0, 9, 15, 32), [], "java/lang/IndexOutOfBoundsException", rfl, (List.forall_mem_cons.mpr ⟨⟨by decide, "java/lang/IllegalStateException", w_1341, List.mem_of_getElem? (i := 3) rfl⟩, (fun _ hz9 => absurd hz9 List.not_mem_nil)⟩), ⟨by decide, by decide⟩, rfl, by decide, w_1407, w_1103⟩, by decide, Or.inl ⟨rfl, (3 : Fin 4), rfl, d_W_foundOn_15⟩, xr_iconst (hI := d_W_foundOn_16) (hr := by decide) (xr_ireturn (S := []) (hI := d_W_foundOn_17) (hr := rfl) (z9.2.2 rfl))⟩)
theorem d_W_foundOn_7 : decode method_24_code 7 = .ok (.i2l, 1) := by decide +kernel
theorem d_W_foundOn_8 : decode method_24_code 8 = .ok (.lastore, 1) := by decide +kernel
theorem d_W_foundOn_9 : decode method_24_code 9 = .ok (.goto 9, 3) := by decide +kernel
theorem d_W_foundOn_18 : decode method_24_code 18 = .ok (.iconst 0, 1) := by decide +kernel
theorem d_W_foundOn_19 : decode method_24_code 19 = .ok (.ireturn, 1) := by decide +kernel
theorem v_W_foundOn_7 {G : XG} {d : Nat} {h : XH} {Q : XV → XH → Prop} {X : Nat → XH → Prop} {s0 s1 s2 : Int} (F : xFix h) (hyp : xtg h s2 = 101 ∧ 0 ≤ s2 ∧ 0 ≤ s1 ∧ s1 < (xln h s2) ∧ (xFix (xst h s2 s1 s0) → Q (xI 0) (xst h s2 s1 s0))) : xwp G m_W_foundOn (d + 9) 7 [xZ, xZ, xZ, xZ] [xI s0, xI s1, xR s2] h Q X := by
  have hnx9 : (93 : Int) ≤ xnx h := F.2.2
  refine xr_okS (fun hs9 => ?_)
  have r_s0 : -2147483648 ≤ s0 ∧ s0 ≤ 2147483647 := hs9 (xI s0) (.head _)
  have r_s1 : -2147483648 ≤ s1 ∧ s1 ≤ 2147483647 := hs9 (xI s1) (.tail _ (.head _))
  refine xr_i2l (pc := 7) (hI := d_W_foundOn_7) ?_
  obtain ⟨c9, hyp⟩ := hyp
  have t1_ := c9
  clear c9
  obtain ⟨c2_, hyp⟩ := hyp
  obtain ⟨c3_, hyp⟩ := hyp
  obtain ⟨c4_, hyp⟩ := hyp
  refine xr_lastore (pc := 8) (hI := d_W_foundOn_8) t1_ c2_ c3_ (xlt_of rfl c4_) ?_
  have F5_ : xFix (xst h s2 s1 s0) := F.stTA (t := 101) c2_ t1_ xta_101
  refine xr_goto (pc := 9) (tgt := 18) (hI := d_W_foundOn_9) (ht := by decide) ?_
  refine xr_iconst (pc := 18) (hI := d_W_foundOn_18) (hr := by decide) ?_
  refine xr_ireturn (S := []) (pc := 19) (hI := d_W_foundOn_19) (hr := rfl) ?_
  exact hyp F5_
-- placeOf
abbrev m_W_placeOf : XM := (⟨"BeaconIndexLaw", "placeOf", "(LBeaconIndex;I[J)I"⟩, method_25_code, 4, (some .int), [(0, 9, 12, 13), (0, 9, 15, 19)])
theorem d_W_placeOf_0 : decode method_25_code 0 = .ok (.aload_n 2, 1) := by decide +kernel
theorem d_W_placeOf_1 : decode method_25_code 1 = .ok (.iconst 0, 1) := by decide +kernel
theorem d_W_placeOf_2 : decode method_25_code 2 = .ok (.aload_n 0, 1) := by decide +kernel
theorem d_W_placeOf_3 : decode method_25_code 3 = .ok (.iload_n 1, 1) := by decide +kernel
theorem d_W_placeOf_4 : decode method_25_code 4 = .ok (.invokevirtual 88, 3) := by decide +kernel
theorem k_B_placeOf : xCal m_B_placeOf 1 := ⟨List.mem_append_right _ (List.mem_of_getElem? (i := 1496) (by decide +kernel)), w_1, Nat.le_of_ble_eq_true rfl, ⟨by decide +kernel, by decide +kernel⟩, by decide +kernel, by decide +kernel, rfl⟩
theorem w_1493 : Cond.methodLink "BeaconIndexLaw" 88 ⟨"BeaconIndex", "placeOf", "(I)I"⟩ ∈ lw_tbl := List.mem_append_right _ (List.mem_of_getElem? (i := 1493) (by decide +kernel))
theorem w_1494 : Cond.instanceMethod ⟨"BeaconIndex", "placeOf", "(I)I"⟩ ∈ lw_tbl := List.mem_append_right _ (List.mem_of_getElem? (i := 1494) (by decide +kernel))
theorem w_1495 : Cond.selects "BeaconIndex" ⟨"BeaconIndex", "placeOf", "(I)I"⟩ ⟨"BeaconIndex", "placeOf", "(I)I"⟩ ∈ lw_tbl := List.mem_append_right _ (List.mem_of_getElem? (i := 1495) (by decide +kernel))
theorem d_W_placeOf_15 : decode method_25_code 15 = .ok (.astore_n 3, 1) := by decide +kernel
theorem d_W_placeOf_16 : decode method_25_code 16 = .ok (.iconst 2, 1) := by decide +kernel
theorem d_W_placeOf_17 : decode method_25_code 17 = .ok (.ireturn, 1) := by decide +kernel
theorem d_W_placeOf_12 : decode method_25_code 12 = .ok (.astore_n 3, 1) := by decide +kernel
theorem d_W_placeOf_13 : decode method_25_code 13 = .ok (.iconst 1, 1) := by decide +kernel
theorem d_W_placeOf_14 : decode method_25_code 14 = .ok (.ireturn, 1) := by decide +kernel
theorem v_W_placeOf_0 {G : XG} {d : Nat} {h : XH} {Q : XV → XH → Prop} {X : Nat → XH → Prop} {x1 : Int} {X9 : Nat → XH → Prop} (F : xFix h) (hyp : ((xwp G m_B_placeOf (d + 8) 0 [xR 0, xI x1, xZ] [] h (fun v9 h9 => xwp G m_W_placeOf (d + 9) 7 [xZ, xZ, xZ, xZ] (xpush v9 [xI 0, xR 91]) h9 Q X) X9) ∧ (∀ (k9 : Nat) (h9 : XH), k9 < 3 → X9 k9 h9 → (k9 = 0 → Q (xI 2) h9) ∧ (k9 = 1 → Q (xI 1) h9) ∧ (k9 = 2 → False)))) : xwp G m_W_placeOf (d + 9) 0 [xR 0, xI x1, xR 91, xZ] [] h Q X := by
  have hnx9 : (93 : Int) ≤ xnx h := F.2.2
  refine xr_okL (fun hl9 => ?_)
  have r_x1 : -2147483648 ≤ x1 ∧ x1 ≤ 2147483647 := hl9 (xI x1) (.tail _ (.head _)) (Nat.le_of_ble_eq_true rfl)
  refine xr_aload_n (pc := 0) (i := 2) (hI := d_W_placeOf_0) (hi := rfl) (hl := rfl) ?_
  refine xr_iconst (pc := 1) (hI := d_W_placeOf_1) (hr := by decide) ?_
  refine xr_aload_n (pc := 2) (i := 0) (hI := d_W_placeOf_2) (hi := rfl) (hl := rfl) ?_
  refine xr_iload_n (pc := 3) (i := 1) (hI := d_W_placeOf_3) (hi := rfl) (hl := rfl) ?_
  obtain ⟨hyp, hyz⟩ := hyp
  exact xr_callVH (pc := 4) (index := 88) (K := m_B_placeOf) (As := [xI x1]) (S := [xI 0, xR 91]) (L0 := [xR 0, xI x1, xZ]) (hI := d_W_placeOf_4) (hcd := k_B_placeOf.1) (hini := k_B_placeOf.2.1) (hlk := w_1493) (hmax := k_B_placeOf.2.2.1) (hnm := k_B_placeOf.2.2.2.1) (hsig := k_B_placeOf.2.2.2.2.1) (hpl := k_B_placeOf.2.2.2.2.2.1) (hnoK := k_B_placeOf.2.2.2.2.2.2) (hS8 := Nat.le_of_ble_eq_true rfl) (ci := 0) (N := 7) (C := "BeaconIndex") (T := xF0) (hc := rfl) (hci := Nat.le_of_ble_eq_true rfl) (htb := (ft_0 F)) (hinst := w_1494) (hsel := w_1495) (hlen := Nat.le_of_ble_eq_true rfl) (hst := rfl) (hL0 := rfl) (X1 := X9)  (xwp_mono hyp (fun v9 h9 q9 => xr_drop (L9 := [xZ, xZ, xZ, xZ]) (xdrz (xdrz (xdrz (xdrs xdr0)))) q9) (fun _ _ z9 => z9)) (fun k9 h9 hk9 hx9 => by
    have z9 := hyz k9 h9 hk9 hx9
    match k9, hk9, z9 with
    | 0, _, z9 => exact ⟨15, 1, 3, ⟨[(0, 9, 12, 13)], (0, 9, 15, 19), [], "java/lang/IllegalArgumentException", rfl, (List.forall_mem_cons.mpr ⟨⟨by decide, "java/lang/IllegalStateException", w_1341, List.mem_of_getElem? (i := 2) rfl⟩, (fun _ hz9 => absurd hz9 List.not_mem_nil)⟩), ⟨by decide, by decide⟩, rfl, by decide, w_1353, w_1297⟩, by decide, Or.inl ⟨rfl, (3 : Fin 4), rfl, d_W_placeOf_15⟩, xr_iconst (hI := d_W_placeOf_16) (hr := by decide) (xr_ireturn (S := []) (hI := d_W_placeOf_17) (hr := rfl) (z9.1 rfl))⟩
    | 1, _, z9 => exact ⟨12, 1, 3, ⟨[], (0, 9, 12, 13), [(0, 9, 15, 19)], "java/lang/IllegalStateException", rfl, (fun _ hz9 => absurd hz9 List.not_mem_nil), ⟨by decide, by decide⟩, rfl, by decide, w_1341, w_1244⟩, by decide, Or.inl ⟨rfl, (3 : Fin 4), rfl, d_W_placeOf_12⟩, xr_iconst (hI := d_W_placeOf_13) (hr := by decide) (xr_ireturn (S := []) (hI := d_W_placeOf_14) (hr := rfl) (z9.2.1 rfl))⟩
    | 2, _, z9 => exact (z9.2.2 rfl).elim)
theorem d_W_placeOf_7 : decode method_25_code 7 = .ok (.i2l, 1) := by decide +kernel
theorem d_W_placeOf_8 : decode method_25_code 8 = .ok (.lastore, 1) := by decide +kernel
theorem d_W_placeOf_9 : decode method_25_code 9 = .ok (.goto 9, 3) := by decide +kernel
theorem d_W_placeOf_18 : decode method_25_code 18 = .ok (.iconst 0, 1) := by decide +kernel
theorem d_W_placeOf_19 : decode method_25_code 19 = .ok (.ireturn, 1) := by decide +kernel
theorem v_W_placeOf_7 {G : XG} {d : Nat} {h : XH} {Q : XV → XH → Prop} {X : Nat → XH → Prop} {s0 s1 s2 : Int} (F : xFix h) (hyp : xtg h s2 = 101 ∧ 0 ≤ s2 ∧ 0 ≤ s1 ∧ s1 < (xln h s2) ∧ (xFix (xst h s2 s1 s0) → Q (xI 0) (xst h s2 s1 s0))) : xwp G m_W_placeOf (d + 9) 7 [xZ, xZ, xZ, xZ] [xI s0, xI s1, xR s2] h Q X := by
  have hnx9 : (93 : Int) ≤ xnx h := F.2.2
  refine xr_okS (fun hs9 => ?_)
  have r_s0 : -2147483648 ≤ s0 ∧ s0 ≤ 2147483647 := hs9 (xI s0) (.head _)
  have r_s1 : -2147483648 ≤ s1 ∧ s1 ≤ 2147483647 := hs9 (xI s1) (.tail _ (.head _))
  refine xr_i2l (pc := 7) (hI := d_W_placeOf_7) ?_
  obtain ⟨c9, hyp⟩ := hyp
  have t1_ := c9
  clear c9
  obtain ⟨c2_, hyp⟩ := hyp
  obtain ⟨c3_, hyp⟩ := hyp
  obtain ⟨c4_, hyp⟩ := hyp
  refine xr_lastore (pc := 8) (hI := d_W_placeOf_8) t1_ c2_ c3_ (xlt_of rfl c4_) ?_
  have F5_ : xFix (xst h s2 s1 s0) := F.stTA (t := 101) c2_ t1_ xta_101
  refine xr_goto (pc := 9) (tgt := 18) (hI := d_W_placeOf_9) (ht := by decide) ?_
  refine xr_iconst (pc := 18) (hI := d_W_placeOf_18) (hr := by decide) ?_
  refine xr_ireturn (S := []) (pc := 19) (hI := d_W_placeOf_19) (hr := rfl) ?_
  exact hyp F5_
-- partWeight
abbrev m_W_partWeight : XM := (⟨"BeaconIndexLaw", "partWeight", "(LBeaconIndex;II[J)I"⟩, method_26_code, 5, (some .int), [(0, 10, 13, 13), (0, 10, 17, 19), (0, 10, 21, 32)])
theorem d_W_partWeight_0 : decode method_26_code 0 = .ok (.aload_n 3, 1) := by decide +kernel
theorem d_W_partWeight_1 : decode method_26_code 1 = .ok (.iconst 0, 1) := by decide +kernel
theorem d_W_partWeight_2 : decode method_26_code 2 = .ok (.aload_n 0, 1) := by decide +kernel
theorem d_W_partWeight_3 : decode method_26_code 3 = .ok (.iload_n 1, 1) := by decide +kernel
theorem d_W_partWeight_4 : decode method_26_code 4 = .ok (.iload_n 2, 1) := by decide +kernel
theorem d_W_partWeight_5 : decode method_26_code 5 = .ok (.invokevirtual 91, 3) := by decide +kernel
theorem k_B_partWeight : xCal m_B_partWeight 2 := ⟨List.mem_append_right _ (List.mem_of_getElem? (i := 1503) (by decide +kernel)), w_1, Nat.le_of_ble_eq_true rfl, ⟨by decide +kernel, by decide +kernel⟩, by decide +kernel, by decide +kernel, rfl⟩
theorem w_1500 : Cond.methodLink "BeaconIndexLaw" 91 ⟨"BeaconIndex", "partWeight", "(II)I"⟩ ∈ lw_tbl := List.mem_append_right _ (List.mem_of_getElem? (i := 1500) (by decide +kernel))
theorem w_1501 : Cond.instanceMethod ⟨"BeaconIndex", "partWeight", "(II)I"⟩ ∈ lw_tbl := List.mem_append_right _ (List.mem_of_getElem? (i := 1501) (by decide +kernel))
theorem w_1502 : Cond.selects "BeaconIndex" ⟨"BeaconIndex", "partWeight", "(II)I"⟩ ⟨"BeaconIndex", "partWeight", "(II)I"⟩ ∈ lw_tbl := List.mem_append_right _ (List.mem_of_getElem? (i := 1502) (by decide +kernel))
theorem d_W_partWeight_17 : decode method_26_code 17 = .ok (.astore 4, 2) := by decide +kernel
theorem d_W_partWeight_19 : decode method_26_code 19 = .ok (.iconst 2, 1) := by decide +kernel
theorem d_W_partWeight_20 : decode method_26_code 20 = .ok (.ireturn, 1) := by decide +kernel
theorem d_W_partWeight_13 : decode method_26_code 13 = .ok (.astore 4, 2) := by decide +kernel
theorem d_W_partWeight_15 : decode method_26_code 15 = .ok (.iconst 1, 1) := by decide +kernel
theorem d_W_partWeight_16 : decode method_26_code 16 = .ok (.ireturn, 1) := by decide +kernel
theorem d_W_partWeight_21 : decode method_26_code 21 = .ok (.astore 4, 2) := by decide +kernel
theorem d_W_partWeight_23 : decode method_26_code 23 = .ok (.iconst 3, 1) := by decide +kernel
theorem d_W_partWeight_24 : decode method_26_code 24 = .ok (.ireturn, 1) := by decide +kernel
theorem v_W_partWeight_0 {G : XG} {d : Nat} {h : XH} {Q : XV → XH → Prop} {X : Nat → XH → Prop} {x1 x2 : Int} {X9 : Nat → XH → Prop} (F : xFix h) (hyp : ((xwp G m_B_partWeight (d + 8) 0 [xR 0, xI x1, xI x2, xZ] [] h (fun v9 h9 => xwp G m_W_partWeight (d + 9) 8 [xZ, xZ, xZ, xZ, xZ] (xpush v9 [xI 0, xR 91]) h9 Q X) X9) ∧ (∀ (k9 : Nat) (h9 : XH), k9 < 3 → X9 k9 h9 → (k9 = 0 → Q (xI 2) h9) ∧ (k9 = 1 → Q (xI 1) h9) ∧ (k9 = 2 → Q (xI 3) h9)))) : xwp G m_W_partWeight (d + 9) 0 [xR 0, xI x1, xI x2, xR 91, xZ] [] h Q X := by
  have hnx9 : (93 : Int) ≤ xnx h := F.2.2
  refine xr_okL (fun hl9 => ?_)
  have r_x1 : -2147483648 ≤ x1 ∧ x1 ≤ 2147483647 := hl9 (xI x1) (.tail _ (.head _)) (Nat.le_of_ble_eq_true rfl)
  have r_x2 : -2147483648 ≤ x2 ∧ x2 ≤ 2147483647 := hl9 (xI x2) (.tail _ (.tail _ (.head _))) (Nat.le_of_ble_eq_true rfl)
  refine xr_aload_n (pc := 0) (i := 3) (hI := d_W_partWeight_0) (hi := rfl) (hl := rfl) ?_
  refine xr_iconst (pc := 1) (hI := d_W_partWeight_1) (hr := by decide) ?_
  refine xr_aload_n (pc := 2) (i := 0) (hI := d_W_partWeight_2) (hi := rfl) (hl := rfl) ?_
  refine xr_iload_n (pc := 3) (i := 1) (hI := d_W_partWeight_3) (hi := rfl) (hl := rfl) ?_
  refine xr_iload_n (pc := 4) (i := 2) (hI := d_W_partWeight_4) (hi := rfl) (hl := rfl) ?_
  obtain ⟨hyp, hyz⟩ := hyp
  exact xr_callVH (pc := 5) (index := 91) (K := m_B_partWeight) (As := [xI x1, xI x2]) (S := [xI 0, xR 91]) (L0 := [xR 0, xI x1, xI x2, xZ]) (hI := d_W_partWeight_5) (hcd := k_B_partWeight.1) (hini := k_B_partWeight.2.1) (hlk := w_1500) (hmax := k_B_partWeight.2.2.1) (hnm := k_B_partWeight.2.2.2.1) (hsig := k_B_partWeight.2.2.2.2.1) (hpl := k_B_partWeight.2.2.2.2.2.1) (hnoK := k_B_partWeight.2.2.2.2.2.2) (hS8 := Nat.le_of_ble_eq_true rfl) (ci := 0) (N := 7) (C := "BeaconIndex") (T := xF0) (hc := rfl) (hci := Nat.le_of_ble_eq_true rfl) (htb := (ft_0 F)) (hinst := w_1501) (hsel := w_1502) (hlen := Nat.le_of_ble_eq_true rfl) (hst := rfl) (hL0 := rfl) (X1 := X9)  (xwp_mono hyp (fun v9 h9 q9 => xr_drop (L9 := [xZ, xZ, xZ, xZ, xZ]) (xdrz (xdrz (xdrz (xdrz (xdrs xdr0))))) q9) (fun _ _ z9 => z9)) (fun k9 h9 hk9 hx9 => by
    have z9 := hyz k9 h9 hk9 hx9
    match k9, hk9, z9 with
    | 0, _, z9 => exact ⟨17, 2, 4, ⟨[(0, 10, 13, 13)], (0, 10, 17, 19), [(0, 10, 21, 32)], "java/lang/IllegalArgumentException", rfl, (List.forall_mem_cons.mpr ⟨⟨by decide, "java/lang/IllegalStateException", w_1341, List.mem_of_getElem? (i := 2) rfl⟩, (fun _ hz9 => absurd hz9 List.not_mem_nil)⟩), ⟨by decide, by decide⟩, rfl, by decide, w_1353, w_1297⟩, by decide, Or.inr ⟨rfl, d_W_partWeight_17⟩, xr_iconst (hI := d_W_partWeight_19) (hr := by decide) (xr_ireturn (S := []) (hI := d_W_partWeight_20) (hr := rfl) (z9.1 rfl))⟩
    | 1, _, z9 => exact ⟨13, 2, 4, ⟨[], (0, 10, 13, 13), [(0, 10, 17, 19), (0, 10, 21, 32)], "java/lang/IllegalStateException", rfl, (fun _ hz9 => absurd hz9 List.not_mem_nil), ⟨by decide, by decide⟩, rfl, by decide, w_1341, w_1244⟩, by decide, Or.inr ⟨rfl, d_W_partWeight_13⟩, xr_iconst (hI := d_W_partWeight_15) (hr := by decide) (xr_ireturn (S := []) (hI := d_W_partWeight_16) (hr := rfl) (z9.2.1 rfl))⟩
    | 2, _, z9 => exact ⟨21, 2, 4, ⟨[(0, 10, 13, 13), (0, 10, 17, 19)], (0, 10, 21, 32), [], "java/lang/IndexOutOfBoundsException", rfl, (List.forall_mem_cons.mpr ⟨⟨by decide, "java/lang/IllegalStateException", w_1341, List.mem_of_getElem? (i := 3) rfl⟩, (List.forall_mem_cons.mpr ⟨⟨by decide, "java/lang/IllegalArgumentException", w_1353, List.mem_of_getElem? (i := 1) rfl⟩, (fun _ hz9 => absurd hz9 List.not_mem_nil)⟩)⟩), ⟨by decide, by decide⟩, rfl, by decide, w_1407, w_1103⟩, by decide, Or.inr ⟨rfl, d_W_partWeight_21⟩, xr_iconst (hI := d_W_partWeight_23) (hr := by decide) (xr_ireturn (S := []) (hI := d_W_partWeight_24) (hr := rfl) (z9.2.2 rfl))⟩)
theorem d_W_partWeight_8 : decode method_26_code 8 = .ok (.i2l, 1) := by decide +kernel
theorem d_W_partWeight_9 : decode method_26_code 9 = .ok (.lastore, 1) := by decide +kernel
theorem d_W_partWeight_10 : decode method_26_code 10 = .ok (.goto 15, 3) := by decide +kernel
theorem d_W_partWeight_25 : decode method_26_code 25 = .ok (.iconst 0, 1) := by decide +kernel
theorem d_W_partWeight_26 : decode method_26_code 26 = .ok (.ireturn, 1) := by decide +kernel
theorem v_W_partWeight_8 {G : XG} {d : Nat} {h : XH} {Q : XV → XH → Prop} {X : Nat → XH → Prop} {s0 s1 s2 : Int} (F : xFix h) (hyp : xtg h s2 = 101 ∧ 0 ≤ s2 ∧ 0 ≤ s1 ∧ s1 < (xln h s2) ∧ (xFix (xst h s2 s1 s0) → Q (xI 0) (xst h s2 s1 s0))) : xwp G m_W_partWeight (d + 9) 8 [xZ, xZ, xZ, xZ, xZ] [xI s0, xI s1, xR s2] h Q X := by
  have hnx9 : (93 : Int) ≤ xnx h := F.2.2
  refine xr_okS (fun hs9 => ?_)
  have r_s0 : -2147483648 ≤ s0 ∧ s0 ≤ 2147483647 := hs9 (xI s0) (.head _)
  have r_s1 : -2147483648 ≤ s1 ∧ s1 ≤ 2147483647 := hs9 (xI s1) (.tail _ (.head _))
  refine xr_i2l (pc := 8) (hI := d_W_partWeight_8) ?_
  obtain ⟨c9, hyp⟩ := hyp
  have t1_ := c9
  clear c9
  obtain ⟨c2_, hyp⟩ := hyp
  obtain ⟨c3_, hyp⟩ := hyp
  obtain ⟨c4_, hyp⟩ := hyp
  refine xr_lastore (pc := 9) (hI := d_W_partWeight_9) t1_ c2_ c3_ (xlt_of rfl c4_) ?_
  have F5_ : xFix (xst h s2 s1 s0) := F.stTA (t := 101) c2_ t1_ xta_101
  refine xr_goto (pc := 10) (tgt := 25) (hI := d_W_partWeight_10) (ht := by decide) ?_
  refine xr_iconst (pc := 25) (hI := d_W_partWeight_25) (hr := by decide) ?_
  refine xr_ireturn (S := []) (pc := 26) (hI := d_W_partWeight_26) (hr := rfl) ?_
  exact hyp F5_
-- foundWithout
abbrev m_W_foundWithout : XM := (⟨"BeaconIndexLaw", "foundWithout", "(LBeaconIndex;I[J)I"⟩, method_27_code, 4, (some .int), [(0, 9, 12, 13), (0, 9, 15, 32)])
theorem d_W_foundWithout_0 : decode method_27_code 0 = .ok (.aload_n 2, 1) := by decide +kernel
theorem d_W_foundWithout_1 : decode method_27_code 1 = .ok (.iconst 0, 1) := by decide +kernel
theorem d_W_foundWithout_2 : decode method_27_code 2 = .ok (.aload_n 0, 1) := by decide +kernel
theorem d_W_foundWithout_3 : decode method_27_code 3 = .ok (.iload_n 1, 1) := by decide +kernel
theorem d_W_foundWithout_4 : decode method_27_code 4 = .ok (.invokevirtual 94, 3) := by decide +kernel
theorem w_1512 : Cond.methodLink "BeaconIndexLaw" 94 ⟨"BeaconIndex", "foundWithout", "(I)I"⟩ ∈ lw_tbl := List.mem_append_right _ (List.mem_of_getElem? (i := 1512) (by decide +kernel))
theorem d_W_foundWithout_12 : decode method_27_code 12 = .ok (.astore_n 3, 1) := by decide +kernel
theorem d_W_foundWithout_13 : decode method_27_code 13 = .ok (.iconst 1, 1) := by decide +kernel
theorem d_W_foundWithout_14 : decode method_27_code 14 = .ok (.ireturn, 1) := by decide +kernel
theorem d_W_foundWithout_15 : decode method_27_code 15 = .ok (.astore_n 3, 1) := by decide +kernel
theorem d_W_foundWithout_16 : decode method_27_code 16 = .ok (.iconst 2, 1) := by decide +kernel
theorem d_W_foundWithout_17 : decode method_27_code 17 = .ok (.ireturn, 1) := by decide +kernel
theorem v_W_foundWithout_0 {G : XG} {d : Nat} {h : XH} {Q : XV → XH → Prop} {X : Nat → XH → Prop} {x1 : Int} {X9 : Nat → XH → Prop} (F : xFix h) (hyp : ((xwp G m_B_foundWithout (d + 8) 0 [xR 0, xI x1] [] h (fun v9 h9 => xwp G m_W_foundWithout (d + 9) 7 [xZ, xZ, xZ, xZ] (xpush v9 [xI 0, xR 91]) h9 Q X) X9) ∧ (∀ (k9 : Nat) (h9 : XH), k9 < 3 → X9 k9 h9 → (k9 = 0 → False) ∧ (k9 = 1 → Q (xI 1) h9) ∧ (k9 = 2 → Q (xI 2) h9)))) : xwp G m_W_foundWithout (d + 9) 0 [xR 0, xI x1, xR 91, xZ] [] h Q X := by
  have hnx9 : (93 : Int) ≤ xnx h := F.2.2
  refine xr_okL (fun hl9 => ?_)
  have r_x1 : -2147483648 ≤ x1 ∧ x1 ≤ 2147483647 := hl9 (xI x1) (.tail _ (.head _)) (Nat.le_of_ble_eq_true rfl)
  refine xr_aload_n (pc := 0) (i := 2) (hI := d_W_foundWithout_0) (hi := rfl) (hl := rfl) ?_
  refine xr_iconst (pc := 1) (hI := d_W_foundWithout_1) (hr := by decide) ?_
  refine xr_aload_n (pc := 2) (i := 0) (hI := d_W_foundWithout_2) (hi := rfl) (hl := rfl) ?_
  refine xr_iload_n (pc := 3) (i := 1) (hI := d_W_foundWithout_3) (hi := rfl) (hl := rfl) ?_
  obtain ⟨hyp, hyz⟩ := hyp
  exact xr_callVH (pc := 4) (index := 94) (K := m_B_foundWithout) (As := [xI x1]) (S := [xI 0, xR 91]) (L0 := [xR 0, xI x1]) (hI := d_W_foundWithout_4) (hcd := k_B_foundWithout.1) (hini := k_B_foundWithout.2.1) (hlk := w_1512) (hmax := k_B_foundWithout.2.2.1) (hnm := k_B_foundWithout.2.2.2.1) (hsig := k_B_foundWithout.2.2.2.2.1) (hpl := k_B_foundWithout.2.2.2.2.2.1) (hnoK := k_B_foundWithout.2.2.2.2.2.2) (hS8 := Nat.le_of_ble_eq_true rfl) (ci := 0) (N := 7) (C := "BeaconIndex") (T := xF0) (hc := rfl) (hci := Nat.le_of_ble_eq_true rfl) (htb := (ft_0 F)) (hinst := w_1323) (hsel := w_1324) (hlen := Nat.le_of_ble_eq_true rfl) (hst := rfl) (hL0 := rfl) (X1 := X9)  (xwp_mono hyp (fun v9 h9 q9 => xr_drop (L9 := [xZ, xZ, xZ, xZ]) (xdrz (xdrz (xdrz (xdrs xdr0)))) q9) (fun _ _ z9 => z9)) (fun k9 h9 hk9 hx9 => by
    have z9 := hyz k9 h9 hk9 hx9
    match k9, hk9, z9 with
    | 0, _, z9 => exact (z9.1 rfl).elim
    | 1, _, z9 => exact ⟨12, 1, 3, ⟨[], (0, 9, 12, 13), [(0, 9, 15, 32)], "java/lang/IllegalStateException", rfl, (fun _ hz9 => absurd hz9 List.not_mem_nil), ⟨by decide, by decide⟩, rfl, by decide, w_1341, w_1244⟩, by decide, Or.inl ⟨rfl, (3 : Fin 4), rfl, d_W_foundWithout_12⟩, xr_iconst (hI := d_W_foundWithout_13) (hr := by decide) (xr_ireturn (S := []) (hI := d_W_foundWithout_14) (hr := rfl) (z9.2.1 rfl))⟩
    | 2, _, z9 => exact ⟨15, 1, 3, ⟨[(0, 9, 12, 13)], (0, 9, 15, 32), [], "java/lang/IndexOutOfBoundsException", rfl, (List.forall_mem_cons.mpr ⟨⟨by decide, "java/lang/IllegalStateException", w_1341, List.mem_of_getElem? (i := 3) rfl⟩, (fun _ hz9 => absurd hz9 List.not_mem_nil)⟩), ⟨by decide, by decide⟩, rfl, by decide, w_1407, w_1103⟩, by decide, Or.inl ⟨rfl, (3 : Fin 4), rfl, d_W_foundWithout_15⟩, xr_iconst (hI := d_W_foundWithout_16) (hr := by decide) (xr_ireturn (S := []) (hI := d_W_foundWithout_17) (hr := rfl) (z9.2.2 rfl))⟩)
theorem d_W_foundWithout_7 : decode method_27_code 7 = .ok (.i2l, 1) := by decide +kernel
theorem d_W_foundWithout_8 : decode method_27_code 8 = .ok (.lastore, 1) := by decide +kernel
theorem d_W_foundWithout_9 : decode method_27_code 9 = .ok (.goto 9, 3) := by decide +kernel
theorem d_W_foundWithout_18 : decode method_27_code 18 = .ok (.iconst 0, 1) := by decide +kernel
theorem d_W_foundWithout_19 : decode method_27_code 19 = .ok (.ireturn, 1) := by decide +kernel
theorem v_W_foundWithout_7 {G : XG} {d : Nat} {h : XH} {Q : XV → XH → Prop} {X : Nat → XH → Prop} {s0 s1 s2 : Int} (F : xFix h) (hyp : xtg h s2 = 101 ∧ 0 ≤ s2 ∧ 0 ≤ s1 ∧ s1 < (xln h s2) ∧ (xFix (xst h s2 s1 s0) → Q (xI 0) (xst h s2 s1 s0))) : xwp G m_W_foundWithout (d + 9) 7 [xZ, xZ, xZ, xZ] [xI s0, xI s1, xR s2] h Q X := by
  have hnx9 : (93 : Int) ≤ xnx h := F.2.2
  refine xr_okS (fun hs9 => ?_)
  have r_s0 : -2147483648 ≤ s0 ∧ s0 ≤ 2147483647 := hs9 (xI s0) (.head _)
  have r_s1 : -2147483648 ≤ s1 ∧ s1 ≤ 2147483647 := hs9 (xI s1) (.tail _ (.head _))
  refine xr_i2l (pc := 7) (hI := d_W_foundWithout_7) ?_
  obtain ⟨c9, hyp⟩ := hyp
  have t1_ := c9
  clear c9
  obtain ⟨c2_, hyp⟩ := hyp
  obtain ⟨c3_, hyp⟩ := hyp
  obtain ⟨c4_, hyp⟩ := hyp
  refine xr_lastore (pc := 8) (hI := d_W_foundWithout_8) t1_ c2_ c3_ (xlt_of rfl c4_) ?_
  have F5_ : xFix (xst h s2 s1 s0) := F.stTA (t := 101) c2_ t1_ xta_101
  refine xr_goto (pc := 9) (tgt := 18) (hI := d_W_foundWithout_9) (ht := by decide) ?_
  refine xr_iconst (pc := 18) (hI := d_W_foundWithout_18) (hr := by decide) ?_
  refine xr_ireturn (S := []) (pc := 19) (hI := d_W_foundWithout_19) (hr := rfl) ?_
  exact hyp F5_
-- firstFit
abbrev m_W_firstFit : XM := (⟨"BeaconIndexLaw", "firstFit", "(LBeaconIndex;II[J)I"⟩, method_28_code, 5, (some .int), [(0, 10, 13, 13), (0, 10, 17, 19), (0, 10, 21, 32)])
theorem d_W_firstFit_0 : decode method_28_code 0 = .ok (.aload_n 3, 1) := by decide +kernel
theorem d_W_firstFit_1 : decode method_28_code 1 = .ok (.iconst 0, 1) := by decide +kernel
theorem d_W_firstFit_2 : decode method_28_code 2 = .ok (.aload_n 0, 1) := by decide +kernel
theorem d_W_firstFit_3 : decode method_28_code 3 = .ok (.iload_n 1, 1) := by decide +kernel
theorem d_W_firstFit_4 : decode method_28_code 4 = .ok (.iload_n 2, 1) := by decide +kernel
theorem d_W_firstFit_5 : decode method_28_code 5 = .ok (.invokevirtual 97, 3) := by decide +kernel
theorem w_1516 : Cond.methodLink "BeaconIndexLaw" 97 ⟨"BeaconIndex", "firstFit", "(II)I"⟩ ∈ lw_tbl := List.mem_append_right _ (List.mem_of_getElem? (i := 1516) (by decide +kernel))
theorem d_W_firstFit_17 : decode method_28_code 17 = .ok (.astore 4, 2) := by decide +kernel
theorem d_W_firstFit_19 : decode method_28_code 19 = .ok (.iconst 2, 1) := by decide +kernel
theorem d_W_firstFit_20 : decode method_28_code 20 = .ok (.ireturn, 1) := by decide +kernel
theorem d_W_firstFit_13 : decode method_28_code 13 = .ok (.astore 4, 2) := by decide +kernel
theorem d_W_firstFit_15 : decode method_28_code 15 = .ok (.iconst 1, 1) := by decide +kernel
theorem d_W_firstFit_16 : decode method_28_code 16 = .ok (.ireturn, 1) := by decide +kernel
theorem d_W_firstFit_21 : decode method_28_code 21 = .ok (.astore 4, 2) := by decide +kernel
theorem d_W_firstFit_23 : decode method_28_code 23 = .ok (.iconst 3, 1) := by decide +kernel
theorem d_W_firstFit_24 : decode method_28_code 24 = .ok (.ireturn, 1) := by decide +kernel
theorem v_W_firstFit_0 {G : XG} {d : Nat} {h : XH} {Q : XV → XH → Prop} {X : Nat → XH → Prop} {x1 x2 : Int} {X9 : Nat → XH → Prop} (F : xFix h) (hyp : ((xwp G m_B_firstFit (d + 8) 0 [xR 0, xI x1, xI x2, xZ] [] h (fun v9 h9 => xwp G m_W_firstFit (d + 9) 8 [xZ, xZ, xZ, xZ, xZ] (xpush v9 [xI 0, xR 91]) h9 Q X) X9) ∧ (∀ (k9 : Nat) (h9 : XH), k9 < 3 → X9 k9 h9 → (k9 = 0 → Q (xI 2) h9) ∧ (k9 = 1 → Q (xI 1) h9) ∧ (k9 = 2 → Q (xI 3) h9)))) : xwp G m_W_firstFit (d + 9) 0 [xR 0, xI x1, xI x2, xR 91, xZ] [] h Q X := by
  have hnx9 : (93 : Int) ≤ xnx h := F.2.2
  refine xr_okL (fun hl9 => ?_)
  have r_x1 : -2147483648 ≤ x1 ∧ x1 ≤ 2147483647 := hl9 (xI x1) (.tail _ (.head _)) (Nat.le_of_ble_eq_true rfl)
  have r_x2 : -2147483648 ≤ x2 ∧ x2 ≤ 2147483647 := hl9 (xI x2) (.tail _ (.tail _ (.head _))) (Nat.le_of_ble_eq_true rfl)
  refine xr_aload_n (pc := 0) (i := 3) (hI := d_W_firstFit_0) (hi := rfl) (hl := rfl) ?_
  refine xr_iconst (pc := 1) (hI := d_W_firstFit_1) (hr := by decide) ?_
  refine xr_aload_n (pc := 2) (i := 0) (hI := d_W_firstFit_2) (hi := rfl) (hl := rfl) ?_
  refine xr_iload_n (pc := 3) (i := 1) (hI := d_W_firstFit_3) (hi := rfl) (hl := rfl) ?_
  refine xr_iload_n (pc := 4) (i := 2) (hI := d_W_firstFit_4) (hi := rfl) (hl := rfl) ?_
  obtain ⟨hyp, hyz⟩ := hyp
  exact xr_callVH (pc := 5) (index := 97) (K := m_B_firstFit) (As := [xI x1, xI x2]) (S := [xI 0, xR 91]) (L0 := [xR 0, xI x1, xI x2, xZ]) (hI := d_W_firstFit_5) (hcd := k_B_firstFit.1) (hini := k_B_firstFit.2.1) (hlk := w_1516) (hmax := k_B_firstFit.2.2.1) (hnm := k_B_firstFit.2.2.2.1) (hsig := k_B_firstFit.2.2.2.2.1) (hpl := k_B_firstFit.2.2.2.2.2.1) (hnoK := k_B_firstFit.2.2.2.2.2.2) (hS8 := Nat.le_of_ble_eq_true rfl) (ci := 0) (N := 7) (C := "BeaconIndex") (T := xF0) (hc := rfl) (hci := Nat.le_of_ble_eq_true rfl) (htb := (ft_0 F)) (hinst := w_1289) (hsel := w_1290) (hlen := Nat.le_of_ble_eq_true rfl) (hst := rfl) (hL0 := rfl) (X1 := X9)  (xwp_mono hyp (fun v9 h9 q9 => xr_drop (L9 := [xZ, xZ, xZ, xZ, xZ]) (xdrz (xdrz (xdrz (xdrz (xdrs xdr0))))) q9) (fun _ _ z9 => z9)) (fun k9 h9 hk9 hx9 => by
    have z9 := hyz k9 h9 hk9 hx9
    match k9, hk9, z9 with
    | 0, _, z9 => exact ⟨17, 2, 4, ⟨[(0, 10, 13, 13)], (0, 10, 17, 19), [(0, 10, 21, 32)], "java/lang/IllegalArgumentException", rfl, (List.forall_mem_cons.mpr ⟨⟨by decide, "java/lang/IllegalStateException", w_1341, List.mem_of_getElem? (i := 2) rfl⟩, (fun _ hz9 => absurd hz9 List.not_mem_nil)⟩), ⟨by decide, by decide⟩, rfl, by decide, w_1353, w_1297⟩, by decide, Or.inr ⟨rfl, d_W_firstFit_17⟩, xr_iconst (hI := d_W_firstFit_19) (hr := by decide) (xr_ireturn (S := []) (hI := d_W_firstFit_20) (hr := rfl) (z9.1 rfl))⟩
    | 1, _, z9 => exact ⟨13, 2, 4, ⟨[], (0, 10, 13, 13), [(0, 10, 17, 19), (0, 10, 21, 32)], "java/lang/IllegalStateException", rfl, (fun _ hz9 => absurd hz9 List.not_mem_nil), ⟨by decide, by decide⟩, rfl, by decide, w_1341, w_1244⟩, by decide, Or.inr ⟨rfl, d_W_firstFit_13⟩, xr_iconst (hI := d_W_firstFit_15) (hr := by decide) (xr_ireturn (S := []) (hI := d_W_firstFit_16) (hr := rfl) (z9.2.1 rfl))⟩
    | 2, _, z9 => exact ⟨21, 2, 4, ⟨[(0, 10, 13, 13), (0, 10, 17, 19)], (0, 10, 21, 32), [], "java/lang/IndexOutOfBoundsException", rfl, (List.forall_mem_cons.mpr ⟨⟨by decide, "java/lang/IllegalStateException", w_1341, List.mem_of_getElem? (i := 3) rfl⟩, (List.forall_mem_cons.mpr ⟨⟨by decide, "java/lang/IllegalArgumentException", w_1353, List.mem_of_getElem? (i := 1) rfl⟩, (fun _ hz9 => absurd hz9 List.not_mem_nil)⟩)⟩), ⟨by decide, by decide⟩, rfl, by decide, w_1407, w_1103⟩, by decide, Or.inr ⟨rfl, d_W_firstFit_21⟩, xr_iconst (hI := d_W_firstFit_23) (hr := by decide) (xr_ireturn (S := []) (hI := d_W_firstFit_24) (hr := rfl) (z9.2.2 rfl))⟩)
theorem d_W_firstFit_8 : decode method_28_code 8 = .ok (.i2l, 1) := by decide +kernel
theorem d_W_firstFit_9 : decode method_28_code 9 = .ok (.lastore, 1) := by decide +kernel
theorem d_W_firstFit_10 : decode method_28_code 10 = .ok (.goto 15, 3) := by decide +kernel
theorem d_W_firstFit_25 : decode method_28_code 25 = .ok (.iconst 0, 1) := by decide +kernel
theorem d_W_firstFit_26 : decode method_28_code 26 = .ok (.ireturn, 1) := by decide +kernel
theorem v_W_firstFit_8 {G : XG} {d : Nat} {h : XH} {Q : XV → XH → Prop} {X : Nat → XH → Prop} {s0 s1 s2 : Int} (F : xFix h) (hyp : xtg h s2 = 101 ∧ 0 ≤ s2 ∧ 0 ≤ s1 ∧ s1 < (xln h s2) ∧ (xFix (xst h s2 s1 s0) → Q (xI 0) (xst h s2 s1 s0))) : xwp G m_W_firstFit (d + 9) 8 [xZ, xZ, xZ, xZ, xZ] [xI s0, xI s1, xR s2] h Q X := by
  have hnx9 : (93 : Int) ≤ xnx h := F.2.2
  refine xr_okS (fun hs9 => ?_)
  have r_s0 : -2147483648 ≤ s0 ∧ s0 ≤ 2147483647 := hs9 (xI s0) (.head _)
  have r_s1 : -2147483648 ≤ s1 ∧ s1 ≤ 2147483647 := hs9 (xI s1) (.tail _ (.head _))
  refine xr_i2l (pc := 8) (hI := d_W_firstFit_8) ?_
  obtain ⟨c9, hyp⟩ := hyp
  have t1_ := c9
  clear c9
  obtain ⟨c2_, hyp⟩ := hyp
  obtain ⟨c3_, hyp⟩ := hyp
  obtain ⟨c4_, hyp⟩ := hyp
  refine xr_lastore (pc := 9) (hI := d_W_firstFit_9) t1_ c2_ c3_ (xlt_of rfl c4_) ?_
  have F5_ : xFix (xst h s2 s1 s0) := F.stTA (t := 101) c2_ t1_ xta_101
  refine xr_goto (pc := 10) (tgt := 25) (hI := d_W_firstFit_10) (ht := by decide) ?_
  refine xr_iconst (pc := 25) (hI := d_W_firstFit_25) (hr := by decide) ?_
  refine xr_ireturn (S := []) (pc := 26) (hI := d_W_firstFit_26) (hr := rfl) ?_
  exact hyp F5_
-- meanWeight
abbrev m_W_meanWeight : XM := (⟨"BeaconIndexLaw", "meanWeight", "(LBeaconIndex;[D)I"⟩, method_29_code, 3, (some .int), [(0, 7, 10, 13)])
theorem d_W_meanWeight_0 : decode method_29_code 0 = .ok (.aload_n 1, 1) := by decide +kernel
theorem d_W_meanWeight_1 : decode method_29_code 1 = .ok (.iconst 0, 1) := by decide +kernel
theorem d_W_meanWeight_2 : decode method_29_code 2 = .ok (.aload_n 0, 1) := by decide +kernel
theorem d_W_meanWeight_3 : decode method_29_code 3 = .ok (.invokevirtual 100, 3) := by decide +kernel
theorem k_B_meanWeight : xCal m_B_meanWeight 0 := ⟨List.mem_append_right _ (List.mem_of_getElem? (i := 1523) (by decide +kernel)), w_1, Nat.le_of_ble_eq_true rfl, ⟨by decide +kernel, by decide +kernel⟩, by decide +kernel, by decide +kernel, rfl⟩
theorem w_1520 : Cond.methodLink "BeaconIndexLaw" 100 ⟨"BeaconIndex", "meanWeight", "()D"⟩ ∈ lw_tbl := List.mem_append_right _ (List.mem_of_getElem? (i := 1520) (by decide +kernel))
theorem w_1521 : Cond.instanceMethod ⟨"BeaconIndex", "meanWeight", "()D"⟩ ∈ lw_tbl := List.mem_append_right _ (List.mem_of_getElem? (i := 1521) (by decide +kernel))
theorem w_1522 : Cond.selects "BeaconIndex" ⟨"BeaconIndex", "meanWeight", "()D"⟩ ⟨"BeaconIndex", "meanWeight", "()D"⟩ ∈ lw_tbl := List.mem_append_right _ (List.mem_of_getElem? (i := 1522) (by decide +kernel))
theorem d_W_meanWeight_10 : decode method_29_code 10 = .ok (.astore_n 2, 1) := by decide +kernel
theorem d_W_meanWeight_11 : decode method_29_code 11 = .ok (.iconst 1, 1) := by decide +kernel
theorem d_W_meanWeight_12 : decode method_29_code 12 = .ok (.ireturn, 1) := by decide +kernel
theorem v_W_meanWeight_0 {G : XG} {d : Nat} {h : XH} {Q : XV → XH → Prop} {X : Nat → XH → Prop} {X9 : Nat → XH → Prop} (F : xFix h) (hyp : ((xwp G m_B_meanWeight (d + 8) 0 [xR 0, xZ, xZ, xZ] [] h (fun v9 h9 => xwp G m_W_meanWeight (d + 9) 6 [xZ, xZ, xZ] (xpush v9 [xI 0, xR 92]) h9 Q X) X9) ∧ (∀ (k9 : Nat) (h9 : XH), k9 < 3 → X9 k9 h9 → (k9 = 0 → False) ∧ (k9 = 1 → Q (xI 1) h9) ∧ (k9 = 2 → False)))) : xwp G m_W_meanWeight (d + 9) 0 [xR 0, xR 92, xZ] [] h Q X := by
  have hnx9 : (93 : Int) ≤ xnx h := F.2.2
  refine xr_aload_n (pc := 0) (i := 1) (hI := d_W_meanWeight_0) (hi := rfl) (hl := rfl) ?_
  refine xr_iconst (pc := 1) (hI := d_W_meanWeight_1) (hr := by decide) ?_
  refine xr_aload_n (pc := 2) (i := 0) (hI := d_W_meanWeight_2) (hi := rfl) (hl := rfl) ?_
  obtain ⟨hyp, hyz⟩ := hyp
  exact xr_callVH (pc := 3) (index := 100) (K := m_B_meanWeight) (As := []) (S := [xI 0, xR 92]) (L0 := [xR 0, xZ, xZ, xZ]) (hI := d_W_meanWeight_3) (hcd := k_B_meanWeight.1) (hini := k_B_meanWeight.2.1) (hlk := w_1520) (hmax := k_B_meanWeight.2.2.1) (hnm := k_B_meanWeight.2.2.2.1) (hsig := k_B_meanWeight.2.2.2.2.1) (hpl := k_B_meanWeight.2.2.2.2.2.1) (hnoK := k_B_meanWeight.2.2.2.2.2.2) (hS8 := Nat.le_of_ble_eq_true rfl) (ci := 0) (N := 7) (C := "BeaconIndex") (T := xF0) (hc := rfl) (hci := Nat.le_of_ble_eq_true rfl) (htb := (ft_0 F)) (hinst := w_1521) (hsel := w_1522) (hlen := Nat.le_of_ble_eq_true rfl) (hst := rfl) (hL0 := rfl) (X1 := X9)  (xwp_mono hyp (fun v9 h9 q9 => xr_drop (L9 := [xZ, xZ, xZ]) (xdrz (xdrz (xdrs xdr0))) q9) (fun _ _ z9 => z9)) (fun k9 h9 hk9 hx9 => by
    have z9 := hyz k9 h9 hk9 hx9
    match k9, hk9, z9 with
    | 0, _, z9 => exact (z9.1 rfl).elim
    | 1, _, z9 => exact ⟨10, 1, 2, ⟨[], (0, 7, 10, 13), [], "java/lang/IllegalStateException", rfl, (fun _ hz9 => absurd hz9 List.not_mem_nil), ⟨by decide, by decide⟩, rfl, by decide, w_1341, w_1244⟩, by decide, Or.inl ⟨rfl, (2 : Fin 4), rfl, d_W_meanWeight_10⟩, xr_iconst (hI := d_W_meanWeight_11) (hr := by decide) (xr_ireturn (S := []) (hI := d_W_meanWeight_12) (hr := rfl) (z9.2.1 rfl))⟩
    | 2, _, z9 => exact (z9.2.2 rfl).elim)
theorem d_W_meanWeight_6 : decode method_29_code 6 = .ok (.dastore, 1) := by decide +kernel
theorem xta_105 : xfTA 105 = true := by decide +kernel
theorem d_W_meanWeight_7 : decode method_29_code 7 = .ok (.goto 6, 3) := by decide +kernel
theorem d_W_meanWeight_13 : decode method_29_code 13 = .ok (.iconst 0, 1) := by decide +kernel
theorem d_W_meanWeight_14 : decode method_29_code 14 = .ok (.ireturn, 1) := by decide +kernel
theorem v_W_meanWeight_6 {G : XG} {d : Nat} {h : XH} {Q : XV → XH → Prop} {X : Nat → XH → Prop} {s0 s1 s2 : Int} (F : xFix h) (hyp : xtg h s2 = 105 ∧ 0 ≤ s2 ∧ 0 ≤ s1 ∧ s1 < (xln h s2) ∧ (xFix (xst h s2 s1 s0) → Q (xI 0) (xst h s2 s1 s0))) : xwp G m_W_meanWeight (d + 9) 6 [xZ, xZ, xZ] [xD s0, xI s1, xR s2] h Q X := by
  have hnx9 : (93 : Int) ≤ xnx h := F.2.2
  refine xr_okS (fun hs9 => ?_)
  have r_s1 : -2147483648 ≤ s1 ∧ s1 ≤ 2147483647 := hs9 (xI s1) (.tail _ (.head _))
  obtain ⟨c9, hyp⟩ := hyp
  have t1_ := c9
  clear c9
  obtain ⟨c2_, hyp⟩ := hyp
  obtain ⟨c3_, hyp⟩ := hyp
  obtain ⟨c4_, hyp⟩ := hyp
  refine xr_dastore (pc := 6) (hI := d_W_meanWeight_6) t1_ c2_ c3_ (xlt_of rfl c4_) ?_
  have F5_ : xFix (xst h s2 s1 s0) := F.stTA (t := 105) c2_ t1_ xta_105
  refine xr_goto (pc := 7) (tgt := 13) (hI := d_W_meanWeight_7) (ht := by decide) ?_
  refine xr_iconst (pc := 13) (hI := d_W_meanWeight_13) (hr := by decide) ?_
  refine xr_ireturn (S := []) (pc := 14) (hI := d_W_meanWeight_14) (hr := rfl) ?_
  exact hyp F5_

end
