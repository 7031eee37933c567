/-! ===== mopvc2 ===== -/
section
abbrev m_M_feed : XM := (⟨"BeaconIndexModel", "feed", "(IIIII)I"⟩, prog_14_method_75_code, 8, (some .int), [])
theorem d_M_feed_0 : decode prog_14_method_75_code 0 = .ok (.aload_n 0, 1) := by decide +kernel
theorem d_M_feed_1 : decode prog_14_method_75_code 1 = .ok (.iconst 0, 1) := by decide +kernel
theorem d_M_feed_2 : decode prog_14_method_75_code 2 = .ok (.putfield 97, 3) := by decide +kernel
theorem d_M_feed_5 : decode prog_14_method_75_code 5 = .ok (.aload_n 0, 1) := by decide +kernel
theorem d_M_feed_6 : decode prog_14_method_75_code 6 = .ok (.getfield 105, 3) := by decide +kernel
theorem d_M_feed_9 : decode prog_14_method_75_code 9 = .ok (.sipush 380, 3) := by decide +kernel
theorem d_M_feed_12 : decode prog_14_method_75_code 12 = .ok (.if_icmp .le 9, 3) := by decide +kernel
theorem d_M_feed_21 : decode prog_14_method_75_code 21 = .ok (.iconst 5, 1) := by decide +kernel
theorem d_M_feed_22 : decode prog_14_method_75_code 22 = .ok (.newarray .int, 2) := by decide +kernel
theorem d_M_feed_24 : decode prog_14_method_75_code 24 = .ok (.dup, 1) := by decide +kernel
theorem d_M_feed_25 : decode prog_14_method_75_code 25 = .ok (.iconst 0, 1) := by decide +kernel
theorem d_M_feed_26 : decode prog_14_method_75_code 26 = .ok (.iload_n 1, 1) := by decide +kernel
theorem d_M_feed_27 : decode prog_14_method_75_code 27 = .ok (.iastore, 1) := by decide +kernel
theorem d_M_feed_28 : decode prog_14_method_75_code 28 = .ok (.dup, 1) := by decide +kernel
theorem d_M_feed_29 : decode prog_14_method_75_code 29 = .ok (.iconst 1, 1) := by decide +kernel
theorem d_M_feed_30 : decode prog_14_method_75_code 30 = .ok (.iload_n 2, 1) := by decide +kernel
theorem d_M_feed_31 : decode prog_14_method_75_code 31 = .ok (.iastore, 1) := by decide +kernel
theorem d_M_feed_32 : decode prog_14_method_75_code 32 = .ok (.dup, 1) := by decide +kernel
theorem d_M_feed_33 : decode prog_14_method_75_code 33 = .ok (.iconst 2, 1) := by decide +kernel
theorem d_M_feed_34 : decode prog_14_method_75_code 34 = .ok (.iload_n 3, 1) := by decide +kernel
theorem d_M_feed_35 : decode prog_14_method_75_code 35 = .ok (.iastore, 1) := by decide +kernel
theorem d_M_feed_36 : decode prog_14_method_75_code 36 = .ok (.dup, 1) := by decide +kernel
theorem d_M_feed_37 : decode prog_14_method_75_code 37 = .ok (.iconst 3, 1) := by decide +kernel
theorem d_M_feed_38 : decode prog_14_method_75_code 38 = .ok (.iload 4, 2) := by decide +kernel
theorem d_M_feed_40 : decode prog_14_method_75_code 40 = .ok (.iastore, 1) := by decide +kernel
theorem d_M_feed_41 : decode prog_14_method_75_code 41 = .ok (.dup, 1) := by decide +kernel
theorem d_M_feed_42 : decode prog_14_method_75_code 42 = .ok (.iconst 4, 1) := by decide +kernel
theorem d_M_feed_43 : decode prog_14_method_75_code 43 = .ok (.iload 5, 2) := by decide +kernel
theorem d_M_feed_45 : decode prog_14_method_75_code 45 = .ok (.iastore, 1) := by decide +kernel
theorem d_M_feed_46 : decode prog_14_method_75_code 46 = .ok (.astore 6, 2) := by decide +kernel
theorem d_M_feed_48 : decode prog_14_method_75_code 48 = .ok (.iconst 0, 1) := by decide +kernel
theorem d_M_feed_49 : decode prog_14_method_75_code 49 = .ok (.istore 7, 2) := by decide +kernel
theorem d_M_feed_15 : decode prog_14_method_75_code 15 = .ok (.aload_n 0, 1) := by decide +kernel
theorem d_M_feed_16 : decode prog_14_method_75_code 16 = .ok (.iconst 1, 1) := by decide +kernel
theorem d_M_feed_17 : decode prog_14_method_75_code 17 = .ok (.invokevirtual 395, 3) := by decide +kernel
theorem d_M_feed_20 : decode prog_14_method_75_code 20 = .ok (.ireturn, 1) := by decide +kernel
theorem v_M_feed_0 {G : XG} {d : Nat} {h : XH} {Q : XV → XH → Prop} {X : Nat → XH → Prop} {x1 x2 x3 x4 x5 : Int} (F : xFix h) (hyp : (((xpl h 53 2) ≤ 380 → xnx (xst h 53 0 0) + 1 ≤ xKC ∧ xsl (xst h 53 0 0) + 5 ≤ xKS ∧ (xFix (xst (xst (xst (xst (xst (xmk (xst h 53 0 0) 100 5 (fun _ => 0)) (xnx (xst h 53 0 0)) 0 x1) (xnx (xst h 53 0 0)) 1 x2) (xnx (xst h 53 0 0)) 2 x3) (xnx (xst h 53 0 0)) 3 x4) (xnx (xst h 53 0 0)) 4 x5) → xwp G m_M_feed (d + 2) 51 [xR 53, xZ, xZ, xZ, xZ, xZ, xR (xnx (xst h 53 0 0)), xI 0] [] (xst (xst (xst (xst (xst (xmk (xst h 53 0 0) 100 5 (fun _ => 0)) (xnx (xst h 53 0 0)) 0 x1) (xnx (xst h 53 0 0)) 1 x2) (xnx (xst h 53 0 0)) 2 x3) (xnx (xst h 53 0 0)) 3 x4) (xnx (xst h 53 0 0)) 4 x5) Q X)) ∧ (¬ (xpl h 53 2) ≤ 380 → (xFix (xst (xst h 53 0 0) 53 0 1) → Q (xI 0) (xst (xst h 53 0 0) 53 0 1))))) : xwp G m_M_feed (d + 2) 0 [xR 53, xI x1, xI x2, xI x3, xI x4, xI x5, xZ, xZ] [] h Q X := by
  have hnx9 : (93 : Int) ≤ xnx h := F.2.2
  refine xr_okL (fun hl9 => ?_)
  have r_x1 : -2147483648 ≤ x1 ∧ x1 ≤ 2147483647 := hl9 (xI x1) (.tail _ (.head _)) (Nat.le_of_ble_eq_true rfl)
  have r_x2 : -2147483648 ≤ x2 ∧ x2 ≤ 2147483647 := hl9 (xI x2) (.tail _ (.tail _ (.head _))) (Nat.le_of_ble_eq_true rfl)
  have r_x3 : -2147483648 ≤ x3 ∧ x3 ≤ 2147483647 := hl9 (xI x3) (.tail _ (.tail _ (.tail _ (.head _)))) (Nat.le_of_ble_eq_true rfl)
  have r_x4 : -2147483648 ≤ x4 ∧ x4 ≤ 2147483647 := hl9 (xI x4) (.tail _ (.tail _ (.tail _ (.tail _ (.head _))))) (Nat.le_of_ble_eq_true rfl)
  have r_x5 : -2147483648 ≤ x5 ∧ x5 ≤ 2147483647 := hl9 (xI x5) (.tail _ (.tail _ (.tail _ (.tail _ (.tail _ (.head _)))))) (Nat.le_of_ble_eq_true rfl)
  refine xr_aload_n (pc := 0) (i := 0) (hI := d_M_feed_0) (hi := rfl) (hl := rfl) ?_
  refine xr_iconst (pc := 1) (hI := d_M_feed_1) (hr := by decide) ?_
  refine xr_putf (pc := 2) (ci := 11) (k := 0) (N := 38) (v9 := 0) (T := xF11) (tF := xT11) (hI := d_M_feed_2) (hw := w_1587) rfl xi11 xt11 xn11 (Or.inl rfl) (Nat.le_of_ble_eq_true rfl) (Nat.le_of_ble_eq_true rfl) rfl xfit_i rfl (ft_53 F) (by decide) (fun z => z) ?_
  have F1_ : xFix (xst h 53 0 0) := F.stL xfk_53_0
  refine xr_aload_n (pc := 5) (i := 0) (hI := d_M_feed_5) (hi := rfl) (hl := rfl) ?_
  refine xg_getf (pc := 6) (ci := 11) (k := 2) (N := 38) (v9 := 0) (v := (xpl h 53 2)) (T := xF11) (hI := d_M_feed_6) (hw := w_1589) rfl xi11 (Or.inl rfl) (Nat.le_of_ble_eq_true rfl) (Nat.le_of_ble_eq_true rfl) rfl (ft_53 F1_) (xpl_ok (by decide)) (fun f2_ => ?_)
  replace f2_ : -2147483648 ≤ (xpl h 53 2) ∧ (xpl h 53 2) ≤ 2147483647 := f2_
  refine xr_sipush (pc := 9) (hI := d_M_feed_9) (hr := by decide) (hv := by decide) ?_
  refine xr_icmp_le (pc := 12) (tgt := 21) (hI := d_M_feed_12) (ht := by decide) (fun q9 => ?_) (fun q9 => ?_)
  · replace hyp := hyp.1 q9
    have q3_ := q9
    clear q9
    refine xr_iconst (pc := 21) (hI := d_M_feed_21) (hr := by decide) ?_
    obtain ⟨c8, c9, hyp⟩ := hyp
    refine xr_newarray (pc := 22) (t := 100) (hI := d_M_feed_22) rfl w_79 rfl (Nat.le_of_ble_eq_true rfl) (Nat.le_of_ble_eq_true rfl) (by decide) (fun _ => rfl) (xok_z rfl) (by decide) (by decide) c8 c9 ?_
    have F4_ : xFix (xmk (xst h 53 0 0) 100 5 (fun _ => 0)) := F1_.mk
    have f5_ : (93 : Int) ≤ xnx (xst h 53 0 0) := F1_.nx
    have f6_ : (93 : Int) ≤ xnx (xmk (xst h 53 0 0) 100 5 (fun _ => 0)) := F4_.nx
    have f7_ : xnx (xmk (xst h 53 0 0) 100 5 (fun _ => 0)) = xnx (xst h 53 0 0) + 1 := xnx_mk _ _ _ _
    show xwp G m_M_feed (d + 2) 24 [xR 53, xI x1, xI x2, xI x3, xI x4, xI x5, xZ, xZ] [xR (xnx (xst h 53 0 0))] (xmk (xst h 53 0 0) 100 5 (fun _ => 0)) _ _
    refine xr_dup (pc := 24) (hI := d_M_feed_24) (hv := rfl) ?_
    refine xr_iconst (pc := 25) (hI := d_M_feed_25) (hr := by decide) ?_
    refine xr_iload_n (pc := 26) (i := 1) (hI := d_M_feed_26) (hi := rfl) (hl := rfl) ?_
    refine xr_iastore (pc := 27) (hI := d_M_feed_27) (show xtg (xmk (xst h 53 0 0) 100 5 (fun _ => 0)) (xnx (xst h 53 0 0)) = 100 from xtg_new rfl) (by clear hyp; omega) (by decide) (xlt_of (show xln (xmk (xst h 53 0 0) 100 5 (fun _ => 0)) (xnx (xst h 53 0 0)) = 5 from xln_new rfl) (by decide)) ?_
    have F8_ : xFix (xst (xmk (xst h 53 0 0) 100 5 (fun _ => 0)) (xnx (xst h 53 0 0)) 0 x1) := F4_.stD (by clear hyp; omega)
    refine xr_dup (pc := 28) (hI := d_M_feed_28) (hv := rfl) ?_
    refine xr_iconst (pc := 29) (hI := d_M_feed_29) (hr := by decide) ?_
    refine xr_iload_n (pc := 30) (i := 2) (hI := d_M_feed_30) (hi := rfl) (hl := rfl) ?_
    refine xr_iastore (pc := 31) (hI := d_M_feed_31) (show xtg (xmk (xst h 53 0 0) 100 5 (fun _ => 0)) (xnx (xst h 53 0 0)) = 100 from xtg_new rfl) (by clear hyp; omega) (by decide) (xlt_of (show xln (xmk (xst h 53 0 0) 100 5 (fun _ => 0)) (xnx (xst h 53 0 0)) = 5 from xln_new rfl) (by decide)) ?_
    have F9_ : xFix (xst (xst (xmk (xst h 53 0 0) 100 5 (fun _ => 0)) (xnx (xst h 53 0 0)) 0 x1) (xnx (xst h 53 0 0)) 1 x2) := F8_.stD (by clear hyp; omega)
    refine xr_dup (pc := 32) (hI := d_M_feed_32) (hv := rfl) ?_
    refine xr_iconst (pc := 33) (hI := d_M_feed_33) (hr := by decide) ?_
    refine xr_iload_n (pc := 34) (i := 3) (hI := d_M_feed_34) (hi := rfl) (hl := rfl) ?_
    refine xr_iastore (pc := 35) (hI := d_M_feed_35) (show xtg (xmk (xst h 53 0 0) 100 5 (fun _ => 0)) (xnx (xst h 53 0 0)) = 100 from xtg_new rfl) (by clear hyp; omega) (by decide) (xlt_of (show xln (xmk (xst h 53 0 0) 100 5 (fun _ => 0)) (xnx (xst h 53 0 0)) = 5 from xln_new rfl) (by decide)) ?_
    have F10_ : xFix (xst (xst (xst (xmk (xst h 53 0 0) 100 5 (fun _ => 0)) (xnx (xst h 53 0 0)) 0 x1) (xnx (xst h 53 0 0)) 1 x2) (xnx (xst h 53 0 0)) 2 x3) := F9_.stD (by clear hyp; omega)
    refine xr_dup (pc := 36) (hI := d_M_feed_36) (hv := rfl) ?_
    refine xr_iconst (pc := 37) (hI := d_M_feed_37) (hr := by decide) ?_
    refine xr_iload (pc := 38) (i := 4) (hI := d_M_feed_38) (hl := rfl) ?_
    refine xr_iastore (pc := 40) (hI := d_M_feed_40) (show xtg (xmk (xst h 53 0 0) 100 5 (fun _ => 0)) (xnx (xst h 53 0 0)) = 100 from xtg_new rfl) (by clear hyp; omega) (by decide) (xlt_of (show xln (xmk (xst h 53 0 0) 100 5 (fun _ => 0)) (xnx (xst h 53 0 0)) = 5 from xln_new rfl) (by decide)) ?_
    have F11_ : xFix (xst (xst (xst (xst (xmk (xst h 53 0 0) 100 5 (fun _ => 0)) (xnx (xst h 53 0 0)) 0 x1) (xnx (xst h 53 0 0)) 1 x2) (xnx (xst h 53 0 0)) 2 x3) (xnx (xst h 53 0 0)) 3 x4) := F10_.stD (by clear hyp; omega)
    refine xr_dup (pc := 41) (hI := d_M_feed_41) (hv := rfl) ?_
    refine xr_iconst (pc := 42) (hI := d_M_feed_42) (hr := by decide) ?_
    refine xr_iload (pc := 43) (i := 5) (hI := d_M_feed_43) (hl := rfl) ?_
    refine xr_iastore (pc := 45) (hI := d_M_feed_45) (show xtg (xmk (xst h 53 0 0) 100 5 (fun _ => 0)) (xnx (xst h 53 0 0)) = 100 from xtg_new rfl) (by clear hyp; omega) (by decide) (xlt_of (show xln (xmk (xst h 53 0 0) 100 5 (fun _ => 0)) (xnx (xst h 53 0 0)) = 5 from xln_new rfl) (by decide)) ?_
    have F12_ : xFix (xst (xst (xst (xst (xst (xmk (xst h 53 0 0) 100 5 (fun _ => 0)) (xnx (xst h 53 0 0)) 0 x1) (xnx (xst h 53 0 0)) 1 x2) (xnx (xst h 53 0 0)) 2 x3) (xnx (xst h 53 0 0)) 3 x4) (xnx (xst h 53 0 0)) 4 x5) := F11_.stD (by clear hyp; omega)
    refine xr_astore (pc := 46) (i := 6) (L9 := [xR 53, xI x1, xI x2, xI x3, xI x4, xI x5, xR (xnx (xst h 53 0 0)), xZ]) (hI := d_M_feed_46) (hn := Nat.le_of_ble_eq_true rfl) (hL9 := rfl) ?_
    refine xr_iconst (pc := 48) (hI := d_M_feed_48) (hr := by decide) ?_
    refine xr_istore (pc := 49) (i := 7) (L9 := [xR 53, xI x1, xI x2, xI x3, xI x4, xI x5, xR (xnx (xst h 53 0 0)), xI 0]) (hI := d_M_feed_49) (hn := Nat.le_of_ble_eq_true rfl) (hL9 := rfl) ?_
    exact xr_drop (L9 := [xR 53, xZ, xZ, xZ, xZ, xZ, xR (xnx (xst h 53 0 0)), xI 0]) (xdrs (xdrz (xdrz (xdrz (xdrz (xdrz (xdrs (xdrs xdr0)))))))) (hyp F12_)
  · replace hyp := hyp.2 q9
    have q3_ := q9
    clear q9
    refine xr_aload_n (pc := 15) (i := 0) (hI := d_M_feed_15) (hi := rfl) (hl := rfl) ?_
    refine xr_iconst (pc := 16) (hI := d_M_feed_16) (hr := by decide) ?_
    refine xq_callV (pc := 17) (index := 395) (K := m_M_no) (As := [xI 1]) (S := []) (L0 := [xR 53, xI 1]) (hI := d_M_feed_17) (hK := k_M_no) (hlk := w_1710) (hnoM := rfl) (hS8 := Nat.le_of_ble_eq_true rfl) (ci := 11) (N := 38) (C := "BeaconIndexModel") (T := xF11) (hc := rfl) (hci := Nat.le_of_ble_eq_true rfl) (htb := (ft_53 F1_)) (hinst := w_1712) (hsel := sel_M_no) (hlen := Nat.le_of_ble_eq_true rfl) (hst := rfl) (hL0 := rfl)  ?_
    refine xr_aload_n (pc := 0) (i := 0) (hI := d_M_no_0) (hi := rfl) (hl := rfl) ?_
    refine xr_iload_n (pc := 1) (i := 1) (hI := d_M_no_1) (hi := rfl) (hl := rfl) ?_
    refine xr_putf (pc := 2) (ci := 11) (k := 0) (N := 38) (v9 := 0) (T := xF11) (tF := xT11) (hI := d_M_no_2) (hw := w_1587) rfl xi11 xt11 xn11 (Or.inl rfl) (Nat.le_of_ble_eq_true rfl) (Nat.le_of_ble_eq_true rfl) rfl xfit_i rfl (ft_53 F1_) (by decide) (fun z => z) ?_
    have F13_ : xFix (xst (xst h 53 0 0) 53 0 1) := F1_.stL xfk_53_0
    refine xr_iconst (pc := 5) (hI := d_M_no_5) (hr := by decide) ?_
    refine xr_ireturn (S := []) (pc := 6) (hI := d_M_no_6) (hr := rfl) ?_
    show xwp G m_M_feed (d + 2) 20 [xR 53, xI x1, xI x2, xI x3, xI x4, xI x5, xZ, xZ] [xI 0] _ _ _
    refine xr_ireturn (S := []) (pc := 20) (hI := d_M_feed_20) (hr := rfl) ?_
    exact hyp F13_
theorem d_M_feed_51 : decode prog_14_method_75_code 51 = .ok (.iload 7, 2) := by decide +kernel
theorem d_M_feed_53 : decode prog_14_method_75_code 53 = .ok (.bipush 20, 2) := by decide +kernel
theorem d_M_feed_55 : decode prog_14_method_75_code 55 = .ok (.if_icmp .ge 43, 3) := by decide +kernel
theorem d_M_feed_98 : decode prog_14_method_75_code 98 = .ok (.aload_n 0, 1) := by decide +kernel
theorem d_M_feed_99 : decode prog_14_method_75_code 99 = .ok (.dup, 1) := by decide +kernel
theorem d_M_feed_100 : decode prog_14_method_75_code 100 = .ok (.getfield 105, 3) := by decide +kernel
theorem d_M_feed_103 : decode prog_14_method_75_code 103 = .ok (.bipush 20, 2) := by decide +kernel
theorem d_M_feed_105 : decode prog_14_method_75_code 105 = .ok (.iadd, 1) := by decide +kernel
theorem d_M_feed_106 : decode prog_14_method_75_code 106 = .ok (.putfield 105, 3) := by decide +kernel
theorem d_M_feed_109 : decode prog_14_method_75_code 109 = .ok (.aload_n 0, 1) := by decide +kernel
theorem d_M_feed_110 : decode prog_14_method_75_code 110 = .ok (.getfield 105, 3) := by decide +kernel
theorem d_M_feed_113 : decode prog_14_method_75_code 113 = .ok (.ireturn, 1) := by decide +kernel
theorem d_M_feed_58 : decode prog_14_method_75_code 58 = .ok (.aload_n 0, 1) := by decide +kernel
theorem d_M_feed_59 : decode prog_14_method_75_code 59 = .ok (.getfield 9, 3) := by decide +kernel
theorem d_M_feed_62 : decode prog_14_method_75_code 62 = .ok (.aload_n 0, 1) := by decide +kernel
theorem d_M_feed_63 : decode prog_14_method_75_code 63 = .ok (.getfield 105, 3) := by decide +kernel
theorem d_M_feed_66 : decode prog_14_method_75_code 66 = .ok (.iload 7, 2) := by decide +kernel
theorem d_M_feed_68 : decode prog_14_method_75_code 68 = .ok (.iadd, 1) := by decide +kernel
theorem d_M_feed_69 : decode prog_14_method_75_code 69 = .ok (.aload 6, 2) := by decide +kernel
theorem d_M_feed_71 : decode prog_14_method_75_code 71 = .ok (.iload 7, 2) := by decide +kernel
theorem d_M_feed_73 : decode prog_14_method_75_code 73 = .ok (.iconst 4, 1) := by decide +kernel
theorem d_M_feed_74 : decode prog_14_method_75_code 74 = .ok (.idiv, 1) := by decide +kernel
theorem d_M_feed_75 : decode prog_14_method_75_code 75 = .ok (.iaload, 1) := by decide +kernel
theorem d_M_feed_76 : decode prog_14_method_75_code 76 = .ok (.bipush 24, 2) := by decide +kernel
theorem d_M_feed_78 : decode prog_14_method_75_code 78 = .ok (.bipush 8, 2) := by decide +kernel
theorem d_M_feed_80 : decode prog_14_method_75_code 80 = .ok (.iload 7, 2) := by decide +kernel
theorem d_M_feed_82 : decode prog_14_method_75_code 82 = .ok (.iconst 4, 1) := by decide +kernel
theorem d_M_feed_83 : decode prog_14_method_75_code 83 = .ok (.irem, 1) := by decide +kernel
theorem d_M_feed_84 : decode prog_14_method_75_code 84 = .ok (.imul, 1) := by decide +kernel
theorem d_M_feed_85 : decode prog_14_method_75_code 85 = .ok (.isub, 1) := by decide +kernel
theorem d_M_feed_86 : decode prog_14_method_75_code 86 = .ok (.ishr, 1) := by decide +kernel
theorem d_M_feed_87 : decode prog_14_method_75_code 87 = .ok (.sipush 255, 3) := by decide +kernel
theorem d_M_feed_90 : decode prog_14_method_75_code 90 = .ok (.iand, 1) := by decide +kernel
theorem d_M_feed_91 : decode prog_14_method_75_code 91 = .ok (.iastore, 1) := by decide +kernel
theorem xfa_54 : xfreeA 54 = true := by decide +kernel
theorem d_M_feed_92 : decode prog_14_method_75_code 92 = .ok (.iinc 7 1, 3) := by decide +kernel
theorem d_M_feed_95 : decode prog_14_method_75_code 95 = .ok (.goto (-44), 3) := by decide +kernel
theorem v_M_feed_51 {G : XG} {d : Nat} {h : XH} {Q : XV → XH → Prop} {X : Nat → XH → Prop} {x6 x7 : Int} (F : xFix h) (hyp : (((20 : Int) ≤ x7 → xiR ((xpl h 53 2) + 20) ∧ (xFix (xst h 53 2 ((xpl h 53 2) + 20)) → Q (xI ((xpl h 53 2) + 20)) (xst h 53 2 ((xpl h 53 2) + 20)))) ∧ (¬ (20 : Int) ≤ x7 → xiR ((xpl h 53 2) + x7) ∧ xtg h x6 = 100 ∧ 0 ≤ (Int.tdiv x7 4) ∧ (Int.tdiv x7 4) < (xln h x6) ∧ xiR (8 * (Int.tmod x7 4)) ∧ xiR (24 - (8 * (Int.tmod x7 4))) ∧ 0 ≤ ((xpl h 53 2) + x7) ∧ ((xpl h 53 2) + x7) < 400 ∧ (xFix (xst h 54 ((xpl h 53 2) + x7) (xand (xshr (xpl h x6 (Int.tdiv x7 4)) (24 - (8 * (Int.tmod x7 4)))) 255)) → xwp G m_M_feed (d + 2) 51 [xR 53, xZ, xZ, xZ, xZ, xZ, xR x6, xI (x7 + 1)] [] (xst h 54 ((xpl h 53 2) + x7) (xand (xshr (xpl h x6 (Int.tdiv x7 4)) (24 - (8 * (Int.tmod x7 4)))) 255)) Q X)))) : xwp G m_M_feed (d + 2) 51 [xR 53, xZ, xZ, xZ, xZ, xZ, xR x6, xI x7] [] h Q X := by
  have hnx9 : (93 : Int) ≤ xnx h := F.2.2
  refine xr_okL (fun hl9 => ?_)
  have r_x7 : -2147483648 ≤ x7 ∧ x7 ≤ 2147483647 := hl9 (xI x7) (.tail _ (.tail _ (.tail _ (.tail _ (.tail _ (.tail _ (.tail _ (.head _)))))))) (Nat.le_of_ble_eq_true rfl)
  refine xr_iload (pc := 51) (i := 7) (hI := d_M_feed_51) (hl := rfl) ?_
  refine xr_bipush (pc := 53) (hI := d_M_feed_53) (hr := by decide) (hv := by decide) ?_
  refine xr_icmp_ge (pc := 55) (tgt := 98) (hI := d_M_feed_55) (ht := by decide) (fun q9 => ?_) (fun q9 => ?_)
  · replace hyp := hyp.1 q9
    have q1_ := q9
    clear q9
    refine xr_aload_n (pc := 98) (i := 0) (hI := d_M_feed_98) (hi := rfl) (hl := rfl) ?_
    refine xr_dup (pc := 99) (hI := d_M_feed_99) (hv := rfl) ?_
    refine xg_getf (pc := 100) (ci := 11) (k := 2) (N := 38) (v9 := 0) (v := (xpl h 53 2)) (T := xF11) (hI := d_M_feed_100) (hw := w_1589) rfl xi11 (Or.inl rfl) (Nat.le_of_ble_eq_true rfl) (Nat.le_of_ble_eq_true rfl) rfl (ft_53 F) rfl (fun f2_ => ?_)
    replace f2_ : -2147483648 ≤ (xpl h 53 2) ∧ (xpl h 53 2) ≤ 2147483647 := f2_
    refine xr_bipush (pc := 103) (hI := d_M_feed_103) (hr := by decide) (hv := by decide) ?_
    obtain ⟨c9, hyp⟩ := hyp
    refine xr_iadd (pc := 105) (hI := d_M_feed_105) (hr := c9) ?_
    refine xr_putf (pc := 106) (ci := 11) (k := 2) (N := 38) (v9 := 0) (T := xF11) (tF := xT11) (hI := d_M_feed_106) (hw := w_1589) rfl xi11 xt11 xn11 (Or.inl rfl) (Nat.le_of_ble_eq_true rfl) (Nat.le_of_ble_eq_true rfl) rfl xfit_i rfl (ft_53 F) (by decide) (fun z => z) ?_
    have F3_ : xFix (xst h 53 2 ((xpl h 53 2) + 20)) := F.stL xfk_53_2
    refine xr_aload_n (pc := 109) (i := 0) (hI := d_M_feed_109) (hi := rfl) (hl := rfl) ?_
    refine xg_getf (pc := 110) (ci := 11) (k := 2) (N := 38) (v9 := 0) (v := ((xpl h 53 2) + 20)) (T := xF11) (hI := d_M_feed_110) (hw := w_1589) rfl xi11 (Or.inl rfl) (Nat.le_of_ble_eq_true rfl) (Nat.le_of_ble_eq_true rfl) rfl (ft_53 F3_) (xpl_hit _ _ _ _) (fun f4_ => ?_)
    replace f4_ : -2147483648 ≤ ((xpl h 53 2) + 20) ∧ ((xpl h 53 2) + 20) ≤ 2147483647 := f4_
    refine xr_ireturn (S := []) (pc := 113) (hI := d_M_feed_113) (hr := rfl) ?_
    exact hyp F3_
  · replace hyp := hyp.2 q9
    have q1_ := q9
    clear q9
    refine xr_aload_n (pc := 58) (i := 0) (hI := d_M_feed_58) (hi := rfl) (hl := rfl) ?_
    refine xg_getf (pc := 59) (ci := 11) (k := 1) (N := 38) (v9 := 2) (v := 54) (T := xF11) (hI := d_M_feed_59) (hw := w_1588) rfl xi11 (Or.inl rfl) (Nat.le_of_ble_eq_true rfl) (Nat.le_of_ble_eq_true rfl) rfl (ft_53 F) (fp_53_1 F) (fun f5_ => ?_)
    clear f5_
    refine xr_aload_n (pc := 62) (i := 0) (hI := d_M_feed_62) (hi := rfl) (hl := rfl) ?_
    refine xg_getf (pc := 63) (ci := 11) (k := 2) (N := 38) (v9 := 0) (v := (xpl h 53 2)) (T := xF11) (hI := d_M_feed_63) (hw := w_1589) rfl xi11 (Or.inl rfl) (Nat.le_of_ble_eq_true rfl) (Nat.le_of_ble_eq_true rfl) rfl (ft_53 F) rfl (fun f6_ => ?_)
    replace f6_ : -2147483648 ≤ (xpl h 53 2) ∧ (xpl h 53 2) ≤ 2147483647 := f6_
    refine xr_iload (pc := 66) (i := 7) (hI := d_M_feed_66) (hl := rfl) ?_
    obtain ⟨c9, hyp⟩ := hyp
    refine xr_iadd (pc := 68) (hI := d_M_feed_68) (hr := c9) ?_
    refine xr_aload (pc := 69) (i := 6) (hI := d_M_feed_69) (hl := rfl) ?_
    refine xr_iload (pc := 71) (i := 7) (hI := d_M_feed_71) (hl := rfl) ?_
    refine xr_iconst (pc := 73) (hI := d_M_feed_73) (hr := by decide) ?_
    refine xr_idiv (pc := 74) (hI := d_M_feed_74) (h0 := (by decide)) ?_
    obtain ⟨c9, hyp⟩ := hyp
    have t7_ := c9
    clear c9
    obtain ⟨c8_, hyp⟩ := hyp
    obtain ⟨c9_, hyp⟩ := hyp
    refine xg_iaload (pc := 75) (v := (xpl h x6 (Int.tdiv x7 4))) (hI := d_M_feed_75) t7_ c8_ (xlt_of rfl c9_) rfl (fun f10_ => ?_)
    replace f10_ : -2147483648 ≤ (xpl h x6 (Int.tdiv x7 4)) ∧ (xpl h x6 (Int.tdiv x7 4)) ≤ 2147483647 := f10_
    refine xr_bipush (pc := 76) (hI := d_M_feed_76) (hr := by decide) (hv := by decide) ?_
    refine xr_bipush (pc := 78) (hI := d_M_feed_78) (hr := by decide) (hv := by decide) ?_
    refine xr_iload (pc := 80) (i := 7) (hI := d_M_feed_80) (hl := rfl) ?_
    refine xr_iconst (pc := 82) (hI := d_M_feed_82) (hr := by decide) ?_
    refine xr_irem (pc := 83) (hI := d_M_feed_83) (h0 := (by decide)) ?_
    obtain ⟨c9, hyp⟩ := hyp
    refine xr_imul (pc := 84) (hI := d_M_feed_84) (hr := c9) ?_
    obtain ⟨c9, hyp⟩ := hyp
    refine xr_isub (pc := 85) (hI := d_M_feed_85) (hr := c9) ?_
    refine xr_ishr (pc := 86) (hI := d_M_feed_86) ?_
    have f11_ : -2147483648 ≤ (xshr (xpl h x6 (Int.tdiv x7 4)) (24 - (8 * (Int.tmod x7 4)))) ∧ (xshr (xpl h x6 (Int.tdiv x7 4)) (24 - (8 * (Int.tmod x7 4)))) ≤ 2147483647 := xi_toR _
    refine xr_sipush (pc := 87) (hI := d_M_feed_87) (hr := by decide) (hv := by decide) ?_
    refine xr_iand (pc := 90) (hI := d_M_feed_90) ?_
    have f12_ : -2147483648 ≤ (xand (xshr (xpl h x6 (Int.tdiv x7 4)) (24 - (8 * (Int.tmod x7 4)))) 255) ∧ (xand (xshr (xpl h x6 (Int.tdiv x7 4)) (24 - (8 * (Int.tmod x7 4)))) 255) ≤ 2147483647 := xi_toR _
    have f13_ : 0 ≤ (xand (xshr (xpl h x6 (Int.tdiv x7 4)) (24 - (8 * (Int.tmod x7 4)))) 255) ∧ (xand (xshr (xpl h x6 (Int.tdiv x7 4)) (24 - (8 * (Int.tmod x7 4)))) 255) ≤ 255 := xand_rng255 _
    obtain ⟨c14_, hyp⟩ := hyp
    obtain ⟨c15_, hyp⟩ := hyp
    refine xr_iastore (pc := 91) (hI := d_M_feed_91) (ft_54 F) (by decide) c14_ (xlt_of (fl_54 F) c15_) ?_
    have F16_ : xFix (xst h 54 ((xpl h 53 2) + x7) (xand (xshr (xpl h x6 (Int.tdiv x7 4)) (24 - (8 * (Int.tmod x7 4)))) 255)) := F.stA xfa_54
    refine xr_iinc (pc := 92) (i := 7) (L9 := [xR 53, xZ, xZ, xZ, xZ, xZ, xR x6, xI (x7 + 1)]) (hI := d_M_feed_92) (hl := rfl) (hn := Nat.le_of_ble_eq_true rfl) (hr := ⟨by clear hyp; omega, by clear hyp; omega⟩) (hL9 := rfl) ?_
    refine xr_goto (pc := 95) (tgt := 51) (hI := d_M_feed_95) (ht := by decide) ?_
    exact (hyp F16_)
abbrev m_M_trim : XM := (⟨"BeaconIndexModel", "trim", "(I)I"⟩, prog_14_method_76_code, 2, (some .int), [])
theorem d_M_trim_0 : decode prog_14_method_76_code 0 = .ok (.aload_n 0, 1) := by decide +kernel
theorem d_M_trim_1 : decode prog_14_method_76_code 1 = .ok (.iconst 0, 1) := by decide +kernel
theorem d_M_trim_2 : decode prog_14_method_76_code 2 = .ok (.putfield 97, 3) := by decide +kernel
theorem d_M_trim_5 : decode prog_14_method_76_code 5 = .ok (.iload_n 1, 1) := by decide +kernel
theorem d_M_trim_6 : decode prog_14_method_76_code 6 = .ok (.iconst 0, 1) := by decide +kernel
theorem d_M_trim_7 : decode prog_14_method_76_code 7 = .ok (.aload_n 0, 1) := by decide +kernel
theorem d_M_trim_8 : decode prog_14_method_76_code 8 = .ok (.getfield 105, 3) := by decide +kernel
theorem d_M_trim_11 : decode prog_14_method_76_code 11 = .ok (.invokestatic 101, 3) := by decide +kernel
theorem d_M_trim_14 : decode prog_14_method_76_code 14 = .ok (.ifCond .ne 9, 3) := by decide +kernel
theorem d_M_trim_17 : decode prog_14_method_76_code 17 = .ok (.aload_n 0, 1) := by decide +kernel
theorem d_M_trim_18 : decode prog_14_method_76_code 18 = .ok (.iconst 1, 1) := by decide +kernel
theorem d_M_trim_19 : decode prog_14_method_76_code 19 = .ok (.invokevirtual 395, 3) := by decide +kernel
theorem d_M_trim_22 : decode prog_14_method_76_code 22 = .ok (.ireturn, 1) := by decide +kernel
theorem d_M_trim_23 : decode prog_14_method_76_code 23 = .ok (.aload_n 0, 1) := by decide +kernel
theorem d_M_trim_24 : decode prog_14_method_76_code 24 = .ok (.iload_n 1, 1) := by decide +kernel
theorem d_M_trim_25 : decode prog_14_method_76_code 25 = .ok (.putfield 105, 3) := by decide +kernel
theorem d_M_trim_28 : decode prog_14_method_76_code 28 = .ok (.iload_n 1, 1) := by decide +kernel
theorem d_M_trim_29 : decode prog_14_method_76_code 29 = .ok (.ireturn, 1) := by decide +kernel
theorem v_M_trim_0 {G : XG} {d : Nat} {h : XH} {Q : XV → XH → Prop} {X : Nat → XH → Prop} {x1 : Int} (F : xFix h) (hyp : ((x1 < 0 → (xFix (xst (xst h 53 0 0) 53 0 1) → Q (xI 0) (xst (xst h 53 0 0) 53 0 1))) ∧ (¬ x1 < 0 → (((xpl h 53 2) < x1 → (xFix (xst (xst h 53 0 0) 53 0 1) → Q (xI 0) (xst (xst h 53 0 0) 53 0 1))) ∧ (¬ (xpl h 53 2) < x1 → (xFix (xst (xst h 53 0 0) 53 2 x1) → Q (xI x1) (xst (xst h 53 0 0) 53 2 x1))))))) : xwp G m_M_trim (d + 2) 0 [xR 53, xI x1] [] h Q X := by
  have hnx9 : (93 : Int) ≤ xnx h := F.2.2
  refine xr_okL (fun hl9 => ?_)
  have r_x1 : -2147483648 ≤ x1 ∧ x1 ≤ 2147483647 := hl9 (xI x1) (.tail _ (.head _)) (Nat.le_of_ble_eq_true rfl)
  refine xr_aload_n (pc := 0) (i := 0) (hI := d_M_trim_0) (hi := rfl) (hl := rfl) ?_
  refine xr_iconst (pc := 1) (hI := d_M_trim_1) (hr := by decide) ?_
  refine xr_putf (pc := 2) (ci := 11) (k := 0) (N := 38) (v9 := 0) (T := xF11) (tF := xT11) (hI := d_M_trim_2) (hw := w_1587) rfl xi11 xt11 xn11 (Or.inl rfl) (Nat.le_of_ble_eq_true rfl) (Nat.le_of_ble_eq_true rfl) rfl xfit_i rfl (ft_53 F) (by decide) (fun z => z) ?_
  have F1_ : xFix (xst h 53 0 0) := F.stL xfk_53_0
  refine xr_iload_n (pc := 5) (i := 1) (hI := d_M_trim_5) (hi := rfl) (hl := rfl) ?_
  refine xr_iconst (pc := 6) (hI := d_M_trim_6) (hr := by decide) ?_
  refine xr_aload_n (pc := 7) (i := 0) (hI := d_M_trim_7) (hi := rfl) (hl := rfl) ?_
  refine xg_getf (pc := 8) (ci := 11) (k := 2) (N := 38) (v9 := 0) (v := (xpl h 53 2)) (T := xF11) (hI := d_M_trim_8) (hw := w_1589) rfl xi11 (Or.inl rfl) (Nat.le_of_ble_eq_true rfl) (Nat.le_of_ble_eq_true rfl) rfl (ft_53 F1_) (xpl_ok (by decide)) (fun f2_ => ?_)
  replace f2_ : -2147483648 ≤ (xpl h 53 2) ∧ (xpl h 53 2) ≤ 2147483647 := f2_
  refine xq_callS (pc := 11) (index := 101) (K := m_M_isBetween) (As := [xI x1, xI 0, xI (xpl h 53 2)]) (S := []) (L0 := [xI x1, xI 0, xI (xpl h 53 2)]) (hI := d_M_trim_11) (hK := k_M_isBetween) (hlk := w_1718) (hnoM := rfl) (hS8 := Nat.le_of_ble_eq_true rfl) (hstat := w_1719) (hlen := Nat.le_of_ble_eq_true rfl) (hst := rfl) (hL0 := rfl)  ?_
  refine xr_iload_n (pc := 0) (i := 0) (hI := d_M_isBetween_0) (hi := rfl) (hl := rfl) ?_
  refine xr_iload_n (pc := 1) (i := 1) (hI := d_M_isBetween_1) (hi := rfl) (hl := rfl) ?_
  refine xr_icmp_lt (pc := 2) (tgt := 14) (hI := d_M_isBetween_2) (ht := by decide) (fun q9 => ?_) (fun q9 => ?_)
  · replace hyp := hyp.1 q9
    have q3_ := q9
    clear q9
    refine xr_iconst (pc := 14) (hI := d_M_isBetween_14) (hr := by decide) ?_
    refine xr_ireturnT (S := []) (pc := 15) (hI := d_M_isBetween_15) (hr := rfl) (xnar_z (by decide)) ?_
    show xwp G m_M_trim (d + 2) 14 [xR 53, xI x1] [xI 0] _ _ _
    refine xr_if_ne (pc := 14) (tgt := 23) (hI := d_M_trim_14) (ht := by decide) (fun q9 => ?_) (fun q9 => ?_)
    · exact absurd q9 (by decide)
    · clear q9
      refine xr_aload_n (pc := 17) (i := 0) (hI := d_M_trim_17) (hi := rfl) (hl := rfl) ?_
      refine xr_iconst (pc := 18) (hI := d_M_trim_18) (hr := by decide) ?_
      refine xq_callV (pc := 19) (index := 395) (K := m_M_no) (As := [xI 1]) (S := []) (L0 := [xR 53, xI 1]) (hI := d_M_trim_19) (hK := k_M_no) (hlk := w_1710) (hnoM := rfl) (hS8 := Nat.le_of_ble_eq_true rfl) (ci := 11) (N := 38) (C := "BeaconIndexModel") (T := xF11) (hc := rfl) (hci := Nat.le_of_ble_eq_true rfl) (htb := (ft_53 F1_)) (hinst := w_1712) (hsel := sel_M_no) (hlen := Nat.le_of_ble_eq_true rfl) (hst := rfl) (hL0 := rfl)  ?_
      refine xr_aload_n (pc := 0) (i := 0) (hI := d_M_no_0) (hi := rfl) (hl := rfl) ?_
      refine xr_iload_n (pc := 1) (i := 1) (hI := d_M_no_1) (hi := rfl) (hl := rfl) ?_
      refine xr_putf (pc := 2) (ci := 11) (k := 0) (N := 38) (v9 := 0) (T := xF11) (tF := xT11) (hI := d_M_no_2) (hw := w_1587) rfl xi11 xt11 xn11 (Or.inl rfl) (Nat.le_of_ble_eq_true rfl) (Nat.le_of_ble_eq_true rfl) rfl xfit_i rfl (ft_53 F1_) (by decide) (fun z => z) ?_
      have F4_ : xFix (xst (xst h 53 0 0) 53 0 1) := F1_.stL xfk_53_0
      refine xr_iconst (pc := 5) (hI := d_M_no_5) (hr := by decide) ?_
      refine xr_ireturn (S := []) (pc := 6) (hI := d_M_no_6) (hr := rfl) ?_
      show xwp G m_M_trim (d + 2) 22 [xR 53, xI x1] [xI 0] _ _ _
      refine xr_ireturn (S := []) (pc := 22) (hI := d_M_trim_22) (hr := rfl) ?_
      exact hyp F4_
  · replace hyp := hyp.2 q9
    have q3_ := q9
    clear q9
    refine xr_iload_n (pc := 5) (i := 0) (hI := d_M_isBetween_5) (hi := rfl) (hl := rfl) ?_
    refine xr_iload_n (pc := 6) (i := 2) (hI := d_M_isBetween_6) (hi := rfl) (hl := rfl) ?_
    refine xr_icmp_gt (pc := 7) (tgt := 14) (hI := d_M_isBetween_7) (ht := by decide) (fun q9 => ?_) (fun q9 => ?_)
    · replace hyp := hyp.1 q9
      have q5_ := q9
      clear q9
      refine xr_iconst (pc := 14) (hI := d_M_isBetween_14) (hr := by decide) ?_
      refine xr_ireturnT (S := []) (pc := 15) (hI := d_M_isBetween_15) (hr := rfl) (xnar_z (by decide)) ?_
      show xwp G m_M_trim (d + 2) 14 [xR 53, xI x1] [xI 0] _ _ _
      refine xr_if_ne (pc := 14) (tgt := 23) (hI := d_M_trim_14) (ht := by decide) (fun q9 => ?_) (fun q9 => ?_)
      · exact absurd q9 (by decide)
      · clear q9
        refine xr_aload_n (pc := 17) (i := 0) (hI := d_M_trim_17) (hi := rfl) (hl := rfl) ?_
        refine xr_iconst (pc := 18) (hI := d_M_trim_18) (hr := by decide) ?_
        refine xq_callV (pc := 19) (index := 395) (K := m_M_no) (As := [xI 1]) (S := []) (L0 := [xR 53, xI 1]) (hI := d_M_trim_19) (hK := k_M_no) (hlk := w_1710) (hnoM := rfl) (hS8 := Nat.le_of_ble_eq_true rfl) (ci := 11) (N := 38) (C := "BeaconIndexModel") (T := xF11) (hc := rfl) (hci := Nat.le_of_ble_eq_true rfl) (htb := (ft_53 F1_)) (hinst := w_1712) (hsel := sel_M_no) (hlen := Nat.le_of_ble_eq_true rfl) (hst := rfl) (hL0 := rfl)  ?_
        refine xr_aload_n (pc := 0) (i := 0) (hI := d_M_no_0) (hi := rfl) (hl := rfl) ?_
        refine xr_iload_n (pc := 1) (i := 1) (hI := d_M_no_1) (hi := rfl) (hl := rfl) ?_
        refine xr_putf (pc := 2) (ci := 11) (k := 0) (N := 38) (v9 := 0) (T := xF11) (tF := xT11) (hI := d_M_no_2) (hw := w_1587) rfl xi11 xt11 xn11 (Or.inl rfl) (Nat.le_of_ble_eq_true rfl) (Nat.le_of_ble_eq_true rfl) rfl xfit_i rfl (ft_53 F1_) (by decide) (fun z => z) ?_
        have F6_ : xFix (xst (xst h 53 0 0) 53 0 1) := F1_.stL xfk_53_0
        refine xr_iconst (pc := 5) (hI := d_M_no_5) (hr := by decide) ?_
        refine xr_ireturn (S := []) (pc := 6) (hI := d_M_no_6) (hr := rfl) ?_
        show xwp G m_M_trim (d + 2) 22 [xR 53, xI x1] [xI 0] _ _ _
        refine xr_ireturn (S := []) (pc := 22) (hI := d_M_trim_22) (hr := rfl) ?_
        exact hyp F6_
    · replace hyp := hyp.2 q9
      have q5_ := q9
      clear q9
      refine xr_iconst (pc := 10) (hI := d_M_isBetween_10) (hr := by decide) ?_
      refine xr_goto (pc := 11) (tgt := 15) (hI := d_M_isBetween_11) (ht := by decide) ?_
      refine xr_ireturnT (S := []) (pc := 15) (hI := d_M_isBetween_15) (hr := rfl) (xnar_z (by decide)) ?_
      show xwp G m_M_trim (d + 2) 14 [xR 53, xI x1] [xI 1] _ _ _
      refine xr_if_ne (pc := 14) (tgt := 23) (hI := d_M_trim_14) (ht := by decide) (fun q9 => ?_) (fun q9 => ?_)
      · clear q9
        refine xr_aload_n (pc := 23) (i := 0) (hI := d_M_trim_23) (hi := rfl) (hl := rfl) ?_
        refine xr_iload_n (pc := 24) (i := 1) (hI := d_M_trim_24) (hi := rfl) (hl := rfl) ?_
        refine xr_putf (pc := 25) (ci := 11) (k := 2) (N := 38) (v9 := 0) (T := xF11) (tF := xT11) (hI := d_M_trim_25) (hw := w_1589) rfl xi11 xt11 xn11 (Or.inl rfl) (Nat.le_of_ble_eq_true rfl) (Nat.le_of_ble_eq_true rfl) rfl xfit_i rfl (ft_53 F1_) (by decide) (fun z => z) ?_
        have F7_ : xFix (xst (xst h 53 0 0) 53 2 x1) := F1_.stL xfk_53_2
        refine xr_iload_n (pc := 28) (i := 1) (hI := d_M_trim_28) (hi := rfl) (hl := rfl) ?_
        refine xr_ireturn (S := []) (pc := 29) (hI := d_M_trim_29) (hr := rfl) ?_
        exact hyp F7_
      · exact absurd q9 (by decide)
abbrev m_M_read : XM := (⟨"BeaconIndexModel", "read", "(I)I"⟩, prog_14_method_78_code, 7, (some .int), [])
theorem d_M_read_0 : decode prog_14_method_78_code 0 = .ok (.iconst 1, 1) := by decide +kernel
theorem d_M_read_1 : decode prog_14_method_78_code 1 = .ok (.istore_n 2, 1) := by decide +kernel
theorem d_M_read_2 : decode prog_14_method_78_code 2 = .ok (.iconst 0, 1) := by decide +kernel
theorem d_M_read_3 : decode prog_14_method_78_code 3 = .ok (.istore_n 3, 1) := by decide +kernel
theorem v_M_read_0 {G : XG} {d : Nat} {h : XH} {Q : XV → XH → Prop} {X : Nat → XH → Prop} {x1 : Int} (F : xFix h) (hyp : (xwp G m_M_read (d + 8) 4 [xR 53, xI x1, xI 1, xI 0, xZ, xZ, xZ] [] h Q X)) : xwp G m_M_read (d + 8) 0 [xR 53, xI x1, xZ, xZ, xZ, xZ, xZ] [] h Q X := by
  have hnx9 : (93 : Int) ≤ xnx h := F.2.2
  refine xr_okL (fun hl9 => ?_)
  have r_x1 : -2147483648 ≤ x1 ∧ x1 ≤ 2147483647 := hl9 (xI x1) (.tail _ (.head _)) (Nat.le_of_ble_eq_true rfl)
  refine xr_iconst (pc := 0) (hI := d_M_read_0) (hr := by decide) ?_
  refine xr_istore_n (pc := 1) (i := 2) (L9 := [xR 53, xI x1, xI 1, xZ, xZ, xZ, xZ]) (hI := d_M_read_1) (hi := rfl) (hn := Nat.le_of_ble_eq_true rfl) (hL9 := rfl) ?_
  refine xr_iconst (pc := 2) (hI := d_M_read_2) (hr := by decide) ?_
  refine xr_istore_n (pc := 3) (i := 3) (L9 := [xR 53, xI x1, xI 1, xI 0, xZ, xZ, xZ]) (hI := d_M_read_3) (hi := rfl) (hn := Nat.le_of_ble_eq_true rfl) (hL9 := rfl) ?_
  exact hyp
theorem d_M_read_4 : decode prog_14_method_78_code 4 = .ok (.iload_n 3, 1) := by decide +kernel
theorem d_M_read_5 : decode prog_14_method_78_code 5 = .ok (.aload_n 0, 1) := by decide +kernel
theorem d_M_read_6 : decode prog_14_method_78_code 6 = .ok (.getfield 105, 3) := by decide +kernel
theorem d_M_read_9 : decode prog_14_method_78_code 9 = .ok (.if_icmp .ge 22, 3) := by decide +kernel
theorem d_M_read_31 : decode prog_14_method_78_code 31 = .ok (.aload_n 0, 1) := by decide +kernel
theorem d_M_read_32 : decode prog_14_method_78_code 32 = .ok (.getfield 32, 3) := by decide +kernel
theorem d_M_read_35 : decode prog_14_method_78_code 35 = .ok (.iconst 2, 1) := by decide +kernel
theorem d_M_read_36 : decode prog_14_method_78_code 36 = .ok (.iload_n 1, 1) := by decide +kernel
theorem d_M_read_37 : decode prog_14_method_78_code 37 = .ok (.imul, 1) := by decide +kernel
theorem d_M_read_38 : decode prog_14_method_78_code 38 = .ok (.iconst 0, 1) := by decide +kernel
theorem d_M_read_39 : decode prog_14_method_78_code 39 = .ok (.iastore, 1) := by decide +kernel
theorem xfa_61 : xfreeA 61 = true := by decide +kernel
theorem d_M_read_40 : decode prog_14_method_78_code 40 = .ok (.aload_n 0, 1) := by decide +kernel
theorem d_M_read_41 : decode prog_14_method_78_code 41 = .ok (.getfield 32, 3) := by decide +kernel
theorem d_M_read_44 : decode prog_14_method_78_code 44 = .ok (.iconst 2, 1) := by decide +kernel
theorem d_M_read_45 : decode prog_14_method_78_code 45 = .ok (.iload_n 1, 1) := by decide +kernel
theorem d_M_read_46 : decode prog_14_method_78_code 46 = .ok (.imul, 1) := by decide +kernel
theorem d_M_read_47 : decode prog_14_method_78_code 47 = .ok (.iconst 1, 1) := by decide +kernel
theorem d_M_read_48 : decode prog_14_method_78_code 48 = .ok (.iadd, 1) := by decide +kernel
theorem d_M_read_49 : decode prog_14_method_78_code 49 = .ok (.iconst 0, 1) := by decide +kernel
theorem d_M_read_50 : decode prog_14_method_78_code 50 = .ok (.iastore, 1) := by decide +kernel
theorem d_M_read_51 : decode prog_14_method_78_code 51 = .ok (.sipush 200, 3) := by decide +kernel
theorem d_M_read_54 : decode prog_14_method_78_code 54 = .ok (.iload_n 1, 1) := by decide +kernel
theorem d_M_read_55 : decode prog_14_method_78_code 55 = .ok (.imul, 1) := by decide +kernel
theorem d_M_read_56 : decode prog_14_method_78_code 56 = .ok (.istore_n 3, 1) := by decide +kernel
theorem d_M_read_57 : decode prog_14_method_78_code 57 = .ok (.iconst 0, 1) := by decide +kernel
theorem d_M_read_58 : decode prog_14_method_78_code 58 = .ok (.istore 4, 2) := by decide +kernel
theorem d_M_read_60 : decode prog_14_method_78_code 60 = .ok (.iconst 0, 1) := by decide +kernel
theorem d_M_read_61 : decode prog_14_method_78_code 61 = .ok (.istore 5, 2) := by decide +kernel
theorem d_M_read_12 : decode prog_14_method_78_code 12 = .ok (.aload_n 0, 1) := by decide +kernel
theorem d_M_read_13 : decode prog_14_method_78_code 13 = .ok (.getfield 9, 3) := by decide +kernel
theorem d_M_read_16 : decode prog_14_method_78_code 16 = .ok (.iload_n 3, 1) := by decide +kernel
theorem d_M_read_17 : decode prog_14_method_78_code 17 = .ok (.iaload, 1) := by decide +kernel
theorem d_M_read_18 : decode prog_14_method_78_code 18 = .ok (.bipush 124, 2) := by decide +kernel
theorem d_M_read_20 : decode prog_14_method_78_code 20 = .ok (.if_icmp .ne 5, 3) := by decide +kernel
theorem d_M_read_25 : decode prog_14_method_78_code 25 = .ok (.iinc 3 1, 3) := by decide +kernel
theorem d_M_read_28 : decode prog_14_method_78_code 28 = .ok (.goto (-24), 3) := by decide +kernel
theorem d_M_read_23 : decode prog_14_method_78_code 23 = .ok (.iconst 0, 1) := by decide +kernel
theorem d_M_read_24 : decode prog_14_method_78_code 24 = .ok (.istore_n 2, 1) := by decide +kernel
theorem v_M_read_4 {G : XG} {d : Nat} {h : XH} {Q : XV → XH → Prop} {X : Nat → XH → Prop} {x1 x2 x3 : Int} (F : xFix h) (hyp : (((xpl h 53 2) ≤ x3 → xiR (2 * x1) ∧ 0 ≤ (2 * x1) ∧ (2 * x1) < 120 ∧ (xFix (xst (xst h 61 (2 * x1) 0) 61 ((2 * x1) + 1) 0) → xwp G m_M_read (d + 8) 63 [xR 53, xI x1, xI x2, xI (200 * x1), xI 0, xI 0, xZ] [] (xst (xst h 61 (2 * x1) 0) 61 ((2 * x1) + 1) 0) Q X)) ∧ (¬ (xpl h 53 2) ≤ x3 → 0 ≤ x3 ∧ x3 < 400 ∧ (((xpl h 54 x3) = 124 → (xwp G m_M_read (d + 8) 4 [xR 53, xI x1, xI 0, xI (x3 + 1), xZ, xZ, xZ] [] h Q X)) ∧ (¬ (xpl h 54 x3) = 124 → (xwp G m_M_read (d + 8) 4 [xR 53, xI x1, xI x2, xI (x3 + 1), xZ, xZ, xZ] [] h Q X)))))) : xwp G m_M_read (d + 8) 4 [xR 53, xI x1, xI x2, xI x3, xZ, xZ, xZ] [] h Q X := by
  have hnx9 : (93 : Int) ≤ xnx h := F.2.2
  refine xr_okL (fun hl9 => ?_)
  have r_x1 : -2147483648 ≤ x1 ∧ x1 ≤ 2147483647 := hl9 (xI x1) (.tail _ (.head _)) (Nat.le_of_ble_eq_true rfl)
  have r_x2 : -2147483648 ≤ x2 ∧ x2 ≤ 2147483647 := hl9 (xI x2) (.tail _ (.tail _ (.head _))) (Nat.le_of_ble_eq_true rfl)
  have r_x3 : -2147483648 ≤ x3 ∧ x3 ≤ 2147483647 := hl9 (xI x3) (.tail _ (.tail _ (.tail _ (.head _)))) (Nat.le_of_ble_eq_true rfl)
  refine xr_iload_n (pc := 4) (i := 3) (hI := d_M_read_4) (hi := rfl) (hl := rfl) ?_
  refine xr_aload_n (pc := 5) (i := 0) (hI := d_M_read_5) (hi := rfl) (hl := rfl) ?_
  refine xg_getf (pc := 6) (ci := 11) (k := 2) (N := 38) (v9 := 0) (v := (xpl h 53 2)) (T := xF11) (hI := d_M_read_6) (hw := w_1589) rfl xi11 (Or.inl rfl) (Nat.le_of_ble_eq_true rfl) (Nat.le_of_ble_eq_true rfl) rfl (ft_53 F) rfl (fun f1_ => ?_)
  replace f1_ : -2147483648 ≤ (xpl h 53 2) ∧ (xpl h 53 2) ≤ 2147483647 := f1_
  refine xr_icmp_ge (pc := 9) (tgt := 31) (hI := d_M_read_9) (ht := by decide) (fun q9 => ?_) (fun q9 => ?_)
  · replace hyp := hyp.1 q9
    have q2_ := q9
    clear q9
    refine xr_aload_n (pc := 31) (i := 0) (hI := d_M_read_31) (hi := rfl) (hl := rfl) ?_
    refine xg_getf (pc := 32) (ci := 11) (k := 12) (N := 38) (v9 := 2) (v := 61) (T := xF11) (hI := d_M_read_32) (hw := w_1599) rfl xi11 (Or.inl rfl) (Nat.le_of_ble_eq_true rfl) (Nat.le_of_ble_eq_true rfl) rfl (ft_53 F) (fp_53_12 F) (fun f3_ => ?_)
    clear f3_
    refine xr_iconst (pc := 35) (hI := d_M_read_35) (hr := by decide) ?_
    refine xr_iload_n (pc := 36) (i := 1) (hI := d_M_read_36) (hi := rfl) (hl := rfl) ?_
    obtain ⟨c9, hyp⟩ := hyp
    refine xr_imul (pc := 37) (hI := d_M_read_37) (hr := c9) ?_
    refine xr_iconst (pc := 38) (hI := d_M_read_38) (hr := by decide) ?_
    obtain ⟨c4_, hyp⟩ := hyp
    obtain ⟨c5_, hyp⟩ := hyp
    refine xr_iastore (pc := 39) (hI := d_M_read_39) (ft_61 F) (by decide) c4_ (xlt_of (fl_61 F) c5_) ?_
    have F6_ : xFix (xst h 61 (2 * x1) 0) := F.stA xfa_61
    refine xr_aload_n (pc := 40) (i := 0) (hI := d_M_read_40) (hi := rfl) (hl := rfl) ?_
    refine xg_getf (pc := 41) (ci := 11) (k := 12) (N := 38) (v9 := 2) (v := 61) (T := xF11) (hI := d_M_read_41) (hw := w_1599) rfl xi11 (Or.inl rfl) (Nat.le_of_ble_eq_true rfl) (Nat.le_of_ble_eq_true rfl) rfl (ft_53 F6_) (fp_53_12 F6_) (fun f7_ => ?_)
    clear f7_
    refine xr_iconst (pc := 44) (hI := d_M_read_44) (hr := by decide) ?_
    refine xr_iload_n (pc := 45) (i := 1) (hI := d_M_read_45) (hi := rfl) (hl := rfl) ?_
    refine xr_imul (pc := 46) (hI := d_M_read_46) (hr := ⟨by clear hyp; omega, by clear hyp; omega⟩) ?_
    refine xr_iconst (pc := 47) (hI := d_M_read_47) (hr := by decide) ?_
    refine xr_iadd (pc := 48) (hI := d_M_read_48) (hr := ⟨by clear hyp; omega, by clear hyp; omega⟩) ?_
    refine xr_iconst (pc := 49) (hI := d_M_read_49) (hr := by decide) ?_
    refine xr_iastore (pc := 50) (hI := d_M_read_50) (ft_61 F6_) (by decide) (by clear hyp; omega) (xlt_of (fl_61 F6_) (by clear hyp; omega)) ?_
    have F8_ : xFix (xst (xst h 61 (2 * x1) 0) 61 ((2 * x1) + 1) 0) := F6_.stA xfa_61
    refine xr_sipush (pc := 51) (hI := d_M_read_51) (hr := by decide) (hv := by decide) ?_
    refine xr_iload_n (pc := 54) (i := 1) (hI := d_M_read_54) (hi := rfl) (hl := rfl) ?_
    refine xr_imul (pc := 55) (hI := d_M_read_55) (hr := ⟨by clear hyp; omega, by clear hyp; omega⟩) ?_
    refine xr_istore_n (pc := 56) (i := 3) (L9 := [xR 53, xI x1, xI x2, xI (200 * x1), xZ, xZ, xZ]) (hI := d_M_read_56) (hi := rfl) (hn := Nat.le_of_ble_eq_true rfl) (hL9 := rfl) ?_
    refine xr_iconst (pc := 57) (hI := d_M_read_57) (hr := by decide) ?_
    refine xr_istore (pc := 58) (i := 4) (L9 := [xR 53, xI x1, xI x2, xI (200 * x1), xI 0, xZ, xZ]) (hI := d_M_read_58) (hn := Nat.le_of_ble_eq_true rfl) (hL9 := rfl) ?_
    refine xr_iconst (pc := 60) (hI := d_M_read_60) (hr := by decide) ?_
    refine xr_istore (pc := 61) (i := 5) (L9 := [xR 53, xI x1, xI x2, xI (200 * x1), xI 0, xI 0, xZ]) (hI := d_M_read_61) (hn := Nat.le_of_ble_eq_true rfl) (hL9 := rfl) ?_
    exact (hyp F8_)
  · replace hyp := hyp.2 q9
    have q2_ := q9
    clear q9
    refine xr_aload_n (pc := 12) (i := 0) (hI := d_M_read_12) (hi := rfl) (hl := rfl) ?_
    refine xg_getf (pc := 13) (ci := 11) (k := 1) (N := 38) (v9 := 2) (v := 54) (T := xF11) (hI := d_M_read_13) (hw := w_1588) rfl xi11 (Or.inl rfl) (Nat.le_of_ble_eq_true rfl) (Nat.le_of_ble_eq_true rfl) rfl (ft_53 F) (fp_53_1 F) (fun f9_ => ?_)
    clear f9_
    refine xr_iload_n (pc := 16) (i := 3) (hI := d_M_read_16) (hi := rfl) (hl := rfl) ?_
    obtain ⟨c10_, hyp⟩ := hyp
    obtain ⟨c11_, hyp⟩ := hyp
    refine xg_iaload (pc := 17) (v := (xpl h 54 x3)) (hI := d_M_read_17) (ft_54 F) c10_ (xlt_of (fl_54 F) c11_) rfl (fun f12_ => ?_)
    replace f12_ : -2147483648 ≤ (xpl h 54 x3) ∧ (xpl h 54 x3) ≤ 2147483647 := f12_
    refine xr_bipush (pc := 18) (hI := d_M_read_18) (hr := by decide) (hv := by decide) ?_
    refine xr_icmp_ne (pc := 20) (tgt := 25) (hI := d_M_read_20) (ht := by decide) (fun q9 => ?_) (fun q9 => ?_)
    · replace hyp := hyp.2 q9
      have q13_ := q9
      clear q9
      refine xr_iinc (pc := 25) (i := 3) (L9 := [xR 53, xI x1, xI x2, xI (x3 + 1), xZ, xZ, xZ]) (hI := d_M_read_25) (hl := rfl) (hn := Nat.le_of_ble_eq_true rfl) (hr := ⟨by clear hyp; omega, by clear hyp; omega⟩) (hL9 := rfl) ?_
      refine xr_goto (pc := 28) (tgt := 4) (hI := d_M_read_28) (ht := by decide) ?_
      exact hyp
    · replace hyp := hyp.1 q9
      have q13_ := q9
      clear q9
      refine xr_iconst (pc := 23) (hI := d_M_read_23) (hr := by decide) ?_
      refine xr_istore_n (pc := 24) (i := 2) (L9 := [xR 53, xI x1, xI 0, xI x3, xZ, xZ, xZ]) (hI := d_M_read_24) (hi := rfl) (hn := Nat.le_of_ble_eq_true rfl) (hL9 := rfl) ?_
      refine xr_iinc (pc := 25) (i := 3) (L9 := [xR 53, xI x1, xI 0, xI (x3 + 1), xZ, xZ, xZ]) (hI := d_M_read_25) (hl := rfl) (hn := Nat.le_of_ble_eq_true rfl) (hr := ⟨by clear hyp; omega, by clear hyp; omega⟩) (hL9 := rfl) ?_
      refine xr_goto (pc := 28) (tgt := 4) (hI := d_M_read_28) (ht := by decide) ?_
      exact hyp
theorem d_M_read_63 : decode prog_14_method_78_code 63 = .ok (.iload 5, 2) := by decide +kernel
theorem d_M_read_65 : decode prog_14_method_78_code 65 = .ok (.aload_n 0, 1) := by decide +kernel
theorem d_M_read_66 : decode prog_14_method_78_code 66 = .ok (.getfield 105, 3) := by decide +kernel
theorem d_M_read_69 : decode prog_14_method_78_code 69 = .ok (.if_icmp .ge 119, 3) := by decide +kernel
theorem d_M_read_188 : decode prog_14_method_78_code 188 = .ok (.iload 4, 2) := by decide +kernel
theorem d_M_read_190 : decode prog_14_method_78_code 190 = .ok (.ireturn, 1) := by decide +kernel
theorem d_M_read_72 : decode prog_14_method_78_code 72 = .ok (.aload_n 0, 1) := by decide +kernel
theorem d_M_read_73 : decode prog_14_method_78_code 73 = .ok (.getfield 9, 3) := by decide +kernel
theorem d_M_read_76 : decode prog_14_method_78_code 76 = .ok (.iload 5, 2) := by decide +kernel
theorem d_M_read_78 : decode prog_14_method_78_code 78 = .ok (.iaload, 1) := by decide +kernel
theorem d_M_read_79 : decode prog_14_method_78_code 79 = .ok (.bipush 124, 2) := by decide +kernel
theorem d_M_read_81 : decode prog_14_method_78_code 81 = .ok (.if_icmp .ne 5, 3) := by decide +kernel
theorem d_M_read_86 : decode prog_14_method_78_code 86 = .ok (.aload_n 0, 1) := by decide +kernel
theorem d_M_read_87 : decode prog_14_method_78_code 87 = .ok (.iload 5, 2) := by decide +kernel
theorem d_M_read_89 : decode prog_14_method_78_code 89 = .ok (.invokevirtual 252, 3) := by decide +kernel
theorem d_M_read_84 : decode prog_14_method_78_code 84 = .ok (.iconst 1, 1) := by decide +kernel
theorem d_M_read_85 : decode prog_14_method_78_code 85 = .ok (.istore_n 2, 1) := by decide +kernel
theorem v_M_read_63 {G : XG} {d : Nat} {h : XH} {Q : XV → XH → Prop} {X : Nat → XH → Prop} {x1 x2 x3 x4 x5 : Int} (F : xFix h) (hyp : (((xpl h 53 2) ≤ x5 → (Q (xI x4) h)) ∧ (¬ (xpl h 53 2) ≤ x5 → 0 ≤ x5 ∧ x5 < 400 ∧ (((xpl h 54 x5) = 124 → (xwp G m_M_runLength (d + 7) 0 [xR 53, xI x5, xZ] [] h (fun v9 h9 => xwp G m_M_read (d + 8) 92 [xR 53, xI x1, xI 1, xI x3, xI x4, xI x5, xZ] (xpush v9 []) h9 Q X) X)) ∧ (¬ (xpl h 54 x5) = 124 → (xwp G m_M_runLength (d + 7) 0 [xR 53, xI x5, xZ] [] h (fun v9 h9 => xwp G m_M_read (d + 8) 92 [xR 53, xI x1, xI x2, xI x3, xI x4, xI x5, xZ] (xpush v9 []) h9 Q X) X)))))) : xwp G m_M_read (d + 8) 63 [xR 53, xI x1, xI x2, xI x3, xI x4, xI x5, xZ] [] h Q X := by
  have hnx9 : (93 : Int) ≤ xnx h := F.2.2
  refine xr_okL (fun hl9 => ?_)
  have r_x1 : -2147483648 ≤ x1 ∧ x1 ≤ 2147483647 := hl9 (xI x1) (.tail _ (.head _)) (Nat.le_of_ble_eq_true rfl)
  have r_x2 : -2147483648 ≤ x2 ∧ x2 ≤ 2147483647 := hl9 (xI x2) (.tail _ (.tail _ (.head _))) (Nat.le_of_ble_eq_true rfl)
  have r_x3 : -2147483648 ≤ x3 ∧ x3 ≤ 2147483647 := hl9 (xI x3) (.tail _ (.tail _ (.tail _ (.head _)))) (Nat.le_of_ble_eq_true rfl)
  have r_x4 : -2147483648 ≤ x4 ∧ x4 ≤ 2147483647 := hl9 (xI x4) (.tail _ (.tail _ (.tail _ (.tail _ (.head _))))) (Nat.le_of_ble_eq_true rfl)
  have r_x5 : -2147483648 ≤ x5 ∧ x5 ≤ 2147483647 := hl9 (xI x5) (.tail _ (.tail _ (.tail _ (.tail _ (.tail _ (.head _)))))) (Nat.le_of_ble_eq_true rfl)
  refine xr_iload (pc := 63) (i := 5) (hI := d_M_read_63) (hl := rfl) ?_
  refine xr_aload_n (pc := 65) (i := 0) (hI := d_M_read_65) (hi := rfl) (hl := rfl) ?_
  refine xg_getf (pc := 66) (ci := 11) (k := 2) (N := 38) (v9 := 0) (v := (xpl h 53 2)) (T := xF11) (hI := d_M_read_66) (hw := w_1589) rfl xi11 (Or.inl rfl) (Nat.le_of_ble_eq_true rfl) (Nat.le_of_ble_eq_true rfl) rfl (ft_53 F) rfl (fun f1_ => ?_)
  replace f1_ : -2147483648 ≤ (xpl h 53 2) ∧ (xpl h 53 2) ≤ 2147483647 := f1_
  refine xr_icmp_ge (pc := 69) (tgt := 188) (hI := d_M_read_69) (ht := by decide) (fun q9 => ?_) (fun q9 => ?_)
  · replace hyp := hyp.1 q9
    have q2_ := q9
    clear q9
    refine xr_iload (pc := 188) (i := 4) (hI := d_M_read_188) (hl := rfl) ?_
    refine xr_ireturn (S := []) (pc := 190) (hI := d_M_read_190) (hr := rfl) ?_
    exact hyp
  · replace hyp := hyp.2 q9
    have q2_ := q9
    clear q9
    refine xr_aload_n (pc := 72) (i := 0) (hI := d_M_read_72) (hi := rfl) (hl := rfl) ?_
    refine xg_getf (pc := 73) (ci := 11) (k := 1) (N := 38) (v9 := 2) (v := 54) (T := xF11) (hI := d_M_read_73) (hw := w_1588) rfl xi11 (Or.inl rfl) (Nat.le_of_ble_eq_true rfl) (Nat.le_of_ble_eq_true rfl) rfl (ft_53 F) (fp_53_1 F) (fun f3_ => ?_)
    clear f3_
    refine xr_iload (pc := 76) (i := 5) (hI := d_M_read_76) (hl := rfl) ?_
    obtain ⟨c4_, hyp⟩ := hyp
    obtain ⟨c5_, hyp⟩ := hyp
    refine xg_iaload (pc := 78) (v := (xpl h 54 x5)) (hI := d_M_read_78) (ft_54 F) c4_ (xlt_of (fl_54 F) c5_) rfl (fun f6_ => ?_)
    replace f6_ : -2147483648 ≤ (xpl h 54 x5) ∧ (xpl h 54 x5) ≤ 2147483647 := f6_
    refine xr_bipush (pc := 79) (hI := d_M_read_79) (hr := by decide) (hv := by decide) ?_
    refine xr_icmp_ne (pc := 81) (tgt := 86) (hI := d_M_read_81) (ht := by decide) (fun q9 => ?_) (fun q9 => ?_)
    · replace hyp := hyp.2 q9
      have q7_ := q9
      clear q9
      refine xr_aload_n (pc := 86) (i := 0) (hI := d_M_read_86) (hi := rfl) (hl := rfl) ?_
      refine xr_iload (pc := 87) (i := 5) (hI := d_M_read_87) (hl := rfl) ?_
      exact xq_callV (pc := 89) (index := 252) (K := m_M_runLength) (As := [xI x5]) (S := []) (L0 := [xR 53, xI x5, xZ]) (hI := d_M_read_89) (hK := k_M_runLength) (hlk := w_1753) (hnoM := rfl) (hS8 := Nat.le_of_ble_eq_true rfl) (ci := 11) (N := 38) (C := "BeaconIndexModel") (T := xF11) (hc := rfl) (hci := Nat.le_of_ble_eq_true rfl) (htb := (ft_53 F)) (hinst := w_1755) (hsel := sel_M_runLength) (hlen := Nat.le_of_ble_eq_true rfl) (hst := rfl) (hL0 := rfl)  hyp
    · replace hyp := hyp.1 q9
      have q7_ := q9
      clear q9
      refine xr_iconst (pc := 84) (hI := d_M_read_84) (hr := by decide) ?_
      refine xr_istore_n (pc := 85) (i := 2) (L9 := [xR 53, xI x1, xI 1, xI x3, xI x4, xI x5, xZ]) (hI := d_M_read_85) (hi := rfl) (hn := Nat.le_of_ble_eq_true rfl) (hL9 := rfl) ?_
      refine xr_aload_n (pc := 86) (i := 0) (hI := d_M_read_86) (hi := rfl) (hl := rfl) ?_
      refine xr_iload (pc := 87) (i := 5) (hI := d_M_read_87) (hl := rfl) ?_
      exact xq_callV (pc := 89) (index := 252) (K := m_M_runLength) (As := [xI x5]) (S := []) (L0 := [xR 53, xI x5, xZ]) (hI := d_M_read_89) (hK := k_M_runLength) (hlk := w_1753) (hnoM := rfl) (hS8 := Nat.le_of_ble_eq_true rfl) (ci := 11) (N := 38) (C := "BeaconIndexModel") (T := xF11) (hc := rfl) (hci := Nat.le_of_ble_eq_true rfl) (htb := (ft_53 F)) (hinst := w_1755) (hsel := sel_M_runLength) (hlen := Nat.le_of_ble_eq_true rfl) (hst := rfl) (hL0 := rfl)  hyp
theorem d_M_read_92 : decode prog_14_method_78_code 92 = .ok (.istore 6, 2) := by decide +kernel
theorem d_M_read_94 : decode prog_14_method_78_code 94 = .ok (.iload 6, 2) := by decide +kernel
theorem d_M_read_96 : decode prog_14_method_78_code 96 = .ok (.ifCond .ne 6, 3) := by decide +kernel
theorem d_M_read_102 : decode prog_14_method_78_code 102 = .ok (.aload_n 0, 1) := by decide +kernel
theorem d_M_read_103 : decode prog_14_method_78_code 103 = .ok (.getfield 35, 3) := by decide +kernel
theorem d_M_read_106 : decode prog_14_method_78_code 106 = .ok (.iload_n 3, 1) := by decide +kernel
theorem d_M_read_107 : decode prog_14_method_78_code 107 = .ok (.aload_n 0, 1) := by decide +kernel
theorem d_M_read_108 : decode prog_14_method_78_code 108 = .ok (.iload 5, 2) := by decide +kernel
theorem d_M_read_110 : decode prog_14_method_78_code 110 = .ok (.iload 6, 2) := by decide +kernel
theorem d_M_read_112 : decode prog_14_method_78_code 112 = .ok (.invokevirtual 323, 3) := by decide +kernel
theorem k_M_isSmall : xCal m_M_isSmall 2 := ⟨List.mem_append_right _ (List.mem_of_getElem? (i := 1768) (by decide +kernel)), w_15, Nat.le_of_ble_eq_true rfl, ⟨by decide +kernel, by decide +kernel⟩, by decide +kernel, by decide +kernel, rfl⟩
theorem w_1765 : Cond.methodLink "BeaconIndexModel" 323 ⟨"BeaconIndexModel", "isSmall", "(II)Z"⟩ ∈ lw_tbl := List.mem_append_right _ (List.mem_of_getElem? (i := 1765) (by decide +kernel))
theorem w_1767 : Cond.instanceMethod ⟨"BeaconIndexModel", "isSmall", "(II)Z"⟩ ∈ lw_tbl := List.mem_append_right _ (List.mem_of_getElem? (i := 1767) (by decide +kernel))
theorem sel_M_isSmall : Cond.selects "BeaconIndexModel" ⟨"BeaconIndexModel", "isSmall", "(II)Z"⟩ ⟨"BeaconIndexModel", "isSmall", "(II)Z"⟩ ∈ lw_tbl := List.mem_append_left _ (by decide +kernel)
theorem d_M_read_99 : decode prog_14_method_78_code 99 = .ok (.goto 83, 3) := by decide +kernel
theorem d_M_read_182 : decode prog_14_method_78_code 182 = .ok (.iinc 5 1, 3) := by decide +kernel
theorem d_M_read_185 : decode prog_14_method_78_code 185 = .ok (.goto (-122), 3) := by decide +kernel
theorem v_M_read_92 {G : XG} {d : Nat} {h : XH} {Q : XV → XH → Prop} {X : Nat → XH → Prop} {x1 x2 x3 x4 x5 s0 : Int} (F : xFix h) (hyp : ((s0 = 0 → xiR (x5 + 1) ∧ (xwp G m_M_read (d + 8) 63 [xR 53, xI x1, xI x2, xI x3, xI x4, xI (x5 + 1), xZ] [] h Q X)) ∧ (¬ s0 = 0 → (xwp G m_M_isSmall (d + 7) 0 [xR 53, xI x5, xI s0, xZ, xZ, xZ, xZ] [] h (fun v9 h9 => xwp G m_M_read (d + 8) 115 [xR 53, xI x1, xI x2, xI x3, xI x4, xI x5, xI s0] (xpush v9 [xI x3, xR 62]) h9 Q X) X)))) : xwp G m_M_read (d + 8) 92 [xR 53, xI x1, xI x2, xI x3, xI x4, xI x5, xZ] [xI s0] h Q X := by
  have hnx9 : (93 : Int) ≤ xnx h := F.2.2
  refine xr_okL (fun hl9 => ?_)
  have r_x1 : -2147483648 ≤ x1 ∧ x1 ≤ 2147483647 := hl9 (xI x1) (.tail _ (.head _)) (Nat.le_of_ble_eq_true rfl)
  have r_x2 : -2147483648 ≤ x2 ∧ x2 ≤ 2147483647 := hl9 (xI x2) (.tail _ (.tail _ (.head _))) (Nat.le_of_ble_eq_true rfl)
  have r_x3 : -2147483648 ≤ x3 ∧ x3 ≤ 2147483647 := hl9 (xI x3) (.tail _ (.tail _ (.tail _ (.head _)))) (Nat.le_of_ble_eq_true rfl)
  have r_x4 : -2147483648 ≤ x4 ∧ x4 ≤ 2147483647 := hl9 (xI x4) (.tail _ (.tail _ (.tail _ (.tail _ (.head _))))) (Nat.le_of_ble_eq_true rfl)
  have r_x5 : -2147483648 ≤ x5 ∧ x5 ≤ 2147483647 := hl9 (xI x5) (.tail _ (.tail _ (.tail _ (.tail _ (.tail _ (.head _)))))) (Nat.le_of_ble_eq_true rfl)
  refine xr_okS (fun hs9 => ?_)
  have r_s0 : -2147483648 ≤ s0 ∧ s0 ≤ 2147483647 := hs9 (xI s0) (.head _)
  refine xr_istore (pc := 92) (i := 6) (L9 := [xR 53, xI x1, xI x2, xI x3, xI x4, xI x5, xI s0]) (hI := d_M_read_92) (hn := Nat.le_of_ble_eq_true rfl) (hL9 := rfl) ?_
  refine xr_iload (pc := 94) (i := 6) (hI := d_M_read_94) (hl := rfl) ?_
  refine xr_if_ne (pc := 96) (tgt := 102) (hI := d_M_read_96) (ht := by decide) (fun q9 => ?_) (fun q9 => ?_)
  · replace hyp := hyp.2 q9
    have q1_ := q9
    clear q9
    refine xr_aload_n (pc := 102) (i := 0) (hI := d_M_read_102) (hi := rfl) (hl := rfl) ?_
    refine xg_getf (pc := 103) (ci := 11) (k := 13) (N := 38) (v9 := 2) (v := 62) (T := xF11) (hI := d_M_read_103) (hw := w_1600) rfl xi11 (Or.inl rfl) (Nat.le_of_ble_eq_true rfl) (Nat.le_of_ble_eq_true rfl) rfl (ft_53 F) (fp_53_13 F) (fun f2_ => ?_)
    clear f2_
    refine xr_iload_n (pc := 106) (i := 3) (hI := d_M_read_106) (hi := rfl) (hl := rfl) ?_
    refine xr_aload_n (pc := 107) (i := 0) (hI := d_M_read_107) (hi := rfl) (hl := rfl) ?_
    refine xr_iload (pc := 108) (i := 5) (hI := d_M_read_108) (hl := rfl) ?_
    refine xr_iload (pc := 110) (i := 6) (hI := d_M_read_110) (hl := rfl) ?_
    exact xq_callV (pc := 112) (index := 323) (K := m_M_isSmall) (As := [xI x5, xI s0]) (S := [xI x3, xR 62]) (L0 := [xR 53, xI x5, xI s0, xZ, xZ, xZ, xZ]) (hI := d_M_read_112) (hK := k_M_isSmall) (hlk := w_1765) (hnoM := rfl) (hS8 := Nat.le_of_ble_eq_true rfl) (ci := 11) (N := 38) (C := "BeaconIndexModel") (T := xF11) (hc := rfl) (hci := Nat.le_of_ble_eq_true rfl) (htb := (ft_53 F)) (hinst := w_1767) (hsel := sel_M_isSmall) (hlen := Nat.le_of_ble_eq_true rfl) (hst := rfl) (hL0 := rfl)  hyp
  · replace hyp := hyp.1 q9
    have q1_ := q9
    clear q9
    refine xr_goto (pc := 99) (tgt := 182) (hI := d_M_read_99) (ht := by decide) ?_
    obtain ⟨c9, hyp⟩ := hyp
    refine xr_iinc (pc := 182) (i := 5) (L9 := [xR 53, xI x1, xI x2, xI x3, xI x4, xI (x5 + 1), xI s0]) (hI := d_M_read_182) (hl := rfl) (hn := Nat.le_of_ble_eq_true rfl) (hr := c9) (hL9 := rfl) ?_
    refine xr_goto (pc := 185) (tgt := 63) (hI := d_M_read_185) (ht := by decide) ?_
    exact xr_drop (L9 := [xR 53, xI x1, xI x2, xI x3, xI x4, xI (x5 + 1), xZ]) (xdrs (xdrs (xdrs (xdrs (xdrs (xdrs (xdrz xdr0))))))) hyp
theorem d_M_read_115 : decode prog_14_method_78_code 115 = .ok (.ifCond .eq 9, 3) := by decide +kernel
theorem d_M_read_124 : decode prog_14_method_78_code 124 = .ok (.aload_n 0, 1) := by decide +kernel
theorem d_M_read_125 : decode prog_14_method_78_code 125 = .ok (.iload 5, 2) := by decide +kernel
theorem d_M_read_127 : decode prog_14_method_78_code 127 = .ok (.iload 6, 2) := by decide +kernel
theorem d_M_read_129 : decode prog_14_method_78_code 129 = .ok (.invokevirtual 326, 3) := by decide +kernel
theorem d_M_read_118 : decode prog_14_method_78_code 118 = .ok (.ldc2_w 225, 3) := by decide +kernel
theorem w_1777 : Cond.constantLong "BeaconIndexModel" 225 (-1 : Int64) ∈ lw_tbl := List.mem_append_right _ (List.mem_of_getElem? (i := 1777) (by decide +kernel))
theorem d_M_read_121 : decode prog_14_method_78_code 121 = .ok (.goto 11, 3) := by decide +kernel
theorem v_M_read_115 {G : XG} {d : Nat} {h : XH} {Q : XV → XH → Prop} {X : Nat → XH → Prop} {x1 x2 x3 x4 x5 x6 s0 s1 s2 : Int} (F : xFix h) (hyp : ((s0 = 0 → (xwp G m_M_wordAt (d + 7) 0 [xR 53, xI x5, xI x6, xZ] [] h (fun v9 h9 => xwp G m_M_read (d + 8) 132 [xR 53, xI x1, xI x2, xI x3, xI x4, xI x5, xI x6] (xpush v9 [xI s1, xR s2]) h9 Q X) X)) ∧ (¬ s0 = 0 → (xwp G m_M_read (d + 8) 132 [xR 53, xI x1, xI x2, xI x3, xI x4, xI x5, xI x6] [xL (-1), xI s1, xR s2] h Q X)))) : xwp G m_M_read (d + 8) 115 [xR 53, xI x1, xI x2, xI x3, xI x4, xI x5, xI x6] [xI s0, xI s1, xR s2] h Q X := by
  have hnx9 : (93 : Int) ≤ xnx h := F.2.2
  refine xr_okL (fun hl9 => ?_)
  have r_x1 : -2147483648 ≤ x1 ∧ x1 ≤ 2147483647 := hl9 (xI x1) (.tail _ (.head _)) (Nat.le_of_ble_eq_true rfl)
  have r_x2 : -2147483648 ≤ x2 ∧ x2 ≤ 2147483647 := hl9 (xI x2) (.tail _ (.tail _ (.head _))) (Nat.le_of_ble_eq_true rfl)
  have r_x3 : -2147483648 ≤ x3 ∧ x3 ≤ 2147483647 := hl9 (xI x3) (.tail _ (.tail _ (.tail _ (.head _)))) (Nat.le_of_ble_eq_true rfl)
  have r_x4 : -2147483648 ≤ x4 ∧ x4 ≤ 2147483647 := hl9 (xI x4) (.tail _ (.tail _ (.tail _ (.tail _ (.head _))))) (Nat.le_of_ble_eq_true rfl)
  have r_x5 : -2147483648 ≤ x5 ∧ x5 ≤ 2147483647 := hl9 (xI x5) (.tail _ (.tail _ (.tail _ (.tail _ (.tail _ (.head _)))))) (Nat.le_of_ble_eq_true rfl)
  have r_x6 : -2147483648 ≤ x6 ∧ x6 ≤ 2147483647 := hl9 (xI x6) (.tail _ (.tail _ (.tail _ (.tail _ (.tail _ (.tail _ (.head _))))))) (Nat.le_of_ble_eq_true rfl)
  refine xr_okS (fun hs9 => ?_)
  have r_s0 : -2147483648 ≤ s0 ∧ s0 ≤ 2147483647 := hs9 (xI s0) (.head _)
  have r_s1 : -2147483648 ≤ s1 ∧ s1 ≤ 2147483647 := hs9 (xI s1) (.tail _ (.head _))
  refine xr_if_eq (pc := 115) (tgt := 124) (hI := d_M_read_115) (ht := by decide) (fun q9 => ?_) (fun q9 => ?_)
  · replace hyp := hyp.1 q9
    have q1_ := q9
    clear q9
    refine xr_aload_n (pc := 124) (i := 0) (hI := d_M_read_124) (hi := rfl) (hl := rfl) ?_
    refine xr_iload (pc := 125) (i := 5) (hI := d_M_read_125) (hl := rfl) ?_
    refine xr_iload (pc := 127) (i := 6) (hI := d_M_read_127) (hl := rfl) ?_
    exact xq_callV (pc := 129) (index := 326) (K := m_M_wordAt) (As := [xI x5, xI x6]) (S := [xI s1, xR s2]) (L0 := [xR 53, xI x5, xI x6, xZ]) (hI := d_M_read_129) (hK := k_M_wordAt) (hlk := w_1778) (hnoM := rfl) (hS8 := Nat.le_of_ble_eq_true rfl) (ci := 11) (N := 38) (C := "BeaconIndexModel") (T := xF11) (hc := rfl) (hci := Nat.le_of_ble_eq_true rfl) (htb := (ft_53 F)) (hinst := w_1780) (hsel := sel_M_wordAt) (hlen := Nat.le_of_ble_eq_true rfl) (hst := rfl) (hL0 := rfl)  hyp
  · replace hyp := hyp.2 q9
    have q1_ := q9
    clear q9
    refine xr_ldc2 (pc := 118) (z := (-1)) (hI := d_M_read_118) (hw := w_1777) (hr := by decide) (hv := by decide) ?_
    refine xr_goto (pc := 121) (tgt := 132) (hI := d_M_read_121) (ht := by decide) ?_
    exact hyp
theorem d_M_read_132 : decode prog_14_method_78_code 132 = .ok (.lastore, 1) := by decide +kernel
theorem xfa_62 : xfreeA 62 = true := by decide +kernel
theorem d_M_read_133 : decode prog_14_method_78_code 133 = .ok (.iload 4, 2) := by decide +kernel
theorem d_M_read_135 : decode prog_14_method_78_code 135 = .ok (.aload_n 0, 1) := by decide +kernel
theorem d_M_read_136 : decode prog_14_method_78_code 136 = .ok (.getfield 35, 3) := by decide +kernel
theorem d_M_read_139 : decode prog_14_method_78_code 139 = .ok (.iload_n 3, 1) := by decide +kernel
theorem d_M_read_140 : decode prog_14_method_78_code 140 = .ok (.laload, 1) := by decide +kernel
theorem d_M_read_141 : decode prog_14_method_78_code 141 = .ok (.ldc2_w 225, 3) := by decide +kernel
theorem d_M_read_144 : decode prog_14_method_78_code 144 = .ok (.lcmp, 1) := by decide +kernel
theorem d_M_read_145 : decode prog_14_method_78_code 145 = .ok (.ifCond .ne 7, 3) := by decide +kernel
theorem d_M_read_152 : decode prog_14_method_78_code 152 = .ok (.iconst 1, 1) := by decide +kernel
theorem d_M_read_148 : decode prog_14_method_78_code 148 = .ok (.iconst 0, 1) := by decide +kernel
theorem d_M_read_149 : decode prog_14_method_78_code 149 = .ok (.goto 4, 3) := by decide +kernel
theorem v_M_read_132 {G : XG} {d : Nat} {h : XH} {Q : XV → XH → Prop} {X : Nat → XH → Prop} {x1 x2 x3 x4 x5 x6 s0 s1 : Int} (F : xFix h) (hyp : 0 ≤ s1 ∧ s1 < 12000 ∧ 0 ≤ x3 ∧ x3 < 12000 ∧ (((xpl (xst h 62 s1 s0) 62 x3) = (-1) → (xFix (xst h 62 s1 s0) → xwp G m_M_read (d + 8) 153 [xR 53, xI x1, xI x2, xI x3, xZ, xI x5, xI x6] [xI 0, xI x4] (xst h 62 s1 s0) Q X)) ∧ (¬ (xpl (xst h 62 s1 s0) 62 x3) = (-1) → (xFix (xst h 62 s1 s0) → xwp G m_M_read (d + 8) 153 [xR 53, xI x1, xI x2, xI x3, xZ, xI x5, xI x6] [xI 1, xI x4] (xst h 62 s1 s0) Q X)))) : xwp G m_M_read (d + 8) 132 [xR 53, xI x1, xI x2, xI x3, xI x4, xI x5, xI x6] [xL s0, xI s1, xR 62] h Q X := by
  have hnx9 : (93 : Int) ≤ xnx h := F.2.2
  refine xr_okL (fun hl9 => ?_)
  have r_x1 : -2147483648 ≤ x1 ∧ x1 ≤ 2147483647 := hl9 (xI x1) (.tail _ (.head _)) (Nat.le_of_ble_eq_true rfl)
  have r_x2 : -2147483648 ≤ x2 ∧ x2 ≤ 2147483647 := hl9 (xI x2) (.tail _ (.tail _ (.head _))) (Nat.le_of_ble_eq_true rfl)
  have r_x3 : -2147483648 ≤ x3 ∧ x3 ≤ 2147483647 := hl9 (xI x3) (.tail _ (.tail _ (.tail _ (.head _)))) (Nat.le_of_ble_eq_true rfl)
  have r_x4 : -2147483648 ≤ x4 ∧ x4 ≤ 2147483647 := hl9 (xI x4) (.tail _ (.tail _ (.tail _ (.tail _ (.head _))))) (Nat.le_of_ble_eq_true rfl)
  have r_x5 : -2147483648 ≤ x5 ∧ x5 ≤ 2147483647 := hl9 (xI x5) (.tail _ (.tail _ (.tail _ (.tail _ (.tail _ (.head _)))))) (Nat.le_of_ble_eq_true rfl)
  have r_x6 : -2147483648 ≤ x6 ∧ x6 ≤ 2147483647 := hl9 (xI x6) (.tail _ (.tail _ (.tail _ (.tail _ (.tail _ (.tail _ (.head _))))))) (Nat.le_of_ble_eq_true rfl)
  refine xr_okS (fun hs9 => ?_)
  have r_s0 : -9223372036854775808 ≤ s0 ∧ s0 ≤ 9223372036854775807 := hs9 (xL s0) (.head _)
  have r_s1 : -2147483648 ≤ s1 ∧ s1 ≤ 2147483647 := hs9 (xI s1) (.tail _ (.head _))
  obtain ⟨c1_, hyp⟩ := hyp
  obtain ⟨c2_, hyp⟩ := hyp
  refine xr_lastore (pc := 132) (hI := d_M_read_132) (ft_62 F) (by decide) c1_ (xlt_of (fl_62 F) c2_) ?_
  have F3_ : xFix (xst h 62 s1 s0) := F.stA xfa_62
  refine xr_iload (pc := 133) (i := 4) (hI := d_M_read_133) (hl := rfl) ?_
  refine xr_aload_n (pc := 135) (i := 0) (hI := d_M_read_135) (hi := rfl) (hl := rfl) ?_
  refine xg_getf (pc := 136) (ci := 11) (k := 13) (N := 38) (v9 := 2) (v := 62) (T := xF11) (hI := d_M_read_136) (hw := w_1600) rfl xi11 (Or.inl rfl) (Nat.le_of_ble_eq_true rfl) (Nat.le_of_ble_eq_true rfl) rfl (ft_53 F3_) (fp_53_13 F3_) (fun f4_ => ?_)
  clear f4_
  refine xr_iload_n (pc := 139) (i := 3) (hI := d_M_read_139) (hi := rfl) (hl := rfl) ?_
  obtain ⟨c5_, hyp⟩ := hyp
  obtain ⟨c6_, hyp⟩ := hyp
  refine xg_laload (pc := 140) (v := (xpl (xst h 62 s1 s0) 62 x3)) (hI := d_M_read_140) (ft_62 F3_) c5_ (xlt_of (fl_62 F3_) c6_) rfl (fun f7_ => ?_)
  replace f7_ : -9223372036854775808 ≤ (xpl (xst h 62 s1 s0) 62 x3) ∧ (xpl (xst h 62 s1 s0) 62 x3) ≤ 9223372036854775807 := f7_
  refine xr_ldc2 (pc := 141) (z := (-1)) (hI := d_M_read_141) (hw := w_1777) (hr := by decide) (hv := by decide) ?_
  refine xr_lcmp (pc := 144) (hI := d_M_read_144) ?_
  refine xg_lif_ne (pc := 145) (tgt := 152) (hI := d_M_read_145) (ht := by decide) (fun q9 => ?_) (fun q9 => ?_)
  · replace hyp := hyp.2 q9
    have q8_ := q9
    clear q9
    refine xr_iconst (pc := 152) (hI := d_M_read_152) (hr := by decide) ?_
    exact xr_drop (L9 := [xR 53, xI x1, xI x2, xI x3, xZ, xI x5, xI x6]) (xdrs (xdrs (xdrs (xdrs (xdrz (xdrs (xdrs xdr0))))))) (hyp F3_)
  · replace hyp := hyp.1 q9
    have q8_ := q9
    clear q9
    refine xr_iconst (pc := 148) (hI := d_M_read_148) (hr := by decide) ?_
    refine xr_goto (pc := 149) (tgt := 153) (hI := d_M_read_149) (ht := by decide) ?_
    exact xr_drop (L9 := [xR 53, xI x1, xI x2, xI x3, xZ, xI x5, xI x6]) (xdrs (xdrs (xdrs (xdrs (xdrz (xdrs (xdrs xdr0))))))) (hyp F3_)
theorem d_M_read_153 : decode prog_14_method_78_code 153 = .ok (.iadd, 1) := by decide +kernel
theorem d_M_read_154 : decode prog_14_method_78_code 154 = .ok (.istore 4, 2) := by decide +kernel
theorem d_M_read_156 : decode prog_14_method_78_code 156 = .ok (.aload_n 0, 1) := by decide +kernel
theorem d_M_read_157 : decode prog_14_method_78_code 157 = .ok (.getfield 32, 3) := by decide +kernel
theorem d_M_read_160 : decode prog_14_method_78_code 160 = .ok (.iconst 2, 1) := by decide +kernel
theorem d_M_read_161 : decode prog_14_method_78_code 161 = .ok (.iload_n 1, 1) := by decide +kernel
theorem d_M_read_162 : decode prog_14_method_78_code 162 = .ok (.imul, 1) := by decide +kernel
theorem d_M_read_163 : decode prog_14_method_78_code 163 = .ok (.iload_n 2, 1) := by decide +kernel
theorem d_M_read_164 : decode prog_14_method_78_code 164 = .ok (.iadd, 1) := by decide +kernel
theorem d_M_read_165 : decode prog_14_method_78_code 165 = .ok (.dup2, 1) := by decide +kernel
theorem d_M_read_166 : decode prog_14_method_78_code 166 = .ok (.iaload, 1) := by decide +kernel
theorem d_M_read_167 : decode prog_14_method_78_code 167 = .ok (.iconst 1, 1) := by decide +kernel
theorem d_M_read_168 : decode prog_14_method_78_code 168 = .ok (.iadd, 1) := by decide +kernel
theorem d_M_read_169 : decode prog_14_method_78_code 169 = .ok (.iastore, 1) := by decide +kernel
theorem d_M_read_170 : decode prog_14_method_78_code 170 = .ok (.iinc 3 1, 3) := by decide +kernel
theorem d_M_read_173 : decode prog_14_method_78_code 173 = .ok (.iload 5, 2) := by decide +kernel
theorem d_M_read_175 : decode prog_14_method_78_code 175 = .ok (.iload 6, 2) := by decide +kernel
theorem d_M_read_177 : decode prog_14_method_78_code 177 = .ok (.iconst 1, 1) := by decide +kernel
theorem d_M_read_178 : decode prog_14_method_78_code 178 = .ok (.isub, 1) := by decide +kernel
theorem d_M_read_179 : decode prog_14_method_78_code 179 = .ok (.iadd, 1) := by decide +kernel
theorem d_M_read_180 : decode prog_14_method_78_code 180 = .ok (.istore 5, 2) := by decide +kernel
theorem v_M_read_153 {G : XG} {d : Nat} {h : XH} {Q : XV → XH → Prop} {X : Nat → XH → Prop} {x1 x2 x3 x5 x6 s0 s1 : Int} (F : xFix h) (hyp : xiR (s1 + s0) ∧ xiR (2 * x1) ∧ xiR ((2 * x1) + x2) ∧ 0 ≤ ((2 * x1) + x2) ∧ ((2 * x1) + x2) < 120 ∧ xiR ((xpl h 61 ((2 * x1) + x2)) + 1) ∧ xiR (x3 + 1) ∧ xiR (x6 - 1) ∧ xiR (x5 + (x6 - 1)) ∧ xiR ((x5 + (x6 - 1)) + 1) ∧ (xFix (xst h 61 ((2 * x1) + x2) ((xpl h 61 ((2 * x1) + x2)) + 1)) → xwp G m_M_read (d + 8) 63 [xR 53, xI x1, xI x2, xI (x3 + 1), xI (s1 + s0), xI ((x5 + (x6 - 1)) + 1), xZ] [] (xst h 61 ((2 * x1) + x2) ((xpl h 61 ((2 * x1) + x2)) + 1)) Q X)) : xwp G m_M_read (d + 8) 153 [xR 53, xI x1, xI x2, xI x3, xZ, xI x5, xI x6] [xI s0, xI s1] h Q X := by
  have hnx9 : (93 : Int) ≤ xnx h := F.2.2
  refine xr_okL (fun hl9 => ?_)
  have r_x1 : -2147483648 ≤ x1 ∧ x1 ≤ 2147483647 := hl9 (xI x1) (.tail _ (.head _)) (Nat.le_of_ble_eq_true rfl)
  have r_x2 : -2147483648 ≤ x2 ∧ x2 ≤ 2147483647 := hl9 (xI x2) (.tail _ (.tail _ (.head _))) (Nat.le_of_ble_eq_true rfl)
  have r_x3 : -2147483648 ≤ x3 ∧ x3 ≤ 2147483647 := hl9 (xI x3) (.tail _ (.tail _ (.tail _ (.head _)))) (Nat.le_of_ble_eq_true rfl)
  have r_x5 : -2147483648 ≤ x5 ∧ x5 ≤ 2147483647 := hl9 (xI x5) (.tail _ (.tail _ (.tail _ (.tail _ (.tail _ (.head _)))))) (Nat.le_of_ble_eq_true rfl)
  have r_x6 : -2147483648 ≤ x6 ∧ x6 ≤ 2147483647 := hl9 (xI x6) (.tail _ (.tail _ (.tail _ (.tail _ (.tail _ (.tail _ (.head _))))))) (Nat.le_of_ble_eq_true rfl)
  refine xr_okS (fun hs9 => ?_)
  have r_s0 : -2147483648 ≤ s0 ∧ s0 ≤ 2147483647 := hs9 (xI s0) (.head _)
  have r_s1 : -2147483648 ≤ s1 ∧ s1 ≤ 2147483647 := hs9 (xI s1) (.tail _ (.head _))
  obtain ⟨c9, hyp⟩ := hyp
  refine xr_iadd (pc := 153) (hI := d_M_read_153) (hr := c9) ?_
  refine xr_istore (pc := 154) (i := 4) (L9 := [xR 53, xI x1, xI x2, xI x3, xI (s1 + s0), xI x5, xI x6]) (hI := d_M_read_154) (hn := Nat.le_of_ble_eq_true rfl) (hL9 := rfl) ?_
  refine xr_aload_n (pc := 156) (i := 0) (hI := d_M_read_156) (hi := rfl) (hl := rfl) ?_
  refine xg_getf (pc := 157) (ci := 11) (k := 12) (N := 38) (v9 := 2) (v := 61) (T := xF11) (hI := d_M_read_157) (hw := w_1599) rfl xi11 (Or.inl rfl) (Nat.le_of_ble_eq_true rfl) (Nat.le_of_ble_eq_true rfl) rfl (ft_53 F) (fp_53_12 F) (fun f1_ => ?_)
  clear f1_
  refine xr_iconst (pc := 160) (hI := d_M_read_160) (hr := by decide) ?_
  refine xr_iload_n (pc := 161) (i := 1) (hI := d_M_read_161) (hi := rfl) (hl := rfl) ?_
  obtain ⟨c9, hyp⟩ := hyp
  refine xr_imul (pc := 162) (hI := d_M_read_162) (hr := c9) ?_
  refine xr_iload_n (pc := 163) (i := 2) (hI := d_M_read_163) (hi := rfl) (hl := rfl) ?_
  obtain ⟨c9, hyp⟩ := hyp
  refine xr_iadd (pc := 164) (hI := d_M_read_164) (hr := c9) ?_
  refine xr_dup2 (pc := 165) (hI := d_M_read_165) (hv := rfl) (hw := rfl) ?_
  obtain ⟨c2_, hyp⟩ := hyp
  obtain ⟨c3_, hyp⟩ := hyp
  refine xg_iaload (pc := 166) (v := (xpl h 61 ((2 * x1) + x2))) (hI := d_M_read_166) (ft_61 F) c2_ (xlt_of (fl_61 F) c3_) rfl (fun f4_ => ?_)
  replace f4_ : -2147483648 ≤ (xpl h 61 ((2 * x1) + x2)) ∧ (xpl h 61 ((2 * x1) + x2)) ≤ 2147483647 := f4_
  refine xr_iconst (pc := 167) (hI := d_M_read_167) (hr := by decide) ?_
  obtain ⟨c9, hyp⟩ := hyp
  refine xr_iadd (pc := 168) (hI := d_M_read_168) (hr := c9) ?_
  refine xr_iastore (pc := 169) (hI := d_M_read_169) (ft_61 F) (by decide) (by clear hyp; omega) (xlt_of (fl_61 F) (by clear hyp; omega)) ?_
  have F5_ : xFix (xst h 61 ((2 * x1) + x2) ((xpl h 61 ((2 * x1) + x2)) + 1)) := F.stA xfa_61
  obtain ⟨c9, hyp⟩ := hyp
  refine xr_iinc (pc := 170) (i := 3) (L9 := [xR 53, xI x1, xI x2, xI (x3 + 1), xI (s1 + s0), xI x5, xI x6]) (hI := d_M_read_170) (hl := rfl) (hn := Nat.le_of_ble_eq_true rfl) (hr := c9) (hL9 := rfl) ?_
  refine xr_iload (pc := 173) (i := 5) (hI := d_M_read_173) (hl := rfl) ?_
  refine xr_iload (pc := 175) (i := 6) (hI := d_M_read_175) (hl := rfl) ?_
  refine xr_iconst (pc := 177) (hI := d_M_read_177) (hr := by decide) ?_
  obtain ⟨c9, hyp⟩ := hyp
  refine xr_isub (pc := 178) (hI := d_M_read_178) (hr := c9) ?_
  obtain ⟨c9, hyp⟩ := hyp
  refine xr_iadd (pc := 179) (hI := d_M_read_179) (hr := c9) ?_
  refine xr_istore (pc := 180) (i := 5) (L9 := [xR 53, xI x1, xI x2, xI (x3 + 1), xI (s1 + s0), xI (x5 + (x6 - 1)), xI x6]) (hI := d_M_read_180) (hn := Nat.le_of_ble_eq_true rfl) (hL9 := rfl) ?_
  obtain ⟨c9, hyp⟩ := hyp
  refine xr_iinc (pc := 182) (i := 5) (L9 := [xR 53, xI x1, xI x2, xI (x3 + 1), xI (s1 + s0), xI ((x5 + (x6 - 1)) + 1), xI x6]) (hI := d_M_read_182) (hl := rfl) (hn := Nat.le_of_ble_eq_true rfl) (hr := c9) (hL9 := rfl) ?_
  refine xr_goto (pc := 185) (tgt := 63) (hI := d_M_read_185) (ht := by decide) ?_
  exact xr_drop (L9 := [xR 53, xI x1, xI x2, xI (x3 + 1), xI (s1 + s0), xI ((x5 + (x6 - 1)) + 1), xZ]) (xdrs (xdrs (xdrs (xdrs (xdrs (xdrs (xdrz xdr0))))))) (hyp F5_)
abbrev m_M_add : XM := (⟨"BeaconIndexModel", "add", "(III)I"⟩, prog_14_method_77_code, 7, (some .int), [])
theorem d_M_add_0 : decode prog_14_method_77_code 0 = .ok (.aload_n 0, 1) := by decide +kernel
theorem d_M_add_1 : decode prog_14_method_77_code 1 = .ok (.iconst 0, 1) := by decide +kernel
theorem d_M_add_2 : decode prog_14_method_77_code 2 = .ok (.putfield 97, 3) := by decide +kernel
theorem d_M_add_5 : decode prog_14_method_77_code 5 = .ok (.iload_n 1, 1) := by decide +kernel
theorem d_M_add_6 : decode prog_14_method_77_code 6 = .ok (.invokestatic 398, 3) := by decide +kernel
theorem d_M_add_9 : decode prog_14_method_77_code 9 = .ok (.ifCond .eq 24, 3) := by decide +kernel
theorem d_M_add_33 : decode prog_14_method_77_code 33 = .ok (.aload_n 0, 1) := by decide +kernel
theorem d_M_add_34 : decode prog_14_method_77_code 34 = .ok (.iconst 1, 1) := by decide +kernel
theorem d_M_add_35 : decode prog_14_method_77_code 35 = .ok (.invokevirtual 395, 3) := by decide +kernel
theorem d_M_add_38 : decode prog_14_method_77_code 38 = .ok (.ireturn, 1) := by decide +kernel
theorem d_M_add_12 : decode prog_14_method_77_code 12 = .ok (.iload_n 2, 1) := by decide +kernel
theorem d_M_add_13 : decode prog_14_method_77_code 13 = .ok (.iconst 0, 1) := by decide +kernel
theorem d_M_add_14 : decode prog_14_method_77_code 14 = .ok (.bipush 7, 2) := by decide +kernel
theorem d_M_add_16 : decode prog_14_method_77_code 16 = .ok (.invokestatic 101, 3) := by decide +kernel
theorem d_M_add_19 : decode prog_14_method_77_code 19 = .ok (.ifCond .eq 14, 3) := by decide +kernel
theorem d_M_add_22 : decode prog_14_method_77_code 22 = .ok (.iload_n 3, 1) := by decide +kernel
theorem d_M_add_23 : decode prog_14_method_77_code 23 = .ok (.iconst 0, 1) := by decide +kernel
theorem d_M_add_24 : decode prog_14_method_77_code 24 = .ok (.sipush 999, 3) := by decide +kernel
theorem d_M_add_27 : decode prog_14_method_77_code 27 = .ok (.invokestatic 101, 3) := by decide +kernel
theorem d_M_add_30 : decode prog_14_method_77_code 30 = .ok (.ifCond .ne 9, 3) := by decide +kernel
theorem d_M_add_39 : decode prog_14_method_77_code 39 = .ok (.aload_n 0, 1) := by decide +kernel
theorem d_M_add_40 : decode prog_14_method_77_code 40 = .ok (.iload_n 1, 1) := by decide +kernel
theorem d_M_add_41 : decode prog_14_method_77_code 41 = .ok (.invokevirtual 188, 3) := by decide +kernel
theorem v_M_add_0 {G : XG} {d : Nat} {h : XH} {Q : XV → XH → Prop} {X : Nat → XH → Prop} {x1 x2 x3 : Int} (F : xFix h) (hyp : ((x1 < 0 → (xFix (xst (xst h 53 0 0) 53 0 1) → Q (xI 0) (xst (xst h 53 0 0) 53 0 1))) ∧ (¬ x1 < 0 → (((99 : Int) < x1 → (xFix (xst (xst h 53 0 0) 53 0 1) → Q (xI 0) (xst (xst h 53 0 0) 53 0 1))) ∧ (¬ (99 : Int) < x1 → ((x2 < 0 → (xFix (xst (xst h 53 0 0) 53 0 1) → Q (xI 0) (xst (xst h 53 0 0) 53 0 1))) ∧ (¬ x2 < 0 → (((7 : Int) < x2 → (xFix (xst (xst h 53 0 0) 53 0 1) → Q (xI 0) (xst (xst h 53 0 0) 53 0 1))) ∧ (¬ (7 : Int) < x2 → ((x3 < 0 → (xFix (xst (xst h 53 0 0) 53 0 1) → Q (xI 0) (xst (xst h 53 0 0) 53 0 1))) ∧ (¬ x3 < 0 → (((999 : Int) < x3 → (xFix (xst (xst h 53 0 0) 53 0 1) → Q (xI 0) (xst (xst h 53 0 0) 53 0 1))) ∧ (¬ (999 : Int) < x3 → (xFix (xst h 53 0 0) → xwp G m_M_whereIs (d + 8) 0 [xR 53, xI x1, xZ] [] (xst h 53 0 0) (fun v9 h9 => xwp G m_M_add (d + 9) 44 [xR 53, xI x1, xI x2, xI x3, xZ, xZ, xZ] (xpush v9 []) h9 Q X) X)))))))))))))) : xwp G m_M_add (d + 9) 0 [xR 53, xI x1, xI x2, xI x3, xZ, xZ, xZ] [] h Q X := by
  have hnx9 : (93 : Int) ≤ xnx h := F.2.2
  refine xr_okL (fun hl9 => ?_)
  have r_x1 : -2147483648 ≤ x1 ∧ x1 ≤ 2147483647 := hl9 (xI x1) (.tail _ (.head _)) (Nat.le_of_ble_eq_true rfl)
  have r_x2 : -2147483648 ≤ x2 ∧ x2 ≤ 2147483647 := hl9 (xI x2) (.tail _ (.tail _ (.head _))) (Nat.le_of_ble_eq_true rfl)
  have r_x3 : -2147483648 ≤ x3 ∧ x3 ≤ 2147483647 := hl9 (xI x3) (.tail _ (.tail _ (.tail _ (.head _)))) (Nat.le_of_ble_eq_true rfl)
  refine xr_aload_n (pc := 0) (i := 0) (hI := d_M_add_0) (hi := rfl) (hl := rfl) ?_
  refine xr_iconst (pc := 1) (hI := d_M_add_1) (hr := by decide) ?_
  refine xr_putf (pc := 2) (ci := 11) (k := 0) (N := 38) (v9 := 0) (T := xF11) (tF := xT11) (hI := d_M_add_2) (hw := w_1587) rfl xi11 xt11 xn11 (Or.inl rfl) (Nat.le_of_ble_eq_true rfl) (Nat.le_of_ble_eq_true rfl) rfl xfit_i rfl (ft_53 F) (by decide) (fun z => z) ?_
  have F1_ : xFix (xst h 53 0 0) := F.stL xfk_53_0
  refine xr_iload_n (pc := 5) (i := 1) (hI := d_M_add_5) (hi := rfl) (hl := rfl) ?_
  refine xq_callS (pc := 6) (index := 398) (K := m_M_isKey) (As := [xI x1]) (S := []) (L0 := [xI x1]) (hI := d_M_add_6) (hK := k_M_isKey) (hlk := w_1725) (hnoM := rfl) (hS8 := Nat.le_of_ble_eq_true rfl) (hstat := w_1726) (hlen := Nat.le_of_ble_eq_true rfl) (hst := rfl) (hL0 := rfl)  ?_
  refine xr_iload_n (pc := 0) (i := 0) (hI := d_M_isKey_0) (hi := rfl) (hl := rfl) ?_
  refine xr_iconst (pc := 1) (hI := d_M_isKey_1) (hr := by decide) ?_
  refine xr_bipush (pc := 2) (hI := d_M_isKey_2) (hr := by decide) (hv := by decide) ?_
  refine xq_callS (pc := 4) (index := 101) (K := m_M_isBetween) (As := [xI x1, xI 0, xI 99]) (S := []) (L0 := [xI x1, xI 0, xI 99]) (hI := d_M_isKey_4) (hK := k_M_isBetween) (hlk := w_1718) (hnoM := rfl) (hS8 := Nat.le_of_ble_eq_true rfl) (hstat := w_1719) (hlen := Nat.le_of_ble_eq_true rfl) (hst := rfl) (hL0 := rfl)  ?_
  refine xr_iload_n (pc := 0) (i := 0) (hI := d_M_isBetween_0) (hi := rfl) (hl := rfl) ?_
  refine xr_iload_n (pc := 1) (i := 1) (hI := d_M_isBetween_1) (hi := rfl) (hl := rfl) ?_
  refine xr_icmp_lt (pc := 2) (tgt := 14) (hI := d_M_isBetween_2) (ht := by decide) (fun q9 => ?_) (fun q9 => ?_)
  · replace hyp := hyp.1 q9
    have q2_ := q9
    clear q9
    refine xr_iconst (pc := 14) (hI := d_M_isBetween_14) (hr := by decide) ?_
    refine xr_ireturnT (S := []) (pc := 15) (hI := d_M_isBetween_15) (hr := rfl) (xnar_z (by decide)) ?_
    show xwp G m_M_isKey (d + 8) 7 [xI x1] [xI 0] _ _ _
    refine xr_ireturnT (S := []) (pc := 7) (hI := d_M_isKey_7) (hr := rfl) (xnar_z (by decide)) ?_
    show xwp G m_M_add (d + 9) 9 [xR 53, xI x1, xI x2, xI x3, xZ, xZ, xZ] [xI 0] _ _ _
    refine xr_if_eq (pc := 9) (tgt := 33) (hI := d_M_add_9) (ht := by decide) (fun q9 => ?_) (fun q9 => ?_)
    · clear q9
      refine xr_aload_n (pc := 33) (i := 0) (hI := d_M_add_33) (hi := rfl) (hl := rfl) ?_
      refine xr_iconst (pc := 34) (hI := d_M_add_34) (hr := by decide) ?_
      refine xq_callV (pc := 35) (index := 395) (K := m_M_no) (As := [xI 1]) (S := []) (L0 := [xR 53, xI 1]) (hI := d_M_add_35) (hK := k_M_no) (hlk := w_1710) (hnoM := rfl) (hS8 := Nat.le_of_ble_eq_true rfl) (ci := 11) (N := 38) (C := "BeaconIndexModel") (T := xF11) (hc := rfl) (hci := Nat.le_of_ble_eq_true rfl) (htb := (ft_53 F1_)) (hinst := w_1712) (hsel := sel_M_no) (hlen := Nat.le_of_ble_eq_true rfl) (hst := rfl) (hL0 := rfl)  ?_
      refine xr_aload_n (pc := 0) (i := 0) (hI := d_M_no_0) (hi := rfl) (hl := rfl) ?_
      refine xr_iload_n (pc := 1) (i := 1) (hI := d_M_no_1) (hi := rfl) (hl := rfl) ?_
      refine xr_putf (pc := 2) (ci := 11) (k := 0) (N := 38) (v9 := 0) (T := xF11) (tF := xT11) (hI := d_M_no_2) (hw := w_1587) rfl xi11 xt11 xn11 (Or.inl rfl) (Nat.le_of_ble_eq_true rfl) (Nat.le_of_ble_eq_true rfl) rfl xfit_i rfl (ft_53 F1_) (by decide) (fun z => z) ?_
      have F3_ : xFix (xst (xst h 53 0 0) 53 0 1) := F1_.stL xfk_53_0
      refine xr_iconst (pc := 5) (hI := d_M_no_5) (hr := by decide) ?_
      refine xr_ireturn (S := []) (pc := 6) (hI := d_M_no_6) (hr := rfl) ?_
      show xwp G m_M_add (d + 9) 38 [xR 53, xI x1, xI x2, xI x3, xZ, xZ, xZ] [xI 0] _ _ _
      refine xr_ireturn (S := []) (pc := 38) (hI := d_M_add_38) (hr := rfl) ?_
      exact hyp F3_
    · exact absurd q9 (by decide)
  · replace hyp := hyp.2 q9
    have q2_ := q9
    clear q9
    refine xr_iload_n (pc := 5) (i := 0) (hI := d_M_isBetween_5) (hi := rfl) (hl := rfl) ?_
    refine xr_iload_n (pc := 6) (i := 2) (hI := d_M_isBetween_6) (hi := rfl) (hl := rfl) ?_
    refine xr_icmp_gt (pc := 7) (tgt := 14) (hI := d_M_isBetween_7) (ht := by decide) (fun q9 => ?_) (fun q9 => ?_)
    · replace hyp := hyp.1 q9
      have q4_ := q9
      clear q9
      refine xr_iconst (pc := 14) (hI := d_M_isBetween_14) (hr := by decide) ?_
      refine xr_ireturnT (S := []) (pc := 15) (hI := d_M_isBetween_15) (hr := rfl) (xnar_z (by decide)) ?_
      show xwp G m_M_isKey (d + 8) 7 [xI x1] [xI 0] _ _ _
      refine xr_ireturnT (S := []) (pc := 7) (hI := d_M_isKey_7) (hr := rfl) (xnar_z (by decide)) ?_
      show xwp G m_M_add (d + 9) 9 [xR 53, xI x1, xI x2, xI x3, xZ, xZ, xZ] [xI 0] _ _ _
      refine xr_if_eq (pc := 9) (tgt := 33) (hI := d_M_add_9) (ht := by decide) (fun q9 => ?_) (fun q9 => ?_)
      · clear q9
        refine xr_aload_n (pc := 33) (i := 0) (hI := d_M_add_33) (hi := rfl) (hl := rfl) ?_
        refine xr_iconst (pc := 34) (hI := d_M_add_34) (hr := by decide) ?_
        refine xq_callV (pc := 35) (index := 395) (K := m_M_no) (As := [xI 1]) (S := []) (L0 := [xR 53, xI 1]) (hI := d_M_add_35) (hK := k_M_no) (hlk := w_1710) (hnoM := rfl) (hS8 := Nat.le_of_ble_eq_true rfl) (ci := 11) (N := 38) (C := "BeaconIndexModel") (T := xF11) (hc := rfl) (hci := Nat.le_of_ble_eq_true rfl) (htb := (ft_53 F1_)) (hinst := w_1712) (hsel := sel_M_no) (hlen := Nat.le_of_ble_eq_true rfl) (hst := rfl) (hL0 := rfl)  ?_
        refine xr_aload_n (pc := 0) (i := 0) (hI := d_M_no_0) (hi := rfl) (hl := rfl) ?_
        refine xr_iload_n (pc := 1) (i := 1) (hI := d_M_no_1) (hi := rfl) (hl := rfl) ?_
        refine xr_putf (pc := 2) (ci := 11) (k := 0) (N := 38) (v9 := 0) (T := xF11) (tF := xT11) (hI := d_M_no_2) (hw := w_1587) rfl xi11 xt11 xn11 (Or.inl rfl) (Nat.le_of_ble_eq_true rfl) (Nat.le_of_ble_eq_true rfl) rfl xfit_i rfl (ft_53 F1_) (by decide) (fun z => z) ?_
        have F5_ : xFix (xst (xst h 53 0 0) 53 0 1) := F1_.stL xfk_53_0
        refine xr_iconst (pc := 5) (hI := d_M_no_5) (hr := by decide) ?_
        refine xr_ireturn (S := []) (pc := 6) (hI := d_M_no_6) (hr := rfl) ?_
        show xwp G m_M_add (d + 9) 38 [xR 53, xI x1, xI x2, xI x3, xZ, xZ, xZ] [xI 0] _ _ _
        refine xr_ireturn (S := []) (pc := 38) (hI := d_M_add_38) (hr := rfl) ?_
        exact hyp F5_
      · exact absurd q9 (by decide)
    · replace hyp := hyp.2 q9
      have q4_ := q9
      clear q9
      refine xr_iconst (pc := 10) (hI := d_M_isBetween_10) (hr := by decide) ?_
      refine xr_goto (pc := 11) (tgt := 15) (hI := d_M_isBetween_11) (ht := by decide) ?_
      refine xr_ireturnT (S := []) (pc := 15) (hI := d_M_isBetween_15) (hr := rfl) (xnar_z (by decide)) ?_
      show xwp G m_M_isKey (d + 8) 7 [xI x1] [xI 1] _ _ _
      refine xr_ireturnT (S := []) (pc := 7) (hI := d_M_isKey_7) (hr := rfl) (xnar_z (by decide)) ?_
      show xwp G m_M_add (d + 9) 9 [xR 53, xI x1, xI x2, xI x3, xZ, xZ, xZ] [xI 1] _ _ _
      refine xr_if_eq (pc := 9) (tgt := 33) (hI := d_M_add_9) (ht := by decide) (fun q9 => ?_) (fun q9 => ?_)
      · exact absurd q9 (by decide)
      · clear q9
        refine xr_iload_n (pc := 12) (i := 2) (hI := d_M_add_12) (hi := rfl) (hl := rfl) ?_
        refine xr_iconst (pc := 13) (hI := d_M_add_13) (hr := by decide) ?_
        refine xr_bipush (pc := 14) (hI := d_M_add_14) (hr := by decide) (hv := by decide) ?_
        refine xq_callS (pc := 16) (index := 101) (K := m_M_isBetween) (As := [xI x2, xI 0, xI 7]) (S := []) (L0 := [xI x2, xI 0, xI 7]) (hI := d_M_add_16) (hK := k_M_isBetween) (hlk := w_1718) (hnoM := rfl) (hS8 := Nat.le_of_ble_eq_true rfl) (hstat := w_1719) (hlen := Nat.le_of_ble_eq_true rfl) (hst := rfl) (hL0 := rfl)  ?_
        refine xr_iload_n (pc := 0) (i := 0) (hI := d_M_isBetween_0) (hi := rfl) (hl := rfl) ?_
        refine xr_iload_n (pc := 1) (i := 1) (hI := d_M_isBetween_1) (hi := rfl) (hl := rfl) ?_
        refine xr_icmp_lt (pc := 2) (tgt := 14) (hI := d_M_isBetween_2) (ht := by decide) (fun q9 => ?_) (fun q9 => ?_)
        · replace hyp := hyp.1 q9
          have q6_ := q9
          clear q9
          refine xr_iconst (pc := 14) (hI := d_M_isBetween_14) (hr := by decide) ?_
          refine xr_ireturnT (S := []) (pc := 15) (hI := d_M_isBetween_15) (hr := rfl) (xnar_z (by decide)) ?_
          show xwp G m_M_add (d + 9) 19 [xR 53, xI x1, xI x2, xI x3, xZ, xZ, xZ] [xI 0] _ _ _
          refine xr_if_eq (pc := 19) (tgt := 33) (hI := d_M_add_19) (ht := by decide) (fun q9 => ?_) (fun q9 => ?_)
          · clear q9
            refine xr_aload_n (pc := 33) (i := 0) (hI := d_M_add_33) (hi := rfl) (hl := rfl) ?_
            refine xr_iconst (pc := 34) (hI := d_M_add_34) (hr := by decide) ?_
            refine xq_callV (pc := 35) (index := 395) (K := m_M_no) (As := [xI 1]) (S := []) (L0 := [xR 53, xI 1]) (hI := d_M_add_35) (hK := k_M_no) (hlk := w_1710) (hnoM := rfl) (hS8 := Nat.le_of_ble_eq_true rfl) (ci := 11) (N := 38) (C := "BeaconIndexModel") (T := xF11) (hc := rfl) (hci := Nat.le_of_ble_eq_true rfl) (htb := (ft_53 F1_)) (hinst := w_1712) (hsel := sel_M_no) (hlen := Nat.le_of_ble_eq_true rfl) (hst := rfl) (hL0 := rfl)  ?_
            refine xr_aload_n (pc := 0) (i := 0) (hI := d_M_no_0) (hi := rfl) (hl := rfl) ?_
            refine xr_iload_n (pc := 1) (i := 1) (hI := d_M_no_1) (hi := rfl) (hl := rfl) ?_
            refine xr_putf (pc := 2) (ci := 11) (k := 0) (N := 38) (v9 := 0) (T := xF11) (tF := xT11) (hI := d_M_no_2) (hw := w_1587) rfl xi11 xt11 xn11 (Or.inl rfl) (Nat.le_of_ble_eq_true rfl) (Nat.le_of_ble_eq_true rfl) rfl xfit_i rfl (ft_53 F1_) (by decide) (fun z => z) ?_
            have F7_ : xFix (xst (xst h 53 0 0) 53 0 1) := F1_.stL xfk_53_0
            refine xr_iconst (pc := 5) (hI := d_M_no_5) (hr := by decide) ?_
            refine xr_ireturn (S := []) (pc := 6) (hI := d_M_no_6) (hr := rfl) ?_
            show xwp G m_M_add (d + 9) 38 [xR 53, xI x1, xI x2, xI x3, xZ, xZ, xZ] [xI 0] _ _ _
            refine xr_ireturn (S := []) (pc := 38) (hI := d_M_add_38) (hr := rfl) ?_
            exact hyp F7_
          · exact absurd q9 (by decide)
        · replace hyp := hyp.2 q9
          have q6_ := q9
          clear q9
          refine xr_iload_n (pc := 5) (i := 0) (hI := d_M_isBetween_5) (hi := rfl) (hl := rfl) ?_
          refine xr_iload_n (pc := 6) (i := 2) (hI := d_M_isBetween_6) (hi := rfl) (hl := rfl) ?_
          refine xr_icmp_gt (pc := 7) (tgt := 14) (hI := d_M_isBetween_7) (ht := by decide) (fun q9 => ?_) (fun q9 => ?_)
          · replace hyp := hyp.1 q9
            have q8_ := q9
            clear q9
            refine xr_iconst (pc := 14) (hI := d_M_isBetween_14) (hr := by decide) ?_
            refine xr_ireturnT (S := []) (pc := 15) (hI := d_M_isBetween_15) (hr := rfl) (xnar_z (by decide)) ?_
            show xwp G m_M_add (d + 9) 19 [xR 53, xI x1, xI x2, xI x3, xZ, xZ, xZ] [xI 0] _ _ _
            refine xr_if_eq (pc := 19) (tgt := 33) (hI := d_M_add_19) (ht := by decide) (fun q9 => ?_) (fun q9 => ?_)
            · clear q9
              refine xr_aload_n (pc := 33) (i := 0) (hI := d_M_add_33) (hi := rfl) (hl := rfl) ?_
              refine xr_iconst (pc := 34) (hI := d_M_add_34) (hr := by decide) ?_
              refine xq_callV (pc := 35) (index := 395) (K := m_M_no) (As := [xI 1]) (S := []) (L0 := [xR 53, xI 1]) (hI := d_M_add_35) (hK := k_M_no) (hlk := w_1710) (hnoM := rfl) (hS8 := Nat.le_of_ble_eq_true rfl) (ci := 11) (N := 38) (C := "BeaconIndexModel") (T := xF11) (hc := rfl) (hci := Nat.le_of_ble_eq_true rfl) (htb := (ft_53 F1_)) (hinst := w_1712) (hsel := sel_M_no) (hlen := Nat.le_of_ble_eq_true rfl) (hst := rfl) (hL0 := rfl)  ?_
              refine xr_aload_n (pc := 0) (i := 0) (hI := d_M_no_0) (hi := rfl) (hl := rfl) ?_
              refine xr_iload_n (pc := 1) (i := 1) (hI := d_M_no_1) (hi := rfl) (hl := rfl) ?_
              refine xr_putf (pc := 2) (ci := 11) (k := 0) (N := 38) (v9 := 0) (T := xF11) (tF := xT11) (hI := d_M_no_2) (hw := w_1587) rfl xi11 xt11 xn11 (Or.inl rfl) (Nat.le_of_ble_eq_true rfl) (Nat.le_of_ble_eq_true rfl) rfl xfit_i rfl (ft_53 F1_) (by decide) (fun z => z) ?_
              have F9_ : xFix (xst (xst h 53 0 0) 53 0 1) := F1_.stL xfk_53_0
              refine xr_iconst (pc := 5) (hI := d_M_no_5) (hr := by decide) ?_
              refine xr_ireturn (S := []) (pc := 6) (hI := d_M_no_6) (hr := rfl) ?_
              show xwp G m_M_add (d + 9) 38 [xR 53, xI x1, xI x2, xI x3, xZ, xZ, xZ] [xI 0] _ _ _
              refine xr_ireturn (S := []) (pc := 38) (hI := d_M_add_38) (hr := rfl) ?_
              exact hyp F9_
            · exact absurd q9 (by decide)
          · replace hyp := hyp.2 q9
            have q8_ := q9
            clear q9
            refine xr_iconst (pc := 10) (hI := d_M_isBetween_10) (hr := by decide) ?_
            refine xr_goto (pc := 11) (tgt := 15) (hI := d_M_isBetween_11) (ht := by decide) ?_
            refine xr_ireturnT (S := []) (pc := 15) (hI := d_M_isBetween_15) (hr := rfl) (xnar_z (by decide)) ?_
            show xwp G m_M_add (d + 9) 19 [xR 53, xI x1, xI x2, xI x3, xZ, xZ, xZ] [xI 1] _ _ _
            refine xr_if_eq (pc := 19) (tgt := 33) (hI := d_M_add_19) (ht := by decide) (fun q9 => ?_) (fun q9 => ?_)
            · exact absurd q9 (by decide)
            · clear q9
              refine xr_iload_n (pc := 22) (i := 3) (hI := d_M_add_22) (hi := rfl) (hl := rfl) ?_
              refine xr_iconst (pc := 23) (hI := d_M_add_23) (hr := by decide) ?_
              refine xr_sipush (pc := 24) (hI := d_M_add_24) (hr := by decide) (hv := by decide) ?_
              refine xq_callS (pc := 27) (index := 101) (K := m_M_isBetween) (As := [xI x3, xI 0, xI 999]) (S := []) (L0 := [xI x3, xI 0, xI 999]) (hI := d_M_add_27) (hK := k_M_isBetween) (hlk := w_1718) (hnoM := rfl) (hS8 := Nat.le_of_ble_eq_true rfl) (hstat := w_1719) (hlen := Nat.le_of_ble_eq_true rfl) (hst := rfl) (hL0 := rfl)  ?_
              refine xr_iload_n (pc := 0) (i := 0) (hI := d_M_isBetween_0) (hi := rfl) (hl := rfl) ?_
              refine xr_iload_n (pc := 1) (i := 1) (hI := d_M_isBetween_1) (hi := rfl) (hl := rfl) ?_
              refine xr_icmp_lt (pc := 2) (tgt := 14) (hI := d_M_isBetween_2) (ht := by decide) (fun q9 => ?_) (fun q9 => ?_)
              · replace hyp := hyp.1 q9
                have q10_ := q9
                clear q9
                refine xr_iconst (pc := 14) (hI := d_M_isBetween_14) (hr := by decide) ?_
                refine xr_ireturnT (S := []) (pc := 15) (hI := d_M_isBetween_15) (hr := rfl) (xnar_z (by decide)) ?_
                show xwp G m_M_add (d + 9) 30 [xR 53, xI x1, xI x2, xI x3, xZ, xZ, xZ] [xI 0] _ _ _
                refine xr_if_ne (pc := 30) (tgt := 39) (hI := d_M_add_30) (ht := by decide) (fun q9 => ?_) (fun q9 => ?_)
                · exact absurd q9 (by decide)
                · clear q9
                  refine xr_aload_n (pc := 33) (i := 0) (hI := d_M_add_33) (hi := rfl) (hl := rfl) ?_
                  refine xr_iconst (pc := 34) (hI := d_M_add_34) (hr := by decide) ?_
                  refine xq_callV (pc := 35) (index := 395) (K := m_M_no) (As := [xI 1]) (S := []) (L0 := [xR 53, xI 1]) (hI := d_M_add_35) (hK := k_M_no) (hlk := w_1710) (hnoM := rfl) (hS8 := Nat.le_of_ble_eq_true rfl) (ci := 11) (N := 38) (C := "BeaconIndexModel") (T := xF11) (hc := rfl) (hci := Nat.le_of_ble_eq_true rfl) (htb := (ft_53 F1_)) (hinst := w_1712) (hsel := sel_M_no) (hlen := Nat.le_of_ble_eq_true rfl) (hst := rfl) (hL0 := rfl)  ?_
                  refine xr_aload_n (pc := 0) (i := 0) (hI := d_M_no_0) (hi := rfl) (hl := rfl) ?_
                  refine xr_iload_n (pc := 1) (i := 1) (hI := d_M_no_1) (hi := rfl) (hl := rfl) ?_
                  refine xr_putf (pc := 2) (ci := 11) (k := 0) (N := 38) (v9 := 0) (T := xF11) (tF := xT11) (hI := d_M_no_2) (hw := w_1587) rfl xi11 xt11 xn11 (Or.inl rfl) (Nat.le_of_ble_eq_true rfl) (Nat.le_of_ble_eq_true rfl) rfl xfit_i rfl (ft_53 F1_) (by decide) (fun z => z) ?_
                  have F11_ : xFix (xst (xst h 53 0 0) 53 0 1) := F1_.stL xfk_53_0
                  refine xr_iconst (pc := 5) (hI := d_M_no_5) (hr := by decide) ?_
                  refine xr_ireturn (S := []) (pc := 6) (hI := d_M_no_6) (hr := rfl) ?_
                  show xwp G m_M_add (d + 9) 38 [xR 53, xI x1, xI x2, xI x3, xZ, xZ, xZ] [xI 0] _ _ _
                  refine xr_ireturn (S := []) (pc := 38) (hI := d_M_add_38) (hr := rfl) ?_
                  exact hyp F11_
              · replace hyp := hyp.2 q9
                have q10_ := q9
                clear q9
                refine xr_iload_n (pc := 5) (i := 0) (hI := d_M_isBetween_5) (hi := rfl) (hl := rfl) ?_
                refine xr_iload_n (pc := 6) (i := 2) (hI := d_M_isBetween_6) (hi := rfl) (hl := rfl) ?_
                refine xr_icmp_gt (pc := 7) (tgt := 14) (hI := d_M_isBetween_7) (ht := by decide) (fun q9 => ?_) (fun q9 => ?_)
                · replace hyp := hyp.1 q9
                  have q12_ := q9
                  clear q9
                  refine xr_iconst (pc := 14) (hI := d_M_isBetween_14) (hr := by decide) ?_
                  refine xr_ireturnT (S := []) (pc := 15) (hI := d_M_isBetween_15) (hr := rfl) (xnar_z (by decide)) ?_
                  show xwp G m_M_add (d + 9) 30 [xR 53, xI x1, xI x2, xI x3, xZ, xZ, xZ] [xI 0] _ _ _
                  refine xr_if_ne (pc := 30) (tgt := 39) (hI := d_M_add_30) (ht := by decide) (fun q9 => ?_) (fun q9 => ?_)
                  · exact absurd q9 (by decide)
                  · clear q9
                    refine xr_aload_n (pc := 33) (i := 0) (hI := d_M_add_33) (hi := rfl) (hl := rfl) ?_
                    refine xr_iconst (pc := 34) (hI := d_M_add_34) (hr := by decide) ?_
                    refine xq_callV (pc := 35) (index := 395) (K := m_M_no) (As := [xI 1]) (S := []) (L0 := [xR 53, xI 1]) (hI := d_M_add_35) (hK := k_M_no) (hlk := w_1710) (hnoM := rfl) (hS8 := Nat.le_of_ble_eq_true rfl) (ci := 11) (N := 38) (C := "BeaconIndexModel") (T := xF11) (hc := rfl) (hci := Nat.le_of_ble_eq_true rfl) (htb := (ft_53 F1_)) (hinst := w_1712) (hsel := sel_M_no) (hlen := Nat.le_of_ble_eq_true rfl) (hst := rfl) (hL0 := rfl)  ?_
                    refine xr_aload_n (pc := 0) (i := 0) (hI := d_M_no_0) (hi := rfl) (hl := rfl) ?_
                    refine xr_iload_n (pc := 1) (i := 1) (hI := d_M_no_1) (hi := rfl) (hl := rfl) ?_
                    refine xr_putf (pc := 2) (ci := 11) (k := 0) (N := 38) (v9 := 0) (T := xF11) (tF := xT11) (hI := d_M_no_2) (hw := w_1587) rfl xi11 xt11 xn11 (Or.inl rfl) (Nat.le_of_ble_eq_true rfl) (Nat.le_of_ble_eq_true rfl) rfl xfit_i rfl (ft_53 F1_) (by decide) (fun z => z) ?_
                    have F13_ : xFix (xst (xst h 53 0 0) 53 0 1) := F1_.stL xfk_53_0
                    refine xr_iconst (pc := 5) (hI := d_M_no_5) (hr := by decide) ?_
                    refine xr_ireturn (S := []) (pc := 6) (hI := d_M_no_6) (hr := rfl) ?_
                    show xwp G m_M_add (d + 9) 38 [xR 53, xI x1, xI x2, xI x3, xZ, xZ, xZ] [xI 0] _ _ _
                    refine xr_ireturn (S := []) (pc := 38) (hI := d_M_add_38) (hr := rfl) ?_
                    exact hyp F13_
                · replace hyp := hyp.2 q9
                  have q12_ := q9
                  clear q9
                  refine xr_iconst (pc := 10) (hI := d_M_isBetween_10) (hr := by decide) ?_
                  refine xr_goto (pc := 11) (tgt := 15) (hI := d_M_isBetween_11) (ht := by decide) ?_
                  refine xr_ireturnT (S := []) (pc := 15) (hI := d_M_isBetween_15) (hr := rfl) (xnar_z (by decide)) ?_
                  show xwp G m_M_add (d + 9) 30 [xR 53, xI x1, xI x2, xI x3, xZ, xZ, xZ] [xI 1] _ _ _
                  refine xr_if_ne (pc := 30) (tgt := 39) (hI := d_M_add_30) (ht := by decide) (fun q9 => ?_) (fun q9 => ?_)
                  · clear q9
                    refine xr_aload_n (pc := 39) (i := 0) (hI := d_M_add_39) (hi := rfl) (hl := rfl) ?_
                    refine xr_iload_n (pc := 40) (i := 1) (hI := d_M_add_40) (hi := rfl) (hl := rfl) ?_
                    exact xq_callV (pc := 41) (index := 188) (K := m_M_whereIs) (As := [xI x1]) (S := []) (L0 := [xR 53, xI x1, xZ]) (hI := d_M_add_41) (hK := k_M_whereIs) (hlk := w_1728) (hnoM := rfl) (hS8 := Nat.le_of_ble_eq_true rfl) (ci := 11) (N := 38) (C := "BeaconIndexModel") (T := xF11) (hc := rfl) (hci := Nat.le_of_ble_eq_true rfl) (htb := (ft_53 F1_)) (hinst := w_1730) (hsel := sel_M_whereIs) (hlen := Nat.le_of_ble_eq_true rfl) (hst := rfl) (hL0 := rfl)  (hyp F1_)
                  · exact absurd q9 (by decide)
theorem d_M_add_44 : decode prog_14_method_77_code 44 = .ok (.istore 4, 2) := by decide +kernel
theorem d_M_add_46 : decode prog_14_method_77_code 46 = .ok (.aload_n 0, 1) := by decide +kernel
theorem d_M_add_47 : decode prog_14_method_77_code 47 = .ok (.getfield 185, 3) := by decide +kernel
theorem d_M_add_50 : decode prog_14_method_77_code 50 = .ok (.bipush 60, 2) := by decide +kernel
theorem d_M_add_52 : decode prog_14_method_77_code 52 = .ok (.if_icmp .ne 18, 3) := by decide +kernel
theorem d_M_add_55 : decode prog_14_method_77_code 55 = .ok (.iload 4, 2) := by decide +kernel
theorem d_M_add_57 : decode prog_14_method_77_code 57 = .ok (.aload_n 0, 1) := by decide +kernel
theorem d_M_add_58 : decode prog_14_method_77_code 58 = .ok (.invokevirtual 191, 3) := by decide +kernel
theorem v_M_add_44 {G : XG} {d : Nat} {h : XH} {Q : XV → XH → Prop} {X : Nat → XH → Prop} {x1 x2 x3 s0 : Int} (F : xFix h) (hyp : (((xpl h 53 4) = 60 → (xwp G m_M_inSegments (d + 8) 0 [xR 53] [] h (fun v9 h9 => xwp G m_M_add (d + 9) 61 [xR 53, xI x1, xI x2, xI x3, xI s0, xZ, xZ] (xpush v9 [xI s0]) h9 Q X) X)) ∧ (¬ (xpl h 53 4) = 60 → (xwp G m_M_add (d + 9) 70 [xR 53, xI x1, xI x2, xI x3, xI s0, xZ, xZ] [] h Q X)))) : xwp G m_M_add (d + 9) 44 [xR 53, xI x1, xI x2, xI x3, xZ, xZ, xZ] [xI s0] h Q X := by
  have hnx9 : (93 : Int) ≤ xnx h := F.2.2
  refine xr_okL (fun hl9 => ?_)
  have r_x1 : -2147483648 ≤ x1 ∧ x1 ≤ 2147483647 := hl9 (xI x1) (.tail _ (.head _)) (Nat.le_of_ble_eq_true rfl)
  have r_x2 : -2147483648 ≤ x2 ∧ x2 ≤ 2147483647 := hl9 (xI x2) (.tail _ (.tail _ (.head _))) (Nat.le_of_ble_eq_true rfl)
  have r_x3 : -2147483648 ≤ x3 ∧ x3 ≤ 2147483647 := hl9 (xI x3) (.tail _ (.tail _ (.tail _ (.head _)))) (Nat.le_of_ble_eq_true rfl)
  refine xr_okS (fun hs9 => ?_)
  have r_s0 : -2147483648 ≤ s0 ∧ s0 ≤ 2147483647 := hs9 (xI s0) (.head _)
  refine xr_istore (pc := 44) (i := 4) (L9 := [xR 53, xI x1, xI x2, xI x3, xI s0, xZ, xZ]) (hI := d_M_add_44) (hn := Nat.le_of_ble_eq_true rfl) (hL9 := rfl) ?_
  refine xr_aload_n (pc := 46) (i := 0) (hI := d_M_add_46) (hi := rfl) (hl := rfl) ?_
  refine xg_getf (pc := 47) (ci := 11) (k := 4) (N := 38) (v9 := 0) (v := (xpl h 53 4)) (T := xF11) (hI := d_M_add_47) (hw := w_1591) rfl xi11 (Or.inl rfl) (Nat.le_of_ble_eq_true rfl) (Nat.le_of_ble_eq_true rfl) rfl (ft_53 F) rfl (fun f1_ => ?_)
  replace f1_ : -2147483648 ≤ (xpl h 53 4) ∧ (xpl h 53 4) ≤ 2147483647 := f1_
  refine xr_bipush (pc := 50) (hI := d_M_add_50) (hr := by decide) (hv := by decide) ?_
  refine xr_icmp_ne (pc := 52) (tgt := 70) (hI := d_M_add_52) (ht := by decide) (fun q9 => ?_) (fun q9 => ?_)
  · replace hyp := hyp.2 q9
    have q2_ := q9
    clear q9
    exact hyp
  · replace hyp := hyp.1 q9
    have q2_ := q9
    clear q9
    refine xr_iload (pc := 55) (i := 4) (hI := d_M_add_55) (hl := rfl) ?_
    refine xr_aload_n (pc := 57) (i := 0) (hI := d_M_add_57) (hi := rfl) (hl := rfl) ?_
    exact xq_callV (pc := 58) (index := 191) (K := m_M_inSegments) (As := []) (S := [xI s0]) (L0 := [xR 53]) (hI := d_M_add_58) (hK := k_M_inSegments) (hlk := w_1732) (hnoM := rfl) (hS8 := Nat.le_of_ble_eq_true rfl) (ci := 11) (N := 38) (C := "BeaconIndexModel") (T := xF11) (hc := rfl) (hci := Nat.le_of_ble_eq_true rfl) (htb := (ft_53 F)) (hinst := w_1734) (hsel := sel_M_inSegments) (hlen := Nat.le_of_ble_eq_true rfl) (hst := rfl) (hL0 := rfl)  hyp
theorem d_M_add_61 : decode prog_14_method_77_code 61 = .ok (.if_icmp .ge 9, 3) := by decide +kernel
theorem d_M_add_64 : decode prog_14_method_77_code 64 = .ok (.aload_n 0, 1) := by decide +kernel
theorem d_M_add_65 : decode prog_14_method_77_code 65 = .ok (.iconst 2, 1) := by decide +kernel
theorem d_M_add_66 : decode prog_14_method_77_code 66 = .ok (.invokevirtual 395, 3) := by decide +kernel
theorem d_M_add_69 : decode prog_14_method_77_code 69 = .ok (.ireturn, 1) := by decide +kernel
theorem v_M_add_61 {G : XG} {d : Nat} {h : XH} {Q : XV → XH → Prop} {X : Nat → XH → Prop} {x1 x2 x3 x4 s0 s1 : Int} (F : xFix h) (hyp : ((s0 ≤ s1 → (xwp G m_M_add (d + 9) 70 [xR 53, xI x1, xI x2, xI x3, xI x4, xZ, xZ] [] h Q X)) ∧ (¬ s0 ≤ s1 → (xFix (xst h 53 0 2) → Q (xI 0) (xst h 53 0 2))))) : xwp G m_M_add (d + 9) 61 [xR 53, xI x1, xI x2, xI x3, xI x4, xZ, xZ] [xI s0, xI s1] h Q X := by
  have hnx9 : (93 : Int) ≤ xnx h := F.2.2
  refine xr_okL (fun hl9 => ?_)
  have r_x1 : -2147483648 ≤ x1 ∧ x1 ≤ 2147483647 := hl9 (xI x1) (.tail _ (.head _)) (Nat.le_of_ble_eq_true rfl)
  have r_x2 : -2147483648 ≤ x2 ∧ x2 ≤ 2147483647 := hl9 (xI x2) (.tail _ (.tail _ (.head _))) (Nat.le_of_ble_eq_true rfl)
  have r_x3 : -2147483648 ≤ x3 ∧ x3 ≤ 2147483647 := hl9 (xI x3) (.tail _ (.tail _ (.tail _ (.head _)))) (Nat.le_of_ble_eq_true rfl)
  have r_x4 : -2147483648 ≤ x4 ∧ x4 ≤ 2147483647 := hl9 (xI x4) (.tail _ (.tail _ (.tail _ (.tail _ (.head _))))) (Nat.le_of_ble_eq_true rfl)
  refine xr_okS (fun hs9 => ?_)
  have r_s0 : -2147483648 ≤ s0 ∧ s0 ≤ 2147483647 := hs9 (xI s0) (.head _)
  have r_s1 : -2147483648 ≤ s1 ∧ s1 ≤ 2147483647 := hs9 (xI s1) (.tail _ (.head _))
  refine xr_icmp_ge (pc := 61) (tgt := 70) (hI := d_M_add_61) (ht := by decide) (fun q9 => ?_) (fun q9 => ?_)
  · replace hyp := hyp.1 q9
    have q1_ := q9
    clear q9
    exact hyp
  · replace hyp := hyp.2 q9
    have q1_ := q9
    clear q9
    refine xr_aload_n (pc := 64) (i := 0) (hI := d_M_add_64) (hi := rfl) (hl := rfl) ?_
    refine xr_iconst (pc := 65) (hI := d_M_add_65) (hr := by decide) ?_
    refine xq_callV (pc := 66) (index := 395) (K := m_M_no) (As := [xI 2]) (S := []) (L0 := [xR 53, xI 2]) (hI := d_M_add_66) (hK := k_M_no) (hlk := w_1710) (hnoM := rfl) (hS8 := Nat.le_of_ble_eq_true rfl) (ci := 11) (N := 38) (C := "BeaconIndexModel") (T := xF11) (hc := rfl) (hci := Nat.le_of_ble_eq_true rfl) (htb := (ft_53 F)) (hinst := w_1712) (hsel := sel_M_no) (hlen := Nat.le_of_ble_eq_true rfl) (hst := rfl) (hL0 := rfl)  ?_
    refine xr_aload_n (pc := 0) (i := 0) (hI := d_M_no_0) (hi := rfl) (hl := rfl) ?_
    refine xr_iload_n (pc := 1) (i := 1) (hI := d_M_no_1) (hi := rfl) (hl := rfl) ?_
    refine xr_putf (pc := 2) (ci := 11) (k := 0) (N := 38) (v9 := 0) (T := xF11) (tF := xT11) (hI := d_M_no_2) (hw := w_1587) rfl xi11 xt11 xn11 (Or.inl rfl) (Nat.le_of_ble_eq_true rfl) (Nat.le_of_ble_eq_true rfl) rfl xfit_i rfl (ft_53 F) (by decide) (fun z => z) ?_
    have F2_ : xFix (xst h 53 0 2) := F.stL xfk_53_0
    refine xr_iconst (pc := 5) (hI := d_M_no_5) (hr := by decide) ?_
    refine xr_ireturn (S := []) (pc := 6) (hI := d_M_no_6) (hr := rfl) ?_
    show xwp G m_M_add (d + 9) 69 [xR 53, xI x1, xI x2, xI x3, xI x4, xZ, xZ] [xI 0] _ _ _
    refine xr_ireturn (S := []) (pc := 69) (hI := d_M_add_69) (hr := rfl) ?_
    exact hyp F2_
theorem d_M_add_70 : decode prog_14_method_77_code 70 = .ok (.iload 4, 2) := by decide +kernel
theorem d_M_add_72 : decode prog_14_method_77_code 72 = .ok (.iconst (-1), 1) := by decide +kernel
theorem d_M_add_73 : decode prog_14_method_77_code 73 = .ok (.if_icmp .eq 10, 3) := by decide +kernel
theorem d_M_add_76 : decode prog_14_method_77_code 76 = .ok (.aload_n 0, 1) := by decide +kernel
theorem d_M_add_77 : decode prog_14_method_77_code 77 = .ok (.iload 4, 2) := by decide +kernel
theorem d_M_add_79 : decode prog_14_method_77_code 79 = .ok (.invokevirtual 401, 3) := by decide +kernel
theorem v_M_add_70 {G : XG} {d : Nat} {h : XH} {Q : XV → XH → Prop} {X : Nat → XH → Prop} {x1 x2 x3 x4 : Int} (F : xFix h) (hyp : ((x4 = (-1) → (xwp G m_M_add (d + 9) 83 [xR 53, xI x1, xI x2, xI x3, xZ, xZ, xZ] [] h Q X)) ∧ (¬ x4 = (-1) → (xwp G m_M_out (d + 8) 0 [xR 53, xI x4, xZ] [] h (fun v9 h9 => xwp G m_M_add (d + 9) 82 [xR 53, xI x1, xI x2, xI x3, xZ, xZ, xZ] (xpush v9 []) h9 Q X) X)))) : xwp G m_M_add (d + 9) 70 [xR 53, xI x1, xI x2, xI x3, xI x4, xZ, xZ] [] h Q X := by
  have hnx9 : (93 : Int) ≤ xnx h := F.2.2
  refine xr_okL (fun hl9 => ?_)
  have r_x1 : -2147483648 ≤ x1 ∧ x1 ≤ 2147483647 := hl9 (xI x1) (.tail _ (.head _)) (Nat.le_of_ble_eq_true rfl)
  have r_x2 : -2147483648 ≤ x2 ∧ x2 ≤ 2147483647 := hl9 (xI x2) (.tail _ (.tail _ (.head _))) (Nat.le_of_ble_eq_true rfl)
  have r_x3 : -2147483648 ≤ x3 ∧ x3 ≤ 2147483647 := hl9 (xI x3) (.tail _ (.tail _ (.tail _ (.head _)))) (Nat.le_of_ble_eq_true rfl)
  have r_x4 : -2147483648 ≤ x4 ∧ x4 ≤ 2147483647 := hl9 (xI x4) (.tail _ (.tail _ (.tail _ (.tail _ (.head _))))) (Nat.le_of_ble_eq_true rfl)
  refine xr_iload (pc := 70) (i := 4) (hI := d_M_add_70) (hl := rfl) ?_
  refine xr_iconst (pc := 72) (hI := d_M_add_72) (hr := by decide) ?_
  refine xr_icmp_eq (pc := 73) (tgt := 83) (hI := d_M_add_73) (ht := by decide) (fun q9 => ?_) (fun q9 => ?_)
  · replace hyp := hyp.1 q9
    have q1_ := q9
    clear q9
    exact xr_drop (L9 := [xR 53, xI x1, xI x2, xI x3, xZ, xZ, xZ]) (xdrs (xdrs (xdrs (xdrs (xdrz (xdrs (xdrs xdr0))))))) hyp
  · replace hyp := hyp.2 q9
    have q1_ := q9
    clear q9
    refine xr_aload_n (pc := 76) (i := 0) (hI := d_M_add_76) (hi := rfl) (hl := rfl) ?_
    refine xr_iload (pc := 77) (i := 4) (hI := d_M_add_77) (hl := rfl) ?_
    exact xq_callV (pc := 79) (index := 401) (K := m_M_out) (As := [xI x4]) (S := []) (L0 := [xR 53, xI x4, xZ]) (hI := d_M_add_79) (hK := k_M_out) (hlk := w_1740) (hnoM := rfl) (hS8 := Nat.le_of_ble_eq_true rfl) (ci := 11) (N := 38) (C := "BeaconIndexModel") (T := xF11) (hc := rfl) (hci := Nat.le_of_ble_eq_true rfl) (htb := (ft_53 F)) (hinst := w_1742) (hsel := sel_M_out) (hlen := Nat.le_of_ble_eq_true rfl) (hst := rfl) (hL0 := rfl)  (xwp_mono hyp (fun v9 h9 q9 => xr_drop (L9 := [xR 53, xI x1, xI x2, xI x3, xZ, xZ, xZ]) (xdrs (xdrs (xdrs (xdrs (xdrz (xdrs (xdrs xdr0))))))) q9) (fun _ _ z9 => z9))
theorem d_M_add_82 : decode prog_14_method_77_code 82 = .ok (.pop, 1) := by decide +kernel
theorem v_M_add_82 {G : XG} {d : Nat} {h : XH} {Q : XV → XH → Prop} {X : Nat → XH → Prop} {x1 x2 x3 s0 : Int} (F : xFix h) (hyp : (xwp G m_M_add (d + 9) 83 [xR 53, xI x1, xI x2, xI x3, xZ, xZ, xZ] [] h Q X)) : xwp G m_M_add (d + 9) 82 [xR 53, xI x1, xI x2, xI x3, xZ, xZ, xZ] [xI s0] h Q X := by
  have hnx9 : (93 : Int) ≤ xnx h := F.2.2
  refine xr_okL (fun hl9 => ?_)
  have r_x1 : -2147483648 ≤ x1 ∧ x1 ≤ 2147483647 := hl9 (xI x1) (.tail _ (.head _)) (Nat.le_of_ble_eq_true rfl)
  have r_x2 : -2147483648 ≤ x2 ∧ x2 ≤ 2147483647 := hl9 (xI x2) (.tail _ (.tail _ (.head _))) (Nat.le_of_ble_eq_true rfl)
  have r_x3 : -2147483648 ≤ x3 ∧ x3 ≤ 2147483647 := hl9 (xI x3) (.tail _ (.tail _ (.tail _ (.head _)))) (Nat.le_of_ble_eq_true rfl)
  refine xr_okS (fun hs9 => ?_)
  have r_s0 : -2147483648 ≤ s0 ∧ s0 ≤ 2147483647 := hs9 (xI s0) (.head _)
  refine xr_pop (pc := 82) (hI := d_M_add_82) (hv := rfl) ?_
  exact hyp
theorem d_M_add_83 : decode prog_14_method_77_code 83 = .ok (.aload_n 0, 1) := by decide +kernel
theorem d_M_add_84 : decode prog_14_method_77_code 84 = .ok (.getfield 13, 3) := by decide +kernel
theorem d_M_add_87 : decode prog_14_method_77_code 87 = .ok (.aload_n 0, 1) := by decide +kernel
theorem d_M_add_88 : decode prog_14_method_77_code 88 = .ok (.getfield 185, 3) := by decide +kernel
theorem d_M_add_91 : decode prog_14_method_77_code 91 = .ok (.iaload, 1) := by decide +kernel
theorem d_M_add_92 : decode prog_14_method_77_code 92 = .ok (.istore 5, 2) := by decide +kernel
theorem d_M_add_94 : decode prog_14_method_77_code 94 = .ok (.aload_n 0, 1) := by decide +kernel
theorem d_M_add_95 : decode prog_14_method_77_code 95 = .ok (.dup, 1) := by decide +kernel
theorem d_M_add_96 : decode prog_14_method_77_code 96 = .ok (.getfield 185, 3) := by decide +kernel
theorem d_M_add_99 : decode prog_14_method_77_code 99 = .ok (.iconst 1, 1) := by decide +kernel
theorem d_M_add_100 : decode prog_14_method_77_code 100 = .ok (.iadd, 1) := by decide +kernel
theorem d_M_add_101 : decode prog_14_method_77_code 101 = .ok (.putfield 185, 3) := by decide +kernel
theorem d_M_add_104 : decode prog_14_method_77_code 104 = .ok (.aload_n 0, 1) := by decide +kernel
theorem d_M_add_105 : decode prog_14_method_77_code 105 = .ok (.getfield 19, 3) := by decide +kernel
theorem d_M_add_108 : decode prog_14_method_77_code 108 = .ok (.iload 5, 2) := by decide +kernel
theorem d_M_add_110 : decode prog_14_method_77_code 110 = .ok (.iload_n 1, 1) := by decide +kernel
theorem d_M_add_111 : decode prog_14_method_77_code 111 = .ok (.iastore, 1) := by decide +kernel
theorem xfa_57 : xfreeA 57 = true := by decide +kernel
theorem d_M_add_112 : decode prog_14_method_77_code 112 = .ok (.aload_n 0, 1) := by decide +kernel
theorem d_M_add_113 : decode prog_14_method_77_code 113 = .ok (.getfield 22, 3) := by decide +kernel
theorem d_M_add_116 : decode prog_14_method_77_code 116 = .ok (.iload 5, 2) := by decide +kernel
theorem d_M_add_118 : decode prog_14_method_77_code 118 = .ok (.iload_n 2, 1) := by decide +kernel
theorem d_M_add_119 : decode prog_14_method_77_code 119 = .ok (.iastore, 1) := by decide +kernel
theorem xfa_58 : xfreeA 58 = true := by decide +kernel
theorem d_M_add_120 : decode prog_14_method_77_code 120 = .ok (.aload_n 0, 1) := by decide +kernel
theorem d_M_add_121 : decode prog_14_method_77_code 121 = .ok (.getfield 25, 3) := by decide +kernel
theorem w_1597 : Cond.fieldLink "BeaconIndexModel" 25 "BeaconIndexModel" "rank" "[I" ∈ lw_tbl := List.mem_append_right _ (List.mem_of_getElem? (i := 1597) (by decide +kernel))
theorem d_M_add_124 : decode prog_14_method_77_code 124 = .ok (.iload 5, 2) := by decide +kernel
theorem d_M_add_126 : decode prog_14_method_77_code 126 = .ok (.iload_n 3, 1) := by decide +kernel
theorem d_M_add_127 : decode prog_14_method_77_code 127 = .ok (.iastore, 1) := by decide +kernel
theorem xfa_59 : xfreeA 59 = true := by decide +kernel
theorem d_M_add_128 : decode prog_14_method_77_code 128 = .ok (.aload_n 0, 1) := by decide +kernel
theorem d_M_add_129 : decode prog_14_method_77_code 129 = .ok (.getfield 28, 3) := by decide +kernel
theorem d_M_add_132 : decode prog_14_method_77_code 132 = .ok (.iload 5, 2) := by decide +kernel
theorem d_M_add_134 : decode prog_14_method_77_code 134 = .ok (.iconst 0, 1) := by decide +kernel
theorem d_M_add_135 : decode prog_14_method_77_code 135 = .ok (.bastore, 1) := by decide +kernel
theorem d_M_add_136 : decode prog_14_method_77_code 136 = .ok (.aload_n 0, 1) := by decide +kernel
theorem d_M_add_137 : decode prog_14_method_77_code 137 = .ok (.iload 5, 2) := by decide +kernel
theorem d_M_add_139 : decode prog_14_method_77_code 139 = .ok (.invokevirtual 404, 3) := by decide +kernel
theorem k_M_read : xCal m_M_read 1 := ⟨List.mem_append_right _ (List.mem_of_getElem? (i := 1752) (by decide +kernel)), w_15, Nat.le_of_ble_eq_true rfl, ⟨by decide +kernel, by decide +kernel⟩, by decide +kernel, by decide +kernel, rfl⟩
theorem w_1749 : Cond.methodLink "BeaconIndexModel" 404 ⟨"BeaconIndexModel", "read", "(I)I"⟩ ∈ lw_tbl := List.mem_append_right _ (List.mem_of_getElem? (i := 1749) (by decide +kernel))
theorem w_1751 : Cond.instanceMethod ⟨"BeaconIndexModel", "read", "(I)I"⟩ ∈ lw_tbl := List.mem_append_right _ (List.mem_of_getElem? (i := 1751) (by decide +kernel))
theorem sel_M_read : Cond.selects "BeaconIndexModel" ⟨"BeaconIndexModel", "read", "(I)I"⟩ ⟨"BeaconIndexModel", "read", "(I)I"⟩ ∈ lw_tbl := List.mem_append_left _ (by decide +kernel)
theorem v_M_add_83 {G : XG} {d : Nat} {h : XH} {Q : XV → XH → Prop} {X : Nat → XH → Prop} {x1 x2 x3 : Int} (F : xFix h) (hyp : 0 ≤ (xpl h 53 4) ∧ (xpl h 53 4) < 60 ∧ 0 ≤ (xpl h 55 (xpl h 53 4)) ∧ (xpl h 55 (xpl h 53 4)) < 60 ∧ (xFix (xst (xst (xst (xst (xst h 53 4 ((xpl h 53 4) + 1)) 57 (xpl h 55 (xpl h 53 4)) x1) 58 (xpl h 55 (xpl h 53 4)) x2) 59 (xpl h 55 (xpl h 53 4)) x3) 60 (xpl h 55 (xpl h 53 4)) 0) → xwp G m_M_read (d + 8) 0 [xR 53, xI (xpl h 55 (xpl h 53 4)), xZ, xZ, xZ, xZ, xZ] [] (xst (xst (xst (xst (xst h 53 4 ((xpl h 53 4) + 1)) 57 (xpl h 55 (xpl h 53 4)) x1) 58 (xpl h 55 (xpl h 53 4)) x2) 59 (xpl h 55 (xpl h 53 4)) x3) 60 (xpl h 55 (xpl h 53 4)) 0) (fun v9 h9 => xwp G m_M_add (d + 9) 142 [xR 53, xZ, xZ, xZ, xZ, xZ, xZ] (xpush v9 []) h9 Q X) X)) : xwp G m_M_add (d + 9) 83 [xR 53, xI x1, xI x2, xI x3, xZ, xZ, xZ] [] h Q X := by
  have hnx9 : (93 : Int) ≤ xnx h := F.2.2
  refine xr_okL (fun hl9 => ?_)
  have r_x1 : -2147483648 ≤ x1 ∧ x1 ≤ 2147483647 := hl9 (xI x1) (.tail _ (.head _)) (Nat.le_of_ble_eq_true rfl)
  have r_x2 : -2147483648 ≤ x2 ∧ x2 ≤ 2147483647 := hl9 (xI x2) (.tail _ (.tail _ (.head _))) (Nat.le_of_ble_eq_true rfl)
  have r_x3 : -2147483648 ≤ x3 ∧ x3 ≤ 2147483647 := hl9 (xI x3) (.tail _ (.tail _ (.tail _ (.head _)))) (Nat.le_of_ble_eq_true rfl)
  refine xr_aload_n (pc := 83) (i := 0) (hI := d_M_add_83) (hi := rfl) (hl := rfl) ?_
  refine xg_getf (pc := 84) (ci := 11) (k := 3) (N := 38) (v9 := 2) (v := 55) (T := xF11) (hI := d_M_add_84) (hw := w_1590) rfl xi11 (Or.inl rfl) (Nat.le_of_ble_eq_true rfl) (Nat.le_of_ble_eq_true rfl) rfl (ft_53 F) (fp_53_3 F) (fun f1_ => ?_)
  clear f1_
  refine xr_aload_n (pc := 87) (i := 0) (hI := d_M_add_87) (hi := rfl) (hl := rfl) ?_
  refine xg_getf (pc := 88) (ci := 11) (k := 4) (N := 38) (v9 := 0) (v := (xpl h 53 4)) (T := xF11) (hI := d_M_add_88) (hw := w_1591) rfl xi11 (Or.inl rfl) (Nat.le_of_ble_eq_true rfl) (Nat.le_of_ble_eq_true rfl) rfl (ft_53 F) rfl (fun f2_ => ?_)
  replace f2_ : -2147483648 ≤ (xpl h 53 4) ∧ (xpl h 53 4) ≤ 2147483647 := f2_
  obtain ⟨c3_, hyp⟩ := hyp
  obtain ⟨c4_, hyp⟩ := hyp
  refine xg_iaload (pc := 91) (v := (xpl h 55 (xpl h 53 4))) (hI := d_M_add_91) (ft_55 F) c3_ (xlt_of (fl_55 F) c4_) rfl (fun f5_ => ?_)
  replace f5_ : -2147483648 ≤ (xpl h 55 (xpl h 53 4)) ∧ (xpl h 55 (xpl h 53 4)) ≤ 2147483647 := f5_
  refine xr_istore (pc := 92) (i := 5) (L9 := [xR 53, xI x1, xI x2, xI x3, xZ, xI (xpl h 55 (xpl h 53 4)), xZ]) (hI := d_M_add_92) (hn := Nat.le_of_ble_eq_true rfl) (hL9 := rfl) ?_
  refine xr_aload_n (pc := 94) (i := 0) (hI := d_M_add_94) (hi := rfl) (hl := rfl) ?_
  refine xr_dup (pc := 95) (hI := d_M_add_95) (hv := rfl) ?_
  refine xg_getf (pc := 96) (ci := 11) (k := 4) (N := 38) (v9 := 0) (v := (xpl h 53 4)) (T := xF11) (hI := d_M_add_96) (hw := w_1591) rfl xi11 (Or.inl rfl) (Nat.le_of_ble_eq_true rfl) (Nat.le_of_ble_eq_true rfl) rfl (ft_53 F) rfl (fun f6_ => ?_)
  replace f6_ : -2147483648 ≤ (xpl h 53 4) ∧ (xpl h 53 4) ≤ 2147483647 := f6_
  refine xr_iconst (pc := 99) (hI := d_M_add_99) (hr := by decide) ?_
  refine xr_iadd (pc := 100) (hI := d_M_add_100) (hr := ⟨by clear hyp; omega, by clear hyp; omega⟩) ?_
  refine xr_putf (pc := 101) (ci := 11) (k := 4) (N := 38) (v9 := 0) (T := xF11) (tF := xT11) (hI := d_M_add_101) (hw := w_1591) rfl xi11 xt11 xn11 (Or.inl rfl) (Nat.le_of_ble_eq_true rfl) (Nat.le_of_ble_eq_true rfl) rfl xfit_i rfl (ft_53 F) (by decide) (fun z => z) ?_
  have F7_ : xFix (xst h 53 4 ((xpl h 53 4) + 1)) := F.stL xfk_53_4
  refine xr_aload_n (pc := 104) (i := 0) (hI := d_M_add_104) (hi := rfl) (hl := rfl) ?_
  refine xg_getf (pc := 105) (ci := 11) (k := 8) (N := 38) (v9 := 2) (v := 57) (T := xF11) (hI := d_M_add_105) (hw := w_1595) rfl xi11 (Or.inl rfl) (Nat.le_of_ble_eq_true rfl) (Nat.le_of_ble_eq_true rfl) rfl (ft_53 F7_) (fp_53_8 F7_) (fun f8_ => ?_)
  clear f8_
  refine xr_iload (pc := 108) (i := 5) (hI := d_M_add_108) (hl := rfl) ?_
  refine xr_iload_n (pc := 110) (i := 1) (hI := d_M_add_110) (hi := rfl) (hl := rfl) ?_
  obtain ⟨c9_, hyp⟩ := hyp
  obtain ⟨c10_, hyp⟩ := hyp
  refine xr_iastore (pc := 111) (hI := d_M_add_111) (ft_57 F7_) (by decide) c9_ (xlt_of (fl_57 F7_) c10_) ?_
  have F11_ : xFix (xst (xst h 53 4 ((xpl h 53 4) + 1)) 57 (xpl h 55 (xpl h 53 4)) x1) := F7_.stA xfa_57
  refine xr_aload_n (pc := 112) (i := 0) (hI := d_M_add_112) (hi := rfl) (hl := rfl) ?_
  refine xg_getf (pc := 113) (ci := 11) (k := 9) (N := 38) (v9 := 2) (v := 58) (T := xF11) (hI := d_M_add_113) (hw := w_1596) rfl xi11 (Or.inl rfl) (Nat.le_of_ble_eq_true rfl) (Nat.le_of_ble_eq_true rfl) rfl (ft_53 F11_) (fp_53_9 F11_) (fun f12_ => ?_)
  clear f12_
  refine xr_iload (pc := 116) (i := 5) (hI := d_M_add_116) (hl := rfl) ?_
  refine xr_iload_n (pc := 118) (i := 2) (hI := d_M_add_118) (hi := rfl) (hl := rfl) ?_
  refine xr_iastore (pc := 119) (hI := d_M_add_119) (ft_58 F11_) (by decide) (by clear hyp; omega) (xlt_of (fl_58 F11_) (by clear hyp; omega)) ?_
  have F13_ : xFix (xst (xst (xst h 53 4 ((xpl h 53 4) + 1)) 57 (xpl h 55 (xpl h 53 4)) x1) 58 (xpl h 55 (xpl h 53 4)) x2) := F11_.stA xfa_58
  refine xr_aload_n (pc := 120) (i := 0) (hI := d_M_add_120) (hi := rfl) (hl := rfl) ?_
  refine xg_getf (pc := 121) (ci := 11) (k := 10) (N := 38) (v9 := 2) (v := 59) (T := xF11) (hI := d_M_add_121) (hw := w_1597) rfl xi11 (Or.inl rfl) (Nat.le_of_ble_eq_true rfl) (Nat.le_of_ble_eq_true rfl) rfl (ft_53 F13_) (fp_53_10 F13_) (fun f14_ => ?_)
  clear f14_
  refine xr_iload (pc := 124) (i := 5) (hI := d_M_add_124) (hl := rfl) ?_
  refine xr_iload_n (pc := 126) (i := 3) (hI := d_M_add_126) (hi := rfl) (hl := rfl) ?_
  refine xr_iastore (pc := 127) (hI := d_M_add_127) (ft_59 F13_) (by decide) (by clear hyp; omega) (xlt_of (fl_59 F13_) (by clear hyp; omega)) ?_
  have F15_ : xFix (xst (xst (xst (xst h 53 4 ((xpl h 53 4) + 1)) 57 (xpl h 55 (xpl h 53 4)) x1) 58 (xpl h 55 (xpl h 53 4)) x2) 59 (xpl h 55 (xpl h 53 4)) x3) := F13_.stA xfa_59
  refine xr_aload_n (pc := 128) (i := 0) (hI := d_M_add_128) (hi := rfl) (hl := rfl) ?_
  refine xg_getf (pc := 129) (ci := 11) (k := 11) (N := 38) (v9 := 2) (v := 60) (T := xF11) (hI := d_M_add_129) (hw := w_1598) rfl xi11 (Or.inl rfl) (Nat.le_of_ble_eq_true rfl) (Nat.le_of_ble_eq_true rfl) rfl (ft_53 F15_) (fp_53_11 F15_) (fun f16_ => ?_)
  clear f16_
  refine xr_iload (pc := 132) (i := 5) (hI := d_M_add_132) (hl := rfl) ?_
  refine xr_iconst (pc := 134) (hI := d_M_add_134) (hr := by decide) ?_
  refine xr_bastoreZ (pc := 135) (hI := d_M_add_135) (ft_60 F15_) (by decide) (by clear hyp; omega) (xlt_of (fl_60 F15_) (by clear hyp; omega)) (by decide) ?_
  have F17_ : xFix (xst (xst (xst (xst (xst h 53 4 ((xpl h 53 4) + 1)) 57 (xpl h 55 (xpl h 53 4)) x1) 58 (xpl h 55 (xpl h 53 4)) x2) 59 (xpl h 55 (xpl h 53 4)) x3) 60 (xpl h 55 (xpl h 53 4)) 0) := F15_.stA xfa_60
  refine xr_aload_n (pc := 136) (i := 0) (hI := d_M_add_136) (hi := rfl) (hl := rfl) ?_
  refine xr_iload (pc := 137) (i := 5) (hI := d_M_add_137) (hl := rfl) ?_
  exact xq_callV (pc := 139) (index := 404) (K := m_M_read) (As := [xI (xpl h 55 (xpl h 53 4))]) (S := []) (L0 := [xR 53, xI (xpl h 55 (xpl h 53 4)), xZ, xZ, xZ, xZ, xZ]) (hI := d_M_add_139) (hK := k_M_read) (hlk := w_1749) (hnoM := rfl) (hS8 := Nat.le_of_ble_eq_true rfl) (ci := 11) (N := 38) (C := "BeaconIndexModel") (T := xF11) (hc := rfl) (hci := Nat.le_of_ble_eq_true rfl) (htb := (ft_53 F17_)) (hinst := w_1751) (hsel := sel_M_read) (hlen := Nat.le_of_ble_eq_true rfl) (hst := rfl) (hL0 := rfl)  (xwp_mono (hyp F17_) (fun v9 h9 q9 => xr_drop (L9 := [xR 53, xZ, xZ, xZ, xZ, xZ, xZ]) (xdrs (xdrz (xdrz (xdrz (xdrs (xdrz (xdrs xdr0))))))) q9) (fun _ _ z9 => z9))
theorem d_M_add_142 : decode prog_14_method_77_code 142 = .ok (.istore 6, 2) := by decide +kernel
theorem d_M_add_144 : decode prog_14_method_77_code 144 = .ok (.aload_n 0, 1) := by decide +kernel
theorem d_M_add_145 : decode prog_14_method_77_code 145 = .ok (.iconst 0, 1) := by decide +kernel
theorem d_M_add_146 : decode prog_14_method_77_code 146 = .ok (.putfield 105, 3) := by decide +kernel
theorem d_M_add_149 : decode prog_14_method_77_code 149 = .ok (.iload 6, 2) := by decide +kernel
theorem d_M_add_151 : decode prog_14_method_77_code 151 = .ok (.ireturn, 1) := by decide +kernel
theorem v_M_add_142 {G : XG} {d : Nat} {h : XH} {Q : XV → XH → Prop} {X : Nat → XH → Prop} {s0 : Int} (F : xFix h) (hyp : (xFix (xst h 53 2 0) → Q (xI s0) (xst h 53 2 0))) : xwp G m_M_add (d + 9) 142 [xR 53, xZ, xZ, xZ, xZ, xZ, xZ] [xI s0] h Q X := by
  have hnx9 : (93 : Int) ≤ xnx h := F.2.2
  refine xr_okS (fun hs9 => ?_)
  have r_s0 : -2147483648 ≤ s0 ∧ s0 ≤ 2147483647 := hs9 (xI s0) (.head _)
  refine xr_istore (pc := 142) (i := 6) (L9 := [xR 53, xZ, xZ, xZ, xZ, xZ, xI s0]) (hI := d_M_add_142) (hn := Nat.le_of_ble_eq_true rfl) (hL9 := rfl) ?_
  refine xr_aload_n (pc := 144) (i := 0) (hI := d_M_add_144) (hi := rfl) (hl := rfl) ?_
  refine xr_iconst (pc := 145) (hI := d_M_add_145) (hr := by decide) ?_
  refine xr_putf (pc := 146) (ci := 11) (k := 2) (N := 38) (v9 := 0) (T := xF11) (tF := xT11) (hI := d_M_add_146) (hw := w_1589) rfl xi11 xt11 xn11 (Or.inl rfl) (Nat.le_of_ble_eq_true rfl) (Nat.le_of_ble_eq_true rfl) rfl xfit_i rfl (ft_53 F) (by decide) (fun z => z) ?_
  have F1_ : xFix (xst h 53 2 0) := F.stL xfk_53_2
  refine xr_iload (pc := 149) (i := 6) (hI := d_M_add_149) (hl := rfl) ?_
  refine xr_ireturn (S := []) (pc := 151) (hI := d_M_add_151) (hr := rfl) ?_
  exact hyp F1_

end
