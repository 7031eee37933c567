/-! ===== the JDK: rows copied, lists written ===== -/
section
abbrev m_Arrays_copyOf_aJI : XM := (⟨"java/util/Arrays", "copyOf", "([JI)[J"⟩, prog_44_method_124_code, 3, (some (.array .long)), [])
theorem d_Arrays_copyOf_aJI_0 : decode prog_44_method_124_code 0 = .ok (.iload_n 1, 1) := by decide +kernel
theorem d_Arrays_copyOf_aJI_1 : decode prog_44_method_124_code 1 = .ok (.aload_n 0, 1) := by decide +kernel
theorem d_Arrays_copyOf_aJI_2 : decode prog_44_method_124_code 2 = .ok (.arraylength, 1) := by decide +kernel
theorem d_Arrays_copyOf_aJI_3 : decode prog_44_method_124_code 3 = .ok (.if_icmp .ne 11, 3) := by decide +kernel
theorem d_Arrays_copyOf_aJI_14 : decode prog_44_method_124_code 14 = .ok (.iload_n 1, 1) := by decide +kernel
theorem d_Arrays_copyOf_aJI_15 : decode prog_44_method_124_code 15 = .ok (.newarray .long, 2) := by decide +kernel
theorem w_80 : Cond.arrayClass .long ∈ lw_tbl := List.mem_append_right _ (List.mem_of_getElem? (i := 80) (by decide +kernel))
theorem d_Arrays_copyOf_aJI_17 : decode prog_44_method_124_code 17 = .ok (.astore_n 2, 1) := by decide +kernel
theorem d_Arrays_copyOf_aJI_18 : decode prog_44_method_124_code 18 = .ok (.aload_n 0, 1) := by decide +kernel
theorem d_Arrays_copyOf_aJI_19 : decode prog_44_method_124_code 19 = .ok (.iconst 0, 1) := by decide +kernel
theorem d_Arrays_copyOf_aJI_20 : decode prog_44_method_124_code 20 = .ok (.aload_n 2, 1) := by decide +kernel
theorem d_Arrays_copyOf_aJI_21 : decode prog_44_method_124_code 21 = .ok (.iconst 0, 1) := by decide +kernel
theorem d_Arrays_copyOf_aJI_22 : decode prog_44_method_124_code 22 = .ok (.aload_n 0, 1) := by decide +kernel
theorem d_Arrays_copyOf_aJI_23 : decode prog_44_method_124_code 23 = .ok (.arraylength, 1) := by decide +kernel
theorem d_Arrays_copyOf_aJI_24 : decode prog_44_method_124_code 24 = .ok (.iload_n 1, 1) := by decide +kernel
theorem d_Arrays_copyOf_aJI_25 : decode prog_44_method_124_code 25 = .ok (.invokestatic 304, 3) := by decide +kernel
theorem w_541 : Cond.methodLink "java/util/Arrays" 304 ⟨"java/lang/Math", "min", "(II)I"⟩ ∈ lw_tbl := List.mem_append_right _ (List.mem_of_getElem? (i := 541) (by decide +kernel))
theorem w_542 : Cond.static ⟨"java/lang/Math", "min", "(II)I"⟩ ∈ lw_tbl := List.mem_append_right _ (List.mem_of_getElem? (i := 542) (by decide +kernel))
theorem w_25 : Cond.initialized "java/lang/Math" ∈ lw_tbl := List.mem_append_right _ (List.mem_of_getElem? (i := 25) (by decide +kernel))
theorem w_mmin : Cond.code Lib.Math.min.name Lib.Math.min.code 2 (some .int) ∈ lw_tbl := by decide +kernel
theorem d_Arrays_copyOf_aJI_28 : decode prog_44_method_124_code 28 = .ok (.invokestatic 150, 3) := by decide +kernel
theorem w_544 : Cond.methodLink "java/util/Arrays" 150 ⟨"java/lang/System", "arraycopy", "(Ljava/lang/Object;ILjava/lang/Object;II)V"⟩ ∈ lw_tbl := List.mem_append_right _ (List.mem_of_getElem? (i := 544) (by decide +kernel))
theorem w_546 : Cond.native ⟨"java/lang/System", "arraycopy", "(Ljava/lang/Object;ILjava/lang/Object;II)V"⟩ ∈ lw_tbl := List.mem_append_right _ (List.mem_of_getElem? (i := 546) (by decide +kernel))
theorem w_545 : Cond.static ⟨"java/lang/System", "arraycopy", "(Ljava/lang/Object;ILjava/lang/Object;II)V"⟩ ∈ lw_tbl := List.mem_append_right _ (List.mem_of_getElem? (i := 545) (by decide +kernel))
theorem w_30 : Cond.initialized "java/lang/System" ∈ lw_tbl := List.mem_append_right _ (List.mem_of_getElem? (i := 30) (by decide +kernel))
theorem d_Arrays_copyOf_aJI_31 : decode prog_44_method_124_code 31 = .ok (.aload_n 2, 1) := by decide +kernel
theorem d_Arrays_copyOf_aJI_32 : decode prog_44_method_124_code 32 = .ok (.areturn, 1) := by decide +kernel
theorem d_Arrays_copyOf_aJI_6 : decode prog_44_method_124_code 6 = .ok (.aload_n 0, 1) := by decide +kernel
theorem d_Arrays_copyOf_aJI_7 : decode prog_44_method_124_code 7 = .ok (.invokevirtual 319, 3) := by decide +kernel
theorem w_908 : Cond.methodLink "java/util/Arrays" 319 ⟨"[J", "clone", "()Ljava/lang/Object;"⟩ ∈ lw_tbl := List.mem_append_right _ (List.mem_of_getElem? (i := 908) (by decide +kernel))
theorem w_909 : Cond.sameMethod "[J" "java/lang/Object" "clone" "()Ljava/lang/Object;" ∈ lw_tbl := List.mem_append_right _ (List.mem_of_getElem? (i := 909) (by decide +kernel))
theorem w_910 : Cond.native ⟨"java/lang/Object", "clone", "()Ljava/lang/Object;"⟩ ∈ lw_tbl := List.mem_append_right _ (List.mem_of_getElem? (i := 910) (by decide +kernel))
theorem w_911 : Cond.instanceMethod ⟨"java/lang/Object", "clone", "()Ljava/lang/Object;"⟩ ∈ lw_tbl := List.mem_append_right _ (List.mem_of_getElem? (i := 911) (by decide +kernel))
theorem w_912 : Cond.selects "[J" ⟨"[J", "clone", "()Ljava/lang/Object;"⟩ ⟨"java/lang/Object", "clone", "()Ljava/lang/Object;"⟩ ∈ lw_tbl := List.mem_append_right _ (List.mem_of_getElem? (i := 912) (by decide +kernel))
theorem w_913 : Cond.castable "[J" "java/lang/Cloneable" ∈ lw_tbl := List.mem_append_right _ (List.mem_of_getElem? (i := 913) (by decide +kernel))
theorem d_Arrays_copyOf_aJI_10 : decode prog_44_method_124_code 10 = .ok (.checkcast 320, 3) := by decide +kernel
theorem w_914 : Cond.classLink "java/util/Arrays" 320 "[J" ∈ lw_tbl := List.mem_append_right _ (List.mem_of_getElem? (i := 914) (by decide +kernel))
theorem d_Arrays_copyOf_aJI_13 : decode prog_44_method_124_code 13 = .ok (.areturn, 1) := by decide +kernel
theorem v_Arrays_copyOf_aJI_0 {G : XG} {d : Nat} {h : XH} {Q : XV → XH → Prop} {X : Nat → XH → Prop} {x0 x1 : Int} (F : xFix h) (hyp : xtg h x0 = 101 ∧ ((x1 = (xln h x0) → 0 ≤ x0 ∧ xnx h + 1 ≤ xKC ∧ xsl h + xln h x0 ≤ xKS ∧ (xFix (xmk h 101 (xln h x0) (fun j => if 0 ≤ j ∧ j < xln h x0 then xpl h x0 j else 0)) → Q (xR (xnx h)) (xmk h 101 (xln h x0) (fun j => if 0 ≤ j ∧ j < xln h x0 then xpl h x0 j else 0)))) ∧ (¬ x1 = (xln h x0) → 0 ≤ x1 ∧ x1 ≤ 60000000 ∧ xnx h + 1 ≤ xKC ∧ xsl h + x1 ≤ xKS ∧ xtg (xmk h 101 x1 (fun _ => 0)) x0 = 101 ∧ (xFix (xup (xmk h 101 x1 (fun _ => 0)) (xnx h) (xcpf (xpl (xmk h 101 x1 (fun _ => 0)) x0) (xpl (xmk h 101 x1 (fun _ => 0)) (xnx h)) 0 0 (min (xln (xmk h 101 x1 (fun _ => 0)) x0) x1))) → Q (xR (xnx h)) (xup (xmk h 101 x1 (fun _ => 0)) (xnx h) (xcpf (xpl (xmk h 101 x1 (fun _ => 0)) x0) (xpl (xmk h 101 x1 (fun _ => 0)) (xnx h)) 0 0 (min (xln (xmk h 101 x1 (fun _ => 0)) x0) x1))))))) : xwp G m_Arrays_copyOf_aJI (d + 2) 0 [xR x0, xI x1, xZ] [] h Q X := by
  have hnx9 : (93 : Int) ≤ xnx h := F.2.2
  refine xr_okL (fun hl9 => ?_)
  have r_x1 : -2147483648 ≤ x1 ∧ x1 ≤ 2147483647 := hl9 (xI x1) (.tail _ (.head _)) (Nat.le_of_ble_eq_true rfl)
  refine xr_iload_n (pc := 0) (i := 1) (hI := d_Arrays_copyOf_aJI_0) (hi := rfl) (hl := rfl) ?_
  refine xr_aload_n (pc := 1) (i := 0) (hI := d_Arrays_copyOf_aJI_1) (hi := rfl) (hl := rfl) ?_
  obtain ⟨c9, hyp⟩ := hyp
  have t1_ := c9
  clear c9
  refine xg_alen (pc := 2) (t := 101) (v := (xln h x0)) (hI := d_Arrays_copyOf_aJI_2) t1_ (Nat.le_of_ble_eq_true rfl) (Nat.le_of_ble_eq_true rfl) rfl rfl (fun f2_ f3_ => ?_)
  refine xr_icmp_ne (pc := 3) (tgt := 14) (hI := d_Arrays_copyOf_aJI_3) (ht := by decide) (fun q9 => ?_) (fun q9 => ?_)
  · replace hyp := hyp.2 q9
    have q4_ := q9
    clear q9
    refine xr_iload_n (pc := 14) (i := 1) (hI := d_Arrays_copyOf_aJI_14) (hi := rfl) (hl := rfl) ?_
    obtain ⟨c5_, hyp⟩ := hyp
    obtain ⟨c6_, hyp⟩ := hyp
    obtain ⟨c8, c9, hyp⟩ := hyp
    refine xr_newarray (pc := 15) (t := 101) (hI := d_Arrays_copyOf_aJI_15) rfl w_80 rfl (Nat.le_of_ble_eq_true rfl) (Nat.le_of_ble_eq_true rfl) (by decide) (fun _ => rfl) (xok_z rfl) c5_ c6_ c8 c9 ?_
    have F7_ : xFix (xmk h 101 x1 (fun _ => 0)) := F.mk
    have f8_ : (93 : Int) ≤ xnx h := F.nx
    have f9_ : (93 : Int) ≤ xnx (xmk h 101 x1 (fun _ => 0)) := F7_.nx
    have f10_ : xnx (xmk h 101 x1 (fun _ => 0)) = xnx h + 1 := xnx_mk _ _ _ _
    refine xr_astore_n (pc := 17) (i := 2) (L9 := [xR x0, xI x1, xR (xnx h)]) (hI := d_Arrays_copyOf_aJI_17) (hi := rfl) (hn := Nat.le_of_ble_eq_true rfl) (hL9 := rfl) ?_
    refine xr_aload_n (pc := 18) (i := 0) (hI := d_Arrays_copyOf_aJI_18) (hi := rfl) (hl := rfl) ?_
    refine xr_iconst (pc := 19) (hI := d_Arrays_copyOf_aJI_19) (hr := by decide) ?_
    refine xr_aload_n (pc := 20) (i := 2) (hI := d_Arrays_copyOf_aJI_20) (hi := rfl) (hl := rfl) ?_
    refine xr_iconst (pc := 21) (hI := d_Arrays_copyOf_aJI_21) (hr := by decide) ?_
    refine xr_aload_n (pc := 22) (i := 0) (hI := d_Arrays_copyOf_aJI_22) (hi := rfl) (hl := rfl) ?_
    obtain ⟨c9, hyp⟩ := hyp
    have t11_ := c9
    clear c9
    refine xg_alen (pc := 23) (t := 101) (v := (xln (xmk h 101 x1 (fun _ => 0)) x0)) (hI := d_Arrays_copyOf_aJI_23) t11_ (Nat.le_of_ble_eq_true rfl) (Nat.le_of_ble_eq_true rfl) rfl rfl (fun f12_ f13_ => ?_)
    refine xr_iload_n (pc := 24) (i := 1) (hI := d_Arrays_copyOf_aJI_24) (hi := rfl) (hl := rfl) ?_
    refine xr_mmin (pc := 25) (index := 304) (hI := d_Arrays_copyOf_aJI_25) w_541 w_542 w_25 w_mmin (Nat.le_add_left_of_le (by decide)) (Nat.le_of_ble_eq_true rfl) ?_
    have f14_ : (min (xln (xmk h 101 x1 (fun _ => 0)) x0) x1) ≤ (xln (xmk h 101 x1 (fun _ => 0)) x0) := (by clear hyp; omega)
    have f15_ : (min (xln (xmk h 101 x1 (fun _ => 0)) x0) x1) ≤ x1 := (by clear hyp; omega)
    have f16_ : 0 ≤ (min (xln (xmk h 101 x1 (fun _ => 0)) x0) x1) := (by clear hyp; omega)
    refine xr_arraycopy (pc := 28) (t := 101) (index := 150) (hI := d_Arrays_copyOf_aJI_28) w_544 w_546 w_545 w_30 rfl t11_ (xtg_new rfl) (by clear hyp; omega) (by decide) (by decide) (by clear hyp; omega) (xle_of rfl (by clear hyp; omega)) (xle_of (xln_new rfl) (by clear hyp; omega)) (fun z9 => by cases z9) (Nat.le_add_left_of_le (by decide)) (Nat.le_of_ble_eq_true rfl) ?_
    have F17_ : xFix (xup (xmk h 101 x1 (fun _ => 0)) (xnx h) (xcpf (xpl (xmk h 101 x1 (fun _ => 0)) x0) (xpl (xmk h 101 x1 (fun _ => 0)) (xnx h)) 0 0 (min (xln (xmk h 101 x1 (fun _ => 0)) x0) x1))) := F7_.upD (by clear hyp; omega)
    refine xr_aload_n (pc := 31) (i := 2) (hI := d_Arrays_copyOf_aJI_31) (hi := rfl) (hl := rfl) ?_
    refine xr_areturn (S := []) (pc := 32) (hI := d_Arrays_copyOf_aJI_32) (hr := rfl) (hrt := Or.inr ⟨_, rfl⟩) ?_
    exact hyp F17_
  · replace hyp := hyp.1 q9
    have q4_ := q9
    clear q9
    refine xr_aload_n (pc := 6) (i := 0) (hI := d_Arrays_copyOf_aJI_6) (hi := rfl) (hl := rfl) ?_
    obtain ⟨c7, c8, c9, hyp⟩ := hyp
    refine xr_clone (pc := 7) (t := 101) (index := 319) (hI := d_Arrays_copyOf_aJI_7) w_908 w_909 w_910 w_911 w_912 w_913 (by decide +kernel) rfl t1_ c7 (Nat.le_add_left_of_le (by decide)) (Nat.le_of_ble_eq_true rfl) c8 c9 ?_
    have F18_ : xFix (xmk h 101 (xln h x0) (fun j => if 0 ≤ j ∧ j < xln h x0 then xpl h x0 j else 0)) := F.mk
    have f19_ : (93 : Int) ≤ xnx h := F.nx
    have f20_ : (93 : Int) ≤ xnx (xmk h 101 (xln h x0) (fun j => if 0 ≤ j ∧ j < xln h x0 then xpl h x0 j else 0)) := F18_.nx
    have f21_ : xnx (xmk h 101 (xln h x0) (fun j => if 0 ≤ j ∧ j < xln h x0 then xpl h x0 j else 0)) = xnx h + 1 := xnx_mk _ _ _ _
    refine xr_castA (pc := 10) (t := 101) (hI := d_Arrays_copyOf_aJI_10) w_914 (by decide) (Nat.le_of_ble_eq_true rfl) (Nat.le_of_ble_eq_true rfl) rfl (xtg_new rfl) ?_
    refine xr_areturn (S := []) (pc := 13) (hI := d_Arrays_copyOf_aJI_13) (hr := rfl) (hrt := Or.inr ⟨_, rfl⟩) ?_
    exact hyp F18_
abbrev m_Arrays_copyOf_aII : XM := (⟨"java/util/Arrays", "copyOf", "([II)[I"⟩, prog_44_method_123_code, 3, (some (.array .int)), [])
theorem d_Arrays_copyOf_aII_0 : decode prog_44_method_123_code 0 = .ok (.iload_n 1, 1) := by decide +kernel
theorem d_Arrays_copyOf_aII_1 : decode prog_44_method_123_code 1 = .ok (.aload_n 0, 1) := by decide +kernel
theorem d_Arrays_copyOf_aII_2 : decode prog_44_method_123_code 2 = .ok (.arraylength, 1) := by decide +kernel
theorem d_Arrays_copyOf_aII_3 : decode prog_44_method_123_code 3 = .ok (.if_icmp .ne 11, 3) := by decide +kernel
theorem d_Arrays_copyOf_aII_14 : decode prog_44_method_123_code 14 = .ok (.iload_n 1, 1) := by decide +kernel
theorem d_Arrays_copyOf_aII_15 : decode prog_44_method_123_code 15 = .ok (.newarray .int, 2) := by decide +kernel
theorem w_79 : Cond.arrayClass .int ∈ lw_tbl := List.mem_append_right _ (List.mem_of_getElem? (i := 79) (by decide +kernel))
theorem d_Arrays_copyOf_aII_17 : decode prog_44_method_123_code 17 = .ok (.astore_n 2, 1) := by decide +kernel
theorem d_Arrays_copyOf_aII_18 : decode prog_44_method_123_code 18 = .ok (.aload_n 0, 1) := by decide +kernel
theorem d_Arrays_copyOf_aII_19 : decode prog_44_method_123_code 19 = .ok (.iconst 0, 1) := by decide +kernel
theorem d_Arrays_copyOf_aII_20 : decode prog_44_method_123_code 20 = .ok (.aload_n 2, 1) := by decide +kernel
theorem d_Arrays_copyOf_aII_21 : decode prog_44_method_123_code 21 = .ok (.iconst 0, 1) := by decide +kernel
theorem d_Arrays_copyOf_aII_22 : decode prog_44_method_123_code 22 = .ok (.aload_n 0, 1) := by decide +kernel
theorem d_Arrays_copyOf_aII_23 : decode prog_44_method_123_code 23 = .ok (.arraylength, 1) := by decide +kernel
theorem d_Arrays_copyOf_aII_24 : decode prog_44_method_123_code 24 = .ok (.iload_n 1, 1) := by decide +kernel
theorem d_Arrays_copyOf_aII_25 : decode prog_44_method_123_code 25 = .ok (.invokestatic 304, 3) := by decide +kernel
theorem d_Arrays_copyOf_aII_28 : decode prog_44_method_123_code 28 = .ok (.invokestatic 150, 3) := by decide +kernel
theorem d_Arrays_copyOf_aII_31 : decode prog_44_method_123_code 31 = .ok (.aload_n 2, 1) := by decide +kernel
theorem d_Arrays_copyOf_aII_32 : decode prog_44_method_123_code 32 = .ok (.areturn, 1) := by decide +kernel
theorem d_Arrays_copyOf_aII_6 : decode prog_44_method_123_code 6 = .ok (.aload_n 0, 1) := by decide +kernel
theorem d_Arrays_copyOf_aII_7 : decode prog_44_method_123_code 7 = .ok (.invokevirtual 316, 3) := by decide +kernel
theorem w_918 : Cond.methodLink "java/util/Arrays" 316 ⟨"[I", "clone", "()Ljava/lang/Object;"⟩ ∈ lw_tbl := List.mem_append_right _ (List.mem_of_getElem? (i := 918) (by decide +kernel))
theorem w_919 : Cond.sameMethod "[I" "java/lang/Object" "clone" "()Ljava/lang/Object;" ∈ lw_tbl := List.mem_append_right _ (List.mem_of_getElem? (i := 919) (by decide +kernel))
theorem w_920 : Cond.selects "[I" ⟨"[I", "clone", "()Ljava/lang/Object;"⟩ ⟨"java/lang/Object", "clone", "()Ljava/lang/Object;"⟩ ∈ lw_tbl := List.mem_append_right _ (List.mem_of_getElem? (i := 920) (by decide +kernel))
theorem w_921 : Cond.castable "[I" "java/lang/Cloneable" ∈ lw_tbl := List.mem_append_right _ (List.mem_of_getElem? (i := 921) (by decide +kernel))
theorem d_Arrays_copyOf_aII_10 : decode prog_44_method_123_code 10 = .ok (.checkcast 317, 3) := by decide +kernel
theorem w_922 : Cond.classLink "java/util/Arrays" 317 "[I" ∈ lw_tbl := List.mem_append_right _ (List.mem_of_getElem? (i := 922) (by decide +kernel))
theorem d_Arrays_copyOf_aII_13 : decode prog_44_method_123_code 13 = .ok (.areturn, 1) := by decide +kernel
theorem v_Arrays_copyOf_aII_0 {G : XG} {d : Nat} {h : XH} {Q : XV → XH → Prop} {X : Nat → XH → Prop} {x0 x1 : Int} (F : xFix h) (hyp : xtg h x0 = 100 ∧ ((x1 = (xln h x0) → 0 ≤ x0 ∧ xnx h + 1 ≤ xKC ∧ xsl h + xln h x0 ≤ xKS ∧ (xFix (xmk h 100 (xln h x0) (fun j => if 0 ≤ j ∧ j < xln h x0 then xpl h x0 j else 0)) → Q (xR (xnx h)) (xmk h 100 (xln h x0) (fun j => if 0 ≤ j ∧ j < xln h x0 then xpl h x0 j else 0)))) ∧ (¬ x1 = (xln h x0) → 0 ≤ x1 ∧ x1 ≤ 60000000 ∧ xnx h + 1 ≤ xKC ∧ xsl h + x1 ≤ xKS ∧ xtg (xmk h 100 x1 (fun _ => 0)) x0 = 100 ∧ (xFix (xup (xmk h 100 x1 (fun _ => 0)) (xnx h) (xcpf (xpl (xmk h 100 x1 (fun _ => 0)) x0) (xpl (xmk h 100 x1 (fun _ => 0)) (xnx h)) 0 0 (min (xln (xmk h 100 x1 (fun _ => 0)) x0) x1))) → Q (xR (xnx h)) (xup (xmk h 100 x1 (fun _ => 0)) (xnx h) (xcpf (xpl (xmk h 100 x1 (fun _ => 0)) x0) (xpl (xmk h 100 x1 (fun _ => 0)) (xnx h)) 0 0 (min (xln (xmk h 100 x1 (fun _ => 0)) x0) x1))))))) : xwp G m_Arrays_copyOf_aII (d + 2) 0 [xR x0, xI x1, xZ] [] h Q X := by
  have hnx9 : (93 : Int) ≤ xnx h := F.2.2
  refine xr_okL (fun hl9 => ?_)
  have r_x1 : -2147483648 ≤ x1 ∧ x1 ≤ 2147483647 := hl9 (xI x1) (.tail _ (.head _)) (Nat.le_of_ble_eq_true rfl)
  refine xr_iload_n (pc := 0) (i := 1) (hI := d_Arrays_copyOf_aII_0) (hi := rfl) (hl := rfl) ?_
  refine xr_aload_n (pc := 1) (i := 0) (hI := d_Arrays_copyOf_aII_1) (hi := rfl) (hl := rfl) ?_
  obtain ⟨c9, hyp⟩ := hyp
  have t1_ := c9
  clear c9
  refine xg_alen (pc := 2) (t := 100) (v := (xln h x0)) (hI := d_Arrays_copyOf_aII_2) t1_ (Nat.le_of_ble_eq_true rfl) (Nat.le_of_ble_eq_true rfl) rfl rfl (fun f2_ f3_ => ?_)
  refine xr_icmp_ne (pc := 3) (tgt := 14) (hI := d_Arrays_copyOf_aII_3) (ht := by decide) (fun q9 => ?_) (fun q9 => ?_)
  · replace hyp := hyp.2 q9
    have q4_ := q9
    clear q9
    refine xr_iload_n (pc := 14) (i := 1) (hI := d_Arrays_copyOf_aII_14) (hi := rfl) (hl := rfl) ?_
    obtain ⟨c5_, hyp⟩ := hyp
    obtain ⟨c6_, hyp⟩ := hyp
    obtain ⟨c8, c9, hyp⟩ := hyp
    refine xr_newarray (pc := 15) (t := 100) (hI := d_Arrays_copyOf_aII_15) rfl w_79 rfl (Nat.le_of_ble_eq_true rfl) (Nat.le_of_ble_eq_true rfl) (by decide) (fun _ => rfl) (xok_z rfl) c5_ c6_ c8 c9 ?_
    have F7_ : xFix (xmk h 100 x1 (fun _ => 0)) := F.mk
    have f8_ : (93 : Int) ≤ xnx h := F.nx
    have f9_ : (93 : Int) ≤ xnx (xmk h 100 x1 (fun _ => 0)) := F7_.nx
    have f10_ : xnx (xmk h 100 x1 (fun _ => 0)) = xnx h + 1 := xnx_mk _ _ _ _
    refine xr_astore_n (pc := 17) (i := 2) (L9 := [xR x0, xI x1, xR (xnx h)]) (hI := d_Arrays_copyOf_aII_17) (hi := rfl) (hn := Nat.le_of_ble_eq_true rfl) (hL9 := rfl) ?_
    refine xr_aload_n (pc := 18) (i := 0) (hI := d_Arrays_copyOf_aII_18) (hi := rfl) (hl := rfl) ?_
    refine xr_iconst (pc := 19) (hI := d_Arrays_copyOf_aII_19) (hr := by decide) ?_
    refine xr_aload_n (pc := 20) (i := 2) (hI := d_Arrays_copyOf_aII_20) (hi := rfl) (hl := rfl) ?_
    refine xr_iconst (pc := 21) (hI := d_Arrays_copyOf_aII_21) (hr := by decide) ?_
    refine xr_aload_n (pc := 22) (i := 0) (hI := d_Arrays_copyOf_aII_22) (hi := rfl) (hl := rfl) ?_
    obtain ⟨c9, hyp⟩ := hyp
    have t11_ := c9
    clear c9
    refine xg_alen (pc := 23) (t := 100) (v := (xln (xmk h 100 x1 (fun _ => 0)) x0)) (hI := d_Arrays_copyOf_aII_23) t11_ (Nat.le_of_ble_eq_true rfl) (Nat.le_of_ble_eq_true rfl) rfl rfl (fun f12_ f13_ => ?_)
    refine xr_iload_n (pc := 24) (i := 1) (hI := d_Arrays_copyOf_aII_24) (hi := rfl) (hl := rfl) ?_
    refine xr_mmin (pc := 25) (index := 304) (hI := d_Arrays_copyOf_aII_25) w_541 w_542 w_25 w_mmin (Nat.le_add_left_of_le (by decide)) (Nat.le_of_ble_eq_true rfl) ?_
    have f14_ : (min (xln (xmk h 100 x1 (fun _ => 0)) x0) x1) ≤ (xln (xmk h 100 x1 (fun _ => 0)) x0) := (by clear hyp; omega)
    have f15_ : (min (xln (xmk h 100 x1 (fun _ => 0)) x0) x1) ≤ x1 := (by clear hyp; omega)
    have f16_ : 0 ≤ (min (xln (xmk h 100 x1 (fun _ => 0)) x0) x1) := (by clear hyp; omega)
    refine xr_arraycopy (pc := 28) (t := 100) (index := 150) (hI := d_Arrays_copyOf_aII_28) w_544 w_546 w_545 w_30 rfl t11_ (xtg_new rfl) (by clear hyp; omega) (by decide) (by decide) (by clear hyp; omega) (xle_of rfl (by clear hyp; omega)) (xle_of (xln_new rfl) (by clear hyp; omega)) (fun z9 => by cases z9) (Nat.le_add_left_of_le (by decide)) (Nat.le_of_ble_eq_true rfl) ?_
    have F17_ : xFix (xup (xmk h 100 x1 (fun _ => 0)) (xnx h) (xcpf (xpl (xmk h 100 x1 (fun _ => 0)) x0) (xpl (xmk h 100 x1 (fun _ => 0)) (xnx h)) 0 0 (min (xln (xmk h 100 x1 (fun _ => 0)) x0) x1))) := F7_.upD (by clear hyp; omega)
    refine xr_aload_n (pc := 31) (i := 2) (hI := d_Arrays_copyOf_aII_31) (hi := rfl) (hl := rfl) ?_
    refine xr_areturn (S := []) (pc := 32) (hI := d_Arrays_copyOf_aII_32) (hr := rfl) (hrt := Or.inr ⟨_, rfl⟩) ?_
    exact hyp F17_
  · replace hyp := hyp.1 q9
    have q4_ := q9
    clear q9
    refine xr_aload_n (pc := 6) (i := 0) (hI := d_Arrays_copyOf_aII_6) (hi := rfl) (hl := rfl) ?_
    obtain ⟨c7, c8, c9, hyp⟩ := hyp
    refine xr_clone (pc := 7) (t := 100) (index := 316) (hI := d_Arrays_copyOf_aII_7) w_918 w_919 w_910 w_911 w_920 w_921 (by decide +kernel) rfl t1_ c7 (Nat.le_add_left_of_le (by decide)) (Nat.le_of_ble_eq_true rfl) c8 c9 ?_
    have F18_ : xFix (xmk h 100 (xln h x0) (fun j => if 0 ≤ j ∧ j < xln h x0 then xpl h x0 j else 0)) := F.mk
    have f19_ : (93 : Int) ≤ xnx h := F.nx
    have f20_ : (93 : Int) ≤ xnx (xmk h 100 (xln h x0) (fun j => if 0 ≤ j ∧ j < xln h x0 then xpl h x0 j else 0)) := F18_.nx
    have f21_ : xnx (xmk h 100 (xln h x0) (fun j => if 0 ≤ j ∧ j < xln h x0 then xpl h x0 j else 0)) = xnx h + 1 := xnx_mk _ _ _ _
    refine xr_castA (pc := 10) (t := 100) (hI := d_Arrays_copyOf_aII_10) w_922 (by decide) (Nat.le_of_ble_eq_true rfl) (Nat.le_of_ble_eq_true rfl) rfl (xtg_new rfl) ?_
    refine xr_areturn (S := []) (pc := 13) (hI := d_Arrays_copyOf_aII_13) (hr := rfl) (hrt := Or.inr ⟨_, rfl⟩) ?_
    exact hyp F18_
abbrev m_Arrays_copyOf_aLIClass : XM := (⟨"java/util/Arrays", "copyOf", "([Ljava/lang/Object;ILjava/lang/Class;)[Ljava/lang/Object;"⟩, prog_44_method_120_code, 4, (some (.array (.object "java/lang/Object"))), [])
theorem d_Arrays_copyOf_aLIClass_0 : decode prog_44_method_120_code 0 = .ok (.aload_n 2, 1) := by decide +kernel
theorem d_Arrays_copyOf_aLIClass_1 : decode prog_44_method_120_code 1 = .ok (.ldc 110, 2) := by decide +kernel
theorem w_538 : Cond.classLink "java/util/Arrays" 110 "[Ljava/lang/Object;" ∈ lw_tbl := List.mem_append_right _ (List.mem_of_getElem? (i := 538) (by decide +kernel))
theorem d_Arrays_copyOf_aLIClass_3 : decode prog_44_method_120_code 3 = .ok (.if_acmp .ne 10, 3) := by decide +kernel
theorem d_Arrays_copyOf_aLIClass_13 : decode prog_44_method_120_code 13 = .ok (.aload_n 2, 1) := by decide +kernel
theorem d_Arrays_copyOf_aLIClass_14 : decode prog_44_method_120_code 14 = .ok (.invokevirtual 90, 3) := by decide +kernel
theorem d_Arrays_copyOf_aLIClass_6 : decode prog_44_method_120_code 6 = .ok (.iload_n 1, 1) := by decide +kernel
theorem d_Arrays_copyOf_aLIClass_7 : decode prog_44_method_120_code 7 = .ok (.anewarray 2, 3) := by decide +kernel
theorem w_540 : Cond.classLink "java/util/Arrays" 2 "java/lang/Object" ∈ lw_tbl := List.mem_append_right _ (List.mem_of_getElem? (i := 540) (by decide +kernel))
theorem w_539 : Cond.arrayOver (.object "java/lang/Object") ∈ lw_tbl := List.mem_append_right _ (List.mem_of_getElem? (i := 539) (by decide +kernel))
theorem d_Arrays_copyOf_aLIClass_10 : decode prog_44_method_120_code 10 = .ok (.goto 14, 3) := by decide +kernel
theorem d_Arrays_copyOf_aLIClass_24 : decode prog_44_method_120_code 24 = .ok (.astore_n 3, 1) := by decide +kernel
theorem d_Arrays_copyOf_aLIClass_25 : decode prog_44_method_120_code 25 = .ok (.aload_n 0, 1) := by decide +kernel
theorem d_Arrays_copyOf_aLIClass_26 : decode prog_44_method_120_code 26 = .ok (.iconst 0, 1) := by decide +kernel
theorem d_Arrays_copyOf_aLIClass_27 : decode prog_44_method_120_code 27 = .ok (.aload_n 3, 1) := by decide +kernel
theorem d_Arrays_copyOf_aLIClass_28 : decode prog_44_method_120_code 28 = .ok (.iconst 0, 1) := by decide +kernel
theorem d_Arrays_copyOf_aLIClass_29 : decode prog_44_method_120_code 29 = .ok (.aload_n 0, 1) := by decide +kernel
theorem d_Arrays_copyOf_aLIClass_30 : decode prog_44_method_120_code 30 = .ok (.arraylength, 1) := by decide +kernel
theorem d_Arrays_copyOf_aLIClass_31 : decode prog_44_method_120_code 31 = .ok (.iload_n 1, 1) := by decide +kernel
theorem d_Arrays_copyOf_aLIClass_32 : decode prog_44_method_120_code 32 = .ok (.invokestatic 304, 3) := by decide +kernel
theorem d_Arrays_copyOf_aLIClass_35 : decode prog_44_method_120_code 35 = .ok (.invokestatic 150, 3) := by decide +kernel
theorem d_Arrays_copyOf_aLIClass_38 : decode prog_44_method_120_code 38 = .ok (.aload_n 3, 1) := by decide +kernel
theorem d_Arrays_copyOf_aLIClass_39 : decode prog_44_method_120_code 39 = .ok (.areturn, 1) := by decide +kernel
theorem v_Arrays_copyOf_aLIClass_0 {G : XG} {d : Nat} {h : XH} {Q : XV → XH → Prop} {X : Nat → XH → Prop} {x0 x1 x2 : Int} (F : xFix h) (hyp : (x2 = (-106) ∨ ((-1 ≤ x2 ∨ -1 ≤ (-106 : Int)) ∧ (-1 ≤ x2 ∨ xtg h x2 < 200) ∧ (-1 ≤ (-106 : Int) ∨ xtg h (-106) < 200))) ∧ ((x2 = (-106) → 0 ≤ x1 ∧ x1 ≤ 60000000 ∧ xnx h + 1 ≤ xKC ∧ xsl h + x1 ≤ xKS ∧ xtg (xmk h 110 x1 (fun _ => -1)) x0 = 110 ∧ (∀ i9 : Int, 0 ≤ i9 → i9 < (0 + (min (xln (xmk h 110 x1 (fun _ => -1)) x0) x1)) → xpl (xmk h 110 x1 (fun _ => -1)) x0 i9 = -1 ∨ xaos (xtg (xmk h 110 x1 (fun _ => -1)) (xpl (xmk h 110 x1 (fun _ => -1)) x0 i9)) = true) ∧ (xFix (xup (xmk h 110 x1 (fun _ => -1)) (xnx h) (xcpf (xpl (xmk h 110 x1 (fun _ => -1)) x0) (xpl (xmk h 110 x1 (fun _ => -1)) (xnx h)) 0 0 (min (xln (xmk h 110 x1 (fun _ => -1)) x0) x1))) → Q (xR (xnx h)) (xup (xmk h 110 x1 (fun _ => -1)) (xnx h) (xcpf (xpl (xmk h 110 x1 (fun _ => -1)) x0) (xpl (xmk h 110 x1 (fun _ => -1)) (xnx h)) 0 0 (min (xln (xmk h 110 x1 (fun _ => -1)) x0) x1))))) ∧ (¬ x2 = (-106) → False))) : xwp G m_Arrays_copyOf_aLIClass (d + 2) 0 [xR x0, xI x1, xR x2, xZ] [] h Q X := by
  have hnx9 : (93 : Int) ≤ xnx h := F.2.2
  refine xr_okL (fun hl9 => ?_)
  have r_x1 : -2147483648 ≤ x1 ∧ x1 ≤ 2147483647 := hl9 (xI x1) (.tail _ (.head _)) (Nat.le_of_ble_eq_true rfl)
  refine xr_aload_n (pc := 0) (i := 2) (hI := d_Arrays_copyOf_aLIClass_0) (hi := rfl) (hl := rfl) ?_
  refine xr_ldcM (pc := 1) (index := 110) (hI := d_Arrays_copyOf_aLIClass_1) w_538 ?_
  obtain ⟨c9, hyp⟩ := hyp
  refine xr_acmp_ne (pc := 3) (tgt := 13) (hI := d_Arrays_copyOf_aLIClass_3) (ht := by decide) (h1 := c9) (fun q9 => ?_) (fun q9 => ?_)
  · replace hyp := hyp.2 q9
    have q1_ := q9
    clear q9
    refine xr_aload_n (pc := 13) (i := 2) (hI := d_Arrays_copyOf_aLIClass_13) (hi := rfl) (hl := rfl) ?_
    exact hyp.elim
  · replace hyp := hyp.1 q9
    have q1_ := q9
    clear q9
    refine xr_iload_n (pc := 6) (i := 1) (hI := d_Arrays_copyOf_aLIClass_6) (hi := rfl) (hl := rfl) ?_
    obtain ⟨c2_, hyp⟩ := hyp
    obtain ⟨c3_, hyp⟩ := hyp
    obtain ⟨c8, c9, hyp⟩ := hyp
    refine xr_anewarray (pc := 7) (hI := d_Arrays_copyOf_aLIClass_7) w_540 w_539 c2_ c3_ c8 c9 ?_
    have F4_ : xFix (xmk h 110 x1 (fun _ => -1)) := F.mk
    have f5_ : (93 : Int) ≤ xnx h := F.nx
    have f6_ : (93 : Int) ≤ xnx (xmk h 110 x1 (fun _ => -1)) := F4_.nx
    have f7_ : xnx (xmk h 110 x1 (fun _ => -1)) = xnx h + 1 := xnx_mk _ _ _ _
    refine xr_goto (pc := 10) (tgt := 24) (hI := d_Arrays_copyOf_aLIClass_10) (ht := by decide) ?_
    refine xr_astore_n (pc := 24) (i := 3) (L9 := [xR x0, xI x1, xR x2, xR (xnx h)]) (hI := d_Arrays_copyOf_aLIClass_24) (hi := rfl) (hn := Nat.le_of_ble_eq_true rfl) (hL9 := rfl) ?_
    refine xr_aload_n (pc := 25) (i := 0) (hI := d_Arrays_copyOf_aLIClass_25) (hi := rfl) (hl := rfl) ?_
    refine xr_iconst (pc := 26) (hI := d_Arrays_copyOf_aLIClass_26) (hr := by decide) ?_
    refine xr_aload_n (pc := 27) (i := 3) (hI := d_Arrays_copyOf_aLIClass_27) (hi := rfl) (hl := rfl) ?_
    refine xr_iconst (pc := 28) (hI := d_Arrays_copyOf_aLIClass_28) (hr := by decide) ?_
    refine xr_aload_n (pc := 29) (i := 0) (hI := d_Arrays_copyOf_aLIClass_29) (hi := rfl) (hl := rfl) ?_
    obtain ⟨c9, hyp⟩ := hyp
    have t8_ := c9
    clear c9
    refine xg_alen (pc := 30) (t := 110) (v := (xln (xmk h 110 x1 (fun _ => -1)) x0)) (hI := d_Arrays_copyOf_aLIClass_30) t8_ (Nat.le_of_ble_eq_true rfl) (Nat.le_of_ble_eq_true rfl) rfl rfl (fun f9_ f10_ => ?_)
    refine xr_iload_n (pc := 31) (i := 1) (hI := d_Arrays_copyOf_aLIClass_31) (hi := rfl) (hl := rfl) ?_
    refine xr_mmin (pc := 32) (index := 304) (hI := d_Arrays_copyOf_aLIClass_32) w_541 w_542 w_25 w_mmin (Nat.le_add_left_of_le (by decide)) (Nat.le_of_ble_eq_true rfl) ?_
    have f11_ : (min (xln (xmk h 110 x1 (fun _ => -1)) x0) x1) ≤ (xln (xmk h 110 x1 (fun _ => -1)) x0) := (by clear hyp; omega)
    have f12_ : (min (xln (xmk h 110 x1 (fun _ => -1)) x0) x1) ≤ x1 := (by clear hyp; omega)
    have f13_ : 0 ≤ (min (xln (xmk h 110 x1 (fun _ => -1)) x0) x1) := (by clear hyp; omega)
    obtain ⟨c14_, hyp⟩ := hyp
    refine xr_arraycopy (pc := 35) (t := 110) (index := 150) (hI := d_Arrays_copyOf_aLIClass_35) w_544 w_546 w_545 w_30 rfl t8_ (xtg_new rfl) (by clear hyp; omega) (by decide) (by decide) (by clear hyp; omega) (xle_of rfl (by clear hyp; omega)) (xle_of (xln_new rfl) (by clear hyp; omega)) (fun _ => c14_) (Nat.le_add_left_of_le (by decide)) (Nat.le_of_ble_eq_true rfl) ?_
    have F15_ : xFix (xup (xmk h 110 x1 (fun _ => -1)) (xnx h) (xcpf (xpl (xmk h 110 x1 (fun _ => -1)) x0) (xpl (xmk h 110 x1 (fun _ => -1)) (xnx h)) 0 0 (min (xln (xmk h 110 x1 (fun _ => -1)) x0) x1))) := F4_.upD (by clear hyp; omega)
    refine xr_aload_n (pc := 38) (i := 3) (hI := d_Arrays_copyOf_aLIClass_38) (hi := rfl) (hl := rfl) ?_
    refine xr_areturn (S := []) (pc := 39) (hI := d_Arrays_copyOf_aLIClass_39) (hr := rfl) (hrt := Or.inr ⟨_, rfl⟩) ?_
    exact hyp F15_
abbrev m_Arrays_copyOf_aLI : XM := (⟨"java/util/Arrays", "copyOf", "([Ljava/lang/Object;I)[Ljava/lang/Object;"⟩, prog_44_method_119_code, 2, (some (.array (.object "java/lang/Object"))), [])
theorem d_Arrays_copyOf_aLI_0 : decode prog_44_method_119_code 0 = .ok (.aload_n 0, 1) := by decide +kernel
theorem d_Arrays_copyOf_aLI_1 : decode prog_44_method_119_code 1 = .ok (.iload_n 1, 1) := by decide +kernel
theorem d_Arrays_copyOf_aLI_2 : decode prog_44_method_119_code 2 = .ok (.aload_n 0, 1) := by decide +kernel
theorem d_Arrays_copyOf_aLI_3 : decode prog_44_method_119_code 3 = .ok (.invokevirtual 86, 3) := by decide +kernel
theorem w_511 : Cond.methodLink "java/util/Arrays" 86 ⟨"java/lang/Object", "getClass", "()Ljava/lang/Class;"⟩ ∈ lw_tbl := List.mem_append_right _ (List.mem_of_getElem? (i := 511) (by decide +kernel))
theorem w_2530 : Cond.declares ⟨"java/lang/Object", "getClass", "()Ljava/lang/Class;"⟩ ∈ lw_tbl := List.mem_append_right _ (List.mem_of_getElem? (i := 2530) (by decide +kernel))
theorem w_2529 : Cond.selects "[Ljava/lang/Object;" ⟨"java/lang/Object", "getClass", "()Ljava/lang/Class;"⟩ ⟨"java/lang/Object", "getClass", "()Ljava/lang/Class;"⟩ ∈ lw_tbl := List.mem_append_right _ (List.mem_of_getElem? (i := 2529) (by decide +kernel))
theorem w_512 : Cond.instanceMethod ⟨"java/lang/Object", "getClass", "()Ljava/lang/Class;"⟩ ∈ lw_tbl := List.mem_append_right _ (List.mem_of_getElem? (i := 512) (by decide +kernel))
theorem w_534 : Cond.native ⟨"java/lang/Object", "getClass", "()Ljava/lang/Class;"⟩ ∈ lw_tbl := List.mem_append_right _ (List.mem_of_getElem? (i := 534) (by decide +kernel))
theorem d_Arrays_copyOf_aLI_6 : decode prog_44_method_119_code 6 = .ok (.invokestatic 300, 3) := by decide +kernel
theorem w_29 : Cond.initialized "java/util/Arrays" ∈ lw_tbl := List.mem_append_right _ (List.mem_of_getElem? (i := 29) (by decide +kernel))
theorem k_Arrays_copyOf_aLIClass : xCal m_Arrays_copyOf_aLIClass 3 := ⟨List.mem_append_right _ (List.mem_of_getElem? (i := 537) (by decide +kernel)), w_29, Nat.le_of_ble_eq_true rfl, ⟨by decide +kernel, by decide +kernel⟩, by decide +kernel, by decide +kernel, rfl⟩
theorem w_535 : Cond.methodLink "java/util/Arrays" 300 ⟨"java/util/Arrays", "copyOf", "([Ljava/lang/Object;ILjava/lang/Class;)[Ljava/lang/Object;"⟩ ∈ lw_tbl := List.mem_append_right _ (List.mem_of_getElem? (i := 535) (by decide +kernel))
theorem w_536 : Cond.static ⟨"java/util/Arrays", "copyOf", "([Ljava/lang/Object;ILjava/lang/Class;)[Ljava/lang/Object;"⟩ ∈ lw_tbl := List.mem_append_right _ (List.mem_of_getElem? (i := 536) (by decide +kernel))
theorem v_Arrays_copyOf_aLI_0 {G : XG} {d : Nat} {h : XH} {Q : XV → XH → Prop} {X : Nat → XH → Prop} {x0 x1 : Int} (F : xFix h) (hyp : xtg h x0 = 110 ∧ (xwp G m_Arrays_copyOf_aLIClass (d + 2) 0 [xR x0, xI x1, xR (-106), xZ] [] h (fun v9 h9 => xwp G m_Arrays_copyOf_aLI (d + 3) 9 [xZ, xZ] (xpush v9 []) h9 Q X) X)) : xwp G m_Arrays_copyOf_aLI (d + 3) 0 [xR x0, xI x1] [] h Q X := by
  have hnx9 : (93 : Int) ≤ xnx h := F.2.2
  refine xr_okL (fun hl9 => ?_)
  have r_x1 : -2147483648 ≤ x1 ∧ x1 ≤ 2147483647 := hl9 (xI x1) (.tail _ (.head _)) (Nat.le_of_ble_eq_true rfl)
  refine xr_aload_n (pc := 0) (i := 0) (hI := d_Arrays_copyOf_aLI_0) (hi := rfl) (hl := rfl) ?_
  refine xr_iload_n (pc := 1) (i := 1) (hI := d_Arrays_copyOf_aLI_1) (hi := rfl) (hl := rfl) ?_
  refine xr_aload_n (pc := 2) (i := 0) (hI := d_Arrays_copyOf_aLI_2) (hi := rfl) (hl := rfl) ?_
  obtain ⟨c9, hyp⟩ := hyp
  have t1_ := c9
  clear c9
  refine xr_getClass (pc := 3) (index := 86) (hI := d_Arrays_copyOf_aLI_3) w_511 w_2530 w_2529 w_512 w_534 t1_ (Nat.le_add_left_of_le (by decide)) (Nat.le_of_ble_eq_true rfl) ?_
  exact xq_callS (pc := 6) (index := 300) (K := m_Arrays_copyOf_aLIClass) (As := [xR x0, xI x1, xR (-106)]) (S := []) (L0 := [xR x0, xI x1, xR (-106), xZ]) (hI := d_Arrays_copyOf_aLI_6) (hK := k_Arrays_copyOf_aLIClass) (hlk := w_535) (hnoM := rfl) (hS8 := Nat.le_of_ble_eq_true rfl) (hstat := w_536) (hlen := Nat.le_of_ble_eq_true rfl) (hst := rfl) (hL0 := rfl)  (xwp_mono hyp (fun v9 h9 q9 => xr_drop (L9 := [xZ, xZ]) (xdrz (xdrz xdr0)) q9) (fun _ _ z9 => z9))
theorem d_Arrays_copyOf_aLI_9 : decode prog_44_method_119_code 9 = .ok (.areturn, 1) := by decide +kernel
theorem v_Arrays_copyOf_aLI_9 {G : XG} {d : Nat} {h : XH} {Q : XV → XH → Prop} {X : Nat → XH → Prop} {s0 : Int} (F : xFix h) (hyp : (Q (xR s0) h)) : xwp G m_Arrays_copyOf_aLI (d + 3) 9 [xZ, xZ] [xR s0] h Q X := by
  have hnx9 : (93 : Int) ≤ xnx h := F.2.2
  refine xr_areturn (S := []) (pc := 9) (hI := d_Arrays_copyOf_aLI_9) (hr := rfl) (hrt := Or.inr ⟨_, rfl⟩) ?_
  exact hyp
abbrev m_ArraysSupport_newLength : XM := (⟨"jdk/internal/util/ArraysSupport", "newLength", "(III)I"⟩, prog_51_method_27_code, 4, (some .int), [])
theorem d_ArraysSupport_newLength_0 : decode prog_51_method_27_code 0 = .ok (.iload_n 0, 1) := by decide +kernel
theorem d_ArraysSupport_newLength_1 : decode prog_51_method_27_code 1 = .ok (.iload_n 1, 1) := by decide +kernel
theorem d_ArraysSupport_newLength_2 : decode prog_51_method_27_code 2 = .ok (.iload_n 2, 1) := by decide +kernel
theorem d_ArraysSupport_newLength_3 : decode prog_51_method_27_code 3 = .ok (.invokestatic 194, 3) := by decide +kernel
theorem w_501 : Cond.methodLink "jdk/internal/util/ArraysSupport" 194 ⟨"java/lang/Math", "max", "(II)I"⟩ ∈ lw_tbl := List.mem_append_right _ (List.mem_of_getElem? (i := 501) (by decide +kernel))
theorem w_502 : Cond.static ⟨"java/lang/Math", "max", "(II)I"⟩ ∈ lw_tbl := List.mem_append_right _ (List.mem_of_getElem? (i := 502) (by decide +kernel))
theorem w_mmax : Cond.code Lib.Math.max.name Lib.Math.max.code 2 (some .int) ∈ lw_tbl := by decide +kernel
theorem d_ArraysSupport_newLength_6 : decode prog_51_method_27_code 6 = .ok (.iadd, 1) := by decide +kernel
theorem d_ArraysSupport_newLength_7 : decode prog_51_method_27_code 7 = .ok (.istore_n 3, 1) := by decide +kernel
theorem d_ArraysSupport_newLength_8 : decode prog_51_method_27_code 8 = .ok (.iconst 0, 1) := by decide +kernel
theorem d_ArraysSupport_newLength_9 : decode prog_51_method_27_code 9 = .ok (.iload_n 3, 1) := by decide +kernel
theorem d_ArraysSupport_newLength_10 : decode prog_51_method_27_code 10 = .ok (.if_icmp .ge 11, 3) := by decide +kernel
theorem d_ArraysSupport_newLength_21 : decode prog_51_method_27_code 21 = .ok (.iload_n 0, 1) := by decide +kernel
theorem d_ArraysSupport_newLength_22 : decode prog_51_method_27_code 22 = .ok (.iload_n 1, 1) := by decide +kernel
theorem d_ArraysSupport_newLength_23 : decode prog_51_method_27_code 23 = .ok (.invokestatic 201, 3) := by decide +kernel
abbrev m_ArraysSupport_hugeLength : XM := (⟨"jdk/internal/util/ArraysSupport", "hugeLength", "(II)I"⟩, prog_51_method_28_code, 3, (some .int), [])
theorem w_31 : Cond.initialized "jdk/internal/util/ArraysSupport" ∈ lw_tbl := List.mem_append_right _ (List.mem_of_getElem? (i := 31) (by decide +kernel))
theorem k_ArraysSupport_hugeLength : xCal m_ArraysSupport_hugeLength 2 := ⟨List.mem_append_right _ (List.mem_of_getElem? (i := 507) (by decide +kernel)), w_31, Nat.le_of_ble_eq_true rfl, ⟨by decide +kernel, by decide +kernel⟩, by decide +kernel, by decide +kernel, rfl⟩
theorem w_505 : Cond.methodLink "jdk/internal/util/ArraysSupport" 201 ⟨"jdk/internal/util/ArraysSupport", "hugeLength", "(II)I"⟩ ∈ lw_tbl := List.mem_append_right _ (List.mem_of_getElem? (i := 505) (by decide +kernel))
theorem w_506 : Cond.static ⟨"jdk/internal/util/ArraysSupport", "hugeLength", "(II)I"⟩ ∈ lw_tbl := List.mem_append_right _ (List.mem_of_getElem? (i := 506) (by decide +kernel))
theorem d_ArraysSupport_newLength_13 : decode prog_51_method_27_code 13 = .ok (.iload_n 3, 1) := by decide +kernel
theorem d_ArraysSupport_newLength_14 : decode prog_51_method_27_code 14 = .ok (.ldc 200, 2) := by decide +kernel
theorem w_504 : Cond.constant "jdk/internal/util/ArraysSupport" 200 (2147483639 : Int32) ∈ lw_tbl := List.mem_append_right _ (List.mem_of_getElem? (i := 504) (by decide +kernel))
theorem d_ArraysSupport_newLength_16 : decode prog_51_method_27_code 16 = .ok (.if_icmp .gt 5, 3) := by decide +kernel
theorem d_ArraysSupport_newLength_19 : decode prog_51_method_27_code 19 = .ok (.iload_n 3, 1) := by decide +kernel
theorem d_ArraysSupport_newLength_20 : decode prog_51_method_27_code 20 = .ok (.ireturn, 1) := by decide +kernel
theorem v_ArraysSupport_newLength_0 {G : XG} {d : Nat} {h : XH} {Q : XV → XH → Prop} {X : Nat → XH → Prop} {x0 x1 x2 : Int} (F : xFix h) (hyp : xiR (x0 + (max x1 x2)) ∧ (((x0 + (max x1 x2)) ≤ 0 → (xwp G m_ArraysSupport_hugeLength (d + 1) 0 [xI x0, xI x1, xZ] [] h (fun v9 h9 => xwp G m_ArraysSupport_newLength (d + 2) 26 [xZ, xZ, xZ, xZ] (xpush v9 []) h9 Q X) X)) ∧ (¬ (x0 + (max x1 x2)) ≤ 0 → (((2147483639 : Int) < (x0 + (max x1 x2)) → (xwp G m_ArraysSupport_hugeLength (d + 1) 0 [xI x0, xI x1, xZ] [] h (fun v9 h9 => xwp G m_ArraysSupport_newLength (d + 2) 26 [xZ, xZ, xZ, xZ] (xpush v9 []) h9 Q X) X)) ∧ (¬ (2147483639 : Int) < (x0 + (max x1 x2)) → (Q (xI (x0 + (max x1 x2))) h)))))) : xwp G m_ArraysSupport_newLength (d + 2) 0 [xI x0, xI x1, xI x2, xZ] [] h Q X := by
  have hnx9 : (93 : Int) ≤ xnx h := F.2.2
  refine xr_okL (fun hl9 => ?_)
  have r_x0 : -2147483648 ≤ x0 ∧ x0 ≤ 2147483647 := hl9 (xI x0) (.head _) (Nat.le_of_ble_eq_true rfl)
  have r_x1 : -2147483648 ≤ x1 ∧ x1 ≤ 2147483647 := hl9 (xI x1) (.tail _ (.head _)) (Nat.le_of_ble_eq_true rfl)
  have r_x2 : -2147483648 ≤ x2 ∧ x2 ≤ 2147483647 := hl9 (xI x2) (.tail _ (.tail _ (.head _))) (Nat.le_of_ble_eq_true rfl)
  refine xr_iload_n (pc := 0) (i := 0) (hI := d_ArraysSupport_newLength_0) (hi := rfl) (hl := rfl) ?_
  refine xr_iload_n (pc := 1) (i := 1) (hI := d_ArraysSupport_newLength_1) (hi := rfl) (hl := rfl) ?_
  refine xr_iload_n (pc := 2) (i := 2) (hI := d_ArraysSupport_newLength_2) (hi := rfl) (hl := rfl) ?_
  refine xr_mmax (pc := 3) (index := 194) (hI := d_ArraysSupport_newLength_3) w_501 w_502 w_25 w_mmax (Nat.le_add_left_of_le (by decide)) (Nat.le_of_ble_eq_true rfl) ?_
  have f1_ : x1 ≤ (max x1 x2) := (by clear hyp; omega)
  have f2_ : x2 ≤ (max x1 x2) := (by clear hyp; omega)
  have f3_ : (max x1 x2) ≤ 2147483647 := (by clear hyp; omega)
  obtain ⟨c9, hyp⟩ := hyp
  refine xr_iadd (pc := 6) (hI := d_ArraysSupport_newLength_6) (hr := c9) ?_
  refine xr_istore_n (pc := 7) (i := 3) (L9 := [xI x0, xI x1, xI x2, xI (x0 + (max x1 x2))]) (hI := d_ArraysSupport_newLength_7) (hi := rfl) (hn := Nat.le_of_ble_eq_true rfl) (hL9 := rfl) ?_
  refine xr_iconst (pc := 8) (hI := d_ArraysSupport_newLength_8) (hr := by decide) ?_
  refine xr_iload_n (pc := 9) (i := 3) (hI := d_ArraysSupport_newLength_9) (hi := rfl) (hl := rfl) ?_
  refine xr_icmp_ge (pc := 10) (tgt := 21) (hI := d_ArraysSupport_newLength_10) (ht := by decide) (fun q9 => ?_) (fun q9 => ?_)
  · replace hyp := hyp.1 q9
    have q4_ := q9
    clear q9
    refine xr_iload_n (pc := 21) (i := 0) (hI := d_ArraysSupport_newLength_21) (hi := rfl) (hl := rfl) ?_
    refine xr_iload_n (pc := 22) (i := 1) (hI := d_ArraysSupport_newLength_22) (hi := rfl) (hl := rfl) ?_
    exact xq_callS (pc := 23) (index := 201) (K := m_ArraysSupport_hugeLength) (As := [xI x0, xI x1]) (S := []) (L0 := [xI x0, xI x1, xZ]) (hI := d_ArraysSupport_newLength_23) (hK := k_ArraysSupport_hugeLength) (hlk := w_505) (hnoM := rfl) (hS8 := Nat.le_of_ble_eq_true rfl) (hstat := w_506) (hlen := Nat.le_of_ble_eq_true rfl) (hst := rfl) (hL0 := rfl)  (xwp_mono hyp (fun v9 h9 q9 => xr_drop (L9 := [xZ, xZ, xZ, xZ]) (xdrz (xdrz (xdrz (xdrz xdr0)))) q9) (fun _ _ z9 => z9))
  · replace hyp := hyp.2 q9
    have q4_ := q9
    clear q9
    refine xr_iload_n (pc := 13) (i := 3) (hI := d_ArraysSupport_newLength_13) (hi := rfl) (hl := rfl) ?_
    refine xr_ldc (pc := 14) (z := 2147483639) (hI := d_ArraysSupport_newLength_14) (hw := w_504) (hr := by decide) (hv := by decide) ?_
    refine xr_icmp_gt (pc := 16) (tgt := 21) (hI := d_ArraysSupport_newLength_16) (ht := by decide) (fun q9 => ?_) (fun q9 => ?_)
    · replace hyp := hyp.1 q9
      have q5_ := q9
      clear q9
      refine xr_iload_n (pc := 21) (i := 0) (hI := d_ArraysSupport_newLength_21) (hi := rfl) (hl := rfl) ?_
      refine xr_iload_n (pc := 22) (i := 1) (hI := d_ArraysSupport_newLength_22) (hi := rfl) (hl := rfl) ?_
      exact xq_callS (pc := 23) (index := 201) (K := m_ArraysSupport_hugeLength) (As := [xI x0, xI x1]) (S := []) (L0 := [xI x0, xI x1, xZ]) (hI := d_ArraysSupport_newLength_23) (hK := k_ArraysSupport_hugeLength) (hlk := w_505) (hnoM := rfl) (hS8 := Nat.le_of_ble_eq_true rfl) (hstat := w_506) (hlen := Nat.le_of_ble_eq_true rfl) (hst := rfl) (hL0 := rfl)  (xwp_mono hyp (fun v9 h9 q9 => xr_drop (L9 := [xZ, xZ, xZ, xZ]) (xdrz (xdrz (xdrz (xdrz xdr0)))) q9) (fun _ _ z9 => z9))
    · replace hyp := hyp.2 q9
      have q5_ := q9
      clear q9
      refine xr_iload_n (pc := 19) (i := 3) (hI := d_ArraysSupport_newLength_19) (hi := rfl) (hl := rfl) ?_
      refine xr_ireturn (S := []) (pc := 20) (hI := d_ArraysSupport_newLength_20) (hr := rfl) ?_
      exact hyp
theorem d_ArraysSupport_newLength_26 : decode prog_51_method_27_code 26 = .ok (.ireturn, 1) := by decide +kernel
theorem v_ArraysSupport_newLength_26 {G : XG} {d : Nat} {h : XH} {Q : XV → XH → Prop} {X : Nat → XH → Prop} {s0 : Int} (F : xFix h) (hyp : (Q (xI s0) h)) : xwp G m_ArraysSupport_newLength (d + 2) 26 [xZ, xZ, xZ, xZ] [xI s0] h Q X := by
  have hnx9 : (93 : Int) ≤ xnx h := F.2.2
  refine xr_okS (fun hs9 => ?_)
  have r_s0 : -2147483648 ≤ s0 ∧ s0 ≤ 2147483647 := hs9 (xI s0) (.head _)
  refine xr_ireturn (S := []) (pc := 26) (hI := d_ArraysSupport_newLength_26) (hr := rfl) ?_
  exact hyp
abbrev m_ArrayList_grow_I : XM := (⟨"java/util/ArrayList", "grow", "(I)[Ljava/lang/Object;"⟩, prog_43_method_6_code, 4, (some (.array (.object "java/lang/Object"))), [])
theorem d_ArrayList_grow_I_0 : decode prog_43_method_6_code 0 = .ok (.aload_n 0, 1) := by decide +kernel
theorem d_ArrayList_grow_I_1 : decode prog_43_method_6_code 1 = .ok (.getfield 9, 3) := by decide +kernel
theorem d_ArrayList_grow_I_4 : decode prog_43_method_6_code 4 = .ok (.arraylength, 1) := by decide +kernel
theorem d_ArrayList_grow_I_5 : decode prog_43_method_6_code 5 = .ok (.istore_n 2, 1) := by decide +kernel
theorem d_ArrayList_grow_I_6 : decode prog_43_method_6_code 6 = .ok (.iload_n 2, 1) := by decide +kernel
theorem d_ArrayList_grow_I_7 : decode prog_43_method_6_code 7 = .ok (.ifCond .gt 13, 3) := by decide +kernel
theorem d_ArrayList_grow_I_10 : decode prog_43_method_6_code 10 = .ok (.aload_n 0, 1) := by decide +kernel
theorem d_ArrayList_grow_I_11 : decode prog_43_method_6_code 11 = .ok (.getfield 9, 3) := by decide +kernel
theorem d_ArrayList_grow_I_14 : decode prog_43_method_6_code 14 = .ok (.getstatic 39, 3) := by decide +kernel
theorem w_99 : Cond.fieldLink "java/util/ArrayList" 39 "java/util/ArrayList" "DEFAULTCAPACITY_EMPTY_ELEMENTDATA" "[Ljava/lang/Object;" ∈ lw_tbl := List.mem_append_right _ (List.mem_of_getElem? (i := 99) (by decide +kernel))
theorem d_ArrayList_grow_I_17 : decode prog_43_method_6_code 17 = .ok (.if_acmp .eq 28, 3) := by decide +kernel
theorem d_ArrayList_grow_I_45 : decode prog_43_method_6_code 45 = .ok (.aload_n 0, 1) := by decide +kernel
theorem d_ArrayList_grow_I_46 : decode prog_43_method_6_code 46 = .ok (.bipush 10, 2) := by decide +kernel
theorem d_ArrayList_grow_I_48 : decode prog_43_method_6_code 48 = .ok (.iload_n 1, 1) := by decide +kernel
theorem d_ArrayList_grow_I_49 : decode prog_43_method_6_code 49 = .ok (.invokestatic 79, 3) := by decide +kernel
theorem w_547 : Cond.methodLink "java/util/ArrayList" 79 ⟨"java/lang/Math", "max", "(II)I"⟩ ∈ lw_tbl := List.mem_append_right _ (List.mem_of_getElem? (i := 547) (by decide +kernel))
theorem d_ArrayList_grow_I_52 : decode prog_43_method_6_code 52 = .ok (.anewarray 7, 3) := by decide +kernel
theorem w_548 : Cond.classLink "java/util/ArrayList" 7 "java/lang/Object" ∈ lw_tbl := List.mem_append_right _ (List.mem_of_getElem? (i := 548) (by decide +kernel))
theorem d_ArrayList_grow_I_55 : decode prog_43_method_6_code 55 = .ok (.dup_x1, 1) := by decide +kernel
theorem d_ArrayList_grow_I_56 : decode prog_43_method_6_code 56 = .ok (.putfield 9, 3) := by decide +kernel
theorem xtk_13_0 : xfTK 13 0 = true := by decide +kernel
theorem d_ArrayList_grow_I_59 : decode prog_43_method_6_code 59 = .ok (.areturn, 1) := by decide +kernel
theorem v_ArrayList_grow_I_0 {G : XG} {d : Nat} {h : XH} {Q : XV → XH → Prop} {X : Nat → XH → Prop} {x0 x1 : Int} (F : xFix h) (hyp : xtg h x0 = 13 ∧ xtg h (xpl h x0 0) = 110 ∧ (((0 : Int) < (xln h (xpl h x0 0)) → (xwp G m_ArrayList_grow_I (d + 4) 20 [xR x0, xI x1, xI (xln h (xpl h x0 0)), xZ] [] h Q X)) ∧ (¬ (0 : Int) < (xln h (xpl h x0 0)) → ((xpl h x0 0) = (-103) ∨ ((-1 ≤ (xpl h x0 0) ∨ -1 ≤ (-103 : Int)) ∧ (-1 ≤ (xpl h x0 0) ∨ xtg h (xpl h x0 0) < 200) ∧ (-1 ≤ (-103 : Int) ∨ xtg h (-103) < 200))) ∧ (((xpl h x0 0) = (-103) → (max 10 x1) ≤ 60000000 ∧ xnx h + 1 ≤ xKC ∧ xsl h + (max 10 x1) ≤ xKS ∧ xtg (xmk h 110 (max 10 x1) (fun _ => -1)) x0 = 13 ∧ 0 ≤ x0 ∧ (xFix (xst (xmk h 110 (max 10 x1) (fun _ => -1)) x0 0 (xnx h)) → Q (xR (xnx h)) (xst (xmk h 110 (max 10 x1) (fun _ => -1)) x0 0 (xnx h)))) ∧ (¬ (xpl h x0 0) = (-103) → (xwp G m_ArrayList_grow_I (d + 4) 20 [xR x0, xI x1, xI (xln h (xpl h x0 0)), xZ] [] h Q X)))))) : xwp G m_ArrayList_grow_I (d + 4) 0 [xR x0, xI x1, xZ, xZ] [] h Q X := by
  have hnx9 : (93 : Int) ≤ xnx h := F.2.2
  refine xr_okL (fun hl9 => ?_)
  have r_x1 : -2147483648 ≤ x1 ∧ x1 ≤ 2147483647 := hl9 (xI x1) (.tail _ (.head _)) (Nat.le_of_ble_eq_true rfl)
  refine xr_aload_n (pc := 0) (i := 0) (hI := d_ArrayList_grow_I_0) (hi := rfl) (hl := rfl) ?_
  obtain ⟨c9, hyp⟩ := hyp
  have t1_ := c9
  clear c9
  refine xg_getf (pc := 1) (ci := 13) (k := 0) (N := 3) (v9 := 2) (v := (xpl h x0 0)) (T := xF13) (hI := d_ArrayList_grow_I_1) (hw := w_101) rfl xi13 (Or.inl rfl) (Nat.le_of_ble_eq_true rfl) (Nat.le_of_ble_eq_true rfl) rfl t1_ rfl (fun f2_ => ?_)
  clear f2_
  obtain ⟨c9, hyp⟩ := hyp
  have t3_ := c9
  clear c9
  refine xg_alen (pc := 4) (t := 110) (v := (xln h (xpl h x0 0))) (hI := d_ArrayList_grow_I_4) t3_ (Nat.le_of_ble_eq_true rfl) (Nat.le_of_ble_eq_true rfl) rfl rfl (fun f4_ f5_ => ?_)
  refine xr_istore_n (pc := 5) (i := 2) (L9 := [xR x0, xI x1, xI (xln h (xpl h x0 0)), xZ]) (hI := d_ArrayList_grow_I_5) (hi := rfl) (hn := Nat.le_of_ble_eq_true rfl) (hL9 := rfl) ?_
  refine xr_iload_n (pc := 6) (i := 2) (hI := d_ArrayList_grow_I_6) (hi := rfl) (hl := rfl) ?_
  refine xr_if_gt (pc := 7) (tgt := 20) (hI := d_ArrayList_grow_I_7) (ht := by decide) (fun q9 => ?_) (fun q9 => ?_)
  · replace hyp := hyp.1 q9
    have q6_ := q9
    clear q9
    exact hyp
  · replace hyp := hyp.2 q9
    have q6_ := q9
    clear q9
    refine xr_aload_n (pc := 10) (i := 0) (hI := d_ArrayList_grow_I_10) (hi := rfl) (hl := rfl) ?_
    refine xg_getf (pc := 11) (ci := 13) (k := 0) (N := 3) (v9 := 2) (v := (xpl h x0 0)) (T := xF13) (hI := d_ArrayList_grow_I_11) (hw := w_101) rfl xi13 (Or.inl rfl) (Nat.le_of_ble_eq_true rfl) (Nat.le_of_ble_eq_true rfl) rfl t1_ rfl (fun f7_ => ?_)
    clear f7_
    refine xr_getstatic (pc := 14) (v := xR (-103)) (hI := d_ArrayList_grow_I_14) w_99 (by decide +kernel) (by exact trivial) ?_
    obtain ⟨c9, hyp⟩ := hyp
    refine xr_acmp_eq (pc := 17) (tgt := 45) (hI := d_ArrayList_grow_I_17) (ht := by decide) (h1 := c9) (fun q9 => ?_) (fun q9 => ?_)
    · replace hyp := hyp.1 q9
      have q8_ := q9
      clear q9
      refine xr_aload_n (pc := 45) (i := 0) (hI := d_ArrayList_grow_I_45) (hi := rfl) (hl := rfl) ?_
      refine xr_bipush (pc := 46) (hI := d_ArrayList_grow_I_46) (hr := by decide) (hv := by decide) ?_
      refine xr_iload_n (pc := 48) (i := 1) (hI := d_ArrayList_grow_I_48) (hi := rfl) (hl := rfl) ?_
      refine xr_mmax (pc := 49) (index := 79) (hI := d_ArrayList_grow_I_49) w_547 w_502 w_25 w_mmax (Nat.le_add_left_of_le (by decide)) (Nat.le_of_ble_eq_true rfl) ?_
      have f9_ : 10 ≤ (max 10 x1) := (by clear hyp; omega)
      have f10_ : x1 ≤ (max 10 x1) := (by clear hyp; omega)
      have f11_ : (max 10 x1) ≤ 2147483647 := (by clear hyp; omega)
      obtain ⟨c12_, hyp⟩ := hyp
      obtain ⟨c8, c9, hyp⟩ := hyp
      refine xr_anewarray (pc := 52) (hI := d_ArrayList_grow_I_52) w_548 w_539 (by clear hyp; omega) c12_ c8 c9 ?_
      have F13_ : xFix (xmk h 110 (max 10 x1) (fun _ => -1)) := F.mk
      have f14_ : (93 : Int) ≤ xnx h := F.nx
      have f15_ : (93 : Int) ≤ xnx (xmk h 110 (max 10 x1) (fun _ => -1)) := F13_.nx
      have f16_ : xnx (xmk h 110 (max 10 x1) (fun _ => -1)) = xnx h + 1 := xnx_mk _ _ _ _
      refine xr_dup_x1 (pc := 55) (hI := d_ArrayList_grow_I_55) (hv := rfl) (hw := rfl) ?_
      obtain ⟨c9, hyp⟩ := hyp
      have t17_ := c9
      clear c9
      obtain ⟨c18_, hyp⟩ := hyp
      refine xr_putf (pc := 56) (ci := 13) (k := 0) (N := 3) (v9 := 2) (T := xF13) (tF := xT13) (hI := d_ArrayList_grow_I_56) (hw := w_101) rfl xi13 xt13 xn13 (Or.inl rfl) (Nat.le_of_ble_eq_true rfl) (Nat.le_of_ble_eq_true rfl) rfl (xfit_a _) rfl t17_ c18_ (fun z => z) ?_
      have F19_ : xFix (xst (xmk h 110 (max 10 x1) (fun _ => -1)) x0 0 (xnx h)) := F13_.stT (t := 13) c18_ t17_ xtk_13_0
      refine xr_areturn (S := []) (pc := 59) (hI := d_ArrayList_grow_I_59) (hr := rfl) (hrt := Or.inr ⟨_, rfl⟩) ?_
      exact hyp F19_
    · replace hyp := hyp.2 q9
      have q8_ := q9
      clear q9
      exact hyp
theorem d_ArrayList_grow_I_20 : decode prog_43_method_6_code 20 = .ok (.iload_n 2, 1) := by decide +kernel
theorem d_ArrayList_grow_I_21 : decode prog_43_method_6_code 21 = .ok (.iload_n 1, 1) := by decide +kernel
theorem d_ArrayList_grow_I_22 : decode prog_43_method_6_code 22 = .ok (.iload_n 2, 1) := by decide +kernel
theorem d_ArrayList_grow_I_23 : decode prog_43_method_6_code 23 = .ok (.isub, 1) := by decide +kernel
theorem d_ArrayList_grow_I_24 : decode prog_43_method_6_code 24 = .ok (.iload_n 2, 1) := by decide +kernel
theorem d_ArrayList_grow_I_25 : decode prog_43_method_6_code 25 = .ok (.iconst 1, 1) := by decide +kernel
theorem d_ArrayList_grow_I_26 : decode prog_43_method_6_code 26 = .ok (.ishr, 1) := by decide +kernel
theorem d_ArrayList_grow_I_27 : decode prog_43_method_6_code 27 = .ok (.invokestatic 73, 3) := by decide +kernel
theorem k_ArraysSupport_newLength : xCal m_ArraysSupport_newLength 3 := ⟨List.mem_append_right _ (List.mem_of_getElem? (i := 500) (by decide +kernel)), w_31, Nat.le_of_ble_eq_true rfl, ⟨by decide +kernel, by decide +kernel⟩, by decide +kernel, by decide +kernel, rfl⟩
theorem w_498 : Cond.methodLink "java/util/ArrayList" 73 ⟨"jdk/internal/util/ArraysSupport", "newLength", "(III)I"⟩ ∈ lw_tbl := List.mem_append_right _ (List.mem_of_getElem? (i := 498) (by decide +kernel))
theorem w_499 : Cond.static ⟨"jdk/internal/util/ArraysSupport", "newLength", "(III)I"⟩ ∈ lw_tbl := List.mem_append_right _ (List.mem_of_getElem? (i := 499) (by decide +kernel))
theorem v_ArrayList_grow_I_20 {G : XG} {d : Nat} {h : XH} {Q : XV → XH → Prop} {X : Nat → XH → Prop} {x0 x1 x2 : Int} (F : xFix h) (hyp : xiR (x1 - x2) ∧ (xwp G m_ArraysSupport_newLength (d + 3) 0 [xI x2, xI (x1 - x2), xI (xshr x2 1), xZ] [] h (fun v9 h9 => xwp G m_ArrayList_grow_I (d + 4) 30 [xR x0, xZ, xZ, xZ] (xpush v9 []) h9 Q X) X)) : xwp G m_ArrayList_grow_I (d + 4) 20 [xR x0, xI x1, xI x2, xZ] [] h Q X := by
  have hnx9 : (93 : Int) ≤ xnx h := F.2.2
  refine xr_okL (fun hl9 => ?_)
  have r_x1 : -2147483648 ≤ x1 ∧ x1 ≤ 2147483647 := hl9 (xI x1) (.tail _ (.head _)) (Nat.le_of_ble_eq_true rfl)
  have r_x2 : -2147483648 ≤ x2 ∧ x2 ≤ 2147483647 := hl9 (xI x2) (.tail _ (.tail _ (.head _))) (Nat.le_of_ble_eq_true rfl)
  refine xr_iload_n (pc := 20) (i := 2) (hI := d_ArrayList_grow_I_20) (hi := rfl) (hl := rfl) ?_
  refine xr_iload_n (pc := 21) (i := 1) (hI := d_ArrayList_grow_I_21) (hi := rfl) (hl := rfl) ?_
  refine xr_iload_n (pc := 22) (i := 2) (hI := d_ArrayList_grow_I_22) (hi := rfl) (hl := rfl) ?_
  obtain ⟨c9, hyp⟩ := hyp
  refine xr_isub (pc := 23) (hI := d_ArrayList_grow_I_23) (hr := c9) ?_
  refine xr_iload_n (pc := 24) (i := 2) (hI := d_ArrayList_grow_I_24) (hi := rfl) (hl := rfl) ?_
  refine xr_iconst (pc := 25) (hI := d_ArrayList_grow_I_25) (hr := by decide) ?_
  refine xr_ishr (pc := 26) (hI := d_ArrayList_grow_I_26) ?_
  have f1_ : -2147483648 ≤ (xshr x2 1) ∧ (xshr x2 1) ≤ 2147483647 := xi_toR _
  exact xq_callS (pc := 27) (index := 73) (K := m_ArraysSupport_newLength) (As := [xI x2, xI (x1 - x2), xI (xshr x2 1)]) (S := []) (L0 := [xI x2, xI (x1 - x2), xI (xshr x2 1), xZ]) (hI := d_ArrayList_grow_I_27) (hK := k_ArraysSupport_newLength) (hlk := w_498) (hnoM := rfl) (hS8 := Nat.le_of_ble_eq_true rfl) (hstat := w_499) (hlen := Nat.le_of_ble_eq_true rfl) (hst := rfl) (hL0 := rfl)  (xwp_mono hyp (fun v9 h9 q9 => xr_drop (L9 := [xR x0, xZ, xZ, xZ]) (xdrs (xdrz (xdrz (xdrs xdr0)))) q9) (fun _ _ z9 => z9))
theorem d_ArrayList_grow_I_30 : decode prog_43_method_6_code 30 = .ok (.istore_n 3, 1) := by decide +kernel
theorem d_ArrayList_grow_I_31 : decode prog_43_method_6_code 31 = .ok (.aload_n 0, 1) := by decide +kernel
theorem d_ArrayList_grow_I_32 : decode prog_43_method_6_code 32 = .ok (.aload_n 0, 1) := by decide +kernel
theorem d_ArrayList_grow_I_33 : decode prog_43_method_6_code 33 = .ok (.getfield 9, 3) := by decide +kernel
theorem d_ArrayList_grow_I_36 : decode prog_43_method_6_code 36 = .ok (.iload_n 3, 1) := by decide +kernel
theorem d_ArrayList_grow_I_37 : decode prog_43_method_6_code 37 = .ok (.invokestatic 66, 3) := by decide +kernel
theorem k_Arrays_copyOf_aLI : xCal m_Arrays_copyOf_aLI 2 := ⟨List.mem_append_right _ (List.mem_of_getElem? (i := 510) (by decide +kernel)), w_29, Nat.le_of_ble_eq_true rfl, ⟨by decide +kernel, by decide +kernel⟩, by decide +kernel, by decide +kernel, rfl⟩
theorem w_508 : Cond.methodLink "java/util/ArrayList" 66 ⟨"java/util/Arrays", "copyOf", "([Ljava/lang/Object;I)[Ljava/lang/Object;"⟩ ∈ lw_tbl := List.mem_append_right _ (List.mem_of_getElem? (i := 508) (by decide +kernel))
theorem w_509 : Cond.static ⟨"java/util/Arrays", "copyOf", "([Ljava/lang/Object;I)[Ljava/lang/Object;"⟩ ∈ lw_tbl := List.mem_append_right _ (List.mem_of_getElem? (i := 509) (by decide +kernel))
theorem v_ArrayList_grow_I_30 {G : XG} {d : Nat} {h : XH} {Q : XV → XH → Prop} {X : Nat → XH → Prop} {x0 s0 : Int} (F : xFix h) (hyp : xtg h x0 = 13 ∧ (xwp G m_Arrays_copyOf_aLI (d + 3) 0 [xR (xpl h x0 0), xI s0] [] h (fun v9 h9 => xwp G m_ArrayList_grow_I (d + 4) 40 [xZ, xZ, xZ, xZ] (xpush v9 [xR x0]) h9 Q X) X)) : xwp G m_ArrayList_grow_I (d + 4) 30 [xR x0, xZ, xZ, xZ] [xI s0] h Q X := by
  have hnx9 : (93 : Int) ≤ xnx h := F.2.2
  refine xr_okS (fun hs9 => ?_)
  have r_s0 : -2147483648 ≤ s0 ∧ s0 ≤ 2147483647 := hs9 (xI s0) (.head _)
  refine xr_istore_n (pc := 30) (i := 3) (L9 := [xR x0, xZ, xZ, xI s0]) (hI := d_ArrayList_grow_I_30) (hi := rfl) (hn := Nat.le_of_ble_eq_true rfl) (hL9 := rfl) ?_
  refine xr_aload_n (pc := 31) (i := 0) (hI := d_ArrayList_grow_I_31) (hi := rfl) (hl := rfl) ?_
  refine xr_aload_n (pc := 32) (i := 0) (hI := d_ArrayList_grow_I_32) (hi := rfl) (hl := rfl) ?_
  obtain ⟨c9, hyp⟩ := hyp
  have t1_ := c9
  clear c9
  refine xg_getf (pc := 33) (ci := 13) (k := 0) (N := 3) (v9 := 2) (v := (xpl h x0 0)) (T := xF13) (hI := d_ArrayList_grow_I_33) (hw := w_101) rfl xi13 (Or.inl rfl) (Nat.le_of_ble_eq_true rfl) (Nat.le_of_ble_eq_true rfl) rfl t1_ rfl (fun f2_ => ?_)
  clear f2_
  refine xr_iload_n (pc := 36) (i := 3) (hI := d_ArrayList_grow_I_36) (hi := rfl) (hl := rfl) ?_
  exact xq_callS (pc := 37) (index := 66) (K := m_Arrays_copyOf_aLI) (As := [xR (xpl h x0 0), xI s0]) (S := [xR x0]) (L0 := [xR (xpl h x0 0), xI s0]) (hI := d_ArrayList_grow_I_37) (hK := k_Arrays_copyOf_aLI) (hlk := w_508) (hnoM := rfl) (hS8 := Nat.le_of_ble_eq_true rfl) (hstat := w_509) (hlen := Nat.le_of_ble_eq_true rfl) (hst := rfl) (hL0 := rfl)  (xwp_mono hyp (fun v9 h9 q9 => xr_drop (L9 := [xZ, xZ, xZ, xZ]) (xdrz (xdrs (xdrs (xdrz xdr0)))) q9) (fun _ _ z9 => z9))
theorem d_ArrayList_grow_I_40 : decode prog_43_method_6_code 40 = .ok (.dup_x1, 1) := by decide +kernel
theorem d_ArrayList_grow_I_41 : decode prog_43_method_6_code 41 = .ok (.putfield 9, 3) := by decide +kernel
theorem d_ArrayList_grow_I_44 : decode prog_43_method_6_code 44 = .ok (.areturn, 1) := by decide +kernel
theorem v_ArrayList_grow_I_40 {G : XG} {d : Nat} {h : XH} {Q : XV → XH → Prop} {X : Nat → XH → Prop} {s0 s1 : Int} (F : xFix h) (hyp : xtg h s1 = 13 ∧ 0 ≤ s1 ∧ (xFix (xst h s1 0 s0) → Q (xR s0) (xst h s1 0 s0))) : xwp G m_ArrayList_grow_I (d + 4) 40 [xZ, xZ, xZ, xZ] [xR s0, xR s1] h Q X := by
  have hnx9 : (93 : Int) ≤ xnx h := F.2.2
  refine xr_dup_x1 (pc := 40) (hI := d_ArrayList_grow_I_40) (hv := rfl) (hw := rfl) ?_
  obtain ⟨c9, hyp⟩ := hyp
  have t1_ := c9
  clear c9
  obtain ⟨c2_, hyp⟩ := hyp
  refine xr_putf (pc := 41) (ci := 13) (k := 0) (N := 3) (v9 := 2) (T := xF13) (tF := xT13) (hI := d_ArrayList_grow_I_41) (hw := w_101) rfl xi13 xt13 xn13 (Or.inl rfl) (Nat.le_of_ble_eq_true rfl) (Nat.le_of_ble_eq_true rfl) rfl (xfit_a _) rfl t1_ c2_ (fun z => z) ?_
  have F3_ : xFix (xst h s1 0 s0) := F.stT (t := 13) c2_ t1_ xtk_13_0
  refine xr_areturn (S := []) (pc := 44) (hI := d_ArrayList_grow_I_44) (hr := rfl) (hrt := Or.inr ⟨_, rfl⟩) ?_
  exact hyp F3_
abbrev m_ArrayList_grow_ : XM := (⟨"java/util/ArrayList", "grow", "()[Ljava/lang/Object;"⟩, prog_43_method_7_code, 1, (some (.array (.object "java/lang/Object"))), [])
theorem d_ArrayList_grow__0 : decode prog_43_method_7_code 0 = .ok (.aload_n 0, 1) := by decide +kernel
theorem d_ArrayList_grow__1 : decode prog_43_method_7_code 1 = .ok (.aload_n 0, 1) := by decide +kernel
theorem d_ArrayList_grow__2 : decode prog_43_method_7_code 2 = .ok (.getfield 48, 3) := by decide +kernel
theorem d_ArrayList_grow__5 : decode prog_43_method_7_code 5 = .ok (.iconst 1, 1) := by decide +kernel
theorem d_ArrayList_grow__6 : decode prog_43_method_7_code 6 = .ok (.iadd, 1) := by decide +kernel
theorem d_ArrayList_grow__7 : decode prog_43_method_7_code 7 = .ok (.invokevirtual 69, 3) := by decide +kernel
theorem k_ArrayList_grow_I : xCal m_ArrayList_grow_I 1 := ⟨List.mem_append_right _ (List.mem_of_getElem? (i := 497) (by decide +kernel)), w_6, Nat.le_of_ble_eq_true rfl, ⟨by decide +kernel, by decide +kernel⟩, by decide +kernel, by decide +kernel, rfl⟩
theorem w_494 : Cond.methodLink "java/util/ArrayList" 69 ⟨"java/util/ArrayList", "grow", "(I)[Ljava/lang/Object;"⟩ ∈ lw_tbl := List.mem_append_right _ (List.mem_of_getElem? (i := 494) (by decide +kernel))
theorem w_496 : Cond.instanceMethod ⟨"java/util/ArrayList", "grow", "(I)[Ljava/lang/Object;"⟩ ∈ lw_tbl := List.mem_append_right _ (List.mem_of_getElem? (i := 496) (by decide +kernel))
theorem sel_ArrayList_grow_I : Cond.selects "java/util/ArrayList" ⟨"java/util/ArrayList", "grow", "(I)[Ljava/lang/Object;"⟩ ⟨"java/util/ArrayList", "grow", "(I)[Ljava/lang/Object;"⟩ ∈ lw_tbl := List.mem_append_left _ (by decide +kernel)
theorem v_ArrayList_grow__0 {G : XG} {d : Nat} {h : XH} {Q : XV → XH → Prop} {X : Nat → XH → Prop} {x0 : Int} (F : xFix h) (hyp : xtg h x0 = 13 ∧ xiR ((xpl h x0 1) + 1) ∧ (xwp G m_ArrayList_grow_I (d + 4) 0 [xR x0, xI ((xpl h x0 1) + 1), xZ, xZ] [] h (fun v9 h9 => xwp G m_ArrayList_grow_ (d + 5) 10 [xZ] (xpush v9 []) h9 Q X) X)) : xwp G m_ArrayList_grow_ (d + 5) 0 [xR x0] [] h Q X := by
  have hnx9 : (93 : Int) ≤ xnx h := F.2.2
  refine xr_aload_n (pc := 0) (i := 0) (hI := d_ArrayList_grow__0) (hi := rfl) (hl := rfl) ?_
  refine xr_aload_n (pc := 1) (i := 0) (hI := d_ArrayList_grow__1) (hi := rfl) (hl := rfl) ?_
  obtain ⟨c9, hyp⟩ := hyp
  have t1_ := c9
  clear c9
  refine xg_getf (pc := 2) (ci := 13) (k := 1) (N := 3) (v9 := 0) (v := (xpl h x0 1)) (T := xF13) (hI := d_ArrayList_grow__2) (hw := w_102) rfl xi13 (Or.inl rfl) (Nat.le_of_ble_eq_true rfl) (Nat.le_of_ble_eq_true rfl) rfl t1_ rfl (fun f2_ => ?_)
  replace f2_ : -2147483648 ≤ (xpl h x0 1) ∧ (xpl h x0 1) ≤ 2147483647 := f2_
  refine xr_iconst (pc := 5) (hI := d_ArrayList_grow__5) (hr := by decide) ?_
  obtain ⟨c9, hyp⟩ := hyp
  refine xr_iadd (pc := 6) (hI := d_ArrayList_grow__6) (hr := c9) ?_
  exact xq_callV (pc := 7) (index := 69) (K := m_ArrayList_grow_I) (As := [xI ((xpl h x0 1) + 1)]) (S := []) (L0 := [xR x0, xI ((xpl h x0 1) + 1), xZ, xZ]) (hI := d_ArrayList_grow__7) (hK := k_ArrayList_grow_I) (hlk := w_494) (hnoM := rfl) (hS8 := Nat.le_of_ble_eq_true rfl) (ci := 13) (N := 3) (C := "java/util/ArrayList") (T := xF13) (hc := rfl) (hci := Nat.le_of_ble_eq_true rfl) (htb := t1_) (hinst := w_496) (hsel := sel_ArrayList_grow_I) (hlen := Nat.le_of_ble_eq_true rfl) (hst := rfl) (hL0 := rfl)  (xwp_mono hyp (fun v9 h9 q9 => xr_drop (L9 := [xZ]) (xdrz xdr0) q9) (fun _ _ z9 => z9))
theorem d_ArrayList_grow__10 : decode prog_43_method_7_code 10 = .ok (.areturn, 1) := by decide +kernel
theorem v_ArrayList_grow__10 {G : XG} {d : Nat} {h : XH} {Q : XV → XH → Prop} {X : Nat → XH → Prop} {s0 : Int} (F : xFix h) (hyp : (Q (xR s0) h)) : xwp G m_ArrayList_grow_ (d + 5) 10 [xZ] [xR s0] h Q X := by
  have hnx9 : (93 : Int) ≤ xnx h := F.2.2
  refine xr_areturn (S := []) (pc := 10) (hI := d_ArrayList_grow__10) (hr := rfl) (hrt := Or.inr ⟨_, rfl⟩) ?_
  exact hyp
abbrev m_ArrayList_add_ObjectaLI : XM := (⟨"java/util/ArrayList", "add", "(Ljava/lang/Object;[Ljava/lang/Object;I)V"⟩, prog_43_method_24_code, 4, none, [])
theorem d_ArrayList_add_ObjectaLI_0 : decode prog_43_method_24_code 0 = .ok (.iload_n 3, 1) := by decide +kernel
theorem d_ArrayList_add_ObjectaLI_1 : decode prog_43_method_24_code 1 = .ok (.aload_n 2, 1) := by decide +kernel
theorem d_ArrayList_add_ObjectaLI_2 : decode prog_43_method_24_code 2 = .ok (.arraylength, 1) := by decide +kernel
theorem d_ArrayList_add_ObjectaLI_3 : decode prog_43_method_24_code 3 = .ok (.if_icmp .ne 8, 3) := by decide +kernel
theorem d_ArrayList_add_ObjectaLI_6 : decode prog_43_method_24_code 6 = .ok (.aload_n 0, 1) := by decide +kernel
theorem d_ArrayList_add_ObjectaLI_7 : decode prog_43_method_24_code 7 = .ok (.invokevirtual 129, 3) := by decide +kernel
theorem k_ArrayList_grow_ : xCal m_ArrayList_grow_ 0 := ⟨List.mem_append_right _ (List.mem_of_getElem? (i := 493) (by decide +kernel)), w_6, Nat.le_of_ble_eq_true rfl, ⟨by decide +kernel, by decide +kernel⟩, by decide +kernel, by decide +kernel, rfl⟩
theorem w_490 : Cond.methodLink "java/util/ArrayList" 129 ⟨"java/util/ArrayList", "grow", "()[Ljava/lang/Object;"⟩ ∈ lw_tbl := List.mem_append_right _ (List.mem_of_getElem? (i := 490) (by decide +kernel))
theorem w_492 : Cond.instanceMethod ⟨"java/util/ArrayList", "grow", "()[Ljava/lang/Object;"⟩ ∈ lw_tbl := List.mem_append_right _ (List.mem_of_getElem? (i := 492) (by decide +kernel))
theorem sel_ArrayList_grow_ : Cond.selects "java/util/ArrayList" ⟨"java/util/ArrayList", "grow", "()[Ljava/lang/Object;"⟩ ⟨"java/util/ArrayList", "grow", "()[Ljava/lang/Object;"⟩ ∈ lw_tbl := List.mem_append_left _ (by decide +kernel)
theorem v_ArrayList_add_ObjectaLI_0 {G : XG} {d : Nat} {h : XH} {Q : XV → XH → Prop} {X : Nat → XH → Prop} {x0 x1 x2 x3 : Int} (F : xFix h) (hyp : xtg h x2 = 110 ∧ ((x3 = (xln h x2) → xtg h x0 = 13 ∧ (xwp G m_ArrayList_grow_ (d + 5) 0 [xR x0] [] h (fun v9 h9 => xwp G m_ArrayList_add_ObjectaLI (d + 6) 10 [xR x0, xR x1, xZ, xI x3] (xpush v9 []) h9 Q X) X)) ∧ (¬ x3 = (xln h x2) → (xwp G m_ArrayList_add_ObjectaLI (d + 6) 11 [xR x0, xR x1, xR x2, xI x3] [] h Q X)))) : xwp G m_ArrayList_add_ObjectaLI (d + 6) 0 [xR x0, xR x1, xR x2, xI x3] [] h Q X := by
  have hnx9 : (93 : Int) ≤ xnx h := F.2.2
  refine xr_okL (fun hl9 => ?_)
  have r_x3 : -2147483648 ≤ x3 ∧ x3 ≤ 2147483647 := hl9 (xI x3) (.tail _ (.tail _ (.tail _ (.head _)))) (Nat.le_of_ble_eq_true rfl)
  refine xr_iload_n (pc := 0) (i := 3) (hI := d_ArrayList_add_ObjectaLI_0) (hi := rfl) (hl := rfl) ?_
  refine xr_aload_n (pc := 1) (i := 2) (hI := d_ArrayList_add_ObjectaLI_1) (hi := rfl) (hl := rfl) ?_
  obtain ⟨c9, hyp⟩ := hyp
  have t1_ := c9
  clear c9
  refine xg_alen (pc := 2) (t := 110) (v := (xln h x2)) (hI := d_ArrayList_add_ObjectaLI_2) t1_ (Nat.le_of_ble_eq_true rfl) (Nat.le_of_ble_eq_true rfl) rfl rfl (fun f2_ f3_ => ?_)
  refine xr_icmp_ne (pc := 3) (tgt := 11) (hI := d_ArrayList_add_ObjectaLI_3) (ht := by decide) (fun q9 => ?_) (fun q9 => ?_)
  · replace hyp := hyp.2 q9
    have q4_ := q9
    clear q9
    exact hyp
  · replace hyp := hyp.1 q9
    have q4_ := q9
    clear q9
    refine xr_aload_n (pc := 6) (i := 0) (hI := d_ArrayList_add_ObjectaLI_6) (hi := rfl) (hl := rfl) ?_
    obtain ⟨c9, hyp⟩ := hyp
    have t5_ := c9
    clear c9
    exact xq_callV (pc := 7) (index := 129) (K := m_ArrayList_grow_) (As := []) (S := []) (L0 := [xR x0]) (hI := d_ArrayList_add_ObjectaLI_7) (hK := k_ArrayList_grow_) (hlk := w_490) (hnoM := rfl) (hS8 := Nat.le_of_ble_eq_true rfl) (ci := 13) (N := 3) (C := "java/util/ArrayList") (T := xF13) (hc := rfl) (hci := Nat.le_of_ble_eq_true rfl) (htb := t5_) (hinst := w_492) (hsel := sel_ArrayList_grow_) (hlen := Nat.le_of_ble_eq_true rfl) (hst := rfl) (hL0 := rfl)  (xwp_mono hyp (fun v9 h9 q9 => xr_drop (L9 := [xR x0, xR x1, xZ, xI x3]) (xdrs (xdrs (xdrz (xdrs xdr0)))) q9) (fun _ _ z9 => z9))
theorem d_ArrayList_add_ObjectaLI_10 : decode prog_43_method_24_code 10 = .ok (.astore_n 2, 1) := by decide +kernel
theorem v_ArrayList_add_ObjectaLI_10 {G : XG} {d : Nat} {h : XH} {Q : XV → XH → Prop} {X : Nat → XH → Prop} {x0 x1 x3 s0 : Int} (F : xFix h) (hyp : (xwp G m_ArrayList_add_ObjectaLI (d + 6) 11 [xR x0, xR x1, xR s0, xI x3] [] h Q X)) : xwp G m_ArrayList_add_ObjectaLI (d + 6) 10 [xR x0, xR x1, xZ, xI x3] [xR s0] h Q X := by
  have hnx9 : (93 : Int) ≤ xnx h := F.2.2
  refine xr_okL (fun hl9 => ?_)
  have r_x3 : -2147483648 ≤ x3 ∧ x3 ≤ 2147483647 := hl9 (xI x3) (.tail _ (.tail _ (.tail _ (.head _)))) (Nat.le_of_ble_eq_true rfl)
  refine xr_astore_n (pc := 10) (i := 2) (L9 := [xR x0, xR x1, xR s0, xI x3]) (hI := d_ArrayList_add_ObjectaLI_10) (hi := rfl) (hn := Nat.le_of_ble_eq_true rfl) (hL9 := rfl) ?_
  exact hyp
theorem d_ArrayList_add_ObjectaLI_11 : decode prog_43_method_24_code 11 = .ok (.aload_n 2, 1) := by decide +kernel
theorem d_ArrayList_add_ObjectaLI_12 : decode prog_43_method_24_code 12 = .ok (.iload_n 3, 1) := by decide +kernel
theorem d_ArrayList_add_ObjectaLI_13 : decode prog_43_method_24_code 13 = .ok (.aload_n 1, 1) := by decide +kernel
theorem d_ArrayList_add_ObjectaLI_14 : decode prog_43_method_24_code 14 = .ok (.aastore, 1) := by decide +kernel
theorem xta_110 : xfTA 110 = true := by decide +kernel
theorem d_ArrayList_add_ObjectaLI_15 : decode prog_43_method_24_code 15 = .ok (.aload_n 0, 1) := by decide +kernel
theorem d_ArrayList_add_ObjectaLI_16 : decode prog_43_method_24_code 16 = .ok (.iload_n 3, 1) := by decide +kernel
theorem d_ArrayList_add_ObjectaLI_17 : decode prog_43_method_24_code 17 = .ok (.iconst 1, 1) := by decide +kernel
theorem d_ArrayList_add_ObjectaLI_18 : decode prog_43_method_24_code 18 = .ok (.iadd, 1) := by decide +kernel
theorem d_ArrayList_add_ObjectaLI_19 : decode prog_43_method_24_code 19 = .ok (.putfield 48, 3) := by decide +kernel
theorem xtk_13_1 : xfTK 13 1 = true := by decide +kernel
theorem d_ArrayList_add_ObjectaLI_22 : decode prog_43_method_24_code 22 = .ok (.return_, 1) := by decide +kernel
theorem v_ArrayList_add_ObjectaLI_11 {G : XG} {d : Nat} {h : XH} {Q : XV → XH → Prop} {X : Nat → XH → Prop} {x0 x1 x2 x3 : Int} (F : xFix h) (hyp : xtg h x2 = 110 ∧ 0 ≤ x2 ∧ 0 ≤ x3 ∧ x3 < (xln h x2) ∧ xaos (xtg h x1) = true ∧ xiR (x3 + 1) ∧ xtg h x0 = 13 ∧ 0 ≤ x0 ∧ (xFix (xst (xst h x2 x3 x1) x0 1 (x3 + 1)) → Q xN (xst (xst h x2 x3 x1) x0 1 (x3 + 1)))) : xwp G m_ArrayList_add_ObjectaLI (d + 6) 11 [xR x0, xR x1, xR x2, xI x3] [] h Q X := by
  have hnx9 : (93 : Int) ≤ xnx h := F.2.2
  refine xr_okL (fun hl9 => ?_)
  have r_x3 : -2147483648 ≤ x3 ∧ x3 ≤ 2147483647 := hl9 (xI x3) (.tail _ (.tail _ (.tail _ (.head _)))) (Nat.le_of_ble_eq_true rfl)
  refine xr_aload_n (pc := 11) (i := 2) (hI := d_ArrayList_add_ObjectaLI_11) (hi := rfl) (hl := rfl) ?_
  refine xr_iload_n (pc := 12) (i := 3) (hI := d_ArrayList_add_ObjectaLI_12) (hi := rfl) (hl := rfl) ?_
  refine xr_aload_n (pc := 13) (i := 1) (hI := d_ArrayList_add_ObjectaLI_13) (hi := rfl) (hl := rfl) ?_
  obtain ⟨c9, hyp⟩ := hyp
  have t1_ := c9
  clear c9
  obtain ⟨c2_, hyp⟩ := hyp
  obtain ⟨c3_, hyp⟩ := hyp
  obtain ⟨c4_, hyp⟩ := hyp
  obtain ⟨c5_, hyp⟩ := hyp
  refine xr_aastoreA (pc := 14) (hI := d_ArrayList_add_ObjectaLI_14) c5_ t1_ c2_ c3_ (xlt_of rfl c4_) ?_
  have F6_ : xFix (xst h x2 x3 x1) := F.stTA (t := 110) c2_ t1_ xta_110
  refine xr_aload_n (pc := 15) (i := 0) (hI := d_ArrayList_add_ObjectaLI_15) (hi := rfl) (hl := rfl) ?_
  refine xr_iload_n (pc := 16) (i := 3) (hI := d_ArrayList_add_ObjectaLI_16) (hi := rfl) (hl := rfl) ?_
  refine xr_iconst (pc := 17) (hI := d_ArrayList_add_ObjectaLI_17) (hr := by decide) ?_
  obtain ⟨c9, hyp⟩ := hyp
  refine xr_iadd (pc := 18) (hI := d_ArrayList_add_ObjectaLI_18) (hr := c9) ?_
  obtain ⟨c9, hyp⟩ := hyp
  have t7_ := c9
  clear c9
  obtain ⟨c8_, hyp⟩ := hyp
  refine xr_putf (pc := 19) (ci := 13) (k := 1) (N := 3) (v9 := 0) (T := xF13) (tF := xT13) (hI := d_ArrayList_add_ObjectaLI_19) (hw := w_102) rfl xi13 xt13 xn13 (Or.inl rfl) (Nat.le_of_ble_eq_true rfl) (Nat.le_of_ble_eq_true rfl) rfl xfit_i rfl t7_ c8_ (fun z => z) ?_
  have F9_ : xFix (xst (xst h x2 x3 x1) x0 1 (x3 + 1)) := F6_.stT (t := 13) c8_ t7_ xtk_13_1
  refine xr_return (S := []) (pc := 22) (hI := d_ArrayList_add_ObjectaLI_22) (hr := rfl) ?_
  exact hyp F9_
abbrev m_ArrayList_add_Object : XM := (⟨"java/util/ArrayList", "add", "(Ljava/lang/Object;)Z"⟩, prog_43_method_25_code, 2, (some .boolean), [])
theorem d_ArrayList_add_Object_0 : decode prog_43_method_25_code 0 = .ok (.aload_n 0, 1) := by decide +kernel
theorem d_ArrayList_add_Object_1 : decode prog_43_method_25_code 1 = .ok (.dup, 1) := by decide +kernel
theorem d_ArrayList_add_Object_2 : decode prog_43_method_25_code 2 = .ok (.getfield 63, 3) := by decide +kernel
theorem w_104 : Cond.fieldLink "java/util/ArrayList" 63 "java/util/ArrayList" "modCount" "I" ∈ lw_tbl := List.mem_append_right _ (List.mem_of_getElem? (i := 104) (by decide +kernel))
theorem w_105 : Cond.sameField "java/util/ArrayList" "java/util/AbstractList" "modCount" "I" ∈ lw_tbl := List.mem_append_right _ (List.mem_of_getElem? (i := 105) (by decide +kernel))
theorem d_ArrayList_add_Object_5 : decode prog_43_method_25_code 5 = .ok (.iconst 1, 1) := by decide +kernel
theorem d_ArrayList_add_Object_6 : decode prog_43_method_25_code 6 = .ok (.iadd, 1) := by decide +kernel
theorem d_ArrayList_add_Object_7 : decode prog_43_method_25_code 7 = .ok (.putfield 63, 3) := by decide +kernel
theorem xtk_13_2 : xfTK 13 2 = true := by decide +kernel
theorem d_ArrayList_add_Object_10 : decode prog_43_method_25_code 10 = .ok (.aload_n 0, 1) := by decide +kernel
theorem d_ArrayList_add_Object_11 : decode prog_43_method_25_code 11 = .ok (.aload_n 1, 1) := by decide +kernel
theorem d_ArrayList_add_Object_12 : decode prog_43_method_25_code 12 = .ok (.aload_n 0, 1) := by decide +kernel
theorem d_ArrayList_add_Object_13 : decode prog_43_method_25_code 13 = .ok (.getfield 9, 3) := by decide +kernel
theorem d_ArrayList_add_Object_16 : decode prog_43_method_25_code 16 = .ok (.aload_n 0, 1) := by decide +kernel
theorem d_ArrayList_add_Object_17 : decode prog_43_method_25_code 17 = .ok (.getfield 48, 3) := by decide +kernel
theorem d_ArrayList_add_Object_20 : decode prog_43_method_25_code 20 = .ok (.invokevirtual 131, 3) := by decide +kernel
theorem k_ArrayList_add_ObjectaLI : xCal m_ArrayList_add_ObjectaLI 3 := ⟨List.mem_append_right _ (List.mem_of_getElem? (i := 489) (by decide +kernel)), w_6, Nat.le_of_ble_eq_true rfl, ⟨by decide +kernel, by decide +kernel⟩, by decide +kernel, by decide +kernel, rfl⟩
theorem w_486 : Cond.methodLink "java/util/ArrayList" 131 ⟨"java/util/ArrayList", "add", "(Ljava/lang/Object;[Ljava/lang/Object;I)V"⟩ ∈ lw_tbl := List.mem_append_right _ (List.mem_of_getElem? (i := 486) (by decide +kernel))
theorem w_488 : Cond.instanceMethod ⟨"java/util/ArrayList", "add", "(Ljava/lang/Object;[Ljava/lang/Object;I)V"⟩ ∈ lw_tbl := List.mem_append_right _ (List.mem_of_getElem? (i := 488) (by decide +kernel))
theorem sel_ArrayList_add_ObjectaLI : Cond.selects "java/util/ArrayList" ⟨"java/util/ArrayList", "add", "(Ljava/lang/Object;[Ljava/lang/Object;I)V"⟩ ⟨"java/util/ArrayList", "add", "(Ljava/lang/Object;[Ljava/lang/Object;I)V"⟩ ∈ lw_tbl := List.mem_append_left _ (by decide +kernel)
theorem v_ArrayList_add_Object_0 {G : XG} {d : Nat} {h : XH} {Q : XV → XH → Prop} {X : Nat → XH → Prop} {x0 x1 : Int} (F : xFix h) (hyp : xtg h x0 = 13 ∧ 0 ≤ x0 ∧ (xFix (xst h x0 2 (xw32 ((xpl h x0 2) + 1))) → xwp G m_ArrayList_add_ObjectaLI (d + 6) 0 [xR x0, xR x1, xR (xpl h x0 0), xI (xpl h x0 1)] [] (xst h x0 2 (xw32 ((xpl h x0 2) + 1))) (fun v9 h9 => xwp G m_ArrayList_add_Object (d + 7) 23 [xZ, xZ] (xpush v9 []) h9 Q X) X)) : xwp G m_ArrayList_add_Object (d + 7) 0 [xR x0, xR x1] [] h Q X := by
  have hnx9 : (93 : Int) ≤ xnx h := F.2.2
  refine xr_aload_n (pc := 0) (i := 0) (hI := d_ArrayList_add_Object_0) (hi := rfl) (hl := rfl) ?_
  refine xr_dup (pc := 1) (hI := d_ArrayList_add_Object_1) (hv := rfl) ?_
  obtain ⟨c9, hyp⟩ := hyp
  have t1_ := c9
  clear c9
  refine xg_getf (pc := 2) (ci := 13) (k := 2) (N := 3) (v9 := 0) (v := (xpl h x0 2)) (T := xF13) (hI := d_ArrayList_add_Object_2) (hw := w_104) rfl xi13 (Or.inr w_105) (Nat.le_of_ble_eq_true rfl) (Nat.le_of_ble_eq_true rfl) rfl t1_ rfl (fun f2_ => ?_)
  replace f2_ : -2147483648 ≤ (xpl h x0 2) ∧ (xpl h x0 2) ≤ 2147483647 := f2_
  refine xr_iconst (pc := 5) (hI := d_ArrayList_add_Object_5) (hr := by decide) ?_
  refine xr_iaddw (pc := 6) (hI := d_ArrayList_add_Object_6) ?_
  obtain ⟨c3_, hyp⟩ := hyp
  refine xr_putf (pc := 7) (ci := 13) (k := 2) (N := 3) (v9 := 0) (T := xF13) (tF := xT13) (hI := d_ArrayList_add_Object_7) (hw := w_104) rfl xi13 xt13 xn13 (Or.inr w_105) (Nat.le_of_ble_eq_true rfl) (Nat.le_of_ble_eq_true rfl) rfl xfit_i rfl t1_ c3_ (fun z => z) ?_
  have F4_ : xFix (xst h x0 2 (xw32 ((xpl h x0 2) + 1))) := F.stT (t := 13) c3_ t1_ xtk_13_2
  refine xr_aload_n (pc := 10) (i := 0) (hI := d_ArrayList_add_Object_10) (hi := rfl) (hl := rfl) ?_
  refine xr_aload_n (pc := 11) (i := 1) (hI := d_ArrayList_add_Object_11) (hi := rfl) (hl := rfl) ?_
  refine xr_aload_n (pc := 12) (i := 0) (hI := d_ArrayList_add_Object_12) (hi := rfl) (hl := rfl) ?_
  refine xg_getf (pc := 13) (ci := 13) (k := 0) (N := 3) (v9 := 2) (v := (xpl h x0 0)) (T := xF13) (hI := d_ArrayList_add_Object_13) (hw := w_101) rfl xi13 (Or.inl rfl) (Nat.le_of_ble_eq_true rfl) (Nat.le_of_ble_eq_true rfl) rfl t1_ (xpl_ok (by decide)) (fun f5_ => ?_)
  clear f5_
  refine xr_aload_n (pc := 16) (i := 0) (hI := d_ArrayList_add_Object_16) (hi := rfl) (hl := rfl) ?_
  refine xg_getf (pc := 17) (ci := 13) (k := 1) (N := 3) (v9 := 0) (v := (xpl h x0 1)) (T := xF13) (hI := d_ArrayList_add_Object_17) (hw := w_102) rfl xi13 (Or.inl rfl) (Nat.le_of_ble_eq_true rfl) (Nat.le_of_ble_eq_true rfl) rfl t1_ (xpl_ok (by decide)) (fun f6_ => ?_)
  replace f6_ : -2147483648 ≤ (xpl h x0 1) ∧ (xpl h x0 1) ≤ 2147483647 := f6_
  exact xq_callV (pc := 20) (index := 131) (K := m_ArrayList_add_ObjectaLI) (As := [xR x1, xR (xpl h x0 0), xI (xpl h x0 1)]) (S := []) (L0 := [xR x0, xR x1, xR (xpl h x0 0), xI (xpl h x0 1)]) (hI := d_ArrayList_add_Object_20) (hK := k_ArrayList_add_ObjectaLI) (hlk := w_486) (hnoM := rfl) (hS8 := Nat.le_of_ble_eq_true rfl) (ci := 13) (N := 3) (C := "java/util/ArrayList") (T := xF13) (hc := rfl) (hci := Nat.le_of_ble_eq_true rfl) (htb := t1_) (hinst := w_488) (hsel := sel_ArrayList_add_ObjectaLI) (hlen := Nat.le_of_ble_eq_true rfl) (hst := rfl) (hL0 := rfl)  (xwp_mono (hyp F4_) (fun v9 h9 q9 => xr_drop (L9 := [xZ, xZ]) (xdrz (xdrz xdr0)) q9) (fun _ _ z9 => z9))
theorem d_ArrayList_add_Object_23 : decode prog_43_method_25_code 23 = .ok (.iconst 1, 1) := by decide +kernel
theorem d_ArrayList_add_Object_24 : decode prog_43_method_25_code 24 = .ok (.ireturn, 1) := by decide +kernel
theorem v_ArrayList_add_Object_23 {G : XG} {d : Nat} {h : XH} {Q : XV → XH → Prop} {X : Nat → XH → Prop} (F : xFix h) (hyp : (Q (xI 1) h)) : xwp G m_ArrayList_add_Object (d + 7) 23 [xZ, xZ] [] h Q X := by
  have hnx9 : (93 : Int) ≤ xnx h := F.2.2
  refine xr_iconst (pc := 23) (hI := d_ArrayList_add_Object_23) (hr := by decide) ?_
  refine xr_ireturnT (S := []) (pc := 24) (hI := d_ArrayList_add_Object_24) (hr := rfl) (xnar_z (by decide)) ?_
  exact hyp
abbrev m_ArrayList_clear : XM := (⟨"java/util/ArrayList", "clear", "()V"⟩, prog_43_method_40_code, 4, none, [])
theorem d_ArrayList_clear_0 : decode prog_43_method_40_code 0 = .ok (.aload_n 0, 1) := by decide +kernel
theorem d_ArrayList_clear_1 : decode prog_43_method_40_code 1 = .ok (.dup, 1) := by decide +kernel
theorem d_ArrayList_clear_2 : decode prog_43_method_40_code 2 = .ok (.getfield 63, 3) := by decide +kernel
theorem d_ArrayList_clear_5 : decode prog_43_method_40_code 5 = .ok (.iconst 1, 1) := by decide +kernel
theorem d_ArrayList_clear_6 : decode prog_43_method_40_code 6 = .ok (.iadd, 1) := by decide +kernel
theorem d_ArrayList_clear_7 : decode prog_43_method_40_code 7 = .ok (.putfield 63, 3) := by decide +kernel
theorem d_ArrayList_clear_10 : decode prog_43_method_40_code 10 = .ok (.aload_n 0, 1) := by decide +kernel
theorem d_ArrayList_clear_11 : decode prog_43_method_40_code 11 = .ok (.getfield 9, 3) := by decide +kernel
theorem d_ArrayList_clear_14 : decode prog_43_method_40_code 14 = .ok (.astore_n 1, 1) := by decide +kernel
theorem d_ArrayList_clear_15 : decode prog_43_method_40_code 15 = .ok (.aload_n 0, 1) := by decide +kernel
theorem d_ArrayList_clear_16 : decode prog_43_method_40_code 16 = .ok (.getfield 48, 3) := by decide +kernel
theorem d_ArrayList_clear_19 : decode prog_43_method_40_code 19 = .ok (.istore_n 2, 1) := by decide +kernel
theorem d_ArrayList_clear_20 : decode prog_43_method_40_code 20 = .ok (.aload_n 0, 1) := by decide +kernel
theorem d_ArrayList_clear_21 : decode prog_43_method_40_code 21 = .ok (.iconst 0, 1) := by decide +kernel
theorem d_ArrayList_clear_22 : decode prog_43_method_40_code 22 = .ok (.dup_x1, 1) := by decide +kernel
theorem d_ArrayList_clear_23 : decode prog_43_method_40_code 23 = .ok (.putfield 48, 3) := by decide +kernel
theorem d_ArrayList_clear_26 : decode prog_43_method_40_code 26 = .ok (.istore_n 3, 1) := by decide +kernel
theorem v_ArrayList_clear_0 {G : XG} {d : Nat} {h : XH} {Q : XV → XH → Prop} {X : Nat → XH → Prop} {x0 : Int} (F : xFix h) (hyp : xtg h x0 = 13 ∧ 0 ≤ x0 ∧ (xFix (xst (xst h x0 2 (xw32 ((xpl h x0 2) + 1))) x0 1 0) → xwp G m_ArrayList_clear (d + 1) 27 [xZ, xR (xpl h x0 0), xI (xpl h x0 1), xI 0] [] (xst (xst h x0 2 (xw32 ((xpl h x0 2) + 1))) x0 1 0) Q X)) : xwp G m_ArrayList_clear (d + 1) 0 [xR x0, xZ, xZ, xZ] [] h Q X := by
  have hnx9 : (93 : Int) ≤ xnx h := F.2.2
  refine xr_aload_n (pc := 0) (i := 0) (hI := d_ArrayList_clear_0) (hi := rfl) (hl := rfl) ?_
  refine xr_dup (pc := 1) (hI := d_ArrayList_clear_1) (hv := rfl) ?_
  obtain ⟨c9, hyp⟩ := hyp
  have t1_ := c9
  clear c9
  refine xg_getf (pc := 2) (ci := 13) (k := 2) (N := 3) (v9 := 0) (v := (xpl h x0 2)) (T := xF13) (hI := d_ArrayList_clear_2) (hw := w_104) rfl xi13 (Or.inr w_105) (Nat.le_of_ble_eq_true rfl) (Nat.le_of_ble_eq_true rfl) rfl t1_ rfl (fun f2_ => ?_)
  replace f2_ : -2147483648 ≤ (xpl h x0 2) ∧ (xpl h x0 2) ≤ 2147483647 := f2_
  refine xr_iconst (pc := 5) (hI := d_ArrayList_clear_5) (hr := by decide) ?_
  refine xr_iaddw (pc := 6) (hI := d_ArrayList_clear_6) ?_
  obtain ⟨c3_, hyp⟩ := hyp
  refine xr_putf (pc := 7) (ci := 13) (k := 2) (N := 3) (v9 := 0) (T := xF13) (tF := xT13) (hI := d_ArrayList_clear_7) (hw := w_104) rfl xi13 xt13 xn13 (Or.inr w_105) (Nat.le_of_ble_eq_true rfl) (Nat.le_of_ble_eq_true rfl) rfl xfit_i rfl t1_ c3_ (fun z => z) ?_
  have F4_ : xFix (xst h x0 2 (xw32 ((xpl h x0 2) + 1))) := F.stT (t := 13) c3_ t1_ xtk_13_2
  refine xr_aload_n (pc := 10) (i := 0) (hI := d_ArrayList_clear_10) (hi := rfl) (hl := rfl) ?_
  refine xg_getf (pc := 11) (ci := 13) (k := 0) (N := 3) (v9 := 2) (v := (xpl h x0 0)) (T := xF13) (hI := d_ArrayList_clear_11) (hw := w_101) rfl xi13 (Or.inl rfl) (Nat.le_of_ble_eq_true rfl) (Nat.le_of_ble_eq_true rfl) rfl t1_ (xpl_ok (by decide)) (fun f5_ => ?_)
  clear f5_
  refine xr_astore_n (pc := 14) (i := 1) (L9 := [xR x0, xR (xpl h x0 0), xZ, xZ]) (hI := d_ArrayList_clear_14) (hi := rfl) (hn := Nat.le_of_ble_eq_true rfl) (hL9 := rfl) ?_
  refine xr_aload_n (pc := 15) (i := 0) (hI := d_ArrayList_clear_15) (hi := rfl) (hl := rfl) ?_
  refine xg_getf (pc := 16) (ci := 13) (k := 1) (N := 3) (v9 := 0) (v := (xpl h x0 1)) (T := xF13) (hI := d_ArrayList_clear_16) (hw := w_102) rfl xi13 (Or.inl rfl) (Nat.le_of_ble_eq_true rfl) (Nat.le_of_ble_eq_true rfl) rfl t1_ (xpl_ok (by decide)) (fun f6_ => ?_)
  replace f6_ : -2147483648 ≤ (xpl h x0 1) ∧ (xpl h x0 1) ≤ 2147483647 := f6_
  refine xr_istore_n (pc := 19) (i := 2) (L9 := [xR x0, xR (xpl h x0 0), xI (xpl h x0 1), xZ]) (hI := d_ArrayList_clear_19) (hi := rfl) (hn := Nat.le_of_ble_eq_true rfl) (hL9 := rfl) ?_
  refine xr_aload_n (pc := 20) (i := 0) (hI := d_ArrayList_clear_20) (hi := rfl) (hl := rfl) ?_
  refine xr_iconst (pc := 21) (hI := d_ArrayList_clear_21) (hr := by decide) ?_
  refine xr_dup_x1 (pc := 22) (hI := d_ArrayList_clear_22) (hv := rfl) (hw := rfl) ?_
  refine xr_putf (pc := 23) (ci := 13) (k := 1) (N := 3) (v9 := 0) (T := xF13) (tF := xT13) (hI := d_ArrayList_clear_23) (hw := w_102) rfl xi13 xt13 xn13 (Or.inl rfl) (Nat.le_of_ble_eq_true rfl) (Nat.le_of_ble_eq_true rfl) rfl xfit_i rfl t1_ (by clear hyp; omega) (fun z => z) ?_
  have F7_ : xFix (xst (xst h x0 2 (xw32 ((xpl h x0 2) + 1))) x0 1 0) := F4_.stT (t := 13) (by clear hyp; omega) t1_ xtk_13_1
  refine xr_istore_n (pc := 26) (i := 3) (L9 := [xR x0, xR (xpl h x0 0), xI (xpl h x0 1), xI 0]) (hI := d_ArrayList_clear_26) (hi := rfl) (hn := Nat.le_of_ble_eq_true rfl) (hL9 := rfl) ?_
  exact xr_drop (L9 := [xZ, xR (xpl h x0 0), xI (xpl h x0 1), xI 0]) (xdrz (xdrs (xdrs (xdrs xdr0)))) (hyp F7_)
theorem d_ArrayList_clear_27 : decode prog_43_method_40_code 27 = .ok (.iload_n 3, 1) := by decide +kernel
theorem d_ArrayList_clear_28 : decode prog_43_method_40_code 28 = .ok (.iload_n 2, 1) := by decide +kernel
theorem d_ArrayList_clear_29 : decode prog_43_method_40_code 29 = .ok (.if_icmp .ge 13, 3) := by decide +kernel
theorem d_ArrayList_clear_42 : decode prog_43_method_40_code 42 = .ok (.return_, 1) := by decide +kernel
theorem d_ArrayList_clear_32 : decode prog_43_method_40_code 32 = .ok (.aload_n 1, 1) := by decide +kernel
theorem d_ArrayList_clear_33 : decode prog_43_method_40_code 33 = .ok (.iload_n 3, 1) := by decide +kernel
theorem d_ArrayList_clear_34 : decode prog_43_method_40_code 34 = .ok (.aconst_null, 1) := by decide +kernel
theorem d_ArrayList_clear_35 : decode prog_43_method_40_code 35 = .ok (.aastore, 1) := by decide +kernel
theorem d_ArrayList_clear_36 : decode prog_43_method_40_code 36 = .ok (.iinc 3 1, 3) := by decide +kernel
theorem d_ArrayList_clear_39 : decode prog_43_method_40_code 39 = .ok (.goto (-12), 3) := by decide +kernel
theorem v_ArrayList_clear_27 {G : XG} {d : Nat} {h : XH} {Q : XV → XH → Prop} {X : Nat → XH → Prop} {x1 x2 x3 : Int} (F : xFix h) (hyp : ((x2 ≤ x3 → (Q xN h)) ∧ (¬ x2 ≤ x3 → xtg h x1 = 110 ∧ 0 ≤ x1 ∧ 0 ≤ x3 ∧ x3 < (xln h x1) ∧ (xFix (xst h x1 x3 (-1)) → xwp G m_ArrayList_clear (d + 1) 27 [xZ, xR x1, xI x2, xI (x3 + 1)] [] (xst h x1 x3 (-1)) Q X)))) : xwp G m_ArrayList_clear (d + 1) 27 [xZ, xR x1, xI x2, xI x3] [] h Q X := by
  have hnx9 : (93 : Int) ≤ xnx h := F.2.2
  refine xr_okL (fun hl9 => ?_)
  have r_x2 : -2147483648 ≤ x2 ∧ x2 ≤ 2147483647 := hl9 (xI x2) (.tail _ (.tail _ (.head _))) (Nat.le_of_ble_eq_true rfl)
  have r_x3 : -2147483648 ≤ x3 ∧ x3 ≤ 2147483647 := hl9 (xI x3) (.tail _ (.tail _ (.tail _ (.head _)))) (Nat.le_of_ble_eq_true rfl)
  refine xr_iload_n (pc := 27) (i := 3) (hI := d_ArrayList_clear_27) (hi := rfl) (hl := rfl) ?_
  refine xr_iload_n (pc := 28) (i := 2) (hI := d_ArrayList_clear_28) (hi := rfl) (hl := rfl) ?_
  refine xr_icmp_ge (pc := 29) (tgt := 42) (hI := d_ArrayList_clear_29) (ht := by decide) (fun q9 => ?_) (fun q9 => ?_)
  · replace hyp := hyp.1 q9
    have q1_ := q9
    clear q9
    refine xr_return (S := []) (pc := 42) (hI := d_ArrayList_clear_42) (hr := rfl) ?_
    exact hyp
  · replace hyp := hyp.2 q9
    have q1_ := q9
    clear q9
    refine xr_aload_n (pc := 32) (i := 1) (hI := d_ArrayList_clear_32) (hi := rfl) (hl := rfl) ?_
    refine xr_iload_n (pc := 33) (i := 3) (hI := d_ArrayList_clear_33) (hi := rfl) (hl := rfl) ?_
    refine xr_aconst_null (pc := 34) (hI := d_ArrayList_clear_34) ?_
    obtain ⟨c9, hyp⟩ := hyp
    have t2_ := c9
    clear c9
    obtain ⟨c3_, hyp⟩ := hyp
    obtain ⟨c4_, hyp⟩ := hyp
    obtain ⟨c5_, hyp⟩ := hyp
    refine xr_aastoreN (pc := 35) (hI := d_ArrayList_clear_35) t2_ c3_ c4_ (xlt_of rfl c5_) ?_
    have F6_ : xFix (xst h x1 x3 (-1)) := F.stTA (t := 110) c3_ t2_ xta_110
    refine xr_iinc (pc := 36) (i := 3) (L9 := [xZ, xR x1, xI x2, xI (x3 + 1)]) (hI := d_ArrayList_clear_36) (hl := rfl) (hn := Nat.le_of_ble_eq_true rfl) (hr := ⟨by clear hyp; omega, by clear hyp; omega⟩) (hL9 := rfl) ?_
    refine xr_goto (pc := 39) (tgt := 27) (hI := d_ArrayList_clear_39) (ht := by decide) ?_
    exact (hyp F6_)
abbrev m_ArrayList_remove : XM := (⟨"java/util/ArrayList", "remove", "(I)Ljava/lang/Object;"⟩, prog_43_method_29_code, 4, (some (.object "java/lang/Object")), [])
theorem d_ArrayList_remove_0 : decode prog_43_method_29_code 0 = .ok (.iload_n 1, 1) := by decide +kernel
theorem d_ArrayList_remove_1 : decode prog_43_method_29_code 1 = .ok (.aload_n 0, 1) := by decide +kernel
theorem d_ArrayList_remove_2 : decode prog_43_method_29_code 2 = .ok (.getfield 48, 3) := by decide +kernel
theorem d_ArrayList_remove_5 : decode prog_43_method_29_code 5 = .ok (.invokestatic 118, 3) := by decide +kernel
theorem d_ArrayList_remove_8 : decode prog_43_method_29_code 8 = .ok (.pop, 1) := by decide +kernel
theorem d_ArrayList_remove_9 : decode prog_43_method_29_code 9 = .ok (.aload_n 0, 1) := by decide +kernel
theorem d_ArrayList_remove_10 : decode prog_43_method_29_code 10 = .ok (.getfield 9, 3) := by decide +kernel
theorem d_ArrayList_remove_13 : decode prog_43_method_29_code 13 = .ok (.astore_n 2, 1) := by decide +kernel
theorem d_ArrayList_remove_14 : decode prog_43_method_29_code 14 = .ok (.aload_n 2, 1) := by decide +kernel
theorem d_ArrayList_remove_15 : decode prog_43_method_29_code 15 = .ok (.iload_n 1, 1) := by decide +kernel
theorem d_ArrayList_remove_16 : decode prog_43_method_29_code 16 = .ok (.aaload, 1) := by decide +kernel
theorem d_ArrayList_remove_17 : decode prog_43_method_29_code 17 = .ok (.astore_n 3, 1) := by decide +kernel
theorem d_ArrayList_remove_18 : decode prog_43_method_29_code 18 = .ok (.aload_n 0, 1) := by decide +kernel
theorem d_ArrayList_remove_19 : decode prog_43_method_29_code 19 = .ok (.aload_n 2, 1) := by decide +kernel
theorem d_ArrayList_remove_20 : decode prog_43_method_29_code 20 = .ok (.iload_n 1, 1) := by decide +kernel
theorem d_ArrayList_remove_21 : decode prog_43_method_29_code 21 = .ok (.invokevirtual 144, 3) := by decide +kernel
abbrev m_ArrayList_fastRemove : XM := (⟨"java/util/ArrayList", "fastRemove", "([Ljava/lang/Object;I)V"⟩, prog_43_method_39_code, 4, none, [])
theorem k_ArrayList_fastRemove : xCal m_ArrayList_fastRemove 2 := ⟨List.mem_append_right _ (List.mem_of_getElem? (i := 588) (by decide +kernel)), w_6, Nat.le_of_ble_eq_true rfl, ⟨by decide +kernel, by decide +kernel⟩, by decide +kernel, by decide +kernel, rfl⟩
theorem w_585 : Cond.methodLink "java/util/ArrayList" 144 ⟨"java/util/ArrayList", "fastRemove", "([Ljava/lang/Object;I)V"⟩ ∈ lw_tbl := List.mem_append_right _ (List.mem_of_getElem? (i := 585) (by decide +kernel))
theorem w_587 : Cond.instanceMethod ⟨"java/util/ArrayList", "fastRemove", "([Ljava/lang/Object;I)V"⟩ ∈ lw_tbl := List.mem_append_right _ (List.mem_of_getElem? (i := 587) (by decide +kernel))
theorem sel_ArrayList_fastRemove : Cond.selects "java/util/ArrayList" ⟨"java/util/ArrayList", "fastRemove", "([Ljava/lang/Object;I)V"⟩ ⟨"java/util/ArrayList", "fastRemove", "([Ljava/lang/Object;I)V"⟩ ∈ lw_tbl := List.mem_append_left _ (by decide +kernel)
theorem v_ArrayList_remove_0 {G : XG} {d : Nat} {h : XH} {Q : XV → XH → Prop} {X : Nat → XH → Prop} {x0 x1 : Int} (F : xFix h) (hyp : xtg h x0 = 13 ∧ 0 ≤ x1 ∧ x1 < (xpl h x0 1) ∧ xtg h (xpl h x0 0) = 110 ∧ 0 ≤ x1 ∧ x1 < (xln h (xpl h x0 0)) ∧ (xwp G m_ArrayList_fastRemove (d + 2) 0 [xR x0, xR (xpl h x0 0), xI x1, xZ] [] h (fun v9 h9 => xwp G m_ArrayList_remove (d + 3) 24 [xZ, xZ, xZ, xR (xpl h (xpl h x0 0) x1)] (xpush v9 []) h9 Q X) X)) : xwp G m_ArrayList_remove (d + 3) 0 [xR x0, xI x1, xZ, xZ] [] h Q X := by
  have hnx9 : (93 : Int) ≤ xnx h := F.2.2
  refine xr_okL (fun hl9 => ?_)
  have r_x1 : -2147483648 ≤ x1 ∧ x1 ≤ 2147483647 := hl9 (xI x1) (.tail _ (.head _)) (Nat.le_of_ble_eq_true rfl)
  refine xr_iload_n (pc := 0) (i := 1) (hI := d_ArrayList_remove_0) (hi := rfl) (hl := rfl) ?_
  refine xr_aload_n (pc := 1) (i := 0) (hI := d_ArrayList_remove_1) (hi := rfl) (hl := rfl) ?_
  obtain ⟨c9, hyp⟩ := hyp
  have t1_ := c9
  clear c9
  refine xg_getf (pc := 2) (ci := 13) (k := 1) (N := 3) (v9 := 0) (v := (xpl h x0 1)) (T := xF13) (hI := d_ArrayList_remove_2) (hw := w_102) rfl xi13 (Or.inl rfl) (Nat.le_of_ble_eq_true rfl) (Nat.le_of_ble_eq_true rfl) rfl t1_ rfl (fun f2_ => ?_)
  replace f2_ : -2147483648 ≤ (xpl h x0 1) ∧ (xpl h x0 1) ≤ 2147483647 := f2_
  obtain ⟨c3_, hyp⟩ := hyp
  obtain ⟨c4_, hyp⟩ := hyp
  refine xq_callS (pc := 5) (index := 118) (K := m_Objects_checkIndex) (As := [xI x1, xI (xpl h x0 1)]) (S := []) (L0 := [xI x1, xI (xpl h x0 1)]) (hI := d_ArrayList_remove_5) (hK := k_Objects_checkIndex) (hlk := w_472) (hnoM := rfl) (hS8 := Nat.le_of_ble_eq_true rfl) (hstat := w_473) (hlen := Nat.le_of_ble_eq_true rfl) (hst := rfl) (hL0 := rfl)  (p_Objects_checkIndex F c3_ c4_ ?_)
  show xwp G m_ArrayList_remove (d + 3) 8 [xR x0, xI x1, xZ, xZ] [xI x1] _ _ _
  refine xr_pop (pc := 8) (hI := d_ArrayList_remove_8) (hv := rfl) ?_
  refine xr_aload_n (pc := 9) (i := 0) (hI := d_ArrayList_remove_9) (hi := rfl) (hl := rfl) ?_
  refine xg_getf (pc := 10) (ci := 13) (k := 0) (N := 3) (v9 := 2) (v := (xpl h x0 0)) (T := xF13) (hI := d_ArrayList_remove_10) (hw := w_101) rfl xi13 (Or.inl rfl) (Nat.le_of_ble_eq_true rfl) (Nat.le_of_ble_eq_true rfl) rfl t1_ rfl (fun f5_ => ?_)
  clear f5_
  refine xr_astore_n (pc := 13) (i := 2) (L9 := [xR x0, xI x1, xR (xpl h x0 0), xZ]) (hI := d_ArrayList_remove_13) (hi := rfl) (hn := Nat.le_of_ble_eq_true rfl) (hL9 := rfl) ?_
  refine xr_aload_n (pc := 14) (i := 2) (hI := d_ArrayList_remove_14) (hi := rfl) (hl := rfl) ?_
  refine xr_iload_n (pc := 15) (i := 1) (hI := d_ArrayList_remove_15) (hi := rfl) (hl := rfl) ?_
  obtain ⟨c9, hyp⟩ := hyp
  have t6_ := c9
  clear c9
  obtain ⟨c7_, hyp⟩ := hyp
  obtain ⟨c8_, hyp⟩ := hyp
  refine xg_aaload (pc := 16) (t := 110) (v := (xpl h (xpl h x0 0) x1)) (hI := d_ArrayList_remove_16) t6_ (Nat.le_of_ble_eq_true rfl) rfl (Nat.le_of_ble_eq_true rfl) c7_ (xlt_of rfl c8_) rfl ?_
  refine xr_astore_n (pc := 17) (i := 3) (L9 := [xR x0, xI x1, xR (xpl h x0 0), xR (xpl h (xpl h x0 0) x1)]) (hI := d_ArrayList_remove_17) (hi := rfl) (hn := Nat.le_of_ble_eq_true rfl) (hL9 := rfl) ?_
  refine xr_aload_n (pc := 18) (i := 0) (hI := d_ArrayList_remove_18) (hi := rfl) (hl := rfl) ?_
  refine xr_aload_n (pc := 19) (i := 2) (hI := d_ArrayList_remove_19) (hi := rfl) (hl := rfl) ?_
  refine xr_iload_n (pc := 20) (i := 1) (hI := d_ArrayList_remove_20) (hi := rfl) (hl := rfl) ?_
  exact xq_callV (pc := 21) (index := 144) (K := m_ArrayList_fastRemove) (As := [xR (xpl h x0 0), xI x1]) (S := []) (L0 := [xR x0, xR (xpl h x0 0), xI x1, xZ]) (hI := d_ArrayList_remove_21) (hK := k_ArrayList_fastRemove) (hlk := w_585) (hnoM := rfl) (hS8 := Nat.le_of_ble_eq_true rfl) (ci := 13) (N := 3) (C := "java/util/ArrayList") (T := xF13) (hc := rfl) (hci := Nat.le_of_ble_eq_true rfl) (htb := t1_) (hinst := w_587) (hsel := sel_ArrayList_fastRemove) (hlen := Nat.le_of_ble_eq_true rfl) (hst := rfl) (hL0 := rfl)  (xwp_mono hyp (fun v9 h9 q9 => xr_drop (L9 := [xZ, xZ, xZ, xR (xpl h (xpl h x0 0) x1)]) (xdrz (xdrz (xdrz (xdrs xdr0)))) q9) (fun _ _ z9 => z9))
theorem d_ArrayList_remove_24 : decode prog_43_method_29_code 24 = .ok (.aload_n 3, 1) := by decide +kernel
theorem d_ArrayList_remove_25 : decode prog_43_method_29_code 25 = .ok (.areturn, 1) := by decide +kernel
theorem v_ArrayList_remove_24 {G : XG} {d : Nat} {h : XH} {Q : XV → XH → Prop} {X : Nat → XH → Prop} {x3 : Int} (F : xFix h) (hyp : (Q (xR x3) h)) : xwp G m_ArrayList_remove (d + 3) 24 [xZ, xZ, xZ, xR x3] [] h Q X := by
  have hnx9 : (93 : Int) ≤ xnx h := F.2.2
  refine xr_aload_n (pc := 24) (i := 3) (hI := d_ArrayList_remove_24) (hi := rfl) (hl := rfl) ?_
  refine xr_areturn (S := []) (pc := 25) (hI := d_ArrayList_remove_25) (hr := rfl) (hrt := Or.inl ⟨_, rfl⟩) ?_
  exact hyp
theorem d_ArrayList_fastRemove_0 : decode prog_43_method_39_code 0 = .ok (.aload_n 0, 1) := by decide +kernel
theorem d_ArrayList_fastRemove_1 : decode prog_43_method_39_code 1 = .ok (.dup, 1) := by decide +kernel
theorem d_ArrayList_fastRemove_2 : decode prog_43_method_39_code 2 = .ok (.getfield 63, 3) := by decide +kernel
theorem d_ArrayList_fastRemove_5 : decode prog_43_method_39_code 5 = .ok (.iconst 1, 1) := by decide +kernel
theorem d_ArrayList_fastRemove_6 : decode prog_43_method_39_code 6 = .ok (.iadd, 1) := by decide +kernel
theorem d_ArrayList_fastRemove_7 : decode prog_43_method_39_code 7 = .ok (.putfield 63, 3) := by decide +kernel
theorem d_ArrayList_fastRemove_10 : decode prog_43_method_39_code 10 = .ok (.aload_n 0, 1) := by decide +kernel
theorem d_ArrayList_fastRemove_11 : decode prog_43_method_39_code 11 = .ok (.getfield 48, 3) := by decide +kernel
theorem d_ArrayList_fastRemove_14 : decode prog_43_method_39_code 14 = .ok (.iconst 1, 1) := by decide +kernel
theorem d_ArrayList_fastRemove_15 : decode prog_43_method_39_code 15 = .ok (.isub, 1) := by decide +kernel
theorem d_ArrayList_fastRemove_16 : decode prog_43_method_39_code 16 = .ok (.dup, 1) := by decide +kernel
theorem d_ArrayList_fastRemove_17 : decode prog_43_method_39_code 17 = .ok (.istore_n 3, 1) := by decide +kernel
theorem d_ArrayList_fastRemove_18 : decode prog_43_method_39_code 18 = .ok (.iload_n 2, 1) := by decide +kernel
theorem d_ArrayList_fastRemove_19 : decode prog_43_method_39_code 19 = .ok (.if_icmp .le 15, 3) := by decide +kernel
theorem d_ArrayList_fastRemove_22 : decode prog_43_method_39_code 22 = .ok (.aload_n 1, 1) := by decide +kernel
theorem d_ArrayList_fastRemove_23 : decode prog_43_method_39_code 23 = .ok (.iload_n 2, 1) := by decide +kernel
theorem d_ArrayList_fastRemove_24 : decode prog_43_method_39_code 24 = .ok (.iconst 1, 1) := by decide +kernel
theorem d_ArrayList_fastRemove_25 : decode prog_43_method_39_code 25 = .ok (.iadd, 1) := by decide +kernel
theorem d_ArrayList_fastRemove_26 : decode prog_43_method_39_code 26 = .ok (.aload_n 1, 1) := by decide +kernel
theorem d_ArrayList_fastRemove_27 : decode prog_43_method_39_code 27 = .ok (.iload_n 2, 1) := by decide +kernel
theorem d_ArrayList_fastRemove_28 : decode prog_43_method_39_code 28 = .ok (.iload_n 3, 1) := by decide +kernel
theorem d_ArrayList_fastRemove_29 : decode prog_43_method_39_code 29 = .ok (.iload_n 2, 1) := by decide +kernel
theorem d_ArrayList_fastRemove_30 : decode prog_43_method_39_code 30 = .ok (.isub, 1) := by decide +kernel
theorem d_ArrayList_fastRemove_31 : decode prog_43_method_39_code 31 = .ok (.invokestatic 112, 3) := by decide +kernel
theorem w_589 : Cond.methodLink "java/util/ArrayList" 112 ⟨"java/lang/System", "arraycopy", "(Ljava/lang/Object;ILjava/lang/Object;II)V"⟩ ∈ lw_tbl := List.mem_append_right _ (List.mem_of_getElem? (i := 589) (by decide +kernel))
theorem v_ArrayList_fastRemove_0 {G : XG} {d : Nat} {h : XH} {Q : XV → XH → Prop} {X : Nat → XH → Prop} {x0 x1 x2 : Int} (F : xFix h) (hyp : xtg h x0 = 13 ∧ 0 ≤ x0 ∧ xiR ((xpl h x0 1) - 1) ∧ ((((xpl h x0 1) - 1) ≤ x2 → (xFix (xst h x0 2 (xw32 ((xpl h x0 2) + 1))) → xwp G m_ArrayList_fastRemove (d + 2) 34 [xR x0, xR x1, xZ, xI ((xpl h x0 1) - 1)] [] (xst h x0 2 (xw32 ((xpl h x0 2) + 1))) Q X)) ∧ (¬ ((xpl h x0 1) - 1) ≤ x2 → xiR (((xpl h x0 1) - 1) - x2) ∧ xtg h x1 = 110 ∧ 0 ≤ x1 ∧ 0 ≤ (x2 + 1) ∧ 0 ≤ x2 ∧ ((x2 + 1) + (((xpl h x0 1) - 1) - x2)) ≤ (xln h x1) ∧ (∀ i9 : Int, (x2 + 1) ≤ i9 → i9 < ((x2 + 1) + (((xpl h x0 1) - 1) - x2)) → xpl (xst h x0 2 (xw32 ((xpl h x0 2) + 1))) x1 i9 = -1 ∨ xaos (xtg (xst h x0 2 (xw32 ((xpl h x0 2) + 1))) (xpl (xst h x0 2 (xw32 ((xpl h x0 2) + 1))) x1 i9)) = true) ∧ (xFix (xup (xst h x0 2 (xw32 ((xpl h x0 2) + 1))) x1 (xcpf (xpl (xst h x0 2 (xw32 ((xpl h x0 2) + 1))) x1) (xpl (xst h x0 2 (xw32 ((xpl h x0 2) + 1))) x1) (x2 + 1) x2 (((xpl h x0 1) - 1) - x2))) → xwp G m_ArrayList_fastRemove (d + 2) 34 [xR x0, xR x1, xZ, xI ((xpl h x0 1) - 1)] [] (xup (xst h x0 2 (xw32 ((xpl h x0 2) + 1))) x1 (xcpf (xpl (xst h x0 2 (xw32 ((xpl h x0 2) + 1))) x1) (xpl (xst h x0 2 (xw32 ((xpl h x0 2) + 1))) x1) (x2 + 1) x2 (((xpl h x0 1) - 1) - x2))) Q X)))) : xwp G m_ArrayList_fastRemove (d + 2) 0 [xR x0, xR x1, xI x2, xZ] [] h Q X := by
  have hnx9 : (93 : Int) ≤ xnx h := F.2.2
  refine xr_okL (fun hl9 => ?_)
  have r_x2 : -2147483648 ≤ x2 ∧ x2 ≤ 2147483647 := hl9 (xI x2) (.tail _ (.tail _ (.head _))) (Nat.le_of_ble_eq_true rfl)
  refine xr_aload_n (pc := 0) (i := 0) (hI := d_ArrayList_fastRemove_0) (hi := rfl) (hl := rfl) ?_
  refine xr_dup (pc := 1) (hI := d_ArrayList_fastRemove_1) (hv := rfl) ?_
  obtain ⟨c9, hyp⟩ := hyp
  have t1_ := c9
  clear c9
  refine xg_getf (pc := 2) (ci := 13) (k := 2) (N := 3) (v9 := 0) (v := (xpl h x0 2)) (T := xF13) (hI := d_ArrayList_fastRemove_2) (hw := w_104) rfl xi13 (Or.inr w_105) (Nat.le_of_ble_eq_true rfl) (Nat.le_of_ble_eq_true rfl) rfl t1_ rfl (fun f2_ => ?_)
  replace f2_ : -2147483648 ≤ (xpl h x0 2) ∧ (xpl h x0 2) ≤ 2147483647 := f2_
  refine xr_iconst (pc := 5) (hI := d_ArrayList_fastRemove_5) (hr := by decide) ?_
  refine xr_iaddw (pc := 6) (hI := d_ArrayList_fastRemove_6) ?_
  obtain ⟨c3_, hyp⟩ := hyp
  refine xr_putf (pc := 7) (ci := 13) (k := 2) (N := 3) (v9 := 0) (T := xF13) (tF := xT13) (hI := d_ArrayList_fastRemove_7) (hw := w_104) rfl xi13 xt13 xn13 (Or.inr w_105) (Nat.le_of_ble_eq_true rfl) (Nat.le_of_ble_eq_true rfl) rfl xfit_i rfl t1_ c3_ (fun z => z) ?_
  have F4_ : xFix (xst h x0 2 (xw32 ((xpl h x0 2) + 1))) := F.stT (t := 13) c3_ t1_ xtk_13_2
  refine xr_aload_n (pc := 10) (i := 0) (hI := d_ArrayList_fastRemove_10) (hi := rfl) (hl := rfl) ?_
  refine xg_getf (pc := 11) (ci := 13) (k := 1) (N := 3) (v9 := 0) (v := (xpl h x0 1)) (T := xF13) (hI := d_ArrayList_fastRemove_11) (hw := w_102) rfl xi13 (Or.inl rfl) (Nat.le_of_ble_eq_true rfl) (Nat.le_of_ble_eq_true rfl) rfl t1_ (xpl_ok (by decide)) (fun f5_ => ?_)
  replace f5_ : -2147483648 ≤ (xpl h x0 1) ∧ (xpl h x0 1) ≤ 2147483647 := f5_
  refine xr_iconst (pc := 14) (hI := d_ArrayList_fastRemove_14) (hr := by decide) ?_
  obtain ⟨c9, hyp⟩ := hyp
  refine xr_isub (pc := 15) (hI := d_ArrayList_fastRemove_15) (hr := c9) ?_
  refine xr_dup (pc := 16) (hI := d_ArrayList_fastRemove_16) (hv := rfl) ?_
  refine xr_istore_n (pc := 17) (i := 3) (L9 := [xR x0, xR x1, xI x2, xI ((xpl h x0 1) - 1)]) (hI := d_ArrayList_fastRemove_17) (hi := rfl) (hn := Nat.le_of_ble_eq_true rfl) (hL9 := rfl) ?_
  refine xr_iload_n (pc := 18) (i := 2) (hI := d_ArrayList_fastRemove_18) (hi := rfl) (hl := rfl) ?_
  refine xr_icmp_le (pc := 19) (tgt := 34) (hI := d_ArrayList_fastRemove_19) (ht := by decide) (fun q9 => ?_) (fun q9 => ?_)
  · replace hyp := hyp.1 q9
    have q6_ := q9
    clear q9
    exact xr_drop (L9 := [xR x0, xR x1, xZ, xI ((xpl h x0 1) - 1)]) (xdrs (xdrs (xdrz (xdrs xdr0)))) (hyp F4_)
  · replace hyp := hyp.2 q9
    have q6_ := q9
    clear q9
    refine xr_aload_n (pc := 22) (i := 1) (hI := d_ArrayList_fastRemove_22) (hi := rfl) (hl := rfl) ?_
    refine xr_iload_n (pc := 23) (i := 2) (hI := d_ArrayList_fastRemove_23) (hi := rfl) (hl := rfl) ?_
    refine xr_iconst (pc := 24) (hI := d_ArrayList_fastRemove_24) (hr := by decide) ?_
    refine xr_iadd (pc := 25) (hI := d_ArrayList_fastRemove_25) (hr := ⟨by clear hyp; omega, by clear hyp; omega⟩) ?_
    refine xr_aload_n (pc := 26) (i := 1) (hI := d_ArrayList_fastRemove_26) (hi := rfl) (hl := rfl) ?_
    refine xr_iload_n (pc := 27) (i := 2) (hI := d_ArrayList_fastRemove_27) (hi := rfl) (hl := rfl) ?_
    refine xr_iload_n (pc := 28) (i := 3) (hI := d_ArrayList_fastRemove_28) (hi := rfl) (hl := rfl) ?_
    refine xr_iload_n (pc := 29) (i := 2) (hI := d_ArrayList_fastRemove_29) (hi := rfl) (hl := rfl) ?_
    obtain ⟨c9, hyp⟩ := hyp
    refine xr_isub (pc := 30) (hI := d_ArrayList_fastRemove_30) (hr := c9) ?_
    obtain ⟨c7_, hyp⟩ := hyp
    obtain ⟨c8_, hyp⟩ := hyp
    obtain ⟨c9_, hyp⟩ := hyp
    obtain ⟨c10_, hyp⟩ := hyp
    obtain ⟨c11_, hyp⟩ := hyp
    obtain ⟨c12_, hyp⟩ := hyp
    refine xr_arraycopy (pc := 31) (t := 110) (index := 112) (hI := d_ArrayList_fastRemove_31) w_589 w_546 w_545 w_30 rfl c7_ c7_ c8_ c9_ c10_ (by clear hyp; omega) (xle_of (show xln (xst h x0 2 (xw32 ((xpl h x0 2) + 1))) x1 = xln h x1 from rfl) c11_) (xle_of (show xln (xst h x0 2 (xw32 ((xpl h x0 2) + 1))) x1 = xln h x1 from rfl) (by clear hyp; omega)) (fun _ => c12_) (Nat.le_add_left_of_le (by decide)) (Nat.le_of_ble_eq_true rfl) ?_
    have F13_ : xFix (xup (xst h x0 2 (xw32 ((xpl h x0 2) + 1))) x1 (xcpf (xpl (xst h x0 2 (xw32 ((xpl h x0 2) + 1))) x1) (xpl (xst h x0 2 (xw32 ((xpl h x0 2) + 1))) x1) (x2 + 1) x2 (((xpl h x0 1) - 1) - x2))) := F4_.upTA (t := 110) c8_ c7_ xta_110
    exact xr_drop (L9 := [xR x0, xR x1, xZ, xI ((xpl h x0 1) - 1)]) (xdrs (xdrs (xdrz (xdrs xdr0)))) (hyp F13_)
theorem d_ArrayList_fastRemove_34 : decode prog_43_method_39_code 34 = .ok (.aload_n 1, 1) := by decide +kernel
theorem d_ArrayList_fastRemove_35 : decode prog_43_method_39_code 35 = .ok (.aload_n 0, 1) := by decide +kernel
theorem d_ArrayList_fastRemove_36 : decode prog_43_method_39_code 36 = .ok (.iload_n 3, 1) := by decide +kernel
theorem d_ArrayList_fastRemove_37 : decode prog_43_method_39_code 37 = .ok (.dup_x1, 1) := by decide +kernel
theorem d_ArrayList_fastRemove_38 : decode prog_43_method_39_code 38 = .ok (.putfield 48, 3) := by decide +kernel
theorem d_ArrayList_fastRemove_41 : decode prog_43_method_39_code 41 = .ok (.aconst_null, 1) := by decide +kernel
theorem d_ArrayList_fastRemove_42 : decode prog_43_method_39_code 42 = .ok (.aastore, 1) := by decide +kernel
theorem d_ArrayList_fastRemove_43 : decode prog_43_method_39_code 43 = .ok (.return_, 1) := by decide +kernel
theorem v_ArrayList_fastRemove_34 {G : XG} {d : Nat} {h : XH} {Q : XV → XH → Prop} {X : Nat → XH → Prop} {x0 x1 x3 : Int} (F : xFix h) (hyp : xtg h x0 = 13 ∧ 0 ≤ x0 ∧ xtg h x1 = 110 ∧ 0 ≤ x1 ∧ 0 ≤ x3 ∧ x3 < (xln h x1) ∧ (xFix (xst (xst h x0 1 x3) x1 x3 (-1)) → Q xN (xst (xst h x0 1 x3) x1 x3 (-1)))) : xwp G m_ArrayList_fastRemove (d + 2) 34 [xR x0, xR x1, xZ, xI x3] [] h Q X := by
  have hnx9 : (93 : Int) ≤ xnx h := F.2.2
  refine xr_okL (fun hl9 => ?_)
  have r_x3 : -2147483648 ≤ x3 ∧ x3 ≤ 2147483647 := hl9 (xI x3) (.tail _ (.tail _ (.tail _ (.head _)))) (Nat.le_of_ble_eq_true rfl)
  refine xr_aload_n (pc := 34) (i := 1) (hI := d_ArrayList_fastRemove_34) (hi := rfl) (hl := rfl) ?_
  refine xr_aload_n (pc := 35) (i := 0) (hI := d_ArrayList_fastRemove_35) (hi := rfl) (hl := rfl) ?_
  refine xr_iload_n (pc := 36) (i := 3) (hI := d_ArrayList_fastRemove_36) (hi := rfl) (hl := rfl) ?_
  refine xr_dup_x1 (pc := 37) (hI := d_ArrayList_fastRemove_37) (hv := rfl) (hw := rfl) ?_
  obtain ⟨c9, hyp⟩ := hyp
  have t1_ := c9
  clear c9
  obtain ⟨c2_, hyp⟩ := hyp
  refine xr_putf (pc := 38) (ci := 13) (k := 1) (N := 3) (v9 := 0) (T := xF13) (tF := xT13) (hI := d_ArrayList_fastRemove_38) (hw := w_102) rfl xi13 xt13 xn13 (Or.inl rfl) (Nat.le_of_ble_eq_true rfl) (Nat.le_of_ble_eq_true rfl) rfl xfit_i rfl t1_ c2_ (fun z => z) ?_
  have F3_ : xFix (xst h x0 1 x3) := F.stT (t := 13) c2_ t1_ xtk_13_1
  refine xr_aconst_null (pc := 41) (hI := d_ArrayList_fastRemove_41) ?_
  obtain ⟨c9, hyp⟩ := hyp
  have t4_ := c9
  clear c9
  obtain ⟨c5_, hyp⟩ := hyp
  obtain ⟨c6_, hyp⟩ := hyp
  obtain ⟨c7_, hyp⟩ := hyp
  refine xr_aastoreN (pc := 42) (hI := d_ArrayList_fastRemove_42) t4_ c5_ c6_ (xlt_of (show xln (xst h x0 1 x3) x1 = xln h x1 from rfl) c7_) ?_
  have F8_ : xFix (xst (xst h x0 1 x3) x1 x3 (-1)) := F3_.stTA (t := 110) c5_ t4_ xta_110
  refine xr_return (S := []) (pc := 43) (hI := d_ArrayList_fastRemove_43) (hr := rfl) ?_
  exact hyp F8_
abbrev m_AbstractCollection_init : XM := (⟨"java/util/AbstractCollection", "<init>", "()V"⟩, prog_41_method_1_code, 1, none, [])
theorem d_AbstractCollection_init_0 : decode prog_41_method_1_code 0 = .ok (.aload_n 0, 1) := by decide +kernel
theorem d_AbstractCollection_init_1 : decode prog_41_method_1_code 1 = .ok (.invokespecial 1, 3) := by decide +kernel
theorem w_98 : Cond.methodLink "java/util/AbstractCollection" 1 ⟨"java/lang/Object", "<init>", "()V"⟩ ∈ lw_tbl := List.mem_append_right _ (List.mem_of_getElem? (i := 98) (by decide +kernel))
theorem w_46 : Cond.instanceMethod ⟨"java/lang/Object", "<init>", "()V"⟩ ∈ lw_tbl := List.mem_append_right _ (List.mem_of_getElem? (i := 46) (by decide +kernel))
theorem w_objc : Cond.code Lib.objectInit ⟨#[0xb1]⟩ 1 none ∈ lw_tbl := by decide +kernel
theorem d_AbstractCollection_init_4 : decode prog_41_method_1_code 4 = .ok (.return_, 1) := by decide +kernel
theorem v_AbstractCollection_init_0 {G : XG} {d : Nat} {h : XH} {Q : XV → XH → Prop} {X : Nat → XH → Prop} {x0 : Int} (F : xFix h) (hyp : 0 ≤ x0 ∧ (Q xN h)) : xwp G m_AbstractCollection_init (d + 2) 0 [xR x0] [] h Q X := by
  have hnx9 : (93 : Int) ≤ xnx h := F.2.2
  refine xr_aload_n (pc := 0) (i := 0) (hI := d_AbstractCollection_init_0) (hi := rfl) (hl := rfl) ?_
  obtain ⟨c9, hyp⟩ := hyp
  refine xr_objInit (pc := 1) (hI := d_AbstractCollection_init_1) w_98 w_46 w_objc c9 (Nat.le_add_left_of_le (by decide)) (Nat.le_of_ble_eq_true rfl) ?_
  refine xr_return (S := []) (pc := 4) (hI := d_AbstractCollection_init_4) (hr := rfl) ?_
  exact hyp
abbrev m_AbstractList_init : XM := (⟨"java/util/AbstractList", "<init>", "()V"⟩, prog_42_method_1_code, 1, none, [])
theorem d_AbstractList_init_0 : decode prog_42_method_1_code 0 = .ok (.aload_n 0, 1) := by decide +kernel
theorem d_AbstractList_init_1 : decode prog_42_method_1_code 1 = .ok (.invokespecial 1, 3) := by decide +kernel
theorem w_4 : Cond.initialized "java/util/AbstractCollection" ∈ lw_tbl := List.mem_append_right _ (List.mem_of_getElem? (i := 4) (by decide +kernel))
theorem k_AbstractCollection_init : xCal m_AbstractCollection_init 0 := ⟨List.mem_append_right _ (List.mem_of_getElem? (i := 97) (by decide +kernel)), w_4, Nat.le_of_ble_eq_true rfl, ⟨by decide +kernel, by decide +kernel⟩, by decide +kernel, by decide +kernel, rfl⟩
theorem w_96 : Cond.instanceMethod ⟨"java/util/AbstractCollection", "<init>", "()V"⟩ ∈ lw_tbl := List.mem_append_right _ (List.mem_of_getElem? (i := 96) (by decide +kernel))
theorem w_95 : Cond.methodLink "java/util/AbstractList" 1 ⟨"java/util/AbstractCollection", "<init>", "()V"⟩ ∈ lw_tbl := List.mem_append_right _ (List.mem_of_getElem? (i := 95) (by decide +kernel))
theorem d_AbstractList_init_4 : decode prog_42_method_1_code 4 = .ok (.aload_n 0, 1) := by decide +kernel
theorem d_AbstractList_init_5 : decode prog_42_method_1_code 5 = .ok (.iconst 0, 1) := by decide +kernel
theorem d_AbstractList_init_6 : decode prog_42_method_1_code 6 = .ok (.putfield 7, 3) := by decide +kernel
theorem w_103 : Cond.fieldLink "java/util/AbstractList" 7 "java/util/AbstractList" "modCount" "I" ∈ lw_tbl := List.mem_append_right _ (List.mem_of_getElem? (i := 103) (by decide +kernel))
theorem d_AbstractList_init_9 : decode prog_42_method_1_code 9 = .ok (.return_, 1) := by decide +kernel
theorem v_AbstractList_init_0 {G : XG} {d : Nat} {h : XH} {Q : XV → XH → Prop} {X : Nat → XH → Prop} {x0 : Int} (F : xFix h) (hyp : -1 < x0 ∧ 0 ≤ x0 ∧ xtg h x0 = 13 ∧ 0 ≤ x0 ∧ (xFix (xst h x0 2 0) → Q xN (xst h x0 2 0))) : xwp G m_AbstractList_init (d + 3) 0 [xR x0] [] h Q X := by
  have hnx9 : (93 : Int) ≤ xnx h := F.2.2
  refine xr_aload_n (pc := 0) (i := 0) (hI := d_AbstractList_init_0) (hi := rfl) (hl := rfl) ?_
  obtain ⟨c9, hyp⟩ := hyp
  refine xq_callI (pc := 1) (index := 1) (K := m_AbstractCollection_init) (As := []) (S := []) (L0 := [xR x0]) (hI := d_AbstractList_init_1) (hK := k_AbstractCollection_init) (hlk := w_95) (hnoM := rfl) (hS8 := Nat.le_of_ble_eq_true rfl) (hb0 := c9) (hinst := w_96) (hname := rfl) (hret := rfl) (hlen := Nat.le_of_ble_eq_true rfl) (hst := rfl) (hL0 := rfl)  ?_
  refine xr_aload_n (pc := 0) (i := 0) (hI := d_AbstractCollection_init_0) (hi := rfl) (hl := rfl) ?_
  obtain ⟨c9, hyp⟩ := hyp
  refine xr_objInit (pc := 1) (hI := d_AbstractCollection_init_1) w_98 w_46 w_objc c9 (Nat.le_add_left_of_le (by decide)) (Nat.le_of_ble_eq_true rfl) ?_
  refine xr_return (S := []) (pc := 4) (hI := d_AbstractCollection_init_4) (hr := rfl) ?_
  show xwp G m_AbstractList_init (d + 3) 4 [xR x0] [] _ _ _
  refine xr_aload_n (pc := 4) (i := 0) (hI := d_AbstractList_init_4) (hi := rfl) (hl := rfl) ?_
  refine xr_iconst (pc := 5) (hI := d_AbstractList_init_5) (hr := by decide) ?_
  obtain ⟨c9, hyp⟩ := hyp
  have t1_ := c9
  clear c9
  obtain ⟨c2_, hyp⟩ := hyp
  refine xr_putf (pc := 6) (ci := 13) (k := 2) (N := 3) (v9 := 0) (T := xF13) (tF := xT13) (hI := d_AbstractList_init_6) (hw := w_103) rfl xi13 xt13 xn13 (Or.inl rfl) (Nat.le_of_ble_eq_true rfl) (Nat.le_of_ble_eq_true rfl) rfl xfit_i rfl t1_ c2_ (fun z => z) ?_
  have F3_ : xFix (xst h x0 2 0) := F.stT (t := 13) c2_ t1_ xtk_13_2
  refine xr_return (S := []) (pc := 9) (hI := d_AbstractList_init_9) (hr := rfl) ?_
  exact hyp F3_
abbrev m_ArrayList_init : XM := (⟨"java/util/ArrayList", "<init>", "()V"⟩, prog_43_method_2_code, 1, none, [])
theorem d_ArrayList_init_0 : decode prog_43_method_2_code 0 = .ok (.aload_n 0, 1) := by decide +kernel
theorem d_ArrayList_init_1 : decode prog_43_method_2_code 1 = .ok (.invokespecial 1, 3) := by decide +kernel
theorem w_5 : Cond.initialized "java/util/AbstractList" ∈ lw_tbl := List.mem_append_right _ (List.mem_of_getElem? (i := 5) (by decide +kernel))
theorem k_AbstractList_init : xCal m_AbstractList_init 0 := ⟨List.mem_append_right _ (List.mem_of_getElem? (i := 94) (by decide +kernel)), w_5, Nat.le_of_ble_eq_true rfl, ⟨by decide +kernel, by decide +kernel⟩, by decide +kernel, by decide +kernel, rfl⟩
theorem w_93 : Cond.instanceMethod ⟨"java/util/AbstractList", "<init>", "()V"⟩ ∈ lw_tbl := List.mem_append_right _ (List.mem_of_getElem? (i := 93) (by decide +kernel))
theorem w_92 : Cond.methodLink "java/util/ArrayList" 1 ⟨"java/util/AbstractList", "<init>", "()V"⟩ ∈ lw_tbl := List.mem_append_right _ (List.mem_of_getElem? (i := 92) (by decide +kernel))
theorem d_ArrayList_init_4 : decode prog_43_method_2_code 4 = .ok (.aload_n 0, 1) := by decide +kernel
theorem d_ArrayList_init_5 : decode prog_43_method_2_code 5 = .ok (.getstatic 39, 3) := by decide +kernel
theorem d_ArrayList_init_8 : decode prog_43_method_2_code 8 = .ok (.putfield 9, 3) := by decide +kernel
theorem d_ArrayList_init_11 : decode prog_43_method_2_code 11 = .ok (.return_, 1) := by decide +kernel
theorem v_ArrayList_init_0 {G : XG} {d : Nat} {h : XH} {Q : XV → XH → Prop} {X : Nat → XH → Prop} {x0 : Int} (F : xFix h) (hyp : -1 < x0 ∧ -1 < x0 ∧ 0 ≤ x0 ∧ xtg h x0 = 13 ∧ 0 ≤ x0 ∧ (xFix (xst (xst h x0 2 0) x0 0 (-103)) → Q xN (xst (xst h x0 2 0) x0 0 (-103)))) : xwp G m_ArrayList_init (d + 4) 0 [xR x0] [] h Q X := by
  have hnx9 : (93 : Int) ≤ xnx h := F.2.2
  refine xr_aload_n (pc := 0) (i := 0) (hI := d_ArrayList_init_0) (hi := rfl) (hl := rfl) ?_
  obtain ⟨c9, hyp⟩ := hyp
  refine xq_callI (pc := 1) (index := 1) (K := m_AbstractList_init) (As := []) (S := []) (L0 := [xR x0]) (hI := d_ArrayList_init_1) (hK := k_AbstractList_init) (hlk := w_92) (hnoM := rfl) (hS8 := Nat.le_of_ble_eq_true rfl) (hb0 := c9) (hinst := w_93) (hname := rfl) (hret := rfl) (hlen := Nat.le_of_ble_eq_true rfl) (hst := rfl) (hL0 := rfl)  ?_
  refine xr_aload_n (pc := 0) (i := 0) (hI := d_AbstractList_init_0) (hi := rfl) (hl := rfl) ?_
  obtain ⟨c9, hyp⟩ := hyp
  refine xq_callI (pc := 1) (index := 1) (K := m_AbstractCollection_init) (As := []) (S := []) (L0 := [xR x0]) (hI := d_AbstractList_init_1) (hK := k_AbstractCollection_init) (hlk := w_95) (hnoM := rfl) (hS8 := Nat.le_of_ble_eq_true rfl) (hb0 := c9) (hinst := w_96) (hname := rfl) (hret := rfl) (hlen := Nat.le_of_ble_eq_true rfl) (hst := rfl) (hL0 := rfl)  ?_
  refine xr_aload_n (pc := 0) (i := 0) (hI := d_AbstractCollection_init_0) (hi := rfl) (hl := rfl) ?_
  obtain ⟨c9, hyp⟩ := hyp
  refine xr_objInit (pc := 1) (hI := d_AbstractCollection_init_1) w_98 w_46 w_objc c9 (Nat.le_add_left_of_le (by decide)) (Nat.le_of_ble_eq_true rfl) ?_
  refine xr_return (S := []) (pc := 4) (hI := d_AbstractCollection_init_4) (hr := rfl) ?_
  show xwp G m_AbstractList_init (d + 3) 4 [xR x0] [] _ _ _
  refine xr_aload_n (pc := 4) (i := 0) (hI := d_AbstractList_init_4) (hi := rfl) (hl := rfl) ?_
  refine xr_iconst (pc := 5) (hI := d_AbstractList_init_5) (hr := by decide) ?_
  obtain ⟨c9, hyp⟩ := hyp
  have t1_ := c9
  clear c9
  obtain ⟨c2_, hyp⟩ := hyp
  refine xr_putf (pc := 6) (ci := 13) (k := 2) (N := 3) (v9 := 0) (T := xF13) (tF := xT13) (hI := d_AbstractList_init_6) (hw := w_103) rfl xi13 xt13 xn13 (Or.inl rfl) (Nat.le_of_ble_eq_true rfl) (Nat.le_of_ble_eq_true rfl) rfl xfit_i rfl t1_ c2_ (fun z => z) ?_
  have F3_ : xFix (xst h x0 2 0) := F.stT (t := 13) c2_ t1_ xtk_13_2
  refine xr_return (S := []) (pc := 9) (hI := d_AbstractList_init_9) (hr := rfl) ?_
  show xwp G m_ArrayList_init (d + 4) 4 [xR x0] [] _ _ _
  refine xr_aload_n (pc := 4) (i := 0) (hI := d_ArrayList_init_4) (hi := rfl) (hl := rfl) ?_
  refine xr_getstatic (pc := 5) (v := xR (-103)) (hI := d_ArrayList_init_5) w_99 (by decide +kernel) (by exact trivial) ?_
  refine xr_putf (pc := 8) (ci := 13) (k := 0) (N := 3) (v9 := 2) (T := xF13) (tF := xT13) (hI := d_ArrayList_init_8) (hw := w_101) rfl xi13 xt13 xn13 (Or.inl rfl) (Nat.le_of_ble_eq_true rfl) (Nat.le_of_ble_eq_true rfl) rfl (xfit_a _) rfl t1_ (by clear hyp; omega) (fun z => z) ?_
  have F4_ : xFix (xst (xst h x0 2 0) x0 0 (-103)) := F3_.stT (t := 13) (by clear hyp; omega) t1_ xtk_13_0
  refine xr_return (S := []) (pc := 11) (hI := d_ArrayList_init_11) (hr := rfl) ?_
  exact hyp F4_
end
