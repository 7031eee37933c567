/-! ===== lawvc ===== -/
section
/-! the law's loop: the walks -/
abbrev m_W_law (nm9 : String) (hq9 : List (Nat × Nat × Nat × Nat)) : XM := (⟨"BeaconIndexLaw", nm9, "([I)Z"⟩, code, 9, (Option.some Jvm.ClassFile.FieldType.boolean), hq9)
theorem d_W_law_28 : decode code 28 = .ok (.iload 5, 2) := by decide +kernel
theorem d_W_law_30 : decode code 30 = .ok (.aload_n 0, 1) := by decide +kernel
theorem d_W_law_31 : decode code 31 = .ok (.arraylength, 1) := by decide +kernel
theorem d_W_law_32 : decode code 32 = .ok (.bipush 6, 2) := by decide +kernel
theorem d_W_law_34 : decode code 34 = .ok (.isub, 1) := by decide +kernel
theorem d_W_law_35 : decode code 35 = .ok (.if_icmp .gt 1989, 3) := by decide +kernel
theorem d_W_law_38 : decode code 38 = .ok (.aload_n 0, 1) := by decide +kernel
theorem d_W_law_39 : decode code 39 = .ok (.iload 5, 2) := by decide +kernel
theorem d_W_law_41 : decode code 41 = .ok (.iaload, 1) := by decide +kernel
theorem d_W_law_42 : decode code 42 = .ok (.bipush 63, 2) := by decide +kernel
theorem d_W_law_44 : decode code 44 = .ok (.iand, 1) := by decide +kernel
theorem d_W_law_45 : decode code 45 = .ok (.tableswitch 1973 0 36 #[163, 267, 323, 403, 466, 479, 492, 505, 518, 531, 544, 600, 656, 712, 780, 848, 923, 1003, 1059, 1115, 1128, 1184, 1240, 1308, 1364, 1377, 1390, 1434, 1478, 1534, 1590, 1646, 1702, 1770, 1826, 1894, 1959], 163) := by decide +kernel
theorem v_W_law_28 {G : XG} {d : Nat} {h : XH} {Q : XV → XH → Prop} {X : Nat → XH → Prop} {x5 : Int} {n9 : Nat} {xs : Nat → Int32} {nm9 : String} {hq9 : List (Nat × Nat × Nat × Nat)} (SC : SCR G n9 xs) (F : xFix h) (hyp : ((((n9 : Int) - 6) < x5 → (xwp G (m_W_law nm9 hq9) (d + 220) 2024 [xZ, xZ, xZ, xZ, xZ, xZ, xZ, xZ, xZ] [] h Q X)) ∧ (¬ ((n9 : Int) - 6) < x5 → 0 ≤ x5 ∧ x5 < (n9 : Int) ∧ (((xand (scV xs x5) 63) < 0 ∨ 36 < (xand (scV xs x5) 63) → (xwp G (m_W_law nm9 hq9) (d + 220) 2018 [xR (-108), xR 0, xR 53, xR 91, xR 92, xI x5, xZ, xZ, xZ] [] h Q X)) ∧ ((xand (scV xs x5) 63) = 0 → (xwp G (m_W_law nm9 hq9) (d + 220) 208 [xR (-108), xR 0, xR 53, xR 91, xR 92, xI x5, xZ, xZ, xZ] [] h Q X)) ∧ ((xand (scV xs x5) 63) = 1 → (xwp G (m_W_law nm9 hq9) (d + 220) 312 [xR (-108), xR 0, xR 53, xR 91, xR 92, xI x5, xZ, xZ, xZ] [] h Q X)) ∧ ((xand (scV xs x5) 63) = 2 → (xwp G (m_W_law nm9 hq9) (d + 220) 368 [xR (-108), xR 0, xR 53, xR 91, xR 92, xI x5, xZ, xZ, xZ] [] h Q X)) ∧ ((xand (scV xs x5) 63) = 3 → (xwp G (m_W_law nm9 hq9) (d + 220) 448 [xR (-108), xR 0, xR 53, xR 91, xR 92, xI x5, xZ, xZ, xZ] [] h Q X)) ∧ ((xand (scV xs x5) 63) = 4 → (xwp G (m_W_law nm9 hq9) (d + 220) 511 [xR (-108), xR 0, xR 53, xR 91, xR 92, xI x5, xZ, xZ, xZ] [] h Q X)) ∧ ((xand (scV xs x5) 63) = 5 → (xwp G (m_W_law nm9 hq9) (d + 220) 524 [xR (-108), xR 0, xR 53, xR 91, xR 92, xI x5, xZ, xZ, xZ] [] h Q X)) ∧ ((xand (scV xs x5) 63) = 6 → (xwp G (m_W_law nm9 hq9) (d + 220) 537 [xR (-108), xR 0, xR 53, xR 91, xR 92, xI x5, xZ, xZ, xZ] [] h Q X)) ∧ ((xand (scV xs x5) 63) = 7 → (xwp G (m_W_law nm9 hq9) (d + 220) 550 [xR (-108), xR 0, xR 53, xR 91, xR 92, xI x5, xZ, xZ, xZ] [] h Q X)) ∧ ((xand (scV xs x5) 63) = 8 → (xwp G (m_W_law nm9 hq9) (d + 220) 563 [xR (-108), xR 0, xR 53, xR 91, xR 92, xI x5, xZ, xZ, xZ] [] h Q X)) ∧ ((xand (scV xs x5) 63) = 9 → (xwp G (m_W_law nm9 hq9) (d + 220) 576 [xR (-108), xR 0, xR 53, xR 91, xR 92, xI x5, xZ, xZ, xZ] [] h Q X)) ∧ ((xand (scV xs x5) 63) = 10 → (xwp G (m_W_law nm9 hq9) (d + 220) 589 [xR (-108), xR 0, xR 53, xR 91, xR 92, xI x5, xZ, xZ, xZ] [] h Q X)) ∧ ((xand (scV xs x5) 63) = 11 → (xwp G (m_W_law nm9 hq9) (d + 220) 645 [xR (-108), xR 0, xR 53, xR 91, xR 92, xI x5, xZ, xZ, xZ] [] h Q X)) ∧ ((xand (scV xs x5) 63) = 12 → (xwp G (m_W_law nm9 hq9) (d + 220) 701 [xR (-108), xR 0, xR 53, xR 91, xR 92, xI x5, xZ, xZ, xZ] [] h Q X)) ∧ ((xand (scV xs x5) 63) = 13 → (xwp G (m_W_law nm9 hq9) (d + 220) 757 [xR (-108), xR 0, xR 53, xR 91, xR 92, xI x5, xZ, xZ, xZ] [] h Q X)) ∧ ((xand (scV xs x5) 63) = 14 → (xwp G (m_W_law nm9 hq9) (d + 220) 825 [xR (-108), xR 0, xR 53, xR 91, xR 92, xI x5, xZ, xZ, xZ] [] h Q X)) ∧ ((xand (scV xs x5) 63) = 15 → (xwp G (m_W_law nm9 hq9) (d + 220) 893 [xR (-108), xR 0, xR 53, xR 91, xR 92, xI x5, xZ, xZ, xZ] [] h Q X)) ∧ ((xand (scV xs x5) 63) = 16 → (xwp G (m_W_law nm9 hq9) (d + 220) 968 [xR (-108), xR 0, xR 53, xR 91, xR 92, xI x5, xZ, xZ, xZ] [] h Q X)) ∧ ((xand (scV xs x5) 63) = 17 → (xwp G (m_W_law nm9 hq9) (d + 220) 1048 [xR (-108), xR 0, xR 53, xR 91, xR 92, xI x5, xZ, xZ, xZ] [] h Q X)) ∧ ((xand (scV xs x5) 63) = 18 → (xwp G (m_W_law nm9 hq9) (d + 220) 1104 [xR (-108), xR 0, xR 53, xR 91, xR 92, xI x5, xZ, xZ, xZ] [] h Q X)) ∧ ((xand (scV xs x5) 63) = 19 → (xwp G (m_W_law nm9 hq9) (d + 220) 1160 [xR (-108), xR 0, xR 53, xR 91, xR 92, xI x5, xZ, xZ, xZ] [] h Q X)) ∧ ((xand (scV xs x5) 63) = 20 → (xwp G (m_W_law nm9 hq9) (d + 220) 1173 [xR (-108), xR 0, xR 53, xR 91, xR 92, xI x5, xZ, xZ, xZ] [] h Q X)) ∧ ((xand (scV xs x5) 63) = 21 → (xwp G (m_W_law nm9 hq9) (d + 220) 1229 [xR (-108), xR 0, xR 53, xR 91, xR 92, xI x5, xZ, xZ, xZ] [] h Q X)) ∧ ((xand (scV xs x5) 63) = 22 → (xwp G (m_W_law nm9 hq9) (d + 220) 1285 [xR (-108), xR 0, xR 53, xR 91, xR 92, xI x5, xZ, xZ, xZ] [] h Q X)) ∧ ((xand (scV xs x5) 63) = 23 → (xwp G (m_W_law nm9 hq9) (d + 220) 1353 [xR (-108), xR 0, xR 53, xR 91, xR 92, xI x5, xZ, xZ, xZ] [] h Q X)) ∧ ((xand (scV xs x5) 63) = 24 → (xwp G (m_W_law nm9 hq9) (d + 220) 1409 [xR (-108), xR 0, xR 53, xR 91, xR 92, xI x5, xZ, xZ, xZ] [] h Q X)) ∧ ((xand (scV xs x5) 63) = 25 → (xwp G (m_W_law nm9 hq9) (d + 220) 1422 [xR (-108), xR 0, xR 53, xR 91, xR 92, xI x5, xZ, xZ, xZ] [] h Q X)) ∧ ((xand (scV xs x5) 63) = 26 → (xwp G (m_W_law nm9 hq9) (d + 220) 1435 [xR (-108), xR 0, xR 53, xR 91, xR 92, xI x5, xZ, xZ, xZ] [] h Q X)) ∧ ((xand (scV xs x5) 63) = 27 → (xwp G (m_W_law nm9 hq9) (d + 220) 1479 [xR (-108), xR 0, xR 53, xR 91, xR 92, xI x5, xZ, xZ, xZ] [] h Q X)) ∧ ((xand (scV xs x5) 63) = 28 → (xwp G (m_W_law nm9 hq9) (d + 220) 1523 [xR (-108), xR 0, xR 53, xR 91, xR 92, xI x5, xZ, xZ, xZ] [] h Q X)) ∧ ((xand (scV xs x5) 63) = 29 → (xwp G (m_W_law nm9 hq9) (d + 220) 1579 [xR (-108), xR 0, xR 53, xR 91, xR 92, xI x5, xZ, xZ, xZ] [] h Q X)) ∧ ((xand (scV xs x5) 63) = 30 → (xwp G (m_W_law nm9 hq9) (d + 220) 1635 [xR (-108), xR 0, xR 53, xR 91, xR 92, xI x5, xZ, xZ, xZ] [] h Q X)) ∧ ((xand (scV xs x5) 63) = 31 → (xwp G (m_W_law nm9 hq9) (d + 220) 1691 [xR (-108), xR 0, xR 53, xR 91, xR 92, xI x5, xZ, xZ, xZ] [] h Q X)) ∧ ((xand (scV xs x5) 63) = 32 → (xwp G (m_W_law nm9 hq9) (d + 220) 1747 [xR (-108), xR 0, xR 53, xR 91, xR 92, xI x5, xZ, xZ, xZ] [] h Q X)) ∧ ((xand (scV xs x5) 63) = 33 → (xwp G (m_W_law nm9 hq9) (d + 220) 1815 [xR (-108), xR 0, xR 53, xR 91, xR 92, xI x5, xZ, xZ, xZ] [] h Q X)) ∧ ((xand (scV xs x5) 63) = 34 → (xwp G (m_W_law nm9 hq9) (d + 220) 1871 [xR (-108), xR 0, xR 53, xR 91, xR 92, xI x5, xZ, xZ, xZ] [] h Q X)) ∧ ((xand (scV xs x5) 63) = 35 → (xwp G (m_W_law nm9 hq9) (d + 220) 1939 [xR (-108), xR 0, xR 53, xR 91, xR 92, xI x5, xZ, xZ, xZ] [] h Q X)) ∧ ((xand (scV xs x5) 63) = 36 → (xwp G (m_W_law nm9 hq9) (d + 220) 2004 [xR (-108), xR 0, xR 53, xR 91, xR 92, xI x5, xZ, xZ, xZ] [] h Q X)))))) : xwp G (m_W_law nm9 hq9) (d + 220) 28 [xR (-108), xR 0, xR 53, xR 91, xR 92, xI x5, xZ, xZ, xZ] [] h Q X := by
  have hnx9 : (93 : Int) ≤ xnx h := F.2.2
  refine xr_okL (fun hl9 => ?_)
  have r_x5 : -2147483648 ≤ x5 ∧ x5 ≤ 2147483647 := hl9 (xI x5) (.tail _ (.tail _ (.tail _ (.tail _ (.tail _ (.head _)))))) (Nat.le_of_ble_eq_true rfl)
  refine xr_iload (pc := 28) (i := 5) (hI := d_W_law_28) (hl := rfl) ?_
  refine xr_aload_n (pc := 30) (i := 0) (hI := d_W_law_30) (hi := rfl) (hl := rfl) ?_
  refine xr_slen (pc := 31) SC (hI := d_W_law_31) ?_
  have f1_ : 0 ≤ (n9 : Int) ∧ (n9 : Int) ≤ 3072 := ⟨Int.natCast_nonneg _, Int.ofNat_le.mpr SC.2.2⟩
  refine xr_bipush (pc := 32) (hI := d_W_law_32) (hr := by decide) (hv := by decide) ?_
  refine xr_isub (pc := 34) (hI := d_W_law_34) (hr := ⟨by clear hyp; omega, by clear hyp; omega⟩) ?_
  refine xr_icmp_gt (pc := 35) (tgt := 2024) (hI := d_W_law_35) (ht := by decide) (fun q9 => ?_) (fun q9 => ?_)
  · replace hyp := hyp.1 q9
    have q2_ := q9
    clear q9
    exact xr_drop (L9 := [xZ, xZ, xZ, xZ, xZ, xZ, xZ, xZ, xZ]) (xdrz (xdrz (xdrz (xdrz (xdrz (xdrz (xdrs (xdrs (xdrs xdr0))))))))) hyp
  · replace hyp := hyp.2 q9
    have q2_ := q9
    clear q9
    refine xr_aload_n (pc := 38) (i := 0) (hI := d_W_law_38) (hi := rfl) (hl := rfl) ?_
    refine xr_iload (pc := 39) (i := 5) (hI := d_W_law_39) (hl := rfl) ?_
    obtain ⟨c8, c9, hyp⟩ := hyp
    refine xr_scd (pc := 41) SC (hI := d_W_law_41) c8 c9 ?_
    have f3_ : -2147483648 ≤ (scV xs x5) ∧ (scV xs x5) ≤ 2147483647 := xi_toR _
    refine xr_bipush (pc := 42) (hI := d_W_law_42) (hr := by decide) (hv := by decide) ?_
    refine xr_iand (pc := 44) (hI := d_W_law_44) ?_
    have f4_ : -2147483648 ≤ (xand (scV xs x5) 63) ∧ (xand (scV xs x5) 63) ≤ 2147483647 := xi_toR _
    have f5_ : 0 ≤ (xand (scV xs x5) 63) ∧ (xand (scV xs x5) 63) ≤ 63 := xand_rng63 _
    by_cases q9 : (xand (scV xs x5) 63) < 0 ∨ 36 < (xand (scV xs x5) 63)
    · replace hyp := hyp.1 q9
      refine xr_tsw_out (pc := 45) (tgt := 2018) (hI := d_W_law_45) q9 (ht := by decide) ?_
      exact hyp
    replace hyp := hyp.2
    have q8 : 0 ≤ (xand (scV xs x5) 63) ∧ (xand (scV xs x5) 63) ≤ 36 := ⟨by clear hyp; omega, by clear hyp; omega⟩
    by_cases q9 : (xand (scV xs x5) 63) = 0
    · replace hyp := hyp.1 q9
      refine xr_tsw_in (pc := 45) 0 (tgt := 208) (hI := d_W_law_45) (by clear hyp; omega) q8.2 rfl (ht := by decide) ?_
      clear q8
      exact hyp
    replace hyp := hyp.2
    by_cases q9 : (xand (scV xs x5) 63) = 1
    · replace hyp := hyp.1 q9
      refine xr_tsw_in (pc := 45) 1 (tgt := 312) (hI := d_W_law_45) (by clear hyp; omega) q8.2 rfl (ht := by decide) ?_
      clear q8
      exact hyp
    replace hyp := hyp.2
    by_cases q9 : (xand (scV xs x5) 63) = 2
    · replace hyp := hyp.1 q9
      refine xr_tsw_in (pc := 45) 2 (tgt := 368) (hI := d_W_law_45) (by clear hyp; omega) q8.2 rfl (ht := by decide) ?_
      clear q8
      exact hyp
    replace hyp := hyp.2
    by_cases q9 : (xand (scV xs x5) 63) = 3
    · replace hyp := hyp.1 q9
      refine xr_tsw_in (pc := 45) 3 (tgt := 448) (hI := d_W_law_45) (by clear hyp; omega) q8.2 rfl (ht := by decide) ?_
      clear q8
      exact hyp
    replace hyp := hyp.2
    by_cases q9 : (xand (scV xs x5) 63) = 4
    · replace hyp := hyp.1 q9
      refine xr_tsw_in (pc := 45) 4 (tgt := 511) (hI := d_W_law_45) (by clear hyp; omega) q8.2 rfl (ht := by decide) ?_
      clear q8
      exact hyp
    replace hyp := hyp.2
    by_cases q9 : (xand (scV xs x5) 63) = 5
    · replace hyp := hyp.1 q9
      refine xr_tsw_in (pc := 45) 5 (tgt := 524) (hI := d_W_law_45) (by clear hyp; omega) q8.2 rfl (ht := by decide) ?_
      clear q8
      exact hyp
    replace hyp := hyp.2
    by_cases q9 : (xand (scV xs x5) 63) = 6
    · replace hyp := hyp.1 q9
      refine xr_tsw_in (pc := 45) 6 (tgt := 537) (hI := d_W_law_45) (by clear hyp; omega) q8.2 rfl (ht := by decide) ?_
      clear q8
      exact hyp
    replace hyp := hyp.2
    by_cases q9 : (xand (scV xs x5) 63) = 7
    · replace hyp := hyp.1 q9
      refine xr_tsw_in (pc := 45) 7 (tgt := 550) (hI := d_W_law_45) (by clear hyp; omega) q8.2 rfl (ht := by decide) ?_
      clear q8
      exact hyp
    replace hyp := hyp.2
    by_cases q9 : (xand (scV xs x5) 63) = 8
    · replace hyp := hyp.1 q9
      refine xr_tsw_in (pc := 45) 8 (tgt := 563) (hI := d_W_law_45) (by clear hyp; omega) q8.2 rfl (ht := by decide) ?_
      clear q8
      exact hyp
    replace hyp := hyp.2
    by_cases q9 : (xand (scV xs x5) 63) = 9
    · replace hyp := hyp.1 q9
      refine xr_tsw_in (pc := 45) 9 (tgt := 576) (hI := d_W_law_45) (by clear hyp; omega) q8.2 rfl (ht := by decide) ?_
      clear q8
      exact hyp
    replace hyp := hyp.2
    by_cases q9 : (xand (scV xs x5) 63) = 10
    · replace hyp := hyp.1 q9
      refine xr_tsw_in (pc := 45) 10 (tgt := 589) (hI := d_W_law_45) (by clear hyp; omega) q8.2 rfl (ht := by decide) ?_
      clear q8
      exact hyp
    replace hyp := hyp.2
    by_cases q9 : (xand (scV xs x5) 63) = 11
    · replace hyp := hyp.1 q9
      refine xr_tsw_in (pc := 45) 11 (tgt := 645) (hI := d_W_law_45) (by clear hyp; omega) q8.2 rfl (ht := by decide) ?_
      clear q8
      exact hyp
    replace hyp := hyp.2
    by_cases q9 : (xand (scV xs x5) 63) = 12
    · replace hyp := hyp.1 q9
      refine xr_tsw_in (pc := 45) 12 (tgt := 701) (hI := d_W_law_45) (by clear hyp; omega) q8.2 rfl (ht := by decide) ?_
      clear q8
      exact hyp
    replace hyp := hyp.2
    by_cases q9 : (xand (scV xs x5) 63) = 13
    · replace hyp := hyp.1 q9
      refine xr_tsw_in (pc := 45) 13 (tgt := 757) (hI := d_W_law_45) (by clear hyp; omega) q8.2 rfl (ht := by decide) ?_
      clear q8
      exact hyp
    replace hyp := hyp.2
    by_cases q9 : (xand (scV xs x5) 63) = 14
    · replace hyp := hyp.1 q9
      refine xr_tsw_in (pc := 45) 14 (tgt := 825) (hI := d_W_law_45) (by clear hyp; omega) q8.2 rfl (ht := by decide) ?_
      clear q8
      exact hyp
    replace hyp := hyp.2
    by_cases q9 : (xand (scV xs x5) 63) = 15
    · replace hyp := hyp.1 q9
      refine xr_tsw_in (pc := 45) 15 (tgt := 893) (hI := d_W_law_45) (by clear hyp; omega) q8.2 rfl (ht := by decide) ?_
      clear q8
      exact hyp
    replace hyp := hyp.2
    by_cases q9 : (xand (scV xs x5) 63) = 16
    · replace hyp := hyp.1 q9
      refine xr_tsw_in (pc := 45) 16 (tgt := 968) (hI := d_W_law_45) (by clear hyp; omega) q8.2 rfl (ht := by decide) ?_
      clear q8
      exact hyp
    replace hyp := hyp.2
    by_cases q9 : (xand (scV xs x5) 63) = 17
    · replace hyp := hyp.1 q9
      refine xr_tsw_in (pc := 45) 17 (tgt := 1048) (hI := d_W_law_45) (by clear hyp; omega) q8.2 rfl (ht := by decide) ?_
      clear q8
      exact hyp
    replace hyp := hyp.2
    by_cases q9 : (xand (scV xs x5) 63) = 18
    · replace hyp := hyp.1 q9
      refine xr_tsw_in (pc := 45) 18 (tgt := 1104) (hI := d_W_law_45) (by clear hyp; omega) q8.2 rfl (ht := by decide) ?_
      clear q8
      exact hyp
    replace hyp := hyp.2
    by_cases q9 : (xand (scV xs x5) 63) = 19
    · replace hyp := hyp.1 q9
      refine xr_tsw_in (pc := 45) 19 (tgt := 1160) (hI := d_W_law_45) (by clear hyp; omega) q8.2 rfl (ht := by decide) ?_
      clear q8
      exact hyp
    replace hyp := hyp.2
    by_cases q9 : (xand (scV xs x5) 63) = 20
    · replace hyp := hyp.1 q9
      refine xr_tsw_in (pc := 45) 20 (tgt := 1173) (hI := d_W_law_45) (by clear hyp; omega) q8.2 rfl (ht := by decide) ?_
      clear q8
      exact hyp
    replace hyp := hyp.2
    by_cases q9 : (xand (scV xs x5) 63) = 21
    · replace hyp := hyp.1 q9
      refine xr_tsw_in (pc := 45) 21 (tgt := 1229) (hI := d_W_law_45) (by clear hyp; omega) q8.2 rfl (ht := by decide) ?_
      clear q8
      exact hyp
    replace hyp := hyp.2
    by_cases q9 : (xand (scV xs x5) 63) = 22
    · replace hyp := hyp.1 q9
      refine xr_tsw_in (pc := 45) 22 (tgt := 1285) (hI := d_W_law_45) (by clear hyp; omega) q8.2 rfl (ht := by decide) ?_
      clear q8
      exact hyp
    replace hyp := hyp.2
    by_cases q9 : (xand (scV xs x5) 63) = 23
    · replace hyp := hyp.1 q9
      refine xr_tsw_in (pc := 45) 23 (tgt := 1353) (hI := d_W_law_45) (by clear hyp; omega) q8.2 rfl (ht := by decide) ?_
      clear q8
      exact hyp
    replace hyp := hyp.2
    by_cases q9 : (xand (scV xs x5) 63) = 24
    · replace hyp := hyp.1 q9
      refine xr_tsw_in (pc := 45) 24 (tgt := 1409) (hI := d_W_law_45) (by clear hyp; omega) q8.2 rfl (ht := by decide) ?_
      clear q8
      exact hyp
    replace hyp := hyp.2
    by_cases q9 : (xand (scV xs x5) 63) = 25
    · replace hyp := hyp.1 q9
      refine xr_tsw_in (pc := 45) 25 (tgt := 1422) (hI := d_W_law_45) (by clear hyp; omega) q8.2 rfl (ht := by decide) ?_
      clear q8
      exact hyp
    replace hyp := hyp.2
    by_cases q9 : (xand (scV xs x5) 63) = 26
    · replace hyp := hyp.1 q9
      refine xr_tsw_in (pc := 45) 26 (tgt := 1435) (hI := d_W_law_45) (by clear hyp; omega) q8.2 rfl (ht := by decide) ?_
      clear q8
      exact hyp
    replace hyp := hyp.2
    by_cases q9 : (xand (scV xs x5) 63) = 27
    · replace hyp := hyp.1 q9
      refine xr_tsw_in (pc := 45) 27 (tgt := 1479) (hI := d_W_law_45) (by clear hyp; omega) q8.2 rfl (ht := by decide) ?_
      clear q8
      exact hyp
    replace hyp := hyp.2
    by_cases q9 : (xand (scV xs x5) 63) = 28
    · replace hyp := hyp.1 q9
      refine xr_tsw_in (pc := 45) 28 (tgt := 1523) (hI := d_W_law_45) (by clear hyp; omega) q8.2 rfl (ht := by decide) ?_
      clear q8
      exact hyp
    replace hyp := hyp.2
    by_cases q9 : (xand (scV xs x5) 63) = 29
    · replace hyp := hyp.1 q9
      refine xr_tsw_in (pc := 45) 29 (tgt := 1579) (hI := d_W_law_45) (by clear hyp; omega) q8.2 rfl (ht := by decide) ?_
      clear q8
      exact hyp
    replace hyp := hyp.2
    by_cases q9 : (xand (scV xs x5) 63) = 30
    · replace hyp := hyp.1 q9
      refine xr_tsw_in (pc := 45) 30 (tgt := 1635) (hI := d_W_law_45) (by clear hyp; omega) q8.2 rfl (ht := by decide) ?_
      clear q8
      exact hyp
    replace hyp := hyp.2
    by_cases q9 : (xand (scV xs x5) 63) = 31
    · replace hyp := hyp.1 q9
      refine xr_tsw_in (pc := 45) 31 (tgt := 1691) (hI := d_W_law_45) (by clear hyp; omega) q8.2 rfl (ht := by decide) ?_
      clear q8
      exact hyp
    replace hyp := hyp.2
    by_cases q9 : (xand (scV xs x5) 63) = 32
    · replace hyp := hyp.1 q9
      refine xr_tsw_in (pc := 45) 32 (tgt := 1747) (hI := d_W_law_45) (by clear hyp; omega) q8.2 rfl (ht := by decide) ?_
      clear q8
      exact hyp
    replace hyp := hyp.2
    by_cases q9 : (xand (scV xs x5) 63) = 33
    · replace hyp := hyp.1 q9
      refine xr_tsw_in (pc := 45) 33 (tgt := 1815) (hI := d_W_law_45) (by clear hyp; omega) q8.2 rfl (ht := by decide) ?_
      clear q8
      exact hyp
    replace hyp := hyp.2
    by_cases q9 : (xand (scV xs x5) 63) = 34
    · replace hyp := hyp.1 q9
      refine xr_tsw_in (pc := 45) 34 (tgt := 1871) (hI := d_W_law_45) (by clear hyp; omega) q8.2 rfl (ht := by decide) ?_
      clear q8
      exact hyp
    replace hyp := hyp.2
    by_cases q9 : (xand (scV xs x5) 63) = 35
    · replace hyp := hyp.1 q9
      refine xr_tsw_in (pc := 45) 35 (tgt := 1939) (hI := d_W_law_45) (by clear hyp; omega) q8.2 rfl (ht := by decide) ?_
      clear q8
      exact hyp
    replace hyp := hyp.2
    have q9 : (xand (scV xs x5) 63) = 36 := (by clear hyp; omega)
    replace hyp := hyp q9
    refine xr_tsw_in (pc := 45) 36 (tgt := 2004) (hI := d_W_law_45) (by clear hyp; omega) q8.2 rfl (ht := by decide) ?_
    clear q8
    exact hyp
theorem d_W_law_208 : decode code 208 = .ok (.aload_n 1, 1) := by decide +kernel
theorem d_W_law_209 : decode code 209 = .ok (.aload_n 0, 1) := by decide +kernel
theorem d_W_law_210 : decode code 210 = .ok (.iload 5, 2) := by decide +kernel
theorem d_W_law_212 : decode code 212 = .ok (.iconst 1, 1) := by decide +kernel
theorem d_W_law_213 : decode code 213 = .ok (.iadd, 1) := by decide +kernel
theorem d_W_law_214 : decode code 214 = .ok (.iaload, 1) := by decide +kernel
theorem d_W_law_215 : decode code 215 = .ok (.aload_n 0, 1) := by decide +kernel
theorem d_W_law_216 : decode code 216 = .ok (.iload 5, 2) := by decide +kernel
theorem d_W_law_218 : decode code 218 = .ok (.iconst 2, 1) := by decide +kernel
theorem d_W_law_219 : decode code 219 = .ok (.iadd, 1) := by decide +kernel
theorem d_W_law_220 : decode code 220 = .ok (.iaload, 1) := by decide +kernel
theorem d_W_law_221 : decode code 221 = .ok (.aload_n 0, 1) := by decide +kernel
theorem d_W_law_222 : decode code 222 = .ok (.iload 5, 2) := by decide +kernel
theorem d_W_law_224 : decode code 224 = .ok (.iconst 3, 1) := by decide +kernel
theorem d_W_law_225 : decode code 225 = .ok (.iadd, 1) := by decide +kernel
theorem d_W_law_226 : decode code 226 = .ok (.iaload, 1) := by decide +kernel
theorem d_W_law_227 : decode code 227 = .ok (.aload_n 0, 1) := by decide +kernel
theorem d_W_law_228 : decode code 228 = .ok (.iload 5, 2) := by decide +kernel
theorem d_W_law_230 : decode code 230 = .ok (.iconst 4, 1) := by decide +kernel
theorem d_W_law_231 : decode code 231 = .ok (.iadd, 1) := by decide +kernel
theorem d_W_law_232 : decode code 232 = .ok (.iaload, 1) := by decide +kernel
theorem d_W_law_233 : decode code 233 = .ok (.aload_n 0, 1) := by decide +kernel
theorem d_W_law_234 : decode code 234 = .ok (.iload 5, 2) := by decide +kernel
theorem d_W_law_236 : decode code 236 = .ok (.iconst 5, 1) := by decide +kernel
theorem d_W_law_237 : decode code 237 = .ok (.iadd, 1) := by decide +kernel
theorem d_W_law_238 : decode code 238 = .ok (.iaload, 1) := by decide +kernel
theorem d_W_law_239 : decode code 239 = .ok (.aload_n 3, 1) := by decide +kernel
theorem d_W_law_240 : decode code 240 = .ok (.invokestatic 108, 3) := by decide +kernel
theorem w_0 : Cond.initialized "BeaconIndexLaw" ∈ lw_tbl := List.mem_append_right _ (List.mem_of_getElem? (i := 0) (by decide +kernel))
theorem k_W_feed : xCalH m_W_feed 7 := ⟨List.mem_append_right _ (List.mem_of_getElem? (i := 1340) (by decide +kernel)), w_0, Nat.le_of_ble_eq_true rfl, ⟨by decide +kernel, by decide +kernel⟩, by decide +kernel, by decide +kernel⟩
theorem w_1338 : Cond.methodLink "BeaconIndexLaw" 108 ⟨"BeaconIndexLaw", "feed", "(LBeaconIndex;IIIII[J)I"⟩ ∈ lw_tbl := List.mem_append_right _ (List.mem_of_getElem? (i := 1338) (by decide +kernel))
theorem w_1339 : Cond.static ⟨"BeaconIndexLaw", "feed", "(LBeaconIndex;IIIII[J)I"⟩ ∈ lw_tbl := List.mem_append_right _ (List.mem_of_getElem? (i := 1339) (by decide +kernel))
theorem v_W_law_208 {G : XG} {d : Nat} {h : XH} {Q : XV → XH → Prop} {X : Nat → XH → Prop} {x5 : Int} {n9 : Nat} {xs : Nat → Int32} {nm9 : String} {hq9 : List (Nat × Nat × Nat × Nat)} (SC : SCR G n9 xs) (F : xFix h) (hyp : xiR (x5 + 1) ∧ 0 ≤ (x5 + 1) ∧ (x5 + 1) < (n9 : Int) ∧ xiR (x5 + 2) ∧ 0 ≤ (x5 + 2) ∧ (x5 + 2) < (n9 : Int) ∧ xiR (x5 + 3) ∧ 0 ≤ (x5 + 3) ∧ (x5 + 3) < (n9 : Int) ∧ xiR (x5 + 4) ∧ 0 ≤ (x5 + 4) ∧ (x5 + 4) < (n9 : Int) ∧ xiR (x5 + 5) ∧ 0 ≤ (x5 + 5) ∧ (x5 + 5) < (n9 : Int) ∧ (xwp G m_W_feed (d + 219) 0 [xR 0, xI (scV xs (x5 + 1)), xI (scV xs (x5 + 2)), xI (scV xs (x5 + 3)), xI (scV xs (x5 + 4)), xI (scV xs (x5 + 5)), xR 91, xZ] [] h (fun v9 h9 => xwp G (m_W_law nm9 hq9) (d + 220) 243 [xR (-108), xR 0, xR 53, xR 91, xR 92, xI x5, xZ, xZ, xZ] (xpush v9 []) h9 Q X) (fun _ _ => False))) : xwp G (m_W_law nm9 hq9) (d + 220) 208 [xR (-108), xR 0, xR 53, xR 91, xR 92, xI x5, xZ, xZ, xZ] [] h Q X := by
  have hnx9 : (93 : Int) ≤ xnx h := F.2.2
  refine xr_okL (fun hl9 => ?_)
  have r_x5 : -2147483648 ≤ x5 ∧ x5 ≤ 2147483647 := hl9 (xI x5) (.tail _ (.tail _ (.tail _ (.tail _ (.tail _ (.head _)))))) (Nat.le_of_ble_eq_true rfl)
  refine xr_aload_n (pc := 208) (i := 1) (hI := d_W_law_208) (hi := rfl) (hl := rfl) ?_
  refine xr_aload_n (pc := 209) (i := 0) (hI := d_W_law_209) (hi := rfl) (hl := rfl) ?_
  refine xr_iload (pc := 210) (i := 5) (hI := d_W_law_210) (hl := rfl) ?_
  refine xr_iconst (pc := 212) (hI := d_W_law_212) (hr := by decide) ?_
  obtain ⟨c9, hyp⟩ := hyp
  refine xr_iadd (pc := 213) (hI := d_W_law_213) (hr := c9) ?_
  obtain ⟨c8, c9, hyp⟩ := hyp
  refine xr_scd (pc := 214) SC (hI := d_W_law_214) c8 c9 ?_
  have f1_ : -2147483648 ≤ (scV xs (x5 + 1)) ∧ (scV xs (x5 + 1)) ≤ 2147483647 := xi_toR _
  refine xr_aload_n (pc := 215) (i := 0) (hI := d_W_law_215) (hi := rfl) (hl := rfl) ?_
  refine xr_iload (pc := 216) (i := 5) (hI := d_W_law_216) (hl := rfl) ?_
  refine xr_iconst (pc := 218) (hI := d_W_law_218) (hr := by decide) ?_
  obtain ⟨c9, hyp⟩ := hyp
  refine xr_iadd (pc := 219) (hI := d_W_law_219) (hr := c9) ?_
  obtain ⟨c8, c9, hyp⟩ := hyp
  refine xr_scd (pc := 220) SC (hI := d_W_law_220) c8 c9 ?_
  have f2_ : -2147483648 ≤ (scV xs (x5 + 2)) ∧ (scV xs (x5 + 2)) ≤ 2147483647 := xi_toR _
  refine xr_aload_n (pc := 221) (i := 0) (hI := d_W_law_221) (hi := rfl) (hl := rfl) ?_
  refine xr_iload (pc := 222) (i := 5) (hI := d_W_law_222) (hl := rfl) ?_
  refine xr_iconst (pc := 224) (hI := d_W_law_224) (hr := by decide) ?_
  obtain ⟨c9, hyp⟩ := hyp
  refine xr_iadd (pc := 225) (hI := d_W_law_225) (hr := c9) ?_
  obtain ⟨c8, c9, hyp⟩ := hyp
  refine xr_scd (pc := 226) SC (hI := d_W_law_226) c8 c9 ?_
  have f3_ : -2147483648 ≤ (scV xs (x5 + 3)) ∧ (scV xs (x5 + 3)) ≤ 2147483647 := xi_toR _
  refine xr_aload_n (pc := 227) (i := 0) (hI := d_W_law_227) (hi := rfl) (hl := rfl) ?_
  refine xr_iload (pc := 228) (i := 5) (hI := d_W_law_228) (hl := rfl) ?_
  refine xr_iconst (pc := 230) (hI := d_W_law_230) (hr := by decide) ?_
  obtain ⟨c9, hyp⟩ := hyp
  refine xr_iadd (pc := 231) (hI := d_W_law_231) (hr := c9) ?_
  obtain ⟨c8, c9, hyp⟩ := hyp
  refine xr_scd (pc := 232) SC (hI := d_W_law_232) c8 c9 ?_
  have f4_ : -2147483648 ≤ (scV xs (x5 + 4)) ∧ (scV xs (x5 + 4)) ≤ 2147483647 := xi_toR _
  refine xr_aload_n (pc := 233) (i := 0) (hI := d_W_law_233) (hi := rfl) (hl := rfl) ?_
  refine xr_iload (pc := 234) (i := 5) (hI := d_W_law_234) (hl := rfl) ?_
  refine xr_iconst (pc := 236) (hI := d_W_law_236) (hr := by decide) ?_
  obtain ⟨c9, hyp⟩ := hyp
  refine xr_iadd (pc := 237) (hI := d_W_law_237) (hr := c9) ?_
  obtain ⟨c8, c9, hyp⟩ := hyp
  refine xr_scd (pc := 238) SC (hI := d_W_law_238) c8 c9 ?_
  have f5_ : -2147483648 ≤ (scV xs (x5 + 5)) ∧ (scV xs (x5 + 5)) ≤ 2147483647 := xi_toR _
  refine xr_aload_n (pc := 239) (i := 3) (hI := d_W_law_239) (hi := rfl) (hl := rfl) ?_
  exact xl_callSW (pc := 240) (index := 108) (K := m_W_feed) (As := [xR 0, xI (scV xs (x5 + 1)), xI (scV xs (x5 + 2)), xI (scV xs (x5 + 3)), xI (scV xs (x5 + 4)), xI (scV xs (x5 + 5)), xR 91]) (S := []) (L0 := [xR 0, xI (scV xs (x5 + 1)), xI (scV xs (x5 + 2)), xI (scV xs (x5 + 3)), xI (scV xs (x5 + 4)), xI (scV xs (x5 + 5)), xR 91, xZ]) (hI := d_W_law_240) (hK := k_W_feed) (hlk := w_1338) (hS8 := Nat.le_of_ble_eq_true rfl) (hstat := w_1339) (hlen := Nat.le_of_ble_eq_true rfl) (hst := rfl) (hL0 := rfl)  hyp
theorem d_W_law_243 : decode code 243 = .ok (.istore 6, 2) := by decide +kernel
theorem d_W_law_245 : decode code 245 = .ok (.aload_n 2, 1) := by decide +kernel
theorem d_W_law_246 : decode code 246 = .ok (.aload_n 0, 1) := by decide +kernel
theorem d_W_law_247 : decode code 247 = .ok (.iload 5, 2) := by decide +kernel
theorem d_W_law_249 : decode code 249 = .ok (.iconst 1, 1) := by decide +kernel
theorem d_W_law_250 : decode code 250 = .ok (.iadd, 1) := by decide +kernel
theorem d_W_law_251 : decode code 251 = .ok (.iaload, 1) := by decide +kernel
theorem d_W_law_252 : decode code 252 = .ok (.aload_n 0, 1) := by decide +kernel
theorem d_W_law_253 : decode code 253 = .ok (.iload 5, 2) := by decide +kernel
theorem d_W_law_255 : decode code 255 = .ok (.iconst 2, 1) := by decide +kernel
theorem d_W_law_256 : decode code 256 = .ok (.iadd, 1) := by decide +kernel
theorem d_W_law_257 : decode code 257 = .ok (.iaload, 1) := by decide +kernel
theorem d_W_law_258 : decode code 258 = .ok (.aload_n 0, 1) := by decide +kernel
theorem d_W_law_259 : decode code 259 = .ok (.iload 5, 2) := by decide +kernel
theorem d_W_law_261 : decode code 261 = .ok (.iconst 3, 1) := by decide +kernel
theorem d_W_law_262 : decode code 262 = .ok (.iadd, 1) := by decide +kernel
theorem d_W_law_263 : decode code 263 = .ok (.iaload, 1) := by decide +kernel
theorem d_W_law_264 : decode code 264 = .ok (.aload_n 0, 1) := by decide +kernel
theorem d_W_law_265 : decode code 265 = .ok (.iload 5, 2) := by decide +kernel
theorem d_W_law_267 : decode code 267 = .ok (.iconst 4, 1) := by decide +kernel
theorem d_W_law_268 : decode code 268 = .ok (.iadd, 1) := by decide +kernel
theorem d_W_law_269 : decode code 269 = .ok (.iaload, 1) := by decide +kernel
theorem d_W_law_270 : decode code 270 = .ok (.aload_n 0, 1) := by decide +kernel
theorem d_W_law_271 : decode code 271 = .ok (.iload 5, 2) := by decide +kernel
theorem d_W_law_273 : decode code 273 = .ok (.iconst 5, 1) := by decide +kernel
theorem d_W_law_274 : decode code 274 = .ok (.iadd, 1) := by decide +kernel
theorem d_W_law_275 : decode code 275 = .ok (.iaload, 1) := by decide +kernel
theorem d_W_law_276 : decode code 276 = .ok (.invokevirtual 113, 3) := by decide +kernel
theorem k_M_feed : xCal m_M_feed 5 := ⟨List.mem_append_right _ (List.mem_of_getElem? (i := 1709) (by decide +kernel)), w_15, Nat.le_of_ble_eq_true rfl, ⟨by decide +kernel, by decide +kernel⟩, by decide +kernel, by decide +kernel, rfl⟩
theorem w_1706 : Cond.methodLink "BeaconIndexLaw" 113 ⟨"BeaconIndexModel", "feed", "(IIIII)I"⟩ ∈ lw_tbl := List.mem_append_right _ (List.mem_of_getElem? (i := 1706) (by decide +kernel))
theorem w_1707 : Cond.instanceMethod ⟨"BeaconIndexModel", "feed", "(IIIII)I"⟩ ∈ lw_tbl := List.mem_append_right _ (List.mem_of_getElem? (i := 1707) (by decide +kernel))
theorem w_1708 : Cond.selects "BeaconIndexModel" ⟨"BeaconIndexModel", "feed", "(IIIII)I"⟩ ⟨"BeaconIndexModel", "feed", "(IIIII)I"⟩ ∈ lw_tbl := List.mem_append_right _ (List.mem_of_getElem? (i := 1708) (by decide +kernel))
theorem v_W_law_243 {G : XG} {d : Nat} {h : XH} {Q : XV → XH → Prop} {X : Nat → XH → Prop} {x5 s0 : Int} {n9 : Nat} {xs : Nat → Int32} {nm9 : String} {hq9 : List (Nat × Nat × Nat × Nat)} (SC : SCR G n9 xs) (F : xFix h) (hyp : xiR (x5 + 1) ∧ 0 ≤ (x5 + 1) ∧ (x5 + 1) < (n9 : Int) ∧ xiR (x5 + 2) ∧ 0 ≤ (x5 + 2) ∧ (x5 + 2) < (n9 : Int) ∧ xiR (x5 + 3) ∧ 0 ≤ (x5 + 3) ∧ (x5 + 3) < (n9 : Int) ∧ xiR (x5 + 4) ∧ 0 ≤ (x5 + 4) ∧ (x5 + 4) < (n9 : Int) ∧ xiR (x5 + 5) ∧ 0 ≤ (x5 + 5) ∧ (x5 + 5) < (n9 : Int) ∧ (xwp G m_M_feed (d + 219) 0 [xR 53, xI (scV xs (x5 + 1)), xI (scV xs (x5 + 2)), xI (scV xs (x5 + 3)), xI (scV xs (x5 + 4)), xI (scV xs (x5 + 5)), xZ, xZ] [] h (fun v9 h9 => xwp G (m_W_law nm9 hq9) (d + 220) 279 [xR (-108), xR 0, xR 53, xR 91, xR 92, xI x5, xI s0, xZ, xZ] (xpush v9 []) h9 Q X) (fun _ _ => False))) : xwp G (m_W_law nm9 hq9) (d + 220) 243 [xR (-108), xR 0, xR 53, xR 91, xR 92, xI x5, xZ, xZ, xZ] [xI s0] h Q X := by
  have hnx9 : (93 : Int) ≤ xnx h := F.2.2
  refine xr_okL (fun hl9 => ?_)
  have r_x5 : -2147483648 ≤ x5 ∧ x5 ≤ 2147483647 := hl9 (xI x5) (.tail _ (.tail _ (.tail _ (.tail _ (.tail _ (.head _)))))) (Nat.le_of_ble_eq_true rfl)
  refine xr_okS (fun hs9 => ?_)
  have r_s0 : -2147483648 ≤ s0 ∧ s0 ≤ 2147483647 := hs9 (xI s0) (.head _)
  refine xr_istore (pc := 243) (i := 6) (L9 := [xR (-108), xR 0, xR 53, xR 91, xR 92, xI x5, xI s0, xZ, xZ]) (hI := d_W_law_243) (hn := Nat.le_of_ble_eq_true rfl) (hL9 := rfl) ?_
  refine xr_aload_n (pc := 245) (i := 2) (hI := d_W_law_245) (hi := rfl) (hl := rfl) ?_
  refine xr_aload_n (pc := 246) (i := 0) (hI := d_W_law_246) (hi := rfl) (hl := rfl) ?_
  refine xr_iload (pc := 247) (i := 5) (hI := d_W_law_247) (hl := rfl) ?_
  refine xr_iconst (pc := 249) (hI := d_W_law_249) (hr := by decide) ?_
  obtain ⟨c9, hyp⟩ := hyp
  refine xr_iadd (pc := 250) (hI := d_W_law_250) (hr := c9) ?_
  obtain ⟨c8, c9, hyp⟩ := hyp
  refine xr_scd (pc := 251) SC (hI := d_W_law_251) c8 c9 ?_
  have f1_ : -2147483648 ≤ (scV xs (x5 + 1)) ∧ (scV xs (x5 + 1)) ≤ 2147483647 := xi_toR _
  refine xr_aload_n (pc := 252) (i := 0) (hI := d_W_law_252) (hi := rfl) (hl := rfl) ?_
  refine xr_iload (pc := 253) (i := 5) (hI := d_W_law_253) (hl := rfl) ?_
  refine xr_iconst (pc := 255) (hI := d_W_law_255) (hr := by decide) ?_
  obtain ⟨c9, hyp⟩ := hyp
  refine xr_iadd (pc := 256) (hI := d_W_law_256) (hr := c9) ?_
  obtain ⟨c8, c9, hyp⟩ := hyp
  refine xr_scd (pc := 257) SC (hI := d_W_law_257) c8 c9 ?_
  have f2_ : -2147483648 ≤ (scV xs (x5 + 2)) ∧ (scV xs (x5 + 2)) ≤ 2147483647 := xi_toR _
  refine xr_aload_n (pc := 258) (i := 0) (hI := d_W_law_258) (hi := rfl) (hl := rfl) ?_
  refine xr_iload (pc := 259) (i := 5) (hI := d_W_law_259) (hl := rfl) ?_
  refine xr_iconst (pc := 261) (hI := d_W_law_261) (hr := by decide) ?_
  obtain ⟨c9, hyp⟩ := hyp
  refine xr_iadd (pc := 262) (hI := d_W_law_262) (hr := c9) ?_
  obtain ⟨c8, c9, hyp⟩ := hyp
  refine xr_scd (pc := 263) SC (hI := d_W_law_263) c8 c9 ?_
  have f3_ : -2147483648 ≤ (scV xs (x5 + 3)) ∧ (scV xs (x5 + 3)) ≤ 2147483647 := xi_toR _
  refine xr_aload_n (pc := 264) (i := 0) (hI := d_W_law_264) (hi := rfl) (hl := rfl) ?_
  refine xr_iload (pc := 265) (i := 5) (hI := d_W_law_265) (hl := rfl) ?_
  refine xr_iconst (pc := 267) (hI := d_W_law_267) (hr := by decide) ?_
  obtain ⟨c9, hyp⟩ := hyp
  refine xr_iadd (pc := 268) (hI := d_W_law_268) (hr := c9) ?_
  obtain ⟨c8, c9, hyp⟩ := hyp
  refine xr_scd (pc := 269) SC (hI := d_W_law_269) c8 c9 ?_
  have f4_ : -2147483648 ≤ (scV xs (x5 + 4)) ∧ (scV xs (x5 + 4)) ≤ 2147483647 := xi_toR _
  refine xr_aload_n (pc := 270) (i := 0) (hI := d_W_law_270) (hi := rfl) (hl := rfl) ?_
  refine xr_iload (pc := 271) (i := 5) (hI := d_W_law_271) (hl := rfl) ?_
  refine xr_iconst (pc := 273) (hI := d_W_law_273) (hr := by decide) ?_
  obtain ⟨c9, hyp⟩ := hyp
  refine xr_iadd (pc := 274) (hI := d_W_law_274) (hr := c9) ?_
  obtain ⟨c8, c9, hyp⟩ := hyp
  refine xr_scd (pc := 275) SC (hI := d_W_law_275) c8 c9 ?_
  have f5_ : -2147483648 ≤ (scV xs (x5 + 5)) ∧ (scV xs (x5 + 5)) ≤ 2147483647 := xi_toR _
  exact xl_callV (pc := 276) (index := 113) (K := m_M_feed) (As := [xI (scV xs (x5 + 1)), xI (scV xs (x5 + 2)), xI (scV xs (x5 + 3)), xI (scV xs (x5 + 4)), xI (scV xs (x5 + 5))]) (S := []) (L0 := [xR 53, xI (scV xs (x5 + 1)), xI (scV xs (x5 + 2)), xI (scV xs (x5 + 3)), xI (scV xs (x5 + 4)), xI (scV xs (x5 + 5)), xZ, xZ]) (hI := d_W_law_276) (hK := k_M_feed) (hlk := w_1706) (hS8 := Nat.le_of_ble_eq_true rfl) (ci := 11) (N := 38) (C := "BeaconIndexModel") (T := xF11) (hc := rfl) (hci := Nat.le_of_ble_eq_true rfl) (htb := (ft_53 F)) (hinst := w_1707) (hsel := w_1708) (hlen := Nat.le_of_ble_eq_true rfl) (hst := rfl) (hL0 := rfl)  hyp
theorem d_W_law_279 : decode code 279 = .ok (.istore 7, 2) := by decide +kernel
theorem d_W_law_281 : decode code 281 = .ok (.aload_n 2, 1) := by decide +kernel
theorem d_W_law_282 : decode code 282 = .ok (.invokevirtual 114, 3) := by decide +kernel
abbrev m_M_thrown : XM := (⟨"BeaconIndexModel", "thrown", "()I"⟩, prog_14_method_2_code, 1, (some .int), [])
theorem k_M_thrown : xCal m_M_thrown 0 := ⟨List.mem_append_right _ (List.mem_of_getElem? (i := 1705) (by decide +kernel)), w_15, Nat.le_of_ble_eq_true rfl, ⟨by decide +kernel, by decide +kernel⟩, by decide +kernel, by decide +kernel, rfl⟩
theorem w_1702 : Cond.methodLink "BeaconIndexLaw" 114 ⟨"BeaconIndexModel", "thrown", "()I"⟩ ∈ lw_tbl := List.mem_append_right _ (List.mem_of_getElem? (i := 1702) (by decide +kernel))
theorem w_1703 : Cond.instanceMethod ⟨"BeaconIndexModel", "thrown", "()I"⟩ ∈ lw_tbl := List.mem_append_right _ (List.mem_of_getElem? (i := 1703) (by decide +kernel))
theorem w_1704 : Cond.selects "BeaconIndexModel" ⟨"BeaconIndexModel", "thrown", "()I"⟩ ⟨"BeaconIndexModel", "thrown", "()I"⟩ ∈ lw_tbl := List.mem_append_right _ (List.mem_of_getElem? (i := 1704) (by decide +kernel))
theorem d_M_thrown_0 : decode prog_14_method_2_code 0 = .ok (.aload_n 0, 1) := by decide +kernel
theorem d_M_thrown_1 : decode prog_14_method_2_code 1 = .ok (.getfield 97, 3) := by decide +kernel
theorem d_M_thrown_4 : decode prog_14_method_2_code 4 = .ok (.ireturn, 1) := by decide +kernel
theorem d_W_law_285 : decode code 285 = .ok (.iload 6, 2) := by decide +kernel
theorem d_W_law_287 : decode code 287 = .ok (.if_icmp .eq 5, 3) := by decide +kernel
theorem d_W_law_292 : decode code 292 = .ok (.iload 6, 2) := by decide +kernel
theorem d_W_law_294 : decode code 294 = .ok (.ifCond .ne 15, 3) := by decide +kernel
theorem d_W_law_309 : decode code 309 = .ok (.goto 1709, 3) := by decide +kernel
theorem d_W_law_297 : decode code 297 = .ok (.aload_n 3, 1) := by decide +kernel
theorem d_W_law_298 : decode code 298 = .ok (.iconst 0, 1) := by decide +kernel
theorem d_W_law_299 : decode code 299 = .ok (.laload, 1) := by decide +kernel
theorem d_W_law_300 : decode code 300 = .ok (.iload 7, 2) := by decide +kernel
theorem d_W_law_302 : decode code 302 = .ok (.i2l, 1) := by decide +kernel
theorem d_W_law_303 : decode code 303 = .ok (.lcmp, 1) := by decide +kernel
theorem d_W_law_304 : decode code 304 = .ok (.ifCond .eq 5, 3) := by decide +kernel
theorem d_W_law_307 : decode code 307 = .ok (.iconst 0, 1) := by decide +kernel
theorem d_W_law_308 : decode code 308 = .ok (.ireturn, 1) := by decide +kernel
theorem d_W_law_290 : decode code 290 = .ok (.iconst 0, 1) := by decide +kernel
theorem d_W_law_291 : decode code 291 = .ok (.ireturn, 1) := by decide +kernel
theorem v_W_law_279 {G : XG} {d : Nat} {h : XH} {Q : XV → XH → Prop} {X : Nat → XH → Prop} {x5 x6 s0 : Int} {n9 : Nat} {xs : Nat → Int32} {nm9 : String} {hq9 : List (Nat × Nat × Nat × Nat)} (SC : SCR G n9 xs) (F : xFix h) (hyp : (((xpl h 53 0) = x6 → ((x6 = 0 → (((xpl h 91 0) = s0 → (xwp G (m_W_law nm9 hq9) (d + 220) 2018 [xR (-108), xR 0, xR 53, xR 91, xR 92, xI x5, xZ, xZ, xZ] [] h Q X)) ∧ (¬ (xpl h 91 0) = s0 → (Q (xI 0) h)))) ∧ (¬ x6 = 0 → (xwp G (m_W_law nm9 hq9) (d + 220) 2018 [xR (-108), xR 0, xR 53, xR 91, xR 92, xI x5, xZ, xZ, xZ] [] h Q X)))) ∧ (¬ (xpl h 53 0) = x6 → (Q (xI 0) h)))) : xwp G (m_W_law nm9 hq9) (d + 220) 279 [xR (-108), xR 0, xR 53, xR 91, xR 92, xI x5, xI x6, xZ, xZ] [xI s0] h Q X := by
  have hnx9 : (93 : Int) ≤ xnx h := F.2.2
  refine xr_okL (fun hl9 => ?_)
  have r_x5 : -2147483648 ≤ x5 ∧ x5 ≤ 2147483647 := hl9 (xI x5) (.tail _ (.tail _ (.tail _ (.tail _ (.tail _ (.head _)))))) (Nat.le_of_ble_eq_true rfl)
  have r_x6 : -2147483648 ≤ x6 ∧ x6 ≤ 2147483647 := hl9 (xI x6) (.tail _ (.tail _ (.tail _ (.tail _ (.tail _ (.tail _ (.head _))))))) (Nat.le_of_ble_eq_true rfl)
  refine xr_okS (fun hs9 => ?_)
  have r_s0 : -2147483648 ≤ s0 ∧ s0 ≤ 2147483647 := hs9 (xI s0) (.head _)
  refine xr_istore (pc := 279) (i := 7) (L9 := [xR (-108), xR 0, xR 53, xR 91, xR 92, xI x5, xI x6, xI s0, xZ]) (hI := d_W_law_279) (hn := Nat.le_of_ble_eq_true rfl) (hL9 := rfl) ?_
  refine xr_aload_n (pc := 281) (i := 2) (hI := d_W_law_281) (hi := rfl) (hl := rfl) ?_
  refine xl_callV (pc := 282) (index := 114) (K := m_M_thrown) (As := []) (S := []) (L0 := [xR 53]) (hI := d_W_law_282) (hK := k_M_thrown) (hlk := w_1702) (hS8 := Nat.le_of_ble_eq_true rfl) (ci := 11) (N := 38) (C := "BeaconIndexModel") (T := xF11) (hc := rfl) (hci := Nat.le_of_ble_eq_true rfl) (htb := (ft_53 F)) (hinst := w_1703) (hsel := w_1704) (hlen := Nat.le_of_ble_eq_true rfl) (hst := rfl) (hL0 := rfl)  ?_
  refine xr_aload_n (pc := 0) (i := 0) (hI := d_M_thrown_0) (hi := rfl) (hl := rfl) ?_
  refine xg_getf (pc := 1) (ci := 11) (k := 0) (N := 38) (v9 := 0) (v := (xpl h 53 0)) (T := xF11) (hI := d_M_thrown_1) (hw := w_1587) rfl xi11 (Or.inl rfl) (Nat.le_of_ble_eq_true rfl) (Nat.le_of_ble_eq_true rfl) rfl (ft_53 F) rfl (fun f1_ => ?_)
  replace f1_ : -2147483648 ≤ (xpl h 53 0) ∧ (xpl h 53 0) ≤ 2147483647 := f1_
  refine xr_ireturn (S := []) (pc := 4) (hI := d_M_thrown_4) (hr := rfl) ?_
  show xwp G (m_W_law nm9 hq9) (d + 220) 285 [xR (-108), xR 0, xR 53, xR 91, xR 92, xI x5, xI x6, xI s0, xZ] [xI (xpl h 53 0)] _ _ _
  refine xr_iload (pc := 285) (i := 6) (hI := d_W_law_285) (hl := rfl) ?_
  refine xr_icmp_eq (pc := 287) (tgt := 292) (hI := d_W_law_287) (ht := by decide) (fun q9 => ?_) (fun q9 => ?_)
  · replace hyp := hyp.1 q9
    have q2_ := q9
    clear q9
    refine xr_iload (pc := 292) (i := 6) (hI := d_W_law_292) (hl := rfl) ?_
    refine xr_if_ne (pc := 294) (tgt := 309) (hI := d_W_law_294) (ht := by decide) (fun q9 => ?_) (fun q9 => ?_)
    · replace hyp := hyp.2 q9
      have q3_ := q9
      clear q9
      refine xr_goto (pc := 309) (tgt := 2018) (hI := d_W_law_309) (ht := by decide) ?_
      exact xr_drop (L9 := [xR (-108), xR 0, xR 53, xR 91, xR 92, xI x5, xZ, xZ, xZ]) (xdrs (xdrs (xdrs (xdrs (xdrs (xdrs (xdrz (xdrz (xdrs xdr0))))))))) hyp
    · replace hyp := hyp.1 q9
      have q3_ := q9
      clear q9
      refine xr_aload_n (pc := 297) (i := 3) (hI := d_W_law_297) (hi := rfl) (hl := rfl) ?_
      refine xr_iconst (pc := 298) (hI := d_W_law_298) (hr := by decide) ?_
      refine xg_laload (pc := 299) (v := (xpl h 91 0)) (hI := d_W_law_299) (ft_91 F) (by decide) (xlt_of (fl_91 F) (by decide)) rfl (fun f4_ => ?_)
      replace f4_ : -9223372036854775808 ≤ (xpl h 91 0) ∧ (xpl h 91 0) ≤ 9223372036854775807 := f4_
      refine xr_iload (pc := 300) (i := 7) (hI := d_W_law_300) (hl := rfl) ?_
      refine xr_i2l (pc := 302) (hI := d_W_law_302) ?_
      refine xr_lcmp (pc := 303) (hI := d_W_law_303) ?_
      refine xg_lif_eq (pc := 304) (tgt := 309) (hI := d_W_law_304) (ht := by decide) (fun q9 => ?_) (fun q9 => ?_)
      · replace hyp := hyp.1 q9
        have q5_ := q9
        clear q9
        refine xr_goto (pc := 309) (tgt := 2018) (hI := d_W_law_309) (ht := by decide) ?_
        exact xr_drop (L9 := [xR (-108), xR 0, xR 53, xR 91, xR 92, xI x5, xZ, xZ, xZ]) (xdrs (xdrs (xdrs (xdrs (xdrs (xdrs (xdrz (xdrz (xdrs xdr0))))))))) hyp
      · replace hyp := hyp.2 q9
        have q5_ := q9
        clear q9
        refine xr_iconst (pc := 307) (hI := d_W_law_307) (hr := by decide) ?_
        refine xr_ireturnT (S := []) (pc := 308) (hI := d_W_law_308) (hr := rfl) (xnar_z (by decide)) ?_
        exact hyp
  · replace hyp := hyp.2 q9
    have q2_ := q9
    clear q9
    refine xr_iconst (pc := 290) (hI := d_W_law_290) (hr := by decide) ?_
    refine xr_ireturnT (S := []) (pc := 291) (hI := d_W_law_291) (hr := rfl) (xnar_z (by decide)) ?_
    exact hyp
theorem d_W_law_312 : decode code 312 = .ok (.aload_n 1, 1) := by decide +kernel
theorem d_W_law_313 : decode code 313 = .ok (.aload_n 0, 1) := by decide +kernel
theorem d_W_law_314 : decode code 314 = .ok (.iload 5, 2) := by decide +kernel
theorem d_W_law_316 : decode code 316 = .ok (.iconst 1, 1) := by decide +kernel
theorem d_W_law_317 : decode code 317 = .ok (.iadd, 1) := by decide +kernel
theorem d_W_law_318 : decode code 318 = .ok (.iaload, 1) := by decide +kernel
theorem d_W_law_319 : decode code 319 = .ok (.aload_n 3, 1) := by decide +kernel
theorem d_W_law_320 : decode code 320 = .ok (.invokestatic 117, 3) := by decide +kernel
theorem k_W_trim : xCalH m_W_trim 3 := ⟨List.mem_append_right _ (List.mem_of_getElem? (i := 1352) (by decide +kernel)), w_0, Nat.le_of_ble_eq_true rfl, ⟨by decide +kernel, by decide +kernel⟩, by decide +kernel, by decide +kernel⟩
theorem w_1350 : Cond.methodLink "BeaconIndexLaw" 117 ⟨"BeaconIndexLaw", "trim", "(LBeaconIndex;I[J)I"⟩ ∈ lw_tbl := List.mem_append_right _ (List.mem_of_getElem? (i := 1350) (by decide +kernel))
theorem w_1351 : Cond.static ⟨"BeaconIndexLaw", "trim", "(LBeaconIndex;I[J)I"⟩ ∈ lw_tbl := List.mem_append_right _ (List.mem_of_getElem? (i := 1351) (by decide +kernel))
theorem v_W_law_312 {G : XG} {d : Nat} {h : XH} {Q : XV → XH → Prop} {X : Nat → XH → Prop} {x5 : Int} {n9 : Nat} {xs : Nat → Int32} {nm9 : String} {hq9 : List (Nat × Nat × Nat × Nat)} (SC : SCR G n9 xs) (F : xFix h) (hyp : xiR (x5 + 1) ∧ 0 ≤ (x5 + 1) ∧ (x5 + 1) < (n9 : Int) ∧ (xwp G m_W_trim (d + 219) 0 [xR 0, xI (scV xs (x5 + 1)), xR 91, xZ] [] h (fun v9 h9 => xwp G (m_W_law nm9 hq9) (d + 220) 323 [xR (-108), xR 0, xR 53, xR 91, xR 92, xI x5, xZ, xZ, xZ] (xpush v9 []) h9 Q X) (fun _ _ => False))) : xwp G (m_W_law nm9 hq9) (d + 220) 312 [xR (-108), xR 0, xR 53, xR 91, xR 92, xI x5, xZ, xZ, xZ] [] h Q X := by
  have hnx9 : (93 : Int) ≤ xnx h := F.2.2
  refine xr_okL (fun hl9 => ?_)
  have r_x5 : -2147483648 ≤ x5 ∧ x5 ≤ 2147483647 := hl9 (xI x5) (.tail _ (.tail _ (.tail _ (.tail _ (.tail _ (.head _)))))) (Nat.le_of_ble_eq_true rfl)
  refine xr_aload_n (pc := 312) (i := 1) (hI := d_W_law_312) (hi := rfl) (hl := rfl) ?_
  refine xr_aload_n (pc := 313) (i := 0) (hI := d_W_law_313) (hi := rfl) (hl := rfl) ?_
  refine xr_iload (pc := 314) (i := 5) (hI := d_W_law_314) (hl := rfl) ?_
  refine xr_iconst (pc := 316) (hI := d_W_law_316) (hr := by decide) ?_
  obtain ⟨c9, hyp⟩ := hyp
  refine xr_iadd (pc := 317) (hI := d_W_law_317) (hr := c9) ?_
  obtain ⟨c8, c9, hyp⟩ := hyp
  refine xr_scd (pc := 318) SC (hI := d_W_law_318) c8 c9 ?_
  have f1_ : -2147483648 ≤ (scV xs (x5 + 1)) ∧ (scV xs (x5 + 1)) ≤ 2147483647 := xi_toR _
  refine xr_aload_n (pc := 319) (i := 3) (hI := d_W_law_319) (hi := rfl) (hl := rfl) ?_
  exact xl_callSW (pc := 320) (index := 117) (K := m_W_trim) (As := [xR 0, xI (scV xs (x5 + 1)), xR 91]) (S := []) (L0 := [xR 0, xI (scV xs (x5 + 1)), xR 91, xZ]) (hI := d_W_law_320) (hK := k_W_trim) (hlk := w_1350) (hS8 := Nat.le_of_ble_eq_true rfl) (hstat := w_1351) (hlen := Nat.le_of_ble_eq_true rfl) (hst := rfl) (hL0 := rfl)  hyp
theorem d_W_law_323 : decode code 323 = .ok (.istore 6, 2) := by decide +kernel
theorem d_W_law_325 : decode code 325 = .ok (.aload_n 2, 1) := by decide +kernel
theorem d_W_law_326 : decode code 326 = .ok (.aload_n 0, 1) := by decide +kernel
theorem d_W_law_327 : decode code 327 = .ok (.iload 5, 2) := by decide +kernel
theorem d_W_law_329 : decode code 329 = .ok (.iconst 1, 1) := by decide +kernel
theorem d_W_law_330 : decode code 330 = .ok (.iadd, 1) := by decide +kernel
theorem d_W_law_331 : decode code 331 = .ok (.iaload, 1) := by decide +kernel
theorem d_W_law_332 : decode code 332 = .ok (.invokevirtual 120, 3) := by decide +kernel
theorem k_M_trim : xCal m_M_trim 1 := ⟨List.mem_append_right _ (List.mem_of_getElem? (i := 1717) (by decide +kernel)), w_15, Nat.le_of_ble_eq_true rfl, ⟨by decide +kernel, by decide +kernel⟩, by decide +kernel, by decide +kernel, rfl⟩
theorem w_1714 : Cond.methodLink "BeaconIndexLaw" 120 ⟨"BeaconIndexModel", "trim", "(I)I"⟩ ∈ lw_tbl := List.mem_append_right _ (List.mem_of_getElem? (i := 1714) (by decide +kernel))
theorem w_1715 : Cond.instanceMethod ⟨"BeaconIndexModel", "trim", "(I)I"⟩ ∈ lw_tbl := List.mem_append_right _ (List.mem_of_getElem? (i := 1715) (by decide +kernel))
theorem w_1716 : Cond.selects "BeaconIndexModel" ⟨"BeaconIndexModel", "trim", "(I)I"⟩ ⟨"BeaconIndexModel", "trim", "(I)I"⟩ ∈ lw_tbl := List.mem_append_right _ (List.mem_of_getElem? (i := 1716) (by decide +kernel))
theorem v_W_law_323 {G : XG} {d : Nat} {h : XH} {Q : XV → XH → Prop} {X : Nat → XH → Prop} {x5 s0 : Int} {n9 : Nat} {xs : Nat → Int32} {nm9 : String} {hq9 : List (Nat × Nat × Nat × Nat)} (SC : SCR G n9 xs) (F : xFix h) (hyp : xiR (x5 + 1) ∧ 0 ≤ (x5 + 1) ∧ (x5 + 1) < (n9 : Int) ∧ (xwp G m_M_trim (d + 219) 0 [xR 53, xI (scV xs (x5 + 1))] [] h (fun v9 h9 => xwp G (m_W_law nm9 hq9) (d + 220) 335 [xR (-108), xR 0, xR 53, xR 91, xR 92, xI x5, xI s0, xZ, xZ] (xpush v9 []) h9 Q X) (fun _ _ => False))) : xwp G (m_W_law nm9 hq9) (d + 220) 323 [xR (-108), xR 0, xR 53, xR 91, xR 92, xI x5, xZ, xZ, xZ] [xI s0] h Q X := by
  have hnx9 : (93 : Int) ≤ xnx h := F.2.2
  refine xr_okL (fun hl9 => ?_)
  have r_x5 : -2147483648 ≤ x5 ∧ x5 ≤ 2147483647 := hl9 (xI x5) (.tail _ (.tail _ (.tail _ (.tail _ (.tail _ (.head _)))))) (Nat.le_of_ble_eq_true rfl)
  refine xr_okS (fun hs9 => ?_)
  have r_s0 : -2147483648 ≤ s0 ∧ s0 ≤ 2147483647 := hs9 (xI s0) (.head _)
  refine xr_istore (pc := 323) (i := 6) (L9 := [xR (-108), xR 0, xR 53, xR 91, xR 92, xI x5, xI s0, xZ, xZ]) (hI := d_W_law_323) (hn := Nat.le_of_ble_eq_true rfl) (hL9 := rfl) ?_
  refine xr_aload_n (pc := 325) (i := 2) (hI := d_W_law_325) (hi := rfl) (hl := rfl) ?_
  refine xr_aload_n (pc := 326) (i := 0) (hI := d_W_law_326) (hi := rfl) (hl := rfl) ?_
  refine xr_iload (pc := 327) (i := 5) (hI := d_W_law_327) (hl := rfl) ?_
  refine xr_iconst (pc := 329) (hI := d_W_law_329) (hr := by decide) ?_
  obtain ⟨c9, hyp⟩ := hyp
  refine xr_iadd (pc := 330) (hI := d_W_law_330) (hr := c9) ?_
  obtain ⟨c8, c9, hyp⟩ := hyp
  refine xr_scd (pc := 331) SC (hI := d_W_law_331) c8 c9 ?_
  have f1_ : -2147483648 ≤ (scV xs (x5 + 1)) ∧ (scV xs (x5 + 1)) ≤ 2147483647 := xi_toR _
  exact xl_callV (pc := 332) (index := 120) (K := m_M_trim) (As := [xI (scV xs (x5 + 1))]) (S := []) (L0 := [xR 53, xI (scV xs (x5 + 1))]) (hI := d_W_law_332) (hK := k_M_trim) (hlk := w_1714) (hS8 := Nat.le_of_ble_eq_true rfl) (ci := 11) (N := 38) (C := "BeaconIndexModel") (T := xF11) (hc := rfl) (hci := Nat.le_of_ble_eq_true rfl) (htb := (ft_53 F)) (hinst := w_1715) (hsel := w_1716) (hlen := Nat.le_of_ble_eq_true rfl) (hst := rfl) (hL0 := rfl)  hyp
theorem d_W_law_335 : decode code 335 = .ok (.istore 7, 2) := by decide +kernel
theorem d_W_law_337 : decode code 337 = .ok (.aload_n 2, 1) := by decide +kernel
theorem d_W_law_338 : decode code 338 = .ok (.invokevirtual 114, 3) := by decide +kernel
theorem d_W_law_341 : decode code 341 = .ok (.iload 6, 2) := by decide +kernel
theorem d_W_law_343 : decode code 343 = .ok (.if_icmp .eq 5, 3) := by decide +kernel
theorem d_W_law_348 : decode code 348 = .ok (.iload 6, 2) := by decide +kernel
theorem d_W_law_350 : decode code 350 = .ok (.ifCond .ne 15, 3) := by decide +kernel
theorem d_W_law_365 : decode code 365 = .ok (.goto 1653, 3) := by decide +kernel
theorem d_W_law_353 : decode code 353 = .ok (.aload_n 3, 1) := by decide +kernel
theorem d_W_law_354 : decode code 354 = .ok (.iconst 0, 1) := by decide +kernel
theorem d_W_law_355 : decode code 355 = .ok (.laload, 1) := by decide +kernel
theorem d_W_law_356 : decode code 356 = .ok (.iload 7, 2) := by decide +kernel
theorem d_W_law_358 : decode code 358 = .ok (.i2l, 1) := by decide +kernel
theorem d_W_law_359 : decode code 359 = .ok (.lcmp, 1) := by decide +kernel
theorem d_W_law_360 : decode code 360 = .ok (.ifCond .eq 5, 3) := by decide +kernel
theorem d_W_law_363 : decode code 363 = .ok (.iconst 0, 1) := by decide +kernel
theorem d_W_law_364 : decode code 364 = .ok (.ireturn, 1) := by decide +kernel
theorem d_W_law_346 : decode code 346 = .ok (.iconst 0, 1) := by decide +kernel
theorem d_W_law_347 : decode code 347 = .ok (.ireturn, 1) := by decide +kernel
theorem v_W_law_335 {G : XG} {d : Nat} {h : XH} {Q : XV → XH → Prop} {X : Nat → XH → Prop} {x5 x6 s0 : Int} {n9 : Nat} {xs : Nat → Int32} {nm9 : String} {hq9 : List (Nat × Nat × Nat × Nat)} (SC : SCR G n9 xs) (F : xFix h) (hyp : (((xpl h 53 0) = x6 → ((x6 = 0 → (((xpl h 91 0) = s0 → (xwp G (m_W_law nm9 hq9) (d + 220) 2018 [xR (-108), xR 0, xR 53, xR 91, xR 92, xI x5, xZ, xZ, xZ] [] h Q X)) ∧ (¬ (xpl h 91 0) = s0 → (Q (xI 0) h)))) ∧ (¬ x6 = 0 → (xwp G (m_W_law nm9 hq9) (d + 220) 2018 [xR (-108), xR 0, xR 53, xR 91, xR 92, xI x5, xZ, xZ, xZ] [] h Q X)))) ∧ (¬ (xpl h 53 0) = x6 → (Q (xI 0) h)))) : xwp G (m_W_law nm9 hq9) (d + 220) 335 [xR (-108), xR 0, xR 53, xR 91, xR 92, xI x5, xI x6, xZ, xZ] [xI s0] h Q X := by
  have hnx9 : (93 : Int) ≤ xnx h := F.2.2
  refine xr_okL (fun hl9 => ?_)
  have r_x5 : -2147483648 ≤ x5 ∧ x5 ≤ 2147483647 := hl9 (xI x5) (.tail _ (.tail _ (.tail _ (.tail _ (.tail _ (.head _)))))) (Nat.le_of_ble_eq_true rfl)
  have r_x6 : -2147483648 ≤ x6 ∧ x6 ≤ 2147483647 := hl9 (xI x6) (.tail _ (.tail _ (.tail _ (.tail _ (.tail _ (.tail _ (.head _))))))) (Nat.le_of_ble_eq_true rfl)
  refine xr_okS (fun hs9 => ?_)
  have r_s0 : -2147483648 ≤ s0 ∧ s0 ≤ 2147483647 := hs9 (xI s0) (.head _)
  refine xr_istore (pc := 335) (i := 7) (L9 := [xR (-108), xR 0, xR 53, xR 91, xR 92, xI x5, xI x6, xI s0, xZ]) (hI := d_W_law_335) (hn := Nat.le_of_ble_eq_true rfl) (hL9 := rfl) ?_
  refine xr_aload_n (pc := 337) (i := 2) (hI := d_W_law_337) (hi := rfl) (hl := rfl) ?_
  refine xl_callV (pc := 338) (index := 114) (K := m_M_thrown) (As := []) (S := []) (L0 := [xR 53]) (hI := d_W_law_338) (hK := k_M_thrown) (hlk := w_1702) (hS8 := Nat.le_of_ble_eq_true rfl) (ci := 11) (N := 38) (C := "BeaconIndexModel") (T := xF11) (hc := rfl) (hci := Nat.le_of_ble_eq_true rfl) (htb := (ft_53 F)) (hinst := w_1703) (hsel := w_1704) (hlen := Nat.le_of_ble_eq_true rfl) (hst := rfl) (hL0 := rfl)  ?_
  refine xr_aload_n (pc := 0) (i := 0) (hI := d_M_thrown_0) (hi := rfl) (hl := rfl) ?_
  refine xg_getf (pc := 1) (ci := 11) (k := 0) (N := 38) (v9 := 0) (v := (xpl h 53 0)) (T := xF11) (hI := d_M_thrown_1) (hw := w_1587) rfl xi11 (Or.inl rfl) (Nat.le_of_ble_eq_true rfl) (Nat.le_of_ble_eq_true rfl) rfl (ft_53 F) rfl (fun f1_ => ?_)
  replace f1_ : -2147483648 ≤ (xpl h 53 0) ∧ (xpl h 53 0) ≤ 2147483647 := f1_
  refine xr_ireturn (S := []) (pc := 4) (hI := d_M_thrown_4) (hr := rfl) ?_
  show xwp G (m_W_law nm9 hq9) (d + 220) 341 [xR (-108), xR 0, xR 53, xR 91, xR 92, xI x5, xI x6, xI s0, xZ] [xI (xpl h 53 0)] _ _ _
  refine xr_iload (pc := 341) (i := 6) (hI := d_W_law_341) (hl := rfl) ?_
  refine xr_icmp_eq (pc := 343) (tgt := 348) (hI := d_W_law_343) (ht := by decide) (fun q9 => ?_) (fun q9 => ?_)
  · replace hyp := hyp.1 q9
    have q2_ := q9
    clear q9
    refine xr_iload (pc := 348) (i := 6) (hI := d_W_law_348) (hl := rfl) ?_
    refine xr_if_ne (pc := 350) (tgt := 365) (hI := d_W_law_350) (ht := by decide) (fun q9 => ?_) (fun q9 => ?_)
    · replace hyp := hyp.2 q9
      have q3_ := q9
      clear q9
      refine xr_goto (pc := 365) (tgt := 2018) (hI := d_W_law_365) (ht := by decide) ?_
      exact xr_drop (L9 := [xR (-108), xR 0, xR 53, xR 91, xR 92, xI x5, xZ, xZ, xZ]) (xdrs (xdrs (xdrs (xdrs (xdrs (xdrs (xdrz (xdrz (xdrs xdr0))))))))) hyp
    · replace hyp := hyp.1 q9
      have q3_ := q9
      clear q9
      refine xr_aload_n (pc := 353) (i := 3) (hI := d_W_law_353) (hi := rfl) (hl := rfl) ?_
      refine xr_iconst (pc := 354) (hI := d_W_law_354) (hr := by decide) ?_
      refine xg_laload (pc := 355) (v := (xpl h 91 0)) (hI := d_W_law_355) (ft_91 F) (by decide) (xlt_of (fl_91 F) (by decide)) rfl (fun f4_ => ?_)
      replace f4_ : -9223372036854775808 ≤ (xpl h 91 0) ∧ (xpl h 91 0) ≤ 9223372036854775807 := f4_
      refine xr_iload (pc := 356) (i := 7) (hI := d_W_law_356) (hl := rfl) ?_
      refine xr_i2l (pc := 358) (hI := d_W_law_358) ?_
      refine xr_lcmp (pc := 359) (hI := d_W_law_359) ?_
      refine xg_lif_eq (pc := 360) (tgt := 365) (hI := d_W_law_360) (ht := by decide) (fun q9 => ?_) (fun q9 => ?_)
      · replace hyp := hyp.1 q9
        have q5_ := q9
        clear q9
        refine xr_goto (pc := 365) (tgt := 2018) (hI := d_W_law_365) (ht := by decide) ?_
        exact xr_drop (L9 := [xR (-108), xR 0, xR 53, xR 91, xR 92, xI x5, xZ, xZ, xZ]) (xdrs (xdrs (xdrs (xdrs (xdrs (xdrs (xdrz (xdrz (xdrs xdr0))))))))) hyp
      · replace hyp := hyp.2 q9
        have q5_ := q9
        clear q9
        refine xr_iconst (pc := 363) (hI := d_W_law_363) (hr := by decide) ?_
        refine xr_ireturnT (S := []) (pc := 364) (hI := d_W_law_364) (hr := rfl) (xnar_z (by decide)) ?_
        exact hyp
  · replace hyp := hyp.2 q9
    have q2_ := q9
    clear q9
    refine xr_iconst (pc := 346) (hI := d_W_law_346) (hr := by decide) ?_
    refine xr_ireturnT (S := []) (pc := 347) (hI := d_W_law_347) (hr := rfl) (xnar_z (by decide)) ?_
    exact hyp
theorem d_W_law_368 : decode code 368 = .ok (.aload_n 1, 1) := by decide +kernel
theorem d_W_law_369 : decode code 369 = .ok (.aload_n 0, 1) := by decide +kernel
theorem d_W_law_370 : decode code 370 = .ok (.iload 5, 2) := by decide +kernel
theorem d_W_law_372 : decode code 372 = .ok (.iconst 1, 1) := by decide +kernel
theorem d_W_law_373 : decode code 373 = .ok (.iadd, 1) := by decide +kernel
theorem d_W_law_374 : decode code 374 = .ok (.iaload, 1) := by decide +kernel
theorem d_W_law_375 : decode code 375 = .ok (.aload_n 0, 1) := by decide +kernel
theorem d_W_law_376 : decode code 376 = .ok (.iload 5, 2) := by decide +kernel
theorem d_W_law_378 : decode code 378 = .ok (.iconst 2, 1) := by decide +kernel
theorem d_W_law_379 : decode code 379 = .ok (.iadd, 1) := by decide +kernel
theorem d_W_law_380 : decode code 380 = .ok (.iaload, 1) := by decide +kernel
theorem d_W_law_381 : decode code 381 = .ok (.aload_n 0, 1) := by decide +kernel
theorem d_W_law_382 : decode code 382 = .ok (.iload 5, 2) := by decide +kernel
theorem d_W_law_384 : decode code 384 = .ok (.iconst 3, 1) := by decide +kernel
theorem d_W_law_385 : decode code 385 = .ok (.iadd, 1) := by decide +kernel
theorem d_W_law_386 : decode code 386 = .ok (.iaload, 1) := by decide +kernel
theorem d_W_law_387 : decode code 387 = .ok (.aload_n 3, 1) := by decide +kernel
theorem d_W_law_388 : decode code 388 = .ok (.invokestatic 121, 3) := by decide +kernel
theorem k_W_add : xCalH m_W_add 5 := ⟨List.mem_append_right _ (List.mem_of_getElem? (i := 1360) (by decide +kernel)), w_0, Nat.le_of_ble_eq_true rfl, ⟨by decide +kernel, by decide +kernel⟩, by decide +kernel, by decide +kernel⟩
theorem w_1358 : Cond.methodLink "BeaconIndexLaw" 121 ⟨"BeaconIndexLaw", "add", "(LBeaconIndex;III[J)I"⟩ ∈ lw_tbl := List.mem_append_right _ (List.mem_of_getElem? (i := 1358) (by decide +kernel))
theorem w_1359 : Cond.static ⟨"BeaconIndexLaw", "add", "(LBeaconIndex;III[J)I"⟩ ∈ lw_tbl := List.mem_append_right _ (List.mem_of_getElem? (i := 1359) (by decide +kernel))
theorem v_W_law_368 {G : XG} {d : Nat} {h : XH} {Q : XV → XH → Prop} {X : Nat → XH → Prop} {x5 : Int} {n9 : Nat} {xs : Nat → Int32} {nm9 : String} {hq9 : List (Nat × Nat × Nat × Nat)} (SC : SCR G n9 xs) (F : xFix h) (hyp : xiR (x5 + 1) ∧ 0 ≤ (x5 + 1) ∧ (x5 + 1) < (n9 : Int) ∧ xiR (x5 + 2) ∧ 0 ≤ (x5 + 2) ∧ (x5 + 2) < (n9 : Int) ∧ xiR (x5 + 3) ∧ 0 ≤ (x5 + 3) ∧ (x5 + 3) < (n9 : Int) ∧ (xwp G m_W_add (d + 219) 0 [xR 0, xI (scV xs (x5 + 1)), xI (scV xs (x5 + 2)), xI (scV xs (x5 + 3)), xR 91, xZ] [] h (fun v9 h9 => xwp G (m_W_law nm9 hq9) (d + 220) 391 [xR (-108), xR 0, xR 53, xR 91, xR 92, xI x5, xZ, xZ, xZ] (xpush v9 []) h9 Q X) (fun _ _ => False))) : xwp G (m_W_law nm9 hq9) (d + 220) 368 [xR (-108), xR 0, xR 53, xR 91, xR 92, xI x5, xZ, xZ, xZ] [] h Q X := by
  have hnx9 : (93 : Int) ≤ xnx h := F.2.2
  refine xr_okL (fun hl9 => ?_)
  have r_x5 : -2147483648 ≤ x5 ∧ x5 ≤ 2147483647 := hl9 (xI x5) (.tail _ (.tail _ (.tail _ (.tail _ (.tail _ (.head _)))))) (Nat.le_of_ble_eq_true rfl)
  refine xr_aload_n (pc := 368) (i := 1) (hI := d_W_law_368) (hi := rfl) (hl := rfl) ?_
  refine xr_aload_n (pc := 369) (i := 0) (hI := d_W_law_369) (hi := rfl) (hl := rfl) ?_
  refine xr_iload (pc := 370) (i := 5) (hI := d_W_law_370) (hl := rfl) ?_
  refine xr_iconst (pc := 372) (hI := d_W_law_372) (hr := by decide) ?_
  obtain ⟨c9, hyp⟩ := hyp
  refine xr_iadd (pc := 373) (hI := d_W_law_373) (hr := c9) ?_
  obtain ⟨c8, c9, hyp⟩ := hyp
  refine xr_scd (pc := 374) SC (hI := d_W_law_374) c8 c9 ?_
  have f1_ : -2147483648 ≤ (scV xs (x5 + 1)) ∧ (scV xs (x5 + 1)) ≤ 2147483647 := xi_toR _
  refine xr_aload_n (pc := 375) (i := 0) (hI := d_W_law_375) (hi := rfl) (hl := rfl) ?_
  refine xr_iload (pc := 376) (i := 5) (hI := d_W_law_376) (hl := rfl) ?_
  refine xr_iconst (pc := 378) (hI := d_W_law_378) (hr := by decide) ?_
  obtain ⟨c9, hyp⟩ := hyp
  refine xr_iadd (pc := 379) (hI := d_W_law_379) (hr := c9) ?_
  obtain ⟨c8, c9, hyp⟩ := hyp
  refine xr_scd (pc := 380) SC (hI := d_W_law_380) c8 c9 ?_
  have f2_ : -2147483648 ≤ (scV xs (x5 + 2)) ∧ (scV xs (x5 + 2)) ≤ 2147483647 := xi_toR _
  refine xr_aload_n (pc := 381) (i := 0) (hI := d_W_law_381) (hi := rfl) (hl := rfl) ?_
  refine xr_iload (pc := 382) (i := 5) (hI := d_W_law_382) (hl := rfl) ?_
  refine xr_iconst (pc := 384) (hI := d_W_law_384) (hr := by decide) ?_
  obtain ⟨c9, hyp⟩ := hyp
  refine xr_iadd (pc := 385) (hI := d_W_law_385) (hr := c9) ?_
  obtain ⟨c8, c9, hyp⟩ := hyp
  refine xr_scd (pc := 386) SC (hI := d_W_law_386) c8 c9 ?_
  have f3_ : -2147483648 ≤ (scV xs (x5 + 3)) ∧ (scV xs (x5 + 3)) ≤ 2147483647 := xi_toR _
  refine xr_aload_n (pc := 387) (i := 3) (hI := d_W_law_387) (hi := rfl) (hl := rfl) ?_
  exact xl_callSW (pc := 388) (index := 121) (K := m_W_add) (As := [xR 0, xI (scV xs (x5 + 1)), xI (scV xs (x5 + 2)), xI (scV xs (x5 + 3)), xR 91]) (S := []) (L0 := [xR 0, xI (scV xs (x5 + 1)), xI (scV xs (x5 + 2)), xI (scV xs (x5 + 3)), xR 91, xZ]) (hI := d_W_law_388) (hK := k_W_add) (hlk := w_1358) (hS8 := Nat.le_of_ble_eq_true rfl) (hstat := w_1359) (hlen := Nat.le_of_ble_eq_true rfl) (hst := rfl) (hL0 := rfl)  hyp
theorem d_W_law_391 : decode code 391 = .ok (.istore 6, 2) := by decide +kernel
theorem d_W_law_393 : decode code 393 = .ok (.aload_n 2, 1) := by decide +kernel
theorem d_W_law_394 : decode code 394 = .ok (.aload_n 0, 1) := by decide +kernel
theorem d_W_law_395 : decode code 395 = .ok (.iload 5, 2) := by decide +kernel
theorem d_W_law_397 : decode code 397 = .ok (.iconst 1, 1) := by decide +kernel
theorem d_W_law_398 : decode code 398 = .ok (.iadd, 1) := by decide +kernel
theorem d_W_law_399 : decode code 399 = .ok (.iaload, 1) := by decide +kernel
theorem d_W_law_400 : decode code 400 = .ok (.aload_n 0, 1) := by decide +kernel
theorem d_W_law_401 : decode code 401 = .ok (.iload 5, 2) := by decide +kernel
theorem d_W_law_403 : decode code 403 = .ok (.iconst 2, 1) := by decide +kernel
theorem d_W_law_404 : decode code 404 = .ok (.iadd, 1) := by decide +kernel
theorem d_W_law_405 : decode code 405 = .ok (.iaload, 1) := by decide +kernel
theorem d_W_law_406 : decode code 406 = .ok (.aload_n 0, 1) := by decide +kernel
theorem d_W_law_407 : decode code 407 = .ok (.iload 5, 2) := by decide +kernel
theorem d_W_law_409 : decode code 409 = .ok (.iconst 3, 1) := by decide +kernel
theorem d_W_law_410 : decode code 410 = .ok (.iadd, 1) := by decide +kernel
theorem d_W_law_411 : decode code 411 = .ok (.iaload, 1) := by decide +kernel
theorem d_W_law_412 : decode code 412 = .ok (.invokevirtual 124, 3) := by decide +kernel
theorem k_M_add : xCal m_M_add 3 := ⟨List.mem_append_right _ (List.mem_of_getElem? (i := 1724) (by decide +kernel)), w_15, Nat.le_of_ble_eq_true rfl, ⟨by decide +kernel, by decide +kernel⟩, by decide +kernel, by decide +kernel, rfl⟩
theorem w_1721 : Cond.methodLink "BeaconIndexLaw" 124 ⟨"BeaconIndexModel", "add", "(III)I"⟩ ∈ lw_tbl := List.mem_append_right _ (List.mem_of_getElem? (i := 1721) (by decide +kernel))
theorem w_1722 : Cond.instanceMethod ⟨"BeaconIndexModel", "add", "(III)I"⟩ ∈ lw_tbl := List.mem_append_right _ (List.mem_of_getElem? (i := 1722) (by decide +kernel))
theorem w_1723 : Cond.selects "BeaconIndexModel" ⟨"BeaconIndexModel", "add", "(III)I"⟩ ⟨"BeaconIndexModel", "add", "(III)I"⟩ ∈ lw_tbl := List.mem_append_right _ (List.mem_of_getElem? (i := 1723) (by decide +kernel))
theorem v_W_law_391 {G : XG} {d : Nat} {h : XH} {Q : XV → XH → Prop} {X : Nat → XH → Prop} {x5 s0 : Int} {n9 : Nat} {xs : Nat → Int32} {nm9 : String} {hq9 : List (Nat × Nat × Nat × Nat)} (SC : SCR G n9 xs) (F : xFix h) (hyp : xiR (x5 + 1) ∧ 0 ≤ (x5 + 1) ∧ (x5 + 1) < (n9 : Int) ∧ xiR (x5 + 2) ∧ 0 ≤ (x5 + 2) ∧ (x5 + 2) < (n9 : Int) ∧ xiR (x5 + 3) ∧ 0 ≤ (x5 + 3) ∧ (x5 + 3) < (n9 : Int) ∧ (xwp G m_M_add (d + 219) 0 [xR 53, xI (scV xs (x5 + 1)), xI (scV xs (x5 + 2)), xI (scV xs (x5 + 3)), xZ, xZ, xZ] [] h (fun v9 h9 => xwp G (m_W_law nm9 hq9) (d + 220) 415 [xR (-108), xR 0, xR 53, xR 91, xR 92, xI x5, xI s0, xZ, xZ] (xpush v9 []) h9 Q X) (fun _ _ => False))) : xwp G (m_W_law nm9 hq9) (d + 220) 391 [xR (-108), xR 0, xR 53, xR 91, xR 92, xI x5, xZ, xZ, xZ] [xI s0] h Q X := by
  have hnx9 : (93 : Int) ≤ xnx h := F.2.2
  refine xr_okL (fun hl9 => ?_)
  have r_x5 : -2147483648 ≤ x5 ∧ x5 ≤ 2147483647 := hl9 (xI x5) (.tail _ (.tail _ (.tail _ (.tail _ (.tail _ (.head _)))))) (Nat.le_of_ble_eq_true rfl)
  refine xr_okS (fun hs9 => ?_)
  have r_s0 : -2147483648 ≤ s0 ∧ s0 ≤ 2147483647 := hs9 (xI s0) (.head _)
  refine xr_istore (pc := 391) (i := 6) (L9 := [xR (-108), xR 0, xR 53, xR 91, xR 92, xI x5, xI s0, xZ, xZ]) (hI := d_W_law_391) (hn := Nat.le_of_ble_eq_true rfl) (hL9 := rfl) ?_
  refine xr_aload_n (pc := 393) (i := 2) (hI := d_W_law_393) (hi := rfl) (hl := rfl) ?_
  refine xr_aload_n (pc := 394) (i := 0) (hI := d_W_law_394) (hi := rfl) (hl := rfl) ?_
  refine xr_iload (pc := 395) (i := 5) (hI := d_W_law_395) (hl := rfl) ?_
  refine xr_iconst (pc := 397) (hI := d_W_law_397) (hr := by decide) ?_
  obtain ⟨c9, hyp⟩ := hyp
  refine xr_iadd (pc := 398) (hI := d_W_law_398) (hr := c9) ?_
  obtain ⟨c8, c9, hyp⟩ := hyp
  refine xr_scd (pc := 399) SC (hI := d_W_law_399) c8 c9 ?_
  have f1_ : -2147483648 ≤ (scV xs (x5 + 1)) ∧ (scV xs (x5 + 1)) ≤ 2147483647 := xi_toR _
  refine xr_aload_n (pc := 400) (i := 0) (hI := d_W_law_400) (hi := rfl) (hl := rfl) ?_
  refine xr_iload (pc := 401) (i := 5) (hI := d_W_law_401) (hl := rfl) ?_
  refine xr_iconst (pc := 403) (hI := d_W_law_403) (hr := by decide) ?_
  obtain ⟨c9, hyp⟩ := hyp
  refine xr_iadd (pc := 404) (hI := d_W_law_404) (hr := c9) ?_
  obtain ⟨c8, c9, hyp⟩ := hyp
  refine xr_scd (pc := 405) SC (hI := d_W_law_405) c8 c9 ?_
  have f2_ : -2147483648 ≤ (scV xs (x5 + 2)) ∧ (scV xs (x5 + 2)) ≤ 2147483647 := xi_toR _
  refine xr_aload_n (pc := 406) (i := 0) (hI := d_W_law_406) (hi := rfl) (hl := rfl) ?_
  refine xr_iload (pc := 407) (i := 5) (hI := d_W_law_407) (hl := rfl) ?_
  refine xr_iconst (pc := 409) (hI := d_W_law_409) (hr := by decide) ?_
  obtain ⟨c9, hyp⟩ := hyp
  refine xr_iadd (pc := 410) (hI := d_W_law_410) (hr := c9) ?_
  obtain ⟨c8, c9, hyp⟩ := hyp
  refine xr_scd (pc := 411) SC (hI := d_W_law_411) c8 c9 ?_
  have f3_ : -2147483648 ≤ (scV xs (x5 + 3)) ∧ (scV xs (x5 + 3)) ≤ 2147483647 := xi_toR _
  exact xl_callV (pc := 412) (index := 124) (K := m_M_add) (As := [xI (scV xs (x5 + 1)), xI (scV xs (x5 + 2)), xI (scV xs (x5 + 3))]) (S := []) (L0 := [xR 53, xI (scV xs (x5 + 1)), xI (scV xs (x5 + 2)), xI (scV xs (x5 + 3)), xZ, xZ, xZ]) (hI := d_W_law_412) (hK := k_M_add) (hlk := w_1721) (hS8 := Nat.le_of_ble_eq_true rfl) (ci := 11) (N := 38) (C := "BeaconIndexModel") (T := xF11) (hc := rfl) (hci := Nat.le_of_ble_eq_true rfl) (htb := (ft_53 F)) (hinst := w_1722) (hsel := w_1723) (hlen := Nat.le_of_ble_eq_true rfl) (hst := rfl) (hL0 := rfl)  hyp
theorem d_W_law_415 : decode code 415 = .ok (.istore 7, 2) := by decide +kernel
theorem d_W_law_417 : decode code 417 = .ok (.aload_n 2, 1) := by decide +kernel
theorem d_W_law_418 : decode code 418 = .ok (.invokevirtual 114, 3) := by decide +kernel
theorem d_W_law_421 : decode code 421 = .ok (.iload 6, 2) := by decide +kernel
theorem d_W_law_423 : decode code 423 = .ok (.if_icmp .eq 5, 3) := by decide +kernel
theorem d_W_law_428 : decode code 428 = .ok (.iload 6, 2) := by decide +kernel
theorem d_W_law_430 : decode code 430 = .ok (.ifCond .ne 15, 3) := by decide +kernel
theorem d_W_law_445 : decode code 445 = .ok (.goto 1573, 3) := by decide +kernel
theorem d_W_law_433 : decode code 433 = .ok (.aload_n 3, 1) := by decide +kernel
theorem d_W_law_434 : decode code 434 = .ok (.iconst 0, 1) := by decide +kernel
theorem d_W_law_435 : decode code 435 = .ok (.laload, 1) := by decide +kernel
theorem d_W_law_436 : decode code 436 = .ok (.iload 7, 2) := by decide +kernel
theorem d_W_law_438 : decode code 438 = .ok (.i2l, 1) := by decide +kernel
theorem d_W_law_439 : decode code 439 = .ok (.lcmp, 1) := by decide +kernel
theorem d_W_law_440 : decode code 440 = .ok (.ifCond .eq 5, 3) := by decide +kernel
theorem d_W_law_443 : decode code 443 = .ok (.iconst 0, 1) := by decide +kernel
theorem d_W_law_444 : decode code 444 = .ok (.ireturn, 1) := by decide +kernel
theorem d_W_law_426 : decode code 426 = .ok (.iconst 0, 1) := by decide +kernel
theorem d_W_law_427 : decode code 427 = .ok (.ireturn, 1) := by decide +kernel
theorem v_W_law_415 {G : XG} {d : Nat} {h : XH} {Q : XV → XH → Prop} {X : Nat → XH → Prop} {x5 x6 s0 : Int} {n9 : Nat} {xs : Nat → Int32} {nm9 : String} {hq9 : List (Nat × Nat × Nat × Nat)} (SC : SCR G n9 xs) (F : xFix h) (hyp : (((xpl h 53 0) = x6 → ((x6 = 0 → (((xpl h 91 0) = s0 → (xwp G (m_W_law nm9 hq9) (d + 220) 2018 [xR (-108), xR 0, xR 53, xR 91, xR 92, xI x5, xZ, xZ, xZ] [] h Q X)) ∧ (¬ (xpl h 91 0) = s0 → (Q (xI 0) h)))) ∧ (¬ x6 = 0 → (xwp G (m_W_law nm9 hq9) (d + 220) 2018 [xR (-108), xR 0, xR 53, xR 91, xR 92, xI x5, xZ, xZ, xZ] [] h Q X)))) ∧ (¬ (xpl h 53 0) = x6 → (Q (xI 0) h)))) : xwp G (m_W_law nm9 hq9) (d + 220) 415 [xR (-108), xR 0, xR 53, xR 91, xR 92, xI x5, xI x6, xZ, xZ] [xI s0] h Q X := by
  have hnx9 : (93 : Int) ≤ xnx h := F.2.2
  refine xr_okL (fun hl9 => ?_)
  have r_x5 : -2147483648 ≤ x5 ∧ x5 ≤ 2147483647 := hl9 (xI x5) (.tail _ (.tail _ (.tail _ (.tail _ (.tail _ (.head _)))))) (Nat.le_of_ble_eq_true rfl)
  have r_x6 : -2147483648 ≤ x6 ∧ x6 ≤ 2147483647 := hl9 (xI x6) (.tail _ (.tail _ (.tail _ (.tail _ (.tail _ (.tail _ (.head _))))))) (Nat.le_of_ble_eq_true rfl)
  refine xr_okS (fun hs9 => ?_)
  have r_s0 : -2147483648 ≤ s0 ∧ s0 ≤ 2147483647 := hs9 (xI s0) (.head _)
  refine xr_istore (pc := 415) (i := 7) (L9 := [xR (-108), xR 0, xR 53, xR 91, xR 92, xI x5, xI x6, xI s0, xZ]) (hI := d_W_law_415) (hn := Nat.le_of_ble_eq_true rfl) (hL9 := rfl) ?_
  refine xr_aload_n (pc := 417) (i := 2) (hI := d_W_law_417) (hi := rfl) (hl := rfl) ?_
  refine xl_callV (pc := 418) (index := 114) (K := m_M_thrown) (As := []) (S := []) (L0 := [xR 53]) (hI := d_W_law_418) (hK := k_M_thrown) (hlk := w_1702) (hS8 := Nat.le_of_ble_eq_true rfl) (ci := 11) (N := 38) (C := "BeaconIndexModel") (T := xF11) (hc := rfl) (hci := Nat.le_of_ble_eq_true rfl) (htb := (ft_53 F)) (hinst := w_1703) (hsel := w_1704) (hlen := Nat.le_of_ble_eq_true rfl) (hst := rfl) (hL0 := rfl)  ?_
  refine xr_aload_n (pc := 0) (i := 0) (hI := d_M_thrown_0) (hi := rfl) (hl := rfl) ?_
  refine xg_getf (pc := 1) (ci := 11) (k := 0) (N := 38) (v9 := 0) (v := (xpl h 53 0)) (T := xF11) (hI := d_M_thrown_1) (hw := w_1587) rfl xi11 (Or.inl rfl) (Nat.le_of_ble_eq_true rfl) (Nat.le_of_ble_eq_true rfl) rfl (ft_53 F) rfl (fun f1_ => ?_)
  replace f1_ : -2147483648 ≤ (xpl h 53 0) ∧ (xpl h 53 0) ≤ 2147483647 := f1_
  refine xr_ireturn (S := []) (pc := 4) (hI := d_M_thrown_4) (hr := rfl) ?_
  show xwp G (m_W_law nm9 hq9) (d + 220) 421 [xR (-108), xR 0, xR 53, xR 91, xR 92, xI x5, xI x6, xI s0, xZ] [xI (xpl h 53 0)] _ _ _
  refine xr_iload (pc := 421) (i := 6) (hI := d_W_law_421) (hl := rfl) ?_
  refine xr_icmp_eq (pc := 423) (tgt := 428) (hI := d_W_law_423) (ht := by decide) (fun q9 => ?_) (fun q9 => ?_)
  · replace hyp := hyp.1 q9
    have q2_ := q9
    clear q9
    refine xr_iload (pc := 428) (i := 6) (hI := d_W_law_428) (hl := rfl) ?_
    refine xr_if_ne (pc := 430) (tgt := 445) (hI := d_W_law_430) (ht := by decide) (fun q9 => ?_) (fun q9 => ?_)
    · replace hyp := hyp.2 q9
      have q3_ := q9
      clear q9
      refine xr_goto (pc := 445) (tgt := 2018) (hI := d_W_law_445) (ht := by decide) ?_
      exact xr_drop (L9 := [xR (-108), xR 0, xR 53, xR 91, xR 92, xI x5, xZ, xZ, xZ]) (xdrs (xdrs (xdrs (xdrs (xdrs (xdrs (xdrz (xdrz (xdrs xdr0))))))))) hyp
    · replace hyp := hyp.1 q9
      have q3_ := q9
      clear q9
      refine xr_aload_n (pc := 433) (i := 3) (hI := d_W_law_433) (hi := rfl) (hl := rfl) ?_
      refine xr_iconst (pc := 434) (hI := d_W_law_434) (hr := by decide) ?_
      refine xg_laload (pc := 435) (v := (xpl h 91 0)) (hI := d_W_law_435) (ft_91 F) (by decide) (xlt_of (fl_91 F) (by decide)) rfl (fun f4_ => ?_)
      replace f4_ : -9223372036854775808 ≤ (xpl h 91 0) ∧ (xpl h 91 0) ≤ 9223372036854775807 := f4_
      refine xr_iload (pc := 436) (i := 7) (hI := d_W_law_436) (hl := rfl) ?_
      refine xr_i2l (pc := 438) (hI := d_W_law_438) ?_
      refine xr_lcmp (pc := 439) (hI := d_W_law_439) ?_
      refine xg_lif_eq (pc := 440) (tgt := 445) (hI := d_W_law_440) (ht := by decide) (fun q9 => ?_) (fun q9 => ?_)
      · replace hyp := hyp.1 q9
        have q5_ := q9
        clear q9
        refine xr_goto (pc := 445) (tgt := 2018) (hI := d_W_law_445) (ht := by decide) ?_
        exact xr_drop (L9 := [xR (-108), xR 0, xR 53, xR 91, xR 92, xI x5, xZ, xZ, xZ]) (xdrs (xdrs (xdrs (xdrs (xdrs (xdrs (xdrz (xdrz (xdrs xdr0))))))))) hyp
      · replace hyp := hyp.2 q9
        have q5_ := q9
        clear q9
        refine xr_iconst (pc := 443) (hI := d_W_law_443) (hr := by decide) ?_
        refine xr_ireturnT (S := []) (pc := 444) (hI := d_W_law_444) (hr := rfl) (xnar_z (by decide)) ?_
        exact hyp
  · replace hyp := hyp.2 q9
    have q2_ := q9
    clear q9
    refine xr_iconst (pc := 426) (hI := d_W_law_426) (hr := by decide) ?_
    refine xr_ireturnT (S := []) (pc := 427) (hI := d_W_law_427) (hr := rfl) (xnar_z (by decide)) ?_
    exact hyp
theorem d_W_law_448 : decode code 448 = .ok (.aload_n 1, 1) := by decide +kernel
theorem d_W_law_449 : decode code 449 = .ok (.aload_n 0, 1) := by decide +kernel
theorem d_W_law_450 : decode code 450 = .ok (.iload 5, 2) := by decide +kernel
theorem d_W_law_452 : decode code 452 = .ok (.iconst 1, 1) := by decide +kernel
theorem d_W_law_453 : decode code 453 = .ok (.iadd, 1) := by decide +kernel
theorem d_W_law_454 : decode code 454 = .ok (.iaload, 1) := by decide +kernel
theorem d_W_law_455 : decode code 455 = .ok (.aload_n 3, 1) := by decide +kernel
theorem d_W_law_456 : decode code 456 = .ok (.invokestatic 125, 3) := by decide +kernel
theorem k_W_takeOut : xCalH m_W_takeOut 3 := ⟨List.mem_append_right _ (List.mem_of_getElem? (i := 1399) (by decide +kernel)), w_0, Nat.le_of_ble_eq_true rfl, ⟨by decide +kernel, by decide +kernel⟩, by decide +kernel, by decide +kernel⟩
theorem w_1397 : Cond.methodLink "BeaconIndexLaw" 125 ⟨"BeaconIndexLaw", "takeOut", "(LBeaconIndex;I[J)I"⟩ ∈ lw_tbl := List.mem_append_right _ (List.mem_of_getElem? (i := 1397) (by decide +kernel))
theorem w_1398 : Cond.static ⟨"BeaconIndexLaw", "takeOut", "(LBeaconIndex;I[J)I"⟩ ∈ lw_tbl := List.mem_append_right _ (List.mem_of_getElem? (i := 1398) (by decide +kernel))
theorem v_W_law_448 {G : XG} {d : Nat} {h : XH} {Q : XV → XH → Prop} {X : Nat → XH → Prop} {x5 : Int} {n9 : Nat} {xs : Nat → Int32} {nm9 : String} {hq9 : List (Nat × Nat × Nat × Nat)} (SC : SCR G n9 xs) (F : xFix h) (hyp : xiR (x5 + 1) ∧ 0 ≤ (x5 + 1) ∧ (x5 + 1) < (n9 : Int) ∧ (xwp G m_W_takeOut (d + 219) 0 [xR 0, xI (scV xs (x5 + 1)), xR 91, xZ] [] h (fun v9 h9 => xwp G (m_W_law nm9 hq9) (d + 220) 459 [xR (-108), xR 0, xR 53, xR 91, xR 92, xI x5, xZ, xZ, xZ] (xpush v9 []) h9 Q X) (fun _ _ => False))) : xwp G (m_W_law nm9 hq9) (d + 220) 448 [xR (-108), xR 0, xR 53, xR 91, xR 92, xI x5, xZ, xZ, xZ] [] h Q X := by
  have hnx9 : (93 : Int) ≤ xnx h := F.2.2
  refine xr_okL (fun hl9 => ?_)
  have r_x5 : -2147483648 ≤ x5 ∧ x5 ≤ 2147483647 := hl9 (xI x5) (.tail _ (.tail _ (.tail _ (.tail _ (.tail _ (.head _)))))) (Nat.le_of_ble_eq_true rfl)
  refine xr_aload_n (pc := 448) (i := 1) (hI := d_W_law_448) (hi := rfl) (hl := rfl) ?_
  refine xr_aload_n (pc := 449) (i := 0) (hI := d_W_law_449) (hi := rfl) (hl := rfl) ?_
  refine xr_iload (pc := 450) (i := 5) (hI := d_W_law_450) (hl := rfl) ?_
  refine xr_iconst (pc := 452) (hI := d_W_law_452) (hr := by decide) ?_
  obtain ⟨c9, hyp⟩ := hyp
  refine xr_iadd (pc := 453) (hI := d_W_law_453) (hr := c9) ?_
  obtain ⟨c8, c9, hyp⟩ := hyp
  refine xr_scd (pc := 454) SC (hI := d_W_law_454) c8 c9 ?_
  have f1_ : -2147483648 ≤ (scV xs (x5 + 1)) ∧ (scV xs (x5 + 1)) ≤ 2147483647 := xi_toR _
  refine xr_aload_n (pc := 455) (i := 3) (hI := d_W_law_455) (hi := rfl) (hl := rfl) ?_
  exact xl_callSW (pc := 456) (index := 125) (K := m_W_takeOut) (As := [xR 0, xI (scV xs (x5 + 1)), xR 91]) (S := []) (L0 := [xR 0, xI (scV xs (x5 + 1)), xR 91, xZ]) (hI := d_W_law_456) (hK := k_W_takeOut) (hlk := w_1397) (hS8 := Nat.le_of_ble_eq_true rfl) (hstat := w_1398) (hlen := Nat.le_of_ble_eq_true rfl) (hst := rfl) (hL0 := rfl)  hyp
theorem d_W_law_459 : decode code 459 = .ok (.istore 6, 2) := by decide +kernel
theorem d_W_law_461 : decode code 461 = .ok (.aload_n 2, 1) := by decide +kernel
theorem d_W_law_462 : decode code 462 = .ok (.aload_n 0, 1) := by decide +kernel
theorem d_W_law_463 : decode code 463 = .ok (.iload 5, 2) := by decide +kernel
theorem d_W_law_465 : decode code 465 = .ok (.iconst 1, 1) := by decide +kernel
theorem d_W_law_466 : decode code 466 = .ok (.iadd, 1) := by decide +kernel
theorem d_W_law_467 : decode code 467 = .ok (.iaload, 1) := by decide +kernel
theorem d_W_law_468 : decode code 468 = .ok (.invokevirtual 127, 3) := by decide +kernel
theorem k_M_takeOut : xCal m_M_takeOut 1 := ⟨List.mem_append_right _ (List.mem_of_getElem? (i := 1809) (by decide +kernel)), w_15, Nat.le_of_ble_eq_true rfl, ⟨by decide +kernel, by decide +kernel⟩, by decide +kernel, by decide +kernel, rfl⟩
theorem w_1806 : Cond.methodLink "BeaconIndexLaw" 127 ⟨"BeaconIndexModel", "takeOut", "(I)Z"⟩ ∈ lw_tbl := List.mem_append_right _ (List.mem_of_getElem? (i := 1806) (by decide +kernel))
theorem w_1807 : Cond.instanceMethod ⟨"BeaconIndexModel", "takeOut", "(I)Z"⟩ ∈ lw_tbl := List.mem_append_right _ (List.mem_of_getElem? (i := 1807) (by decide +kernel))
theorem w_1808 : Cond.selects "BeaconIndexModel" ⟨"BeaconIndexModel", "takeOut", "(I)Z"⟩ ⟨"BeaconIndexModel", "takeOut", "(I)Z"⟩ ∈ lw_tbl := List.mem_append_right _ (List.mem_of_getElem? (i := 1808) (by decide +kernel))
theorem v_W_law_459 {G : XG} {d : Nat} {h : XH} {Q : XV → XH → Prop} {X : Nat → XH → Prop} {x5 s0 : Int} {n9 : Nat} {xs : Nat → Int32} {nm9 : String} {hq9 : List (Nat × Nat × Nat × Nat)} (SC : SCR G n9 xs) (F : xFix h) (hyp : xiR (x5 + 1) ∧ 0 ≤ (x5 + 1) ∧ (x5 + 1) < (n9 : Int) ∧ (xwp G m_M_takeOut (d + 219) 0 [xR 53, xI (scV xs (x5 + 1)), xZ] [] h (fun v9 h9 => xwp G (m_W_law nm9 hq9) (d + 220) 471 [xR (-108), xR 0, xR 53, xR 91, xR 92, xI x5, xI s0, xZ, xZ] (xpush v9 []) h9 Q X) (fun _ _ => False))) : xwp G (m_W_law nm9 hq9) (d + 220) 459 [xR (-108), xR 0, xR 53, xR 91, xR 92, xI x5, xZ, xZ, xZ] [xI s0] h Q X := by
  have hnx9 : (93 : Int) ≤ xnx h := F.2.2
  refine xr_okL (fun hl9 => ?_)
  have r_x5 : -2147483648 ≤ x5 ∧ x5 ≤ 2147483647 := hl9 (xI x5) (.tail _ (.tail _ (.tail _ (.tail _ (.tail _ (.head _)))))) (Nat.le_of_ble_eq_true rfl)
  refine xr_okS (fun hs9 => ?_)
  have r_s0 : -2147483648 ≤ s0 ∧ s0 ≤ 2147483647 := hs9 (xI s0) (.head _)
  refine xr_istore (pc := 459) (i := 6) (L9 := [xR (-108), xR 0, xR 53, xR 91, xR 92, xI x5, xI s0, xZ, xZ]) (hI := d_W_law_459) (hn := Nat.le_of_ble_eq_true rfl) (hL9 := rfl) ?_
  refine xr_aload_n (pc := 461) (i := 2) (hI := d_W_law_461) (hi := rfl) (hl := rfl) ?_
  refine xr_aload_n (pc := 462) (i := 0) (hI := d_W_law_462) (hi := rfl) (hl := rfl) ?_
  refine xr_iload (pc := 463) (i := 5) (hI := d_W_law_463) (hl := rfl) ?_
  refine xr_iconst (pc := 465) (hI := d_W_law_465) (hr := by decide) ?_
  obtain ⟨c9, hyp⟩ := hyp
  refine xr_iadd (pc := 466) (hI := d_W_law_466) (hr := c9) ?_
  obtain ⟨c8, c9, hyp⟩ := hyp
  refine xr_scd (pc := 467) SC (hI := d_W_law_467) c8 c9 ?_
  have f1_ : -2147483648 ≤ (scV xs (x5 + 1)) ∧ (scV xs (x5 + 1)) ≤ 2147483647 := xi_toR _
  exact xl_callV (pc := 468) (index := 127) (K := m_M_takeOut) (As := [xI (scV xs (x5 + 1))]) (S := []) (L0 := [xR 53, xI (scV xs (x5 + 1)), xZ]) (hI := d_W_law_468) (hK := k_M_takeOut) (hlk := w_1806) (hS8 := Nat.le_of_ble_eq_true rfl) (ci := 11) (N := 38) (C := "BeaconIndexModel") (T := xF11) (hc := rfl) (hci := Nat.le_of_ble_eq_true rfl) (htb := (ft_53 F)) (hinst := w_1807) (hsel := w_1808) (hlen := Nat.le_of_ble_eq_true rfl) (hst := rfl) (hL0 := rfl)  hyp
theorem d_W_law_471 : decode code 471 = .ok (.istore 7, 2) := by decide +kernel
theorem d_W_law_473 : decode code 473 = .ok (.aload_n 2, 1) := by decide +kernel
theorem d_W_law_474 : decode code 474 = .ok (.invokevirtual 114, 3) := by decide +kernel
theorem d_W_law_477 : decode code 477 = .ok (.iload 6, 2) := by decide +kernel
theorem d_W_law_479 : decode code 479 = .ok (.if_icmp .eq 5, 3) := by decide +kernel
theorem d_W_law_484 : decode code 484 = .ok (.iload 6, 2) := by decide +kernel
theorem d_W_law_486 : decode code 486 = .ok (.ifCond .ne 22, 3) := by decide +kernel
theorem d_W_law_508 : decode code 508 = .ok (.goto 1510, 3) := by decide +kernel
theorem d_W_law_489 : decode code 489 = .ok (.aload_n 3, 1) := by decide +kernel
theorem d_W_law_490 : decode code 490 = .ok (.iconst 0, 1) := by decide +kernel
theorem d_W_law_491 : decode code 491 = .ok (.laload, 1) := by decide +kernel
theorem d_W_law_492 : decode code 492 = .ok (.iload 7, 2) := by decide +kernel
theorem d_W_law_494 : decode code 494 = .ok (.ifCond .eq 7, 3) := by decide +kernel
theorem d_W_law_501 : decode code 501 = .ok (.lconst 0, 1) := by decide +kernel
theorem d_W_law_502 : decode code 502 = .ok (.lcmp, 1) := by decide +kernel
theorem d_W_law_503 : decode code 503 = .ok (.ifCond .eq 5, 3) := by decide +kernel
theorem d_W_law_506 : decode code 506 = .ok (.iconst 0, 1) := by decide +kernel
theorem d_W_law_507 : decode code 507 = .ok (.ireturn, 1) := by decide +kernel
theorem d_W_law_497 : decode code 497 = .ok (.lconst 1, 1) := by decide +kernel
theorem d_W_law_498 : decode code 498 = .ok (.goto 4, 3) := by decide +kernel
theorem d_W_law_482 : decode code 482 = .ok (.iconst 0, 1) := by decide +kernel
theorem d_W_law_483 : decode code 483 = .ok (.ireturn, 1) := by decide +kernel
theorem v_W_law_471 {G : XG} {d : Nat} {h : XH} {Q : XV → XH → Prop} {X : Nat → XH → Prop} {x5 x6 s0 : Int} {n9 : Nat} {xs : Nat → Int32} {nm9 : String} {hq9 : List (Nat × Nat × Nat × Nat)} (SC : SCR G n9 xs) (F : xFix h) (hyp : (((xpl h 53 0) = x6 → ((x6 = 0 → ((s0 = 0 → (((xpl h 91 0) = 0 → (xwp G (m_W_law nm9 hq9) (d + 220) 2018 [xR (-108), xR 0, xR 53, xR 91, xR 92, xI x5, xZ, xZ, xZ] [] h Q X)) ∧ (¬ (xpl h 91 0) = 0 → (Q (xI 0) h)))) ∧ (¬ s0 = 0 → (((xpl h 91 0) = 1 → (xwp G (m_W_law nm9 hq9) (d + 220) 2018 [xR (-108), xR 0, xR 53, xR 91, xR 92, xI x5, xZ, xZ, xZ] [] h Q X)) ∧ (¬ (xpl h 91 0) = 1 → (Q (xI 0) h)))))) ∧ (¬ x6 = 0 → (xwp G (m_W_law nm9 hq9) (d + 220) 2018 [xR (-108), xR 0, xR 53, xR 91, xR 92, xI x5, xZ, xZ, xZ] [] h Q X)))) ∧ (¬ (xpl h 53 0) = x6 → (Q (xI 0) h)))) : xwp G (m_W_law nm9 hq9) (d + 220) 471 [xR (-108), xR 0, xR 53, xR 91, xR 92, xI x5, xI x6, xZ, xZ] [xI s0] h Q X := by
  have hnx9 : (93 : Int) ≤ xnx h := F.2.2
  refine xr_okL (fun hl9 => ?_)
  have r_x5 : -2147483648 ≤ x5 ∧ x5 ≤ 2147483647 := hl9 (xI x5) (.tail _ (.tail _ (.tail _ (.tail _ (.tail _ (.head _)))))) (Nat.le_of_ble_eq_true rfl)
  have r_x6 : -2147483648 ≤ x6 ∧ x6 ≤ 2147483647 := hl9 (xI x6) (.tail _ (.tail _ (.tail _ (.tail _ (.tail _ (.tail _ (.head _))))))) (Nat.le_of_ble_eq_true rfl)
  refine xr_okS (fun hs9 => ?_)
  have r_s0 : -2147483648 ≤ s0 ∧ s0 ≤ 2147483647 := hs9 (xI s0) (.head _)
  refine xr_istore (pc := 471) (i := 7) (L9 := [xR (-108), xR 0, xR 53, xR 91, xR 92, xI x5, xI x6, xI s0, xZ]) (hI := d_W_law_471) (hn := Nat.le_of_ble_eq_true rfl) (hL9 := rfl) ?_
  refine xr_aload_n (pc := 473) (i := 2) (hI := d_W_law_473) (hi := rfl) (hl := rfl) ?_
  refine xl_callV (pc := 474) (index := 114) (K := m_M_thrown) (As := []) (S := []) (L0 := [xR 53]) (hI := d_W_law_474) (hK := k_M_thrown) (hlk := w_1702) (hS8 := Nat.le_of_ble_eq_true rfl) (ci := 11) (N := 38) (C := "BeaconIndexModel") (T := xF11) (hc := rfl) (hci := Nat.le_of_ble_eq_true rfl) (htb := (ft_53 F)) (hinst := w_1703) (hsel := w_1704) (hlen := Nat.le_of_ble_eq_true rfl) (hst := rfl) (hL0 := rfl)  ?_
  refine xr_aload_n (pc := 0) (i := 0) (hI := d_M_thrown_0) (hi := rfl) (hl := rfl) ?_
  refine xg_getf (pc := 1) (ci := 11) (k := 0) (N := 38) (v9 := 0) (v := (xpl h 53 0)) (T := xF11) (hI := d_M_thrown_1) (hw := w_1587) rfl xi11 (Or.inl rfl) (Nat.le_of_ble_eq_true rfl) (Nat.le_of_ble_eq_true rfl) rfl (ft_53 F) rfl (fun f1_ => ?_)
  replace f1_ : -2147483648 ≤ (xpl h 53 0) ∧ (xpl h 53 0) ≤ 2147483647 := f1_
  refine xr_ireturn (S := []) (pc := 4) (hI := d_M_thrown_4) (hr := rfl) ?_
  show xwp G (m_W_law nm9 hq9) (d + 220) 477 [xR (-108), xR 0, xR 53, xR 91, xR 92, xI x5, xI x6, xI s0, xZ] [xI (xpl h 53 0)] _ _ _
  refine xr_iload (pc := 477) (i := 6) (hI := d_W_law_477) (hl := rfl) ?_
  refine xr_icmp_eq (pc := 479) (tgt := 484) (hI := d_W_law_479) (ht := by decide) (fun q9 => ?_) (fun q9 => ?_)
  · replace hyp := hyp.1 q9
    have q2_ := q9
    clear q9
    refine xr_iload (pc := 484) (i := 6) (hI := d_W_law_484) (hl := rfl) ?_
    refine xr_if_ne (pc := 486) (tgt := 508) (hI := d_W_law_486) (ht := by decide) (fun q9 => ?_) (fun q9 => ?_)
    · replace hyp := hyp.2 q9
      have q3_ := q9
      clear q9
      refine xr_goto (pc := 508) (tgt := 2018) (hI := d_W_law_508) (ht := by decide) ?_
      exact xr_drop (L9 := [xR (-108), xR 0, xR 53, xR 91, xR 92, xI x5, xZ, xZ, xZ]) (xdrs (xdrs (xdrs (xdrs (xdrs (xdrs (xdrz (xdrz (xdrs xdr0))))))))) hyp
    · replace hyp := hyp.1 q9
      have q3_ := q9
      clear q9
      refine xr_aload_n (pc := 489) (i := 3) (hI := d_W_law_489) (hi := rfl) (hl := rfl) ?_
      refine xr_iconst (pc := 490) (hI := d_W_law_490) (hr := by decide) ?_
      refine xg_laload (pc := 491) (v := (xpl h 91 0)) (hI := d_W_law_491) (ft_91 F) (by decide) (xlt_of (fl_91 F) (by decide)) rfl (fun f4_ => ?_)
      replace f4_ : -9223372036854775808 ≤ (xpl h 91 0) ∧ (xpl h 91 0) ≤ 9223372036854775807 := f4_
      refine xr_iload (pc := 492) (i := 7) (hI := d_W_law_492) (hl := rfl) ?_
      refine xr_if_eq (pc := 494) (tgt := 501) (hI := d_W_law_494) (ht := by decide) (fun q9 => ?_) (fun q9 => ?_)
      · replace hyp := hyp.1 q9
        have q5_ := q9
        clear q9
        refine xr_lconst (pc := 501) (z := 0) (hI := d_W_law_501) (hr := by decide) (hv := by decide) ?_
        refine xr_lcmp (pc := 502) (hI := d_W_law_502) ?_
        refine xg_lif_eq (pc := 503) (tgt := 508) (hI := d_W_law_503) (ht := by decide) (fun q9 => ?_) (fun q9 => ?_)
        · replace hyp := hyp.1 q9
          have q6_ := q9
          clear q9
          refine xr_goto (pc := 508) (tgt := 2018) (hI := d_W_law_508) (ht := by decide) ?_
          exact xr_drop (L9 := [xR (-108), xR 0, xR 53, xR 91, xR 92, xI x5, xZ, xZ, xZ]) (xdrs (xdrs (xdrs (xdrs (xdrs (xdrs (xdrz (xdrz (xdrs xdr0))))))))) hyp
        · replace hyp := hyp.2 q9
          have q6_ := q9
          clear q9
          refine xr_iconst (pc := 506) (hI := d_W_law_506) (hr := by decide) ?_
          refine xr_ireturnT (S := []) (pc := 507) (hI := d_W_law_507) (hr := rfl) (xnar_z (by decide)) ?_
          exact hyp
      · replace hyp := hyp.2 q9
        have q5_ := q9
        clear q9
        refine xr_lconst (pc := 497) (z := 1) (hI := d_W_law_497) (hr := by decide) (hv := by decide) ?_
        refine xr_goto (pc := 498) (tgt := 502) (hI := d_W_law_498) (ht := by decide) ?_
        refine xr_lcmp (pc := 502) (hI := d_W_law_502) ?_
        refine xg_lif_eq (pc := 503) (tgt := 508) (hI := d_W_law_503) (ht := by decide) (fun q9 => ?_) (fun q9 => ?_)
        · replace hyp := hyp.1 q9
          have q7_ := q9
          clear q9
          refine xr_goto (pc := 508) (tgt := 2018) (hI := d_W_law_508) (ht := by decide) ?_
          exact xr_drop (L9 := [xR (-108), xR 0, xR 53, xR 91, xR 92, xI x5, xZ, xZ, xZ]) (xdrs (xdrs (xdrs (xdrs (xdrs (xdrs (xdrz (xdrz (xdrs xdr0))))))))) hyp
        · replace hyp := hyp.2 q9
          have q7_ := q9
          clear q9
          refine xr_iconst (pc := 506) (hI := d_W_law_506) (hr := by decide) ?_
          refine xr_ireturnT (S := []) (pc := 507) (hI := d_W_law_507) (hr := rfl) (xnar_z (by decide)) ?_
          exact hyp
  · replace hyp := hyp.2 q9
    have q2_ := q9
    clear q9
    refine xr_iconst (pc := 482) (hI := d_W_law_482) (hr := by decide) ?_
    refine xr_ireturnT (S := []) (pc := 483) (hI := d_W_law_483) (hr := rfl) (xnar_z (by decide)) ?_
    exact hyp
theorem d_W_law_511 : decode code 511 = .ok (.aload_n 1, 1) := by decide +kernel
theorem d_W_law_512 : decode code 512 = .ok (.invokevirtual 128, 3) := by decide +kernel
theorem k_B_commit : xCal m_B_commit 0 := ⟨List.mem_append_right _ (List.mem_of_getElem? (i := 455) (by decide +kernel)), w_1, Nat.le_of_ble_eq_true rfl, ⟨by decide +kernel, by decide +kernel⟩, by decide +kernel, by decide +kernel, rfl⟩
theorem w_452 : Cond.methodLink "BeaconIndexLaw" 128 ⟨"BeaconIndex", "commit", "()I"⟩ ∈ lw_tbl := List.mem_append_right _ (List.mem_of_getElem? (i := 452) (by decide +kernel))
theorem w_453 : Cond.instanceMethod ⟨"BeaconIndex", "commit", "()I"⟩ ∈ lw_tbl := List.mem_append_right _ (List.mem_of_getElem? (i := 453) (by decide +kernel))
theorem w_454 : Cond.selects "BeaconIndex" ⟨"BeaconIndex", "commit", "()I"⟩ ⟨"BeaconIndex", "commit", "()I"⟩ ∈ lw_tbl := List.mem_append_right _ (List.mem_of_getElem? (i := 454) (by decide +kernel))
theorem v_W_law_511 {G : XG} {d : Nat} {h : XH} {Q : XV → XH → Prop} {X : Nat → XH → Prop} {x5 : Int} {n9 : Nat} {xs : Nat → Int32} {nm9 : String} {hq9 : List (Nat × Nat × Nat × Nat)} (SC : SCR G n9 xs) (F : xFix h) (hyp : (xwp G m_B_commit (d + 219) 0 [xR 0] [] h (fun v9 h9 => xwp G (m_W_law nm9 hq9) (d + 220) 515 [xR (-108), xR 0, xR 53, xR 91, xR 92, xI x5, xZ, xZ, xZ] (xpush v9 []) h9 Q X) (fun _ _ => False))) : xwp G (m_W_law nm9 hq9) (d + 220) 511 [xR (-108), xR 0, xR 53, xR 91, xR 92, xI x5, xZ, xZ, xZ] [] h Q X := by
  have hnx9 : (93 : Int) ≤ xnx h := F.2.2
  refine xr_okL (fun hl9 => ?_)
  have r_x5 : -2147483648 ≤ x5 ∧ x5 ≤ 2147483647 := hl9 (xI x5) (.tail _ (.tail _ (.tail _ (.tail _ (.tail _ (.head _)))))) (Nat.le_of_ble_eq_true rfl)
  refine xr_aload_n (pc := 511) (i := 1) (hI := d_W_law_511) (hi := rfl) (hl := rfl) ?_
  exact xl_callV (pc := 512) (index := 128) (K := m_B_commit) (As := []) (S := []) (L0 := [xR 0]) (hI := d_W_law_512) (hK := k_B_commit) (hlk := w_452) (hS8 := Nat.le_of_ble_eq_true rfl) (ci := 0) (N := 7) (C := "BeaconIndex") (T := xF0) (hc := rfl) (hci := Nat.le_of_ble_eq_true rfl) (htb := (ft_0 F)) (hinst := w_453) (hsel := w_454) (hlen := Nat.le_of_ble_eq_true rfl) (hst := rfl) (hL0 := rfl)  hyp
theorem d_W_law_515 : decode code 515 = .ok (.aload_n 2, 1) := by decide +kernel
theorem d_W_law_516 : decode code 516 = .ok (.invokevirtual 131, 3) := by decide +kernel
theorem k_M_commit : xCal m_M_commit 0 := ⟨List.mem_append_right _ (List.mem_of_getElem? (i := 1817) (by decide +kernel)), w_15, Nat.le_of_ble_eq_true rfl, ⟨by decide +kernel, by decide +kernel⟩, by decide +kernel, by decide +kernel, rfl⟩
theorem w_1814 : Cond.methodLink "BeaconIndexLaw" 131 ⟨"BeaconIndexModel", "commit", "()I"⟩ ∈ lw_tbl := List.mem_append_right _ (List.mem_of_getElem? (i := 1814) (by decide +kernel))
theorem w_1815 : Cond.instanceMethod ⟨"BeaconIndexModel", "commit", "()I"⟩ ∈ lw_tbl := List.mem_append_right _ (List.mem_of_getElem? (i := 1815) (by decide +kernel))
theorem w_1816 : Cond.selects "BeaconIndexModel" ⟨"BeaconIndexModel", "commit", "()I"⟩ ⟨"BeaconIndexModel", "commit", "()I"⟩ ∈ lw_tbl := List.mem_append_right _ (List.mem_of_getElem? (i := 1816) (by decide +kernel))
theorem v_W_law_515 {G : XG} {d : Nat} {h : XH} {Q : XV → XH → Prop} {X : Nat → XH → Prop} {x5 s0 : Int} {n9 : Nat} {xs : Nat → Int32} {nm9 : String} {hq9 : List (Nat × Nat × Nat × Nat)} (SC : SCR G n9 xs) (F : xFix h) (hyp : (xwp G m_M_commit (d + 219) 0 [xR 53, xZ, xZ] [] h (fun v9 h9 => xwp G (m_W_law nm9 hq9) (d + 220) 519 [xR (-108), xR 0, xR 53, xR 91, xR 92, xI x5, xZ, xZ, xZ] (xpush v9 [xI s0]) h9 Q X) (fun _ _ => False))) : xwp G (m_W_law nm9 hq9) (d + 220) 515 [xR (-108), xR 0, xR 53, xR 91, xR 92, xI x5, xZ, xZ, xZ] [xI s0] h Q X := by
  have hnx9 : (93 : Int) ≤ xnx h := F.2.2
  refine xr_okL (fun hl9 => ?_)
  have r_x5 : -2147483648 ≤ x5 ∧ x5 ≤ 2147483647 := hl9 (xI x5) (.tail _ (.tail _ (.tail _ (.tail _ (.tail _ (.head _)))))) (Nat.le_of_ble_eq_true rfl)
  refine xr_okS (fun hs9 => ?_)
  have r_s0 : -2147483648 ≤ s0 ∧ s0 ≤ 2147483647 := hs9 (xI s0) (.head _)
  refine xr_aload_n (pc := 515) (i := 2) (hI := d_W_law_515) (hi := rfl) (hl := rfl) ?_
  exact xl_callV (pc := 516) (index := 131) (K := m_M_commit) (As := []) (S := [xI s0]) (L0 := [xR 53, xZ, xZ]) (hI := d_W_law_516) (hK := k_M_commit) (hlk := w_1814) (hS8 := Nat.le_of_ble_eq_true rfl) (ci := 11) (N := 38) (C := "BeaconIndexModel") (T := xF11) (hc := rfl) (hci := Nat.le_of_ble_eq_true rfl) (htb := (ft_53 F)) (hinst := w_1815) (hsel := w_1816) (hlen := Nat.le_of_ble_eq_true rfl) (hst := rfl) (hL0 := rfl)  hyp
theorem d_W_law_519 : decode code 519 = .ok (.if_icmp .eq 1499, 3) := by decide +kernel
theorem d_W_law_522 : decode code 522 = .ok (.iconst 0, 1) := by decide +kernel
theorem d_W_law_523 : decode code 523 = .ok (.ireturn, 1) := by decide +kernel
theorem v_W_law_519 {G : XG} {d : Nat} {h : XH} {Q : XV → XH → Prop} {X : Nat → XH → Prop} {x5 s0 s1 : Int} {n9 : Nat} {xs : Nat → Int32} {nm9 : String} {hq9 : List (Nat × Nat × Nat × Nat)} (SC : SCR G n9 xs) (F : xFix h) (hyp : ((s1 = s0 → (xwp G (m_W_law nm9 hq9) (d + 220) 2018 [xR (-108), xR 0, xR 53, xR 91, xR 92, xI x5, xZ, xZ, xZ] [] h Q X)) ∧ (¬ s1 = s0 → (Q (xI 0) h)))) : xwp G (m_W_law nm9 hq9) (d + 220) 519 [xR (-108), xR 0, xR 53, xR 91, xR 92, xI x5, xZ, xZ, xZ] [xI s0, xI s1] h Q X := by
  have hnx9 : (93 : Int) ≤ xnx h := F.2.2
  refine xr_okL (fun hl9 => ?_)
  have r_x5 : -2147483648 ≤ x5 ∧ x5 ≤ 2147483647 := hl9 (xI x5) (.tail _ (.tail _ (.tail _ (.tail _ (.tail _ (.head _)))))) (Nat.le_of_ble_eq_true rfl)
  refine xr_okS (fun hs9 => ?_)
  have r_s0 : -2147483648 ≤ s0 ∧ s0 ≤ 2147483647 := hs9 (xI s0) (.head _)
  have r_s1 : -2147483648 ≤ s1 ∧ s1 ≤ 2147483647 := hs9 (xI s1) (.tail _ (.head _))
  refine xr_icmp_eq (pc := 519) (tgt := 2018) (hI := d_W_law_519) (ht := by decide) (fun q9 => ?_) (fun q9 => ?_)
  · replace hyp := hyp.1 q9
    have q1_ := q9
    clear q9
    exact hyp
  · replace hyp := hyp.2 q9
    have q1_ := q9
    clear q9
    refine xr_iconst (pc := 522) (hI := d_W_law_522) (hr := by decide) ?_
    refine xr_ireturnT (S := []) (pc := 523) (hI := d_W_law_523) (hr := rfl) (xnar_z (by decide)) ?_
    exact hyp
theorem d_W_law_524 : decode code 524 = .ok (.aload_n 1, 1) := by decide +kernel
theorem d_W_law_525 : decode code 525 = .ok (.invokevirtual 132, 3) := by decide +kernel
theorem k_B_mergeAll : xCal m_B_mergeAll 0 := ⟨List.mem_append_right _ (List.mem_of_getElem? (i := 753) (by decide +kernel)), w_1, Nat.le_of_ble_eq_true rfl, ⟨by decide +kernel, by decide +kernel⟩, by decide +kernel, by decide +kernel, rfl⟩
theorem w_750 : Cond.methodLink "BeaconIndexLaw" 132 ⟨"BeaconIndex", "mergeAll", "()I"⟩ ∈ lw_tbl := List.mem_append_right _ (List.mem_of_getElem? (i := 750) (by decide +kernel))
theorem w_751 : Cond.instanceMethod ⟨"BeaconIndex", "mergeAll", "()I"⟩ ∈ lw_tbl := List.mem_append_right _ (List.mem_of_getElem? (i := 751) (by decide +kernel))
theorem w_752 : Cond.selects "BeaconIndex" ⟨"BeaconIndex", "mergeAll", "()I"⟩ ⟨"BeaconIndex", "mergeAll", "()I"⟩ ∈ lw_tbl := List.mem_append_right _ (List.mem_of_getElem? (i := 752) (by decide +kernel))
theorem v_W_law_524 {G : XG} {d : Nat} {h : XH} {Q : XV → XH → Prop} {X : Nat → XH → Prop} {x5 : Int} {n9 : Nat} {xs : Nat → Int32} {nm9 : String} {hq9 : List (Nat × Nat × Nat × Nat)} (SC : SCR G n9 xs) (F : xFix h) (hyp : (xwp G m_B_mergeAll (d + 219) 0 [xR 0, xZ] [] h (fun v9 h9 => xwp G (m_W_law nm9 hq9) (d + 220) 528 [xR (-108), xR 0, xR 53, xR 91, xR 92, xI x5, xZ, xZ, xZ] (xpush v9 []) h9 Q X) (fun _ _ => False))) : xwp G (m_W_law nm9 hq9) (d + 220) 524 [xR (-108), xR 0, xR 53, xR 91, xR 92, xI x5, xZ, xZ, xZ] [] h Q X := by
  have hnx9 : (93 : Int) ≤ xnx h := F.2.2
  refine xr_okL (fun hl9 => ?_)
  have r_x5 : -2147483648 ≤ x5 ∧ x5 ≤ 2147483647 := hl9 (xI x5) (.tail _ (.tail _ (.tail _ (.tail _ (.tail _ (.head _)))))) (Nat.le_of_ble_eq_true rfl)
  refine xr_aload_n (pc := 524) (i := 1) (hI := d_W_law_524) (hi := rfl) (hl := rfl) ?_
  exact xl_callV (pc := 525) (index := 132) (K := m_B_mergeAll) (As := []) (S := []) (L0 := [xR 0, xZ]) (hI := d_W_law_525) (hK := k_B_mergeAll) (hlk := w_750) (hS8 := Nat.le_of_ble_eq_true rfl) (ci := 0) (N := 7) (C := "BeaconIndex") (T := xF0) (hc := rfl) (hci := Nat.le_of_ble_eq_true rfl) (htb := (ft_0 F)) (hinst := w_751) (hsel := w_752) (hlen := Nat.le_of_ble_eq_true rfl) (hst := rfl) (hL0 := rfl)  hyp
theorem d_W_law_528 : decode code 528 = .ok (.aload_n 2, 1) := by decide +kernel
theorem d_W_law_529 : decode code 529 = .ok (.invokevirtual 135, 3) := by decide +kernel
theorem k_M_mergeAll : xCal m_M_mergeAll 0 := ⟨List.mem_append_right _ (List.mem_of_getElem? (i := 1833) (by decide +kernel)), w_15, Nat.le_of_ble_eq_true rfl, ⟨by decide +kernel, by decide +kernel⟩, by decide +kernel, by decide +kernel, rfl⟩
theorem w_1830 : Cond.methodLink "BeaconIndexLaw" 135 ⟨"BeaconIndexModel", "mergeAll", "()I"⟩ ∈ lw_tbl := List.mem_append_right _ (List.mem_of_getElem? (i := 1830) (by decide +kernel))
theorem w_1831 : Cond.instanceMethod ⟨"BeaconIndexModel", "mergeAll", "()I"⟩ ∈ lw_tbl := List.mem_append_right _ (List.mem_of_getElem? (i := 1831) (by decide +kernel))
theorem w_1832 : Cond.selects "BeaconIndexModel" ⟨"BeaconIndexModel", "mergeAll", "()I"⟩ ⟨"BeaconIndexModel", "mergeAll", "()I"⟩ ∈ lw_tbl := List.mem_append_right _ (List.mem_of_getElem? (i := 1832) (by decide +kernel))
theorem v_W_law_528 {G : XG} {d : Nat} {h : XH} {Q : XV → XH → Prop} {X : Nat → XH → Prop} {x5 s0 : Int} {n9 : Nat} {xs : Nat → Int32} {nm9 : String} {hq9 : List (Nat × Nat × Nat × Nat)} (SC : SCR G n9 xs) (F : xFix h) (hyp : (xwp G m_M_mergeAll (d + 219) 0 [xR 53, xZ] [] h (fun v9 h9 => xwp G (m_W_law nm9 hq9) (d + 220) 532 [xR (-108), xR 0, xR 53, xR 91, xR 92, xI x5, xZ, xZ, xZ] (xpush v9 [xI s0]) h9 Q X) (fun _ _ => False))) : xwp G (m_W_law nm9 hq9) (d + 220) 528 [xR (-108), xR 0, xR 53, xR 91, xR 92, xI x5, xZ, xZ, xZ] [xI s0] h Q X := by
  have hnx9 : (93 : Int) ≤ xnx h := F.2.2
  refine xr_okL (fun hl9 => ?_)
  have r_x5 : -2147483648 ≤ x5 ∧ x5 ≤ 2147483647 := hl9 (xI x5) (.tail _ (.tail _ (.tail _ (.tail _ (.tail _ (.head _)))))) (Nat.le_of_ble_eq_true rfl)
  refine xr_okS (fun hs9 => ?_)
  have r_s0 : -2147483648 ≤ s0 ∧ s0 ≤ 2147483647 := hs9 (xI s0) (.head _)
  refine xr_aload_n (pc := 528) (i := 2) (hI := d_W_law_528) (hi := rfl) (hl := rfl) ?_
  exact xl_callV (pc := 529) (index := 135) (K := m_M_mergeAll) (As := []) (S := [xI s0]) (L0 := [xR 53, xZ]) (hI := d_W_law_529) (hK := k_M_mergeAll) (hlk := w_1830) (hS8 := Nat.le_of_ble_eq_true rfl) (ci := 11) (N := 38) (C := "BeaconIndexModel") (T := xF11) (hc := rfl) (hci := Nat.le_of_ble_eq_true rfl) (htb := (ft_53 F)) (hinst := w_1831) (hsel := w_1832) (hlen := Nat.le_of_ble_eq_true rfl) (hst := rfl) (hL0 := rfl)  hyp
theorem d_W_law_532 : decode code 532 = .ok (.if_icmp .eq 1486, 3) := by decide +kernel
theorem d_W_law_535 : decode code 535 = .ok (.iconst 0, 1) := by decide +kernel
theorem d_W_law_536 : decode code 536 = .ok (.ireturn, 1) := by decide +kernel
theorem v_W_law_532 {G : XG} {d : Nat} {h : XH} {Q : XV → XH → Prop} {X : Nat → XH → Prop} {x5 s0 s1 : Int} {n9 : Nat} {xs : Nat → Int32} {nm9 : String} {hq9 : List (Nat × Nat × Nat × Nat)} (SC : SCR G n9 xs) (F : xFix h) (hyp : ((s1 = s0 → (xwp G (m_W_law nm9 hq9) (d + 220) 2018 [xR (-108), xR 0, xR 53, xR 91, xR 92, xI x5, xZ, xZ, xZ] [] h Q X)) ∧ (¬ s1 = s0 → (Q (xI 0) h)))) : xwp G (m_W_law nm9 hq9) (d + 220) 532 [xR (-108), xR 0, xR 53, xR 91, xR 92, xI x5, xZ, xZ, xZ] [xI s0, xI s1] h Q X := by
  have hnx9 : (93 : Int) ≤ xnx h := F.2.2
  refine xr_okL (fun hl9 => ?_)
  have r_x5 : -2147483648 ≤ x5 ∧ x5 ≤ 2147483647 := hl9 (xI x5) (.tail _ (.tail _ (.tail _ (.tail _ (.tail _ (.head _)))))) (Nat.le_of_ble_eq_true rfl)
  refine xr_okS (fun hs9 => ?_)
  have r_s0 : -2147483648 ≤ s0 ∧ s0 ≤ 2147483647 := hs9 (xI s0) (.head _)
  have r_s1 : -2147483648 ≤ s1 ∧ s1 ≤ 2147483647 := hs9 (xI s1) (.tail _ (.head _))
  refine xr_icmp_eq (pc := 532) (tgt := 2018) (hI := d_W_law_532) (ht := by decide) (fun q9 => ?_) (fun q9 => ?_)
  · replace hyp := hyp.1 q9
    have q1_ := q9
    clear q9
    exact hyp
  · replace hyp := hyp.2 q9
    have q1_ := q9
    clear q9
    refine xr_iconst (pc := 535) (hI := d_W_law_535) (hr := by decide) ?_
    refine xr_ireturnT (S := []) (pc := 536) (hI := d_W_law_536) (hr := rfl) (xnar_z (by decide)) ?_
    exact hyp
theorem d_W_law_537 : decode code 537 = .ok (.aload_n 1, 1) := by decide +kernel
theorem d_W_law_538 : decode code 538 = .ok (.invokevirtual 136, 3) := by decide +kernel
theorem w_762 : Cond.methodLink "BeaconIndexLaw" 136 ⟨"BeaconIndex", "texts", "()I"⟩ ∈ lw_tbl := List.mem_append_right _ (List.mem_of_getElem? (i := 762) (by decide +kernel))
theorem v_W_law_537 {G : XG} {d : Nat} {h : XH} {Q : XV → XH → Prop} {X : Nat → XH → Prop} {x5 : Int} {n9 : Nat} {xs : Nat → Int32} {nm9 : String} {hq9 : List (Nat × Nat × Nat × Nat)} (SC : SCR G n9 xs) (F : xFix h) (hyp : (xwp G m_B_texts (d + 219) 0 [xR 0] [] h (fun v9 h9 => xwp G (m_W_law nm9 hq9) (d + 220) 541 [xR (-108), xR 0, xR 53, xR 91, xR 92, xI x5, xZ, xZ, xZ] (xpush v9 []) h9 Q X) (fun _ _ => False))) : xwp G (m_W_law nm9 hq9) (d + 220) 537 [xR (-108), xR 0, xR 53, xR 91, xR 92, xI x5, xZ, xZ, xZ] [] h Q X := by
  have hnx9 : (93 : Int) ≤ xnx h := F.2.2
  refine xr_okL (fun hl9 => ?_)
  have r_x5 : -2147483648 ≤ x5 ∧ x5 ≤ 2147483647 := hl9 (xI x5) (.tail _ (.tail _ (.tail _ (.tail _ (.tail _ (.head _)))))) (Nat.le_of_ble_eq_true rfl)
  refine xr_aload_n (pc := 537) (i := 1) (hI := d_W_law_537) (hi := rfl) (hl := rfl) ?_
  exact xl_callV (pc := 538) (index := 136) (K := m_B_texts) (As := []) (S := []) (L0 := [xR 0]) (hI := d_W_law_538) (hK := k_B_texts) (hlk := w_762) (hS8 := Nat.le_of_ble_eq_true rfl) (ci := 0) (N := 7) (C := "BeaconIndex") (T := xF0) (hc := rfl) (hci := Nat.le_of_ble_eq_true rfl) (htb := (ft_0 F)) (hinst := w_763) (hsel := w_764) (hlen := Nat.le_of_ble_eq_true rfl) (hst := rfl) (hL0 := rfl)  hyp
theorem d_W_law_541 : decode code 541 = .ok (.aload_n 2, 1) := by decide +kernel
theorem d_W_law_542 : decode code 542 = .ok (.invokevirtual 139, 3) := by decide +kernel
theorem k_M_texts : xCal m_M_texts 0 := ⟨List.mem_append_right _ (List.mem_of_getElem? (i := 1841) (by decide +kernel)), w_15, Nat.le_of_ble_eq_true rfl, ⟨by decide +kernel, by decide +kernel⟩, by decide +kernel, by decide +kernel, rfl⟩
theorem w_1838 : Cond.methodLink "BeaconIndexLaw" 139 ⟨"BeaconIndexModel", "texts", "()I"⟩ ∈ lw_tbl := List.mem_append_right _ (List.mem_of_getElem? (i := 1838) (by decide +kernel))
theorem w_1839 : Cond.instanceMethod ⟨"BeaconIndexModel", "texts", "()I"⟩ ∈ lw_tbl := List.mem_append_right _ (List.mem_of_getElem? (i := 1839) (by decide +kernel))
theorem w_1840 : Cond.selects "BeaconIndexModel" ⟨"BeaconIndexModel", "texts", "()I"⟩ ⟨"BeaconIndexModel", "texts", "()I"⟩ ∈ lw_tbl := List.mem_append_right _ (List.mem_of_getElem? (i := 1840) (by decide +kernel))
theorem v_W_law_541 {G : XG} {d : Nat} {h : XH} {Q : XV → XH → Prop} {X : Nat → XH → Prop} {x5 s0 : Int} {n9 : Nat} {xs : Nat → Int32} {nm9 : String} {hq9 : List (Nat × Nat × Nat × Nat)} (SC : SCR G n9 xs) (F : xFix h) (hyp : (xwp G m_M_texts (d + 219) 0 [xR 53] [] h (fun v9 h9 => xwp G (m_W_law nm9 hq9) (d + 220) 545 [xR (-108), xR 0, xR 53, xR 91, xR 92, xI x5, xZ, xZ, xZ] (xpush v9 [xI s0]) h9 Q X) (fun _ _ => False))) : xwp G (m_W_law nm9 hq9) (d + 220) 541 [xR (-108), xR 0, xR 53, xR 91, xR 92, xI x5, xZ, xZ, xZ] [xI s0] h Q X := by
  have hnx9 : (93 : Int) ≤ xnx h := F.2.2
  refine xr_okL (fun hl9 => ?_)
  have r_x5 : -2147483648 ≤ x5 ∧ x5 ≤ 2147483647 := hl9 (xI x5) (.tail _ (.tail _ (.tail _ (.tail _ (.tail _ (.head _)))))) (Nat.le_of_ble_eq_true rfl)
  refine xr_okS (fun hs9 => ?_)
  have r_s0 : -2147483648 ≤ s0 ∧ s0 ≤ 2147483647 := hs9 (xI s0) (.head _)
  refine xr_aload_n (pc := 541) (i := 2) (hI := d_W_law_541) (hi := rfl) (hl := rfl) ?_
  exact xl_callV (pc := 542) (index := 139) (K := m_M_texts) (As := []) (S := [xI s0]) (L0 := [xR 53]) (hI := d_W_law_542) (hK := k_M_texts) (hlk := w_1838) (hS8 := Nat.le_of_ble_eq_true rfl) (ci := 11) (N := 38) (C := "BeaconIndexModel") (T := xF11) (hc := rfl) (hci := Nat.le_of_ble_eq_true rfl) (htb := (ft_53 F)) (hinst := w_1839) (hsel := w_1840) (hlen := Nat.le_of_ble_eq_true rfl) (hst := rfl) (hL0 := rfl)  hyp
theorem d_W_law_545 : decode code 545 = .ok (.if_icmp .eq 1473, 3) := by decide +kernel
theorem d_W_law_548 : decode code 548 = .ok (.iconst 0, 1) := by decide +kernel
theorem d_W_law_549 : decode code 549 = .ok (.ireturn, 1) := by decide +kernel
theorem v_W_law_545 {G : XG} {d : Nat} {h : XH} {Q : XV → XH → Prop} {X : Nat → XH → Prop} {x5 s0 s1 : Int} {n9 : Nat} {xs : Nat → Int32} {nm9 : String} {hq9 : List (Nat × Nat × Nat × Nat)} (SC : SCR G n9 xs) (F : xFix h) (hyp : ((s1 = s0 → (xwp G (m_W_law nm9 hq9) (d + 220) 2018 [xR (-108), xR 0, xR 53, xR 91, xR 92, xI x5, xZ, xZ, xZ] [] h Q X)) ∧ (¬ s1 = s0 → (Q (xI 0) h)))) : xwp G (m_W_law nm9 hq9) (d + 220) 545 [xR (-108), xR 0, xR 53, xR 91, xR 92, xI x5, xZ, xZ, xZ] [xI s0, xI s1] h Q X := by
  have hnx9 : (93 : Int) ≤ xnx h := F.2.2
  refine xr_okL (fun hl9 => ?_)
  have r_x5 : -2147483648 ≤ x5 ∧ x5 ≤ 2147483647 := hl9 (xI x5) (.tail _ (.tail _ (.tail _ (.tail _ (.tail _ (.head _)))))) (Nat.le_of_ble_eq_true rfl)
  refine xr_okS (fun hs9 => ?_)
  have r_s0 : -2147483648 ≤ s0 ∧ s0 ≤ 2147483647 := hs9 (xI s0) (.head _)
  have r_s1 : -2147483648 ≤ s1 ∧ s1 ≤ 2147483647 := hs9 (xI s1) (.tail _ (.head _))
  refine xr_icmp_eq (pc := 545) (tgt := 2018) (hI := d_W_law_545) (ht := by decide) (fun q9 => ?_) (fun q9 => ?_)
  · replace hyp := hyp.1 q9
    have q1_ := q9
    clear q9
    exact hyp
  · replace hyp := hyp.2 q9
    have q1_ := q9
    clear q9
    refine xr_iconst (pc := 548) (hI := d_W_law_548) (hr := by decide) ?_
    refine xr_ireturnT (S := []) (pc := 549) (hI := d_W_law_549) (hr := rfl) (xnar_z (by decide)) ?_
    exact hyp
theorem d_W_law_550 : decode code 550 = .ok (.aload_n 1, 1) := by decide +kernel
theorem d_W_law_551 : decode code 551 = .ok (.invokevirtual 140, 3) := by decide +kernel
theorem w_770 : Cond.methodLink "BeaconIndexLaw" 140 ⟨"BeaconIndex", "buffered", "()I"⟩ ∈ lw_tbl := List.mem_append_right _ (List.mem_of_getElem? (i := 770) (by decide +kernel))
theorem v_W_law_550 {G : XG} {d : Nat} {h : XH} {Q : XV → XH → Prop} {X : Nat → XH → Prop} {x5 : Int} {n9 : Nat} {xs : Nat → Int32} {nm9 : String} {hq9 : List (Nat × Nat × Nat × Nat)} (SC : SCR G n9 xs) (F : xFix h) (hyp : (xwp G m_B_buffered (d + 219) 0 [xR 0] [] h (fun v9 h9 => xwp G (m_W_law nm9 hq9) (d + 220) 554 [xR (-108), xR 0, xR 53, xR 91, xR 92, xI x5, xZ, xZ, xZ] (xpush v9 []) h9 Q X) (fun _ _ => False))) : xwp G (m_W_law nm9 hq9) (d + 220) 550 [xR (-108), xR 0, xR 53, xR 91, xR 92, xI x5, xZ, xZ, xZ] [] h Q X := by
  have hnx9 : (93 : Int) ≤ xnx h := F.2.2
  refine xr_okL (fun hl9 => ?_)
  have r_x5 : -2147483648 ≤ x5 ∧ x5 ≤ 2147483647 := hl9 (xI x5) (.tail _ (.tail _ (.tail _ (.tail _ (.tail _ (.head _)))))) (Nat.le_of_ble_eq_true rfl)
  refine xr_aload_n (pc := 550) (i := 1) (hI := d_W_law_550) (hi := rfl) (hl := rfl) ?_
  exact xl_callV (pc := 551) (index := 140) (K := m_B_buffered) (As := []) (S := []) (L0 := [xR 0]) (hI := d_W_law_551) (hK := k_B_buffered) (hlk := w_770) (hS8 := Nat.le_of_ble_eq_true rfl) (ci := 0) (N := 7) (C := "BeaconIndex") (T := xF0) (hc := rfl) (hci := Nat.le_of_ble_eq_true rfl) (htb := (ft_0 F)) (hinst := w_771) (hsel := w_772) (hlen := Nat.le_of_ble_eq_true rfl) (hst := rfl) (hL0 := rfl)  hyp
theorem d_W_law_554 : decode code 554 = .ok (.aload_n 2, 1) := by decide +kernel
theorem d_W_law_555 : decode code 555 = .ok (.invokevirtual 143, 3) := by decide +kernel
theorem k_M_buffered : xCal m_M_buffered 0 := ⟨List.mem_append_right _ (List.mem_of_getElem? (i := 1849) (by decide +kernel)), w_15, Nat.le_of_ble_eq_true rfl, ⟨by decide +kernel, by decide +kernel⟩, by decide +kernel, by decide +kernel, rfl⟩
theorem w_1846 : Cond.methodLink "BeaconIndexLaw" 143 ⟨"BeaconIndexModel", "buffered", "()I"⟩ ∈ lw_tbl := List.mem_append_right _ (List.mem_of_getElem? (i := 1846) (by decide +kernel))
theorem w_1847 : Cond.instanceMethod ⟨"BeaconIndexModel", "buffered", "()I"⟩ ∈ lw_tbl := List.mem_append_right _ (List.mem_of_getElem? (i := 1847) (by decide +kernel))
theorem w_1848 : Cond.selects "BeaconIndexModel" ⟨"BeaconIndexModel", "buffered", "()I"⟩ ⟨"BeaconIndexModel", "buffered", "()I"⟩ ∈ lw_tbl := List.mem_append_right _ (List.mem_of_getElem? (i := 1848) (by decide +kernel))
theorem v_W_law_554 {G : XG} {d : Nat} {h : XH} {Q : XV → XH → Prop} {X : Nat → XH → Prop} {x5 s0 : Int} {n9 : Nat} {xs : Nat → Int32} {nm9 : String} {hq9 : List (Nat × Nat × Nat × Nat)} (SC : SCR G n9 xs) (F : xFix h) (hyp : (xwp G m_M_buffered (d + 219) 0 [xR 53] [] h (fun v9 h9 => xwp G (m_W_law nm9 hq9) (d + 220) 558 [xR (-108), xR 0, xR 53, xR 91, xR 92, xI x5, xZ, xZ, xZ] (xpush v9 [xI s0]) h9 Q X) (fun _ _ => False))) : xwp G (m_W_law nm9 hq9) (d + 220) 554 [xR (-108), xR 0, xR 53, xR 91, xR 92, xI x5, xZ, xZ, xZ] [xI s0] h Q X := by
  have hnx9 : (93 : Int) ≤ xnx h := F.2.2
  refine xr_okL (fun hl9 => ?_)
  have r_x5 : -2147483648 ≤ x5 ∧ x5 ≤ 2147483647 := hl9 (xI x5) (.tail _ (.tail _ (.tail _ (.tail _ (.tail _ (.head _)))))) (Nat.le_of_ble_eq_true rfl)
  refine xr_okS (fun hs9 => ?_)
  have r_s0 : -2147483648 ≤ s0 ∧ s0 ≤ 2147483647 := hs9 (xI s0) (.head _)
  refine xr_aload_n (pc := 554) (i := 2) (hI := d_W_law_554) (hi := rfl) (hl := rfl) ?_
  exact xl_callV (pc := 555) (index := 143) (K := m_M_buffered) (As := []) (S := [xI s0]) (L0 := [xR 53]) (hI := d_W_law_555) (hK := k_M_buffered) (hlk := w_1846) (hS8 := Nat.le_of_ble_eq_true rfl) (ci := 11) (N := 38) (C := "BeaconIndexModel") (T := xF11) (hc := rfl) (hci := Nat.le_of_ble_eq_true rfl) (htb := (ft_53 F)) (hinst := w_1847) (hsel := w_1848) (hlen := Nat.le_of_ble_eq_true rfl) (hst := rfl) (hL0 := rfl)  hyp
theorem d_W_law_558 : decode code 558 = .ok (.if_icmp .eq 1460, 3) := by decide +kernel
theorem d_W_law_561 : decode code 561 = .ok (.iconst 0, 1) := by decide +kernel
theorem d_W_law_562 : decode code 562 = .ok (.ireturn, 1) := by decide +kernel
theorem v_W_law_558 {G : XG} {d : Nat} {h : XH} {Q : XV → XH → Prop} {X : Nat → XH → Prop} {x5 s0 s1 : Int} {n9 : Nat} {xs : Nat → Int32} {nm9 : String} {hq9 : List (Nat × Nat × Nat × Nat)} (SC : SCR G n9 xs) (F : xFix h) (hyp : ((s1 = s0 → (xwp G (m_W_law nm9 hq9) (d + 220) 2018 [xR (-108), xR 0, xR 53, xR 91, xR 92, xI x5, xZ, xZ, xZ] [] h Q X)) ∧ (¬ s1 = s0 → (Q (xI 0) h)))) : xwp G (m_W_law nm9 hq9) (d + 220) 558 [xR (-108), xR 0, xR 53, xR 91, xR 92, xI x5, xZ, xZ, xZ] [xI s0, xI s1] h Q X := by
  have hnx9 : (93 : Int) ≤ xnx h := F.2.2
  refine xr_okL (fun hl9 => ?_)
  have r_x5 : -2147483648 ≤ x5 ∧ x5 ≤ 2147483647 := hl9 (xI x5) (.tail _ (.tail _ (.tail _ (.tail _ (.tail _ (.head _)))))) (Nat.le_of_ble_eq_true rfl)
  refine xr_okS (fun hs9 => ?_)
  have r_s0 : -2147483648 ≤ s0 ∧ s0 ≤ 2147483647 := hs9 (xI s0) (.head _)
  have r_s1 : -2147483648 ≤ s1 ∧ s1 ≤ 2147483647 := hs9 (xI s1) (.tail _ (.head _))
  refine xr_icmp_eq (pc := 558) (tgt := 2018) (hI := d_W_law_558) (ht := by decide) (fun q9 => ?_) (fun q9 => ?_)
  · replace hyp := hyp.1 q9
    have q1_ := q9
    clear q9
    exact hyp
  · replace hyp := hyp.2 q9
    have q1_ := q9
    clear q9
    refine xr_iconst (pc := 561) (hI := d_W_law_561) (hr := by decide) ?_
    refine xr_ireturnT (S := []) (pc := 562) (hI := d_W_law_562) (hr := rfl) (xnar_z (by decide)) ?_
    exact hyp
theorem d_W_law_563 : decode code 563 = .ok (.aload_n 1, 1) := by decide +kernel
theorem d_W_law_564 : decode code 564 = .ok (.invokevirtual 144, 3) := by decide +kernel
theorem w_775 : Cond.methodLink "BeaconIndexLaw" 144 ⟨"BeaconIndex", "segments", "()I"⟩ ∈ lw_tbl := List.mem_append_right _ (List.mem_of_getElem? (i := 775) (by decide +kernel))
theorem v_W_law_563 {G : XG} {d : Nat} {h : XH} {Q : XV → XH → Prop} {X : Nat → XH → Prop} {x5 : Int} {n9 : Nat} {xs : Nat → Int32} {nm9 : String} {hq9 : List (Nat × Nat × Nat × Nat)} (SC : SCR G n9 xs) (F : xFix h) (hyp : (xwp G m_B_segments (d + 219) 0 [xR 0] [] h (fun v9 h9 => xwp G (m_W_law nm9 hq9) (d + 220) 567 [xR (-108), xR 0, xR 53, xR 91, xR 92, xI x5, xZ, xZ, xZ] (xpush v9 []) h9 Q X) (fun _ _ => False))) : xwp G (m_W_law nm9 hq9) (d + 220) 563 [xR (-108), xR 0, xR 53, xR 91, xR 92, xI x5, xZ, xZ, xZ] [] h Q X := by
  have hnx9 : (93 : Int) ≤ xnx h := F.2.2
  refine xr_okL (fun hl9 => ?_)
  have r_x5 : -2147483648 ≤ x5 ∧ x5 ≤ 2147483647 := hl9 (xI x5) (.tail _ (.tail _ (.tail _ (.tail _ (.tail _ (.head _)))))) (Nat.le_of_ble_eq_true rfl)
  refine xr_aload_n (pc := 563) (i := 1) (hI := d_W_law_563) (hi := rfl) (hl := rfl) ?_
  exact xl_callV (pc := 564) (index := 144) (K := m_B_segments) (As := []) (S := []) (L0 := [xR 0]) (hI := d_W_law_564) (hK := k_B_segments) (hlk := w_775) (hS8 := Nat.le_of_ble_eq_true rfl) (ci := 0) (N := 7) (C := "BeaconIndex") (T := xF0) (hc := rfl) (hci := Nat.le_of_ble_eq_true rfl) (htb := (ft_0 F)) (hinst := w_776) (hsel := w_777) (hlen := Nat.le_of_ble_eq_true rfl) (hst := rfl) (hL0 := rfl)  hyp
theorem d_W_law_567 : decode code 567 = .ok (.aload_n 2, 1) := by decide +kernel
theorem d_W_law_568 : decode code 568 = .ok (.invokevirtual 147, 3) := by decide +kernel
theorem k_M_segments : xCal m_M_segments 0 := ⟨List.mem_append_right _ (List.mem_of_getElem? (i := 1853) (by decide +kernel)), w_15, Nat.le_of_ble_eq_true rfl, ⟨by decide +kernel, by decide +kernel⟩, by decide +kernel, by decide +kernel, rfl⟩
theorem w_1850 : Cond.methodLink "BeaconIndexLaw" 147 ⟨"BeaconIndexModel", "segments", "()I"⟩ ∈ lw_tbl := List.mem_append_right _ (List.mem_of_getElem? (i := 1850) (by decide +kernel))
theorem w_1851 : Cond.instanceMethod ⟨"BeaconIndexModel", "segments", "()I"⟩ ∈ lw_tbl := List.mem_append_right _ (List.mem_of_getElem? (i := 1851) (by decide +kernel))
theorem w_1852 : Cond.selects "BeaconIndexModel" ⟨"BeaconIndexModel", "segments", "()I"⟩ ⟨"BeaconIndexModel", "segments", "()I"⟩ ∈ lw_tbl := List.mem_append_right _ (List.mem_of_getElem? (i := 1852) (by decide +kernel))
theorem v_W_law_567 {G : XG} {d : Nat} {h : XH} {Q : XV → XH → Prop} {X : Nat → XH → Prop} {x5 s0 : Int} {n9 : Nat} {xs : Nat → Int32} {nm9 : String} {hq9 : List (Nat × Nat × Nat × Nat)} (SC : SCR G n9 xs) (F : xFix h) (hyp : (xwp G m_M_segments (d + 219) 0 [xR 53] [] h (fun v9 h9 => xwp G (m_W_law nm9 hq9) (d + 220) 571 [xR (-108), xR 0, xR 53, xR 91, xR 92, xI x5, xZ, xZ, xZ] (xpush v9 [xI s0]) h9 Q X) (fun _ _ => False))) : xwp G (m_W_law nm9 hq9) (d + 220) 567 [xR (-108), xR 0, xR 53, xR 91, xR 92, xI x5, xZ, xZ, xZ] [xI s0] h Q X := by
  have hnx9 : (93 : Int) ≤ xnx h := F.2.2
  refine xr_okL (fun hl9 => ?_)
  have r_x5 : -2147483648 ≤ x5 ∧ x5 ≤ 2147483647 := hl9 (xI x5) (.tail _ (.tail _ (.tail _ (.tail _ (.tail _ (.head _)))))) (Nat.le_of_ble_eq_true rfl)
  refine xr_okS (fun hs9 => ?_)
  have r_s0 : -2147483648 ≤ s0 ∧ s0 ≤ 2147483647 := hs9 (xI s0) (.head _)
  refine xr_aload_n (pc := 567) (i := 2) (hI := d_W_law_567) (hi := rfl) (hl := rfl) ?_
  exact xl_callV (pc := 568) (index := 147) (K := m_M_segments) (As := []) (S := [xI s0]) (L0 := [xR 53]) (hI := d_W_law_568) (hK := k_M_segments) (hlk := w_1850) (hS8 := Nat.le_of_ble_eq_true rfl) (ci := 11) (N := 38) (C := "BeaconIndexModel") (T := xF11) (hc := rfl) (hci := Nat.le_of_ble_eq_true rfl) (htb := (ft_53 F)) (hinst := w_1851) (hsel := w_1852) (hlen := Nat.le_of_ble_eq_true rfl) (hst := rfl) (hL0 := rfl)  hyp
theorem d_W_law_571 : decode code 571 = .ok (.if_icmp .eq 1447, 3) := by decide +kernel
theorem d_W_law_574 : decode code 574 = .ok (.iconst 0, 1) := by decide +kernel
theorem d_W_law_575 : decode code 575 = .ok (.ireturn, 1) := by decide +kernel
theorem v_W_law_571 {G : XG} {d : Nat} {h : XH} {Q : XV → XH → Prop} {X : Nat → XH → Prop} {x5 s0 s1 : Int} {n9 : Nat} {xs : Nat → Int32} {nm9 : String} {hq9 : List (Nat × Nat × Nat × Nat)} (SC : SCR G n9 xs) (F : xFix h) (hyp : ((s1 = s0 → (xwp G (m_W_law nm9 hq9) (d + 220) 2018 [xR (-108), xR 0, xR 53, xR 91, xR 92, xI x5, xZ, xZ, xZ] [] h Q X)) ∧ (¬ s1 = s0 → (Q (xI 0) h)))) : xwp G (m_W_law nm9 hq9) (d + 220) 571 [xR (-108), xR 0, xR 53, xR 91, xR 92, xI x5, xZ, xZ, xZ] [xI s0, xI s1] h Q X := by
  have hnx9 : (93 : Int) ≤ xnx h := F.2.2
  refine xr_okL (fun hl9 => ?_)
  have r_x5 : -2147483648 ≤ x5 ∧ x5 ≤ 2147483647 := hl9 (xI x5) (.tail _ (.tail _ (.tail _ (.tail _ (.tail _ (.head _)))))) (Nat.le_of_ble_eq_true rfl)
  refine xr_okS (fun hs9 => ?_)
  have r_s0 : -2147483648 ≤ s0 ∧ s0 ≤ 2147483647 := hs9 (xI s0) (.head _)
  have r_s1 : -2147483648 ≤ s1 ∧ s1 ≤ 2147483647 := hs9 (xI s1) (.tail _ (.head _))
  refine xr_icmp_eq (pc := 571) (tgt := 2018) (hI := d_W_law_571) (ht := by decide) (fun q9 => ?_) (fun q9 => ?_)
  · replace hyp := hyp.1 q9
    have q1_ := q9
    clear q9
    exact hyp
  · replace hyp := hyp.2 q9
    have q1_ := q9
    clear q9
    refine xr_iconst (pc := 574) (hI := d_W_law_574) (hr := by decide) ?_
    refine xr_ireturnT (S := []) (pc := 575) (hI := d_W_law_575) (hr := rfl) (xnar_z (by decide)) ?_
    exact hyp
theorem d_W_law_576 : decode code 576 = .ok (.aload_n 1, 1) := by decide +kernel
theorem d_W_law_577 : decode code 577 = .ok (.invokevirtual 148, 3) := by decide +kernel
theorem w_779 : Cond.methodLink "BeaconIndexLaw" 148 ⟨"BeaconIndex", "merges", "()I"⟩ ∈ lw_tbl := List.mem_append_right _ (List.mem_of_getElem? (i := 779) (by decide +kernel))
theorem v_W_law_576 {G : XG} {d : Nat} {h : XH} {Q : XV → XH → Prop} {X : Nat → XH → Prop} {x5 : Int} {n9 : Nat} {xs : Nat → Int32} {nm9 : String} {hq9 : List (Nat × Nat × Nat × Nat)} (SC : SCR G n9 xs) (F : xFix h) (hyp : (xwp G m_B_merges (d + 219) 0 [xR 0] [] h (fun v9 h9 => xwp G (m_W_law nm9 hq9) (d + 220) 580 [xR (-108), xR 0, xR 53, xR 91, xR 92, xI x5, xZ, xZ, xZ] (xpush v9 []) h9 Q X) (fun _ _ => False))) : xwp G (m_W_law nm9 hq9) (d + 220) 576 [xR (-108), xR 0, xR 53, xR 91, xR 92, xI x5, xZ, xZ, xZ] [] h Q X := by
  have hnx9 : (93 : Int) ≤ xnx h := F.2.2
  refine xr_okL (fun hl9 => ?_)
  have r_x5 : -2147483648 ≤ x5 ∧ x5 ≤ 2147483647 := hl9 (xI x5) (.tail _ (.tail _ (.tail _ (.tail _ (.tail _ (.head _)))))) (Nat.le_of_ble_eq_true rfl)
  refine xr_aload_n (pc := 576) (i := 1) (hI := d_W_law_576) (hi := rfl) (hl := rfl) ?_
  exact xl_callV (pc := 577) (index := 148) (K := m_B_merges) (As := []) (S := []) (L0 := [xR 0]) (hI := d_W_law_577) (hK := k_B_merges) (hlk := w_779) (hS8 := Nat.le_of_ble_eq_true rfl) (ci := 0) (N := 7) (C := "BeaconIndex") (T := xF0) (hc := rfl) (hci := Nat.le_of_ble_eq_true rfl) (htb := (ft_0 F)) (hinst := w_780) (hsel := w_781) (hlen := Nat.le_of_ble_eq_true rfl) (hst := rfl) (hL0 := rfl)  hyp
theorem d_W_law_580 : decode code 580 = .ok (.aload_n 2, 1) := by decide +kernel
theorem d_W_law_581 : decode code 581 = .ok (.invokevirtual 151, 3) := by decide +kernel
theorem k_M_merges : xCal m_M_merges 0 := ⟨List.mem_append_right _ (List.mem_of_getElem? (i := 1857) (by decide +kernel)), w_15, Nat.le_of_ble_eq_true rfl, ⟨by decide +kernel, by decide +kernel⟩, by decide +kernel, by decide +kernel, rfl⟩
theorem w_1854 : Cond.methodLink "BeaconIndexLaw" 151 ⟨"BeaconIndexModel", "merges", "()I"⟩ ∈ lw_tbl := List.mem_append_right _ (List.mem_of_getElem? (i := 1854) (by decide +kernel))
theorem w_1855 : Cond.instanceMethod ⟨"BeaconIndexModel", "merges", "()I"⟩ ∈ lw_tbl := List.mem_append_right _ (List.mem_of_getElem? (i := 1855) (by decide +kernel))
theorem w_1856 : Cond.selects "BeaconIndexModel" ⟨"BeaconIndexModel", "merges", "()I"⟩ ⟨"BeaconIndexModel", "merges", "()I"⟩ ∈ lw_tbl := List.mem_append_right _ (List.mem_of_getElem? (i := 1856) (by decide +kernel))
theorem v_W_law_580 {G : XG} {d : Nat} {h : XH} {Q : XV → XH → Prop} {X : Nat → XH → Prop} {x5 s0 : Int} {n9 : Nat} {xs : Nat → Int32} {nm9 : String} {hq9 : List (Nat × Nat × Nat × Nat)} (SC : SCR G n9 xs) (F : xFix h) (hyp : (xwp G m_M_merges (d + 219) 0 [xR 53] [] h (fun v9 h9 => xwp G (m_W_law nm9 hq9) (d + 220) 584 [xR (-108), xR 0, xR 53, xR 91, xR 92, xI x5, xZ, xZ, xZ] (xpush v9 [xI s0]) h9 Q X) (fun _ _ => False))) : xwp G (m_W_law nm9 hq9) (d + 220) 580 [xR (-108), xR 0, xR 53, xR 91, xR 92, xI x5, xZ, xZ, xZ] [xI s0] h Q X := by
  have hnx9 : (93 : Int) ≤ xnx h := F.2.2
  refine xr_okL (fun hl9 => ?_)
  have r_x5 : -2147483648 ≤ x5 ∧ x5 ≤ 2147483647 := hl9 (xI x5) (.tail _ (.tail _ (.tail _ (.tail _ (.tail _ (.head _)))))) (Nat.le_of_ble_eq_true rfl)
  refine xr_okS (fun hs9 => ?_)
  have r_s0 : -2147483648 ≤ s0 ∧ s0 ≤ 2147483647 := hs9 (xI s0) (.head _)
  refine xr_aload_n (pc := 580) (i := 2) (hI := d_W_law_580) (hi := rfl) (hl := rfl) ?_
  exact xl_callV (pc := 581) (index := 151) (K := m_M_merges) (As := []) (S := [xI s0]) (L0 := [xR 53]) (hI := d_W_law_581) (hK := k_M_merges) (hlk := w_1854) (hS8 := Nat.le_of_ble_eq_true rfl) (ci := 11) (N := 38) (C := "BeaconIndexModel") (T := xF11) (hc := rfl) (hci := Nat.le_of_ble_eq_true rfl) (htb := (ft_53 F)) (hinst := w_1855) (hsel := w_1856) (hlen := Nat.le_of_ble_eq_true rfl) (hst := rfl) (hL0 := rfl)  hyp
theorem d_W_law_584 : decode code 584 = .ok (.if_icmp .eq 1434, 3) := by decide +kernel
theorem d_W_law_587 : decode code 587 = .ok (.iconst 0, 1) := by decide +kernel
theorem d_W_law_588 : decode code 588 = .ok (.ireturn, 1) := by decide +kernel
theorem v_W_law_584 {G : XG} {d : Nat} {h : XH} {Q : XV → XH → Prop} {X : Nat → XH → Prop} {x5 s0 s1 : Int} {n9 : Nat} {xs : Nat → Int32} {nm9 : String} {hq9 : List (Nat × Nat × Nat × Nat)} (SC : SCR G n9 xs) (F : xFix h) (hyp : ((s1 = s0 → (xwp G (m_W_law nm9 hq9) (d + 220) 2018 [xR (-108), xR 0, xR 53, xR 91, xR 92, xI x5, xZ, xZ, xZ] [] h Q X)) ∧ (¬ s1 = s0 → (Q (xI 0) h)))) : xwp G (m_W_law nm9 hq9) (d + 220) 584 [xR (-108), xR 0, xR 53, xR 91, xR 92, xI x5, xZ, xZ, xZ] [xI s0, xI s1] h Q X := by
  have hnx9 : (93 : Int) ≤ xnx h := F.2.2
  refine xr_okL (fun hl9 => ?_)
  have r_x5 : -2147483648 ≤ x5 ∧ x5 ≤ 2147483647 := hl9 (xI x5) (.tail _ (.tail _ (.tail _ (.tail _ (.tail _ (.head _)))))) (Nat.le_of_ble_eq_true rfl)
  refine xr_okS (fun hs9 => ?_)
  have r_s0 : -2147483648 ≤ s0 ∧ s0 ≤ 2147483647 := hs9 (xI s0) (.head _)
  have r_s1 : -2147483648 ≤ s1 ∧ s1 ≤ 2147483647 := hs9 (xI s1) (.tail _ (.head _))
  refine xr_icmp_eq (pc := 584) (tgt := 2018) (hI := d_W_law_584) (ht := by decide) (fun q9 => ?_) (fun q9 => ?_)
  · replace hyp := hyp.1 q9
    have q1_ := q9
    clear q9
    exact hyp
  · replace hyp := hyp.2 q9
    have q1_ := q9
    clear q9
    refine xr_iconst (pc := 587) (hI := d_W_law_587) (hr := by decide) ?_
    refine xr_ireturnT (S := []) (pc := 588) (hI := d_W_law_588) (hr := rfl) (xnar_z (by decide)) ?_
    exact hyp
theorem d_W_law_589 : decode code 589 = .ok (.aload_n 1, 1) := by decide +kernel
theorem d_W_law_590 : decode code 590 = .ok (.aload_n 0, 1) := by decide +kernel
theorem d_W_law_591 : decode code 591 = .ok (.iload 5, 2) := by decide +kernel
theorem d_W_law_593 : decode code 593 = .ok (.iconst 1, 1) := by decide +kernel
theorem d_W_law_594 : decode code 594 = .ok (.iadd, 1) := by decide +kernel
theorem d_W_law_595 : decode code 595 = .ok (.iaload, 1) := by decide +kernel
theorem d_W_law_596 : decode code 596 = .ok (.aload_n 3, 1) := by decide +kernel
theorem d_W_law_597 : decode code 597 = .ok (.invokestatic 152, 3) := by decide +kernel
theorem k_W_textsIn : xCalH m_W_textsIn 3 := ⟨List.mem_append_right _ (List.mem_of_getElem? (i := 1406) (by decide +kernel)), w_0, Nat.le_of_ble_eq_true rfl, ⟨by decide +kernel, by decide +kernel⟩, by decide +kernel, by decide +kernel⟩
theorem w_1404 : Cond.methodLink "BeaconIndexLaw" 152 ⟨"BeaconIndexLaw", "textsIn", "(LBeaconIndex;I[J)I"⟩ ∈ lw_tbl := List.mem_append_right _ (List.mem_of_getElem? (i := 1404) (by decide +kernel))
theorem w_1405 : Cond.static ⟨"BeaconIndexLaw", "textsIn", "(LBeaconIndex;I[J)I"⟩ ∈ lw_tbl := List.mem_append_right _ (List.mem_of_getElem? (i := 1405) (by decide +kernel))
theorem v_W_law_589 {G : XG} {d : Nat} {h : XH} {Q : XV → XH → Prop} {X : Nat → XH → Prop} {x5 : Int} {n9 : Nat} {xs : Nat → Int32} {nm9 : String} {hq9 : List (Nat × Nat × Nat × Nat)} (SC : SCR G n9 xs) (F : xFix h) (hyp : xiR (x5 + 1) ∧ 0 ≤ (x5 + 1) ∧ (x5 + 1) < (n9 : Int) ∧ (xwp G m_W_textsIn (d + 219) 0 [xR 0, xI (scV xs (x5 + 1)), xR 91, xZ] [] h (fun v9 h9 => xwp G (m_W_law nm9 hq9) (d + 220) 600 [xR (-108), xR 0, xR 53, xR 91, xR 92, xI x5, xZ, xZ, xZ] (xpush v9 []) h9 Q X) (fun _ _ => False))) : xwp G (m_W_law nm9 hq9) (d + 220) 589 [xR (-108), xR 0, xR 53, xR 91, xR 92, xI x5, xZ, xZ, xZ] [] h Q X := by
  have hnx9 : (93 : Int) ≤ xnx h := F.2.2
  refine xr_okL (fun hl9 => ?_)
  have r_x5 : -2147483648 ≤ x5 ∧ x5 ≤ 2147483647 := hl9 (xI x5) (.tail _ (.tail _ (.tail _ (.tail _ (.tail _ (.head _)))))) (Nat.le_of_ble_eq_true rfl)
  refine xr_aload_n (pc := 589) (i := 1) (hI := d_W_law_589) (hi := rfl) (hl := rfl) ?_
  refine xr_aload_n (pc := 590) (i := 0) (hI := d_W_law_590) (hi := rfl) (hl := rfl) ?_
  refine xr_iload (pc := 591) (i := 5) (hI := d_W_law_591) (hl := rfl) ?_
  refine xr_iconst (pc := 593) (hI := d_W_law_593) (hr := by decide) ?_
  obtain ⟨c9, hyp⟩ := hyp
  refine xr_iadd (pc := 594) (hI := d_W_law_594) (hr := c9) ?_
  obtain ⟨c8, c9, hyp⟩ := hyp
  refine xr_scd (pc := 595) SC (hI := d_W_law_595) c8 c9 ?_
  have f1_ : -2147483648 ≤ (scV xs (x5 + 1)) ∧ (scV xs (x5 + 1)) ≤ 2147483647 := xi_toR _
  refine xr_aload_n (pc := 596) (i := 3) (hI := d_W_law_596) (hi := rfl) (hl := rfl) ?_
  exact xl_callSW (pc := 597) (index := 152) (K := m_W_textsIn) (As := [xR 0, xI (scV xs (x5 + 1)), xR 91]) (S := []) (L0 := [xR 0, xI (scV xs (x5 + 1)), xR 91, xZ]) (hI := d_W_law_597) (hK := k_W_textsIn) (hlk := w_1404) (hS8 := Nat.le_of_ble_eq_true rfl) (hstat := w_1405) (hlen := Nat.le_of_ble_eq_true rfl) (hst := rfl) (hL0 := rfl)  hyp
theorem d_W_law_600 : decode code 600 = .ok (.istore 6, 2) := by decide +kernel
theorem d_W_law_602 : decode code 602 = .ok (.aload_n 2, 1) := by decide +kernel
theorem d_W_law_603 : decode code 603 = .ok (.aload_n 0, 1) := by decide +kernel
theorem d_W_law_604 : decode code 604 = .ok (.iload 5, 2) := by decide +kernel
theorem d_W_law_606 : decode code 606 = .ok (.iconst 1, 1) := by decide +kernel
theorem d_W_law_607 : decode code 607 = .ok (.iadd, 1) := by decide +kernel
theorem d_W_law_608 : decode code 608 = .ok (.iaload, 1) := by decide +kernel
theorem d_W_law_609 : decode code 609 = .ok (.invokevirtual 154, 3) := by decide +kernel
theorem k_M_textsIn : xCal m_M_textsIn 1 := ⟨List.mem_append_right _ (List.mem_of_getElem? (i := 1861) (by decide +kernel)), w_15, Nat.le_of_ble_eq_true rfl, ⟨by decide +kernel, by decide +kernel⟩, by decide +kernel, by decide +kernel, rfl⟩
theorem w_1858 : Cond.methodLink "BeaconIndexLaw" 154 ⟨"BeaconIndexModel", "textsIn", "(I)I"⟩ ∈ lw_tbl := List.mem_append_right _ (List.mem_of_getElem? (i := 1858) (by decide +kernel))
theorem w_1859 : Cond.instanceMethod ⟨"BeaconIndexModel", "textsIn", "(I)I"⟩ ∈ lw_tbl := List.mem_append_right _ (List.mem_of_getElem? (i := 1859) (by decide +kernel))
theorem w_1860 : Cond.selects "BeaconIndexModel" ⟨"BeaconIndexModel", "textsIn", "(I)I"⟩ ⟨"BeaconIndexModel", "textsIn", "(I)I"⟩ ∈ lw_tbl := List.mem_append_right _ (List.mem_of_getElem? (i := 1860) (by decide +kernel))
theorem v_W_law_600 {G : XG} {d : Nat} {h : XH} {Q : XV → XH → Prop} {X : Nat → XH → Prop} {x5 s0 : Int} {n9 : Nat} {xs : Nat → Int32} {nm9 : String} {hq9 : List (Nat × Nat × Nat × Nat)} (SC : SCR G n9 xs) (F : xFix h) (hyp : xiR (x5 + 1) ∧ 0 ≤ (x5 + 1) ∧ (x5 + 1) < (n9 : Int) ∧ (xwp G m_M_textsIn (d + 219) 0 [xR 53, xI (scV xs (x5 + 1))] [] h (fun v9 h9 => xwp G (m_W_law nm9 hq9) (d + 220) 612 [xR (-108), xR 0, xR 53, xR 91, xR 92, xI x5, xI s0, xZ, xZ] (xpush v9 []) h9 Q X) (fun _ _ => False))) : xwp G (m_W_law nm9 hq9) (d + 220) 600 [xR (-108), xR 0, xR 53, xR 91, xR 92, xI x5, xZ, xZ, xZ] [xI s0] h Q X := by
  have hnx9 : (93 : Int) ≤ xnx h := F.2.2
  refine xr_okL (fun hl9 => ?_)
  have r_x5 : -2147483648 ≤ x5 ∧ x5 ≤ 2147483647 := hl9 (xI x5) (.tail _ (.tail _ (.tail _ (.tail _ (.tail _ (.head _)))))) (Nat.le_of_ble_eq_true rfl)
  refine xr_okS (fun hs9 => ?_)
  have r_s0 : -2147483648 ≤ s0 ∧ s0 ≤ 2147483647 := hs9 (xI s0) (.head _)
  refine xr_istore (pc := 600) (i := 6) (L9 := [xR (-108), xR 0, xR 53, xR 91, xR 92, xI x5, xI s0, xZ, xZ]) (hI := d_W_law_600) (hn := Nat.le_of_ble_eq_true rfl) (hL9 := rfl) ?_
  refine xr_aload_n (pc := 602) (i := 2) (hI := d_W_law_602) (hi := rfl) (hl := rfl) ?_
  refine xr_aload_n (pc := 603) (i := 0) (hI := d_W_law_603) (hi := rfl) (hl := rfl) ?_
  refine xr_iload (pc := 604) (i := 5) (hI := d_W_law_604) (hl := rfl) ?_
  refine xr_iconst (pc := 606) (hI := d_W_law_606) (hr := by decide) ?_
  obtain ⟨c9, hyp⟩ := hyp
  refine xr_iadd (pc := 607) (hI := d_W_law_607) (hr := c9) ?_
  obtain ⟨c8, c9, hyp⟩ := hyp
  refine xr_scd (pc := 608) SC (hI := d_W_law_608) c8 c9 ?_
  have f1_ : -2147483648 ≤ (scV xs (x5 + 1)) ∧ (scV xs (x5 + 1)) ≤ 2147483647 := xi_toR _
  exact xl_callV (pc := 609) (index := 154) (K := m_M_textsIn) (As := [xI (scV xs (x5 + 1))]) (S := []) (L0 := [xR 53, xI (scV xs (x5 + 1))]) (hI := d_W_law_609) (hK := k_M_textsIn) (hlk := w_1858) (hS8 := Nat.le_of_ble_eq_true rfl) (ci := 11) (N := 38) (C := "BeaconIndexModel") (T := xF11) (hc := rfl) (hci := Nat.le_of_ble_eq_true rfl) (htb := (ft_53 F)) (hinst := w_1859) (hsel := w_1860) (hlen := Nat.le_of_ble_eq_true rfl) (hst := rfl) (hL0 := rfl)  hyp
theorem d_W_law_612 : decode code 612 = .ok (.istore 7, 2) := by decide +kernel
theorem d_W_law_614 : decode code 614 = .ok (.aload_n 2, 1) := by decide +kernel
theorem d_W_law_615 : decode code 615 = .ok (.invokevirtual 114, 3) := by decide +kernel
theorem d_W_law_618 : decode code 618 = .ok (.iload 6, 2) := by decide +kernel
theorem d_W_law_620 : decode code 620 = .ok (.if_icmp .eq 5, 3) := by decide +kernel
theorem d_W_law_625 : decode code 625 = .ok (.iload 6, 2) := by decide +kernel
theorem d_W_law_627 : decode code 627 = .ok (.ifCond .ne 15, 3) := by decide +kernel
theorem d_W_law_642 : decode code 642 = .ok (.goto 1376, 3) := by decide +kernel
theorem d_W_law_630 : decode code 630 = .ok (.aload_n 3, 1) := by decide +kernel
theorem d_W_law_631 : decode code 631 = .ok (.iconst 0, 1) := by decide +kernel
theorem d_W_law_632 : decode code 632 = .ok (.laload, 1) := by decide +kernel
theorem d_W_law_633 : decode code 633 = .ok (.iload 7, 2) := by decide +kernel
theorem d_W_law_635 : decode code 635 = .ok (.i2l, 1) := by decide +kernel
theorem d_W_law_636 : decode code 636 = .ok (.lcmp, 1) := by decide +kernel
theorem d_W_law_637 : decode code 637 = .ok (.ifCond .eq 5, 3) := by decide +kernel
theorem d_W_law_640 : decode code 640 = .ok (.iconst 0, 1) := by decide +kernel
theorem d_W_law_641 : decode code 641 = .ok (.ireturn, 1) := by decide +kernel
theorem d_W_law_623 : decode code 623 = .ok (.iconst 0, 1) := by decide +kernel
theorem d_W_law_624 : decode code 624 = .ok (.ireturn, 1) := by decide +kernel
theorem v_W_law_612 {G : XG} {d : Nat} {h : XH} {Q : XV → XH → Prop} {X : Nat → XH → Prop} {x5 x6 s0 : Int} {n9 : Nat} {xs : Nat → Int32} {nm9 : String} {hq9 : List (Nat × Nat × Nat × Nat)} (SC : SCR G n9 xs) (F : xFix h) (hyp : (((xpl h 53 0) = x6 → ((x6 = 0 → (((xpl h 91 0) = s0 → (xwp G (m_W_law nm9 hq9) (d + 220) 2018 [xR (-108), xR 0, xR 53, xR 91, xR 92, xI x5, xZ, xZ, xZ] [] h Q X)) ∧ (¬ (xpl h 91 0) = s0 → (Q (xI 0) h)))) ∧ (¬ x6 = 0 → (xwp G (m_W_law nm9 hq9) (d + 220) 2018 [xR (-108), xR 0, xR 53, xR 91, xR 92, xI x5, xZ, xZ, xZ] [] h Q X)))) ∧ (¬ (xpl h 53 0) = x6 → (Q (xI 0) h)))) : xwp G (m_W_law nm9 hq9) (d + 220) 612 [xR (-108), xR 0, xR 53, xR 91, xR 92, xI x5, xI x6, xZ, xZ] [xI s0] h Q X := by
  have hnx9 : (93 : Int) ≤ xnx h := F.2.2
  refine xr_okL (fun hl9 => ?_)
  have r_x5 : -2147483648 ≤ x5 ∧ x5 ≤ 2147483647 := hl9 (xI x5) (.tail _ (.tail _ (.tail _ (.tail _ (.tail _ (.head _)))))) (Nat.le_of_ble_eq_true rfl)
  have r_x6 : -2147483648 ≤ x6 ∧ x6 ≤ 2147483647 := hl9 (xI x6) (.tail _ (.tail _ (.tail _ (.tail _ (.tail _ (.tail _ (.head _))))))) (Nat.le_of_ble_eq_true rfl)
  refine xr_okS (fun hs9 => ?_)
  have r_s0 : -2147483648 ≤ s0 ∧ s0 ≤ 2147483647 := hs9 (xI s0) (.head _)
  refine xr_istore (pc := 612) (i := 7) (L9 := [xR (-108), xR 0, xR 53, xR 91, xR 92, xI x5, xI x6, xI s0, xZ]) (hI := d_W_law_612) (hn := Nat.le_of_ble_eq_true rfl) (hL9 := rfl) ?_
  refine xr_aload_n (pc := 614) (i := 2) (hI := d_W_law_614) (hi := rfl) (hl := rfl) ?_
  refine xl_callV (pc := 615) (index := 114) (K := m_M_thrown) (As := []) (S := []) (L0 := [xR 53]) (hI := d_W_law_615) (hK := k_M_thrown) (hlk := w_1702) (hS8 := Nat.le_of_ble_eq_true rfl) (ci := 11) (N := 38) (C := "BeaconIndexModel") (T := xF11) (hc := rfl) (hci := Nat.le_of_ble_eq_true rfl) (htb := (ft_53 F)) (hinst := w_1703) (hsel := w_1704) (hlen := Nat.le_of_ble_eq_true rfl) (hst := rfl) (hL0 := rfl)  ?_
  refine xr_aload_n (pc := 0) (i := 0) (hI := d_M_thrown_0) (hi := rfl) (hl := rfl) ?_
  refine xg_getf (pc := 1) (ci := 11) (k := 0) (N := 38) (v9 := 0) (v := (xpl h 53 0)) (T := xF11) (hI := d_M_thrown_1) (hw := w_1587) rfl xi11 (Or.inl rfl) (Nat.le_of_ble_eq_true rfl) (Nat.le_of_ble_eq_true rfl) rfl (ft_53 F) rfl (fun f1_ => ?_)
  replace f1_ : -2147483648 ≤ (xpl h 53 0) ∧ (xpl h 53 0) ≤ 2147483647 := f1_
  refine xr_ireturn (S := []) (pc := 4) (hI := d_M_thrown_4) (hr := rfl) ?_
  show xwp G (m_W_law nm9 hq9) (d + 220) 618 [xR (-108), xR 0, xR 53, xR 91, xR 92, xI x5, xI x6, xI s0, xZ] [xI (xpl h 53 0)] _ _ _
  refine xr_iload (pc := 618) (i := 6) (hI := d_W_law_618) (hl := rfl) ?_
  refine xr_icmp_eq (pc := 620) (tgt := 625) (hI := d_W_law_620) (ht := by decide) (fun q9 => ?_) (fun q9 => ?_)
  · replace hyp := hyp.1 q9
    have q2_ := q9
    clear q9
    refine xr_iload (pc := 625) (i := 6) (hI := d_W_law_625) (hl := rfl) ?_
    refine xr_if_ne (pc := 627) (tgt := 642) (hI := d_W_law_627) (ht := by decide) (fun q9 => ?_) (fun q9 => ?_)
    · replace hyp := hyp.2 q9
      have q3_ := q9
      clear q9
      refine xr_goto (pc := 642) (tgt := 2018) (hI := d_W_law_642) (ht := by decide) ?_
      exact xr_drop (L9 := [xR (-108), xR 0, xR 53, xR 91, xR 92, xI x5, xZ, xZ, xZ]) (xdrs (xdrs (xdrs (xdrs (xdrs (xdrs (xdrz (xdrz (xdrs xdr0))))))))) hyp
    · replace hyp := hyp.1 q9
      have q3_ := q9
      clear q9
      refine xr_aload_n (pc := 630) (i := 3) (hI := d_W_law_630) (hi := rfl) (hl := rfl) ?_
      refine xr_iconst (pc := 631) (hI := d_W_law_631) (hr := by decide) ?_
      refine xg_laload (pc := 632) (v := (xpl h 91 0)) (hI := d_W_law_632) (ft_91 F) (by decide) (xlt_of (fl_91 F) (by decide)) rfl (fun f4_ => ?_)
      replace f4_ : -9223372036854775808 ≤ (xpl h 91 0) ∧ (xpl h 91 0) ≤ 9223372036854775807 := f4_
      refine xr_iload (pc := 633) (i := 7) (hI := d_W_law_633) (hl := rfl) ?_
      refine xr_i2l (pc := 635) (hI := d_W_law_635) ?_
      refine xr_lcmp (pc := 636) (hI := d_W_law_636) ?_
      refine xg_lif_eq (pc := 637) (tgt := 642) (hI := d_W_law_637) (ht := by decide) (fun q9 => ?_) (fun q9 => ?_)
      · replace hyp := hyp.1 q9
        have q5_ := q9
        clear q9
        refine xr_goto (pc := 642) (tgt := 2018) (hI := d_W_law_642) (ht := by decide) ?_
        exact xr_drop (L9 := [xR (-108), xR 0, xR 53, xR 91, xR 92, xI x5, xZ, xZ, xZ]) (xdrs (xdrs (xdrs (xdrs (xdrs (xdrs (xdrz (xdrz (xdrs xdr0))))))))) hyp
      · replace hyp := hyp.2 q9
        have q5_ := q9
        clear q9
        refine xr_iconst (pc := 640) (hI := d_W_law_640) (hr := by decide) ?_
        refine xr_ireturnT (S := []) (pc := 641) (hI := d_W_law_641) (hr := rfl) (xnar_z (by decide)) ?_
        exact hyp
  · replace hyp := hyp.2 q9
    have q2_ := q9
    clear q9
    refine xr_iconst (pc := 623) (hI := d_W_law_623) (hr := by decide) ?_
    refine xr_ireturnT (S := []) (pc := 624) (hI := d_W_law_624) (hr := rfl) (xnar_z (by decide)) ?_
    exact hyp
theorem d_W_law_645 : decode code 645 = .ok (.aload_n 1, 1) := by decide +kernel
theorem d_W_law_646 : decode code 646 = .ok (.aload_n 0, 1) := by decide +kernel
theorem d_W_law_647 : decode code 647 = .ok (.iload 5, 2) := by decide +kernel
theorem d_W_law_649 : decode code 649 = .ok (.iconst 1, 1) := by decide +kernel
theorem d_W_law_650 : decode code 650 = .ok (.iadd, 1) := by decide +kernel
theorem d_W_law_651 : decode code 651 = .ok (.iaload, 1) := by decide +kernel
theorem d_W_law_652 : decode code 652 = .ok (.aload_n 3, 1) := by decide +kernel
theorem d_W_law_653 : decode code 653 = .ok (.invokestatic 155, 3) := by decide +kernel
theorem k_W_markedIn : xCalH m_W_markedIn 3 := ⟨List.mem_append_right _ (List.mem_of_getElem? (i := 1411) (by decide +kernel)), w_0, Nat.le_of_ble_eq_true rfl, ⟨by decide +kernel, by decide +kernel⟩, by decide +kernel, by decide +kernel⟩
theorem w_1409 : Cond.methodLink "BeaconIndexLaw" 155 ⟨"BeaconIndexLaw", "markedIn", "(LBeaconIndex;I[J)I"⟩ ∈ lw_tbl := List.mem_append_right _ (List.mem_of_getElem? (i := 1409) (by decide +kernel))
theorem w_1410 : Cond.static ⟨"BeaconIndexLaw", "markedIn", "(LBeaconIndex;I[J)I"⟩ ∈ lw_tbl := List.mem_append_right _ (List.mem_of_getElem? (i := 1410) (by decide +kernel))
theorem v_W_law_645 {G : XG} {d : Nat} {h : XH} {Q : XV → XH → Prop} {X : Nat → XH → Prop} {x5 : Int} {n9 : Nat} {xs : Nat → Int32} {nm9 : String} {hq9 : List (Nat × Nat × Nat × Nat)} (SC : SCR G n9 xs) (F : xFix h) (hyp : xiR (x5 + 1) ∧ 0 ≤ (x5 + 1) ∧ (x5 + 1) < (n9 : Int) ∧ (xwp G m_W_markedIn (d + 219) 0 [xR 0, xI (scV xs (x5 + 1)), xR 91, xZ] [] h (fun v9 h9 => xwp G (m_W_law nm9 hq9) (d + 220) 656 [xR (-108), xR 0, xR 53, xR 91, xR 92, xI x5, xZ, xZ, xZ] (xpush v9 []) h9 Q X) (fun _ _ => False))) : xwp G (m_W_law nm9 hq9) (d + 220) 645 [xR (-108), xR 0, xR 53, xR 91, xR 92, xI x5, xZ, xZ, xZ] [] h Q X := by
  have hnx9 : (93 : Int) ≤ xnx h := F.2.2
  refine xr_okL (fun hl9 => ?_)
  have r_x5 : -2147483648 ≤ x5 ∧ x5 ≤ 2147483647 := hl9 (xI x5) (.tail _ (.tail _ (.tail _ (.tail _ (.tail _ (.head _)))))) (Nat.le_of_ble_eq_true rfl)
  refine xr_aload_n (pc := 645) (i := 1) (hI := d_W_law_645) (hi := rfl) (hl := rfl) ?_
  refine xr_aload_n (pc := 646) (i := 0) (hI := d_W_law_646) (hi := rfl) (hl := rfl) ?_
  refine xr_iload (pc := 647) (i := 5) (hI := d_W_law_647) (hl := rfl) ?_
  refine xr_iconst (pc := 649) (hI := d_W_law_649) (hr := by decide) ?_
  obtain ⟨c9, hyp⟩ := hyp
  refine xr_iadd (pc := 650) (hI := d_W_law_650) (hr := c9) ?_
  obtain ⟨c8, c9, hyp⟩ := hyp
  refine xr_scd (pc := 651) SC (hI := d_W_law_651) c8 c9 ?_
  have f1_ : -2147483648 ≤ (scV xs (x5 + 1)) ∧ (scV xs (x5 + 1)) ≤ 2147483647 := xi_toR _
  refine xr_aload_n (pc := 652) (i := 3) (hI := d_W_law_652) (hi := rfl) (hl := rfl) ?_
  exact xl_callSW (pc := 653) (index := 155) (K := m_W_markedIn) (As := [xR 0, xI (scV xs (x5 + 1)), xR 91]) (S := []) (L0 := [xR 0, xI (scV xs (x5 + 1)), xR 91, xZ]) (hI := d_W_law_653) (hK := k_W_markedIn) (hlk := w_1409) (hS8 := Nat.le_of_ble_eq_true rfl) (hstat := w_1410) (hlen := Nat.le_of_ble_eq_true rfl) (hst := rfl) (hL0 := rfl)  hyp
theorem d_W_law_656 : decode code 656 = .ok (.istore 6, 2) := by decide +kernel
theorem d_W_law_658 : decode code 658 = .ok (.aload_n 2, 1) := by decide +kernel
theorem d_W_law_659 : decode code 659 = .ok (.aload_n 0, 1) := by decide +kernel
theorem d_W_law_660 : decode code 660 = .ok (.iload 5, 2) := by decide +kernel
theorem d_W_law_662 : decode code 662 = .ok (.iconst 1, 1) := by decide +kernel
theorem d_W_law_663 : decode code 663 = .ok (.iadd, 1) := by decide +kernel
theorem d_W_law_664 : decode code 664 = .ok (.iaload, 1) := by decide +kernel
theorem d_W_law_665 : decode code 665 = .ok (.invokevirtual 157, 3) := by decide +kernel
theorem k_M_markedIn : xCal m_M_markedIn 1 := ⟨List.mem_append_right _ (List.mem_of_getElem? (i := 1869) (by decide +kernel)), w_15, Nat.le_of_ble_eq_true rfl, ⟨by decide +kernel, by decide +kernel⟩, by decide +kernel, by decide +kernel, rfl⟩
theorem w_1866 : Cond.methodLink "BeaconIndexLaw" 157 ⟨"BeaconIndexModel", "markedIn", "(I)I"⟩ ∈ lw_tbl := List.mem_append_right _ (List.mem_of_getElem? (i := 1866) (by decide +kernel))
theorem w_1867 : Cond.instanceMethod ⟨"BeaconIndexModel", "markedIn", "(I)I"⟩ ∈ lw_tbl := List.mem_append_right _ (List.mem_of_getElem? (i := 1867) (by decide +kernel))
theorem w_1868 : Cond.selects "BeaconIndexModel" ⟨"BeaconIndexModel", "markedIn", "(I)I"⟩ ⟨"BeaconIndexModel", "markedIn", "(I)I"⟩ ∈ lw_tbl := List.mem_append_right _ (List.mem_of_getElem? (i := 1868) (by decide +kernel))
theorem v_W_law_656 {G : XG} {d : Nat} {h : XH} {Q : XV → XH → Prop} {X : Nat → XH → Prop} {x5 s0 : Int} {n9 : Nat} {xs : Nat → Int32} {nm9 : String} {hq9 : List (Nat × Nat × Nat × Nat)} (SC : SCR G n9 xs) (F : xFix h) (hyp : xiR (x5 + 1) ∧ 0 ≤ (x5 + 1) ∧ (x5 + 1) < (n9 : Int) ∧ (xwp G m_M_markedIn (d + 219) 0 [xR 53, xI (scV xs (x5 + 1))] [] h (fun v9 h9 => xwp G (m_W_law nm9 hq9) (d + 220) 668 [xR (-108), xR 0, xR 53, xR 91, xR 92, xI x5, xI s0, xZ, xZ] (xpush v9 []) h9 Q X) (fun _ _ => False))) : xwp G (m_W_law nm9 hq9) (d + 220) 656 [xR (-108), xR 0, xR 53, xR 91, xR 92, xI x5, xZ, xZ, xZ] [xI s0] h Q X := by
  have hnx9 : (93 : Int) ≤ xnx h := F.2.2
  refine xr_okL (fun hl9 => ?_)
  have r_x5 : -2147483648 ≤ x5 ∧ x5 ≤ 2147483647 := hl9 (xI x5) (.tail _ (.tail _ (.tail _ (.tail _ (.tail _ (.head _)))))) (Nat.le_of_ble_eq_true rfl)
  refine xr_okS (fun hs9 => ?_)
  have r_s0 : -2147483648 ≤ s0 ∧ s0 ≤ 2147483647 := hs9 (xI s0) (.head _)
  refine xr_istore (pc := 656) (i := 6) (L9 := [xR (-108), xR 0, xR 53, xR 91, xR 92, xI x5, xI s0, xZ, xZ]) (hI := d_W_law_656) (hn := Nat.le_of_ble_eq_true rfl) (hL9 := rfl) ?_
  refine xr_aload_n (pc := 658) (i := 2) (hI := d_W_law_658) (hi := rfl) (hl := rfl) ?_
  refine xr_aload_n (pc := 659) (i := 0) (hI := d_W_law_659) (hi := rfl) (hl := rfl) ?_
  refine xr_iload (pc := 660) (i := 5) (hI := d_W_law_660) (hl := rfl) ?_
  refine xr_iconst (pc := 662) (hI := d_W_law_662) (hr := by decide) ?_
  obtain ⟨c9, hyp⟩ := hyp
  refine xr_iadd (pc := 663) (hI := d_W_law_663) (hr := c9) ?_
  obtain ⟨c8, c9, hyp⟩ := hyp
  refine xr_scd (pc := 664) SC (hI := d_W_law_664) c8 c9 ?_
  have f1_ : -2147483648 ≤ (scV xs (x5 + 1)) ∧ (scV xs (x5 + 1)) ≤ 2147483647 := xi_toR _
  exact xl_callV (pc := 665) (index := 157) (K := m_M_markedIn) (As := [xI (scV xs (x5 + 1))]) (S := []) (L0 := [xR 53, xI (scV xs (x5 + 1))]) (hI := d_W_law_665) (hK := k_M_markedIn) (hlk := w_1866) (hS8 := Nat.le_of_ble_eq_true rfl) (ci := 11) (N := 38) (C := "BeaconIndexModel") (T := xF11) (hc := rfl) (hci := Nat.le_of_ble_eq_true rfl) (htb := (ft_53 F)) (hinst := w_1867) (hsel := w_1868) (hlen := Nat.le_of_ble_eq_true rfl) (hst := rfl) (hL0 := rfl)  hyp
theorem d_W_law_668 : decode code 668 = .ok (.istore 7, 2) := by decide +kernel
theorem d_W_law_670 : decode code 670 = .ok (.aload_n 2, 1) := by decide +kernel
theorem d_W_law_671 : decode code 671 = .ok (.invokevirtual 114, 3) := by decide +kernel
theorem d_W_law_674 : decode code 674 = .ok (.iload 6, 2) := by decide +kernel
theorem d_W_law_676 : decode code 676 = .ok (.if_icmp .eq 5, 3) := by decide +kernel
theorem d_W_law_681 : decode code 681 = .ok (.iload 6, 2) := by decide +kernel
theorem d_W_law_683 : decode code 683 = .ok (.ifCond .ne 15, 3) := by decide +kernel
theorem d_W_law_698 : decode code 698 = .ok (.goto 1320, 3) := by decide +kernel
theorem d_W_law_686 : decode code 686 = .ok (.aload_n 3, 1) := by decide +kernel
theorem d_W_law_687 : decode code 687 = .ok (.iconst 0, 1) := by decide +kernel
theorem d_W_law_688 : decode code 688 = .ok (.laload, 1) := by decide +kernel
theorem d_W_law_689 : decode code 689 = .ok (.iload 7, 2) := by decide +kernel
theorem d_W_law_691 : decode code 691 = .ok (.i2l, 1) := by decide +kernel
theorem d_W_law_692 : decode code 692 = .ok (.lcmp, 1) := by decide +kernel
theorem d_W_law_693 : decode code 693 = .ok (.ifCond .eq 5, 3) := by decide +kernel
theorem d_W_law_696 : decode code 696 = .ok (.iconst 0, 1) := by decide +kernel
theorem d_W_law_697 : decode code 697 = .ok (.ireturn, 1) := by decide +kernel
theorem d_W_law_679 : decode code 679 = .ok (.iconst 0, 1) := by decide +kernel
theorem d_W_law_680 : decode code 680 = .ok (.ireturn, 1) := by decide +kernel
theorem v_W_law_668 {G : XG} {d : Nat} {h : XH} {Q : XV → XH → Prop} {X : Nat → XH → Prop} {x5 x6 s0 : Int} {n9 : Nat} {xs : Nat → Int32} {nm9 : String} {hq9 : List (Nat × Nat × Nat × Nat)} (SC : SCR G n9 xs) (F : xFix h) (hyp : (((xpl h 53 0) = x6 → ((x6 = 0 → (((xpl h 91 0) = s0 → (xwp G (m_W_law nm9 hq9) (d + 220) 2018 [xR (-108), xR 0, xR 53, xR 91, xR 92, xI x5, xZ, xZ, xZ] [] h Q X)) ∧ (¬ (xpl h 91 0) = s0 → (Q (xI 0) h)))) ∧ (¬ x6 = 0 → (xwp G (m_W_law nm9 hq9) (d + 220) 2018 [xR (-108), xR 0, xR 53, xR 91, xR 92, xI x5, xZ, xZ, xZ] [] h Q X)))) ∧ (¬ (xpl h 53 0) = x6 → (Q (xI 0) h)))) : xwp G (m_W_law nm9 hq9) (d + 220) 668 [xR (-108), xR 0, xR 53, xR 91, xR 92, xI x5, xI x6, xZ, xZ] [xI s0] h Q X := by
  have hnx9 : (93 : Int) ≤ xnx h := F.2.2
  refine xr_okL (fun hl9 => ?_)
  have r_x5 : -2147483648 ≤ x5 ∧ x5 ≤ 2147483647 := hl9 (xI x5) (.tail _ (.tail _ (.tail _ (.tail _ (.tail _ (.head _)))))) (Nat.le_of_ble_eq_true rfl)
  have r_x6 : -2147483648 ≤ x6 ∧ x6 ≤ 2147483647 := hl9 (xI x6) (.tail _ (.tail _ (.tail _ (.tail _ (.tail _ (.tail _ (.head _))))))) (Nat.le_of_ble_eq_true rfl)
  refine xr_okS (fun hs9 => ?_)
  have r_s0 : -2147483648 ≤ s0 ∧ s0 ≤ 2147483647 := hs9 (xI s0) (.head _)
  refine xr_istore (pc := 668) (i := 7) (L9 := [xR (-108), xR 0, xR 53, xR 91, xR 92, xI x5, xI x6, xI s0, xZ]) (hI := d_W_law_668) (hn := Nat.le_of_ble_eq_true rfl) (hL9 := rfl) ?_
  refine xr_aload_n (pc := 670) (i := 2) (hI := d_W_law_670) (hi := rfl) (hl := rfl) ?_
  refine xl_callV (pc := 671) (index := 114) (K := m_M_thrown) (As := []) (S := []) (L0 := [xR 53]) (hI := d_W_law_671) (hK := k_M_thrown) (hlk := w_1702) (hS8 := Nat.le_of_ble_eq_true rfl) (ci := 11) (N := 38) (C := "BeaconIndexModel") (T := xF11) (hc := rfl) (hci := Nat.le_of_ble_eq_true rfl) (htb := (ft_53 F)) (hinst := w_1703) (hsel := w_1704) (hlen := Nat.le_of_ble_eq_true rfl) (hst := rfl) (hL0 := rfl)  ?_
  refine xr_aload_n (pc := 0) (i := 0) (hI := d_M_thrown_0) (hi := rfl) (hl := rfl) ?_
  refine xg_getf (pc := 1) (ci := 11) (k := 0) (N := 38) (v9 := 0) (v := (xpl h 53 0)) (T := xF11) (hI := d_M_thrown_1) (hw := w_1587) rfl xi11 (Or.inl rfl) (Nat.le_of_ble_eq_true rfl) (Nat.le_of_ble_eq_true rfl) rfl (ft_53 F) rfl (fun f1_ => ?_)
  replace f1_ : -2147483648 ≤ (xpl h 53 0) ∧ (xpl h 53 0) ≤ 2147483647 := f1_
  refine xr_ireturn (S := []) (pc := 4) (hI := d_M_thrown_4) (hr := rfl) ?_
  show xwp G (m_W_law nm9 hq9) (d + 220) 674 [xR (-108), xR 0, xR 53, xR 91, xR 92, xI x5, xI x6, xI s0, xZ] [xI (xpl h 53 0)] _ _ _
  refine xr_iload (pc := 674) (i := 6) (hI := d_W_law_674) (hl := rfl) ?_
  refine xr_icmp_eq (pc := 676) (tgt := 681) (hI := d_W_law_676) (ht := by decide) (fun q9 => ?_) (fun q9 => ?_)
  · replace hyp := hyp.1 q9
    have q2_ := q9
    clear q9
    refine xr_iload (pc := 681) (i := 6) (hI := d_W_law_681) (hl := rfl) ?_
    refine xr_if_ne (pc := 683) (tgt := 698) (hI := d_W_law_683) (ht := by decide) (fun q9 => ?_) (fun q9 => ?_)
    · replace hyp := hyp.2 q9
      have q3_ := q9
      clear q9
      refine xr_goto (pc := 698) (tgt := 2018) (hI := d_W_law_698) (ht := by decide) ?_
      exact xr_drop (L9 := [xR (-108), xR 0, xR 53, xR 91, xR 92, xI x5, xZ, xZ, xZ]) (xdrs (xdrs (xdrs (xdrs (xdrs (xdrs (xdrz (xdrz (xdrs xdr0))))))))) hyp
    · replace hyp := hyp.1 q9
      have q3_ := q9
      clear q9
      refine xr_aload_n (pc := 686) (i := 3) (hI := d_W_law_686) (hi := rfl) (hl := rfl) ?_
      refine xr_iconst (pc := 687) (hI := d_W_law_687) (hr := by decide) ?_
      refine xg_laload (pc := 688) (v := (xpl h 91 0)) (hI := d_W_law_688) (ft_91 F) (by decide) (xlt_of (fl_91 F) (by decide)) rfl (fun f4_ => ?_)
      replace f4_ : -9223372036854775808 ≤ (xpl h 91 0) ∧ (xpl h 91 0) ≤ 9223372036854775807 := f4_
      refine xr_iload (pc := 689) (i := 7) (hI := d_W_law_689) (hl := rfl) ?_
      refine xr_i2l (pc := 691) (hI := d_W_law_691) ?_
      refine xr_lcmp (pc := 692) (hI := d_W_law_692) ?_
      refine xg_lif_eq (pc := 693) (tgt := 698) (hI := d_W_law_693) (ht := by decide) (fun q9 => ?_) (fun q9 => ?_)
      · replace hyp := hyp.1 q9
        have q5_ := q9
        clear q9
        refine xr_goto (pc := 698) (tgt := 2018) (hI := d_W_law_698) (ht := by decide) ?_
        exact xr_drop (L9 := [xR (-108), xR 0, xR 53, xR 91, xR 92, xI x5, xZ, xZ, xZ]) (xdrs (xdrs (xdrs (xdrs (xdrs (xdrs (xdrz (xdrz (xdrs xdr0))))))))) hyp
      · replace hyp := hyp.2 q9
        have q5_ := q9
        clear q9
        refine xr_iconst (pc := 696) (hI := d_W_law_696) (hr := by decide) ?_
        refine xr_ireturnT (S := []) (pc := 697) (hI := d_W_law_697) (hr := rfl) (xnar_z (by decide)) ?_
        exact hyp
  · replace hyp := hyp.2 q9
    have q2_ := q9
    clear q9
    refine xr_iconst (pc := 679) (hI := d_W_law_679) (hr := by decide) ?_
    refine xr_ireturnT (S := []) (pc := 680) (hI := d_W_law_680) (hr := rfl) (xnar_z (by decide)) ?_
    exact hyp
theorem d_W_law_701 : decode code 701 = .ok (.aload_n 1, 1) := by decide +kernel
theorem d_W_law_702 : decode code 702 = .ok (.aload_n 0, 1) := by decide +kernel
theorem d_W_law_703 : decode code 703 = .ok (.iload 5, 2) := by decide +kernel
theorem d_W_law_705 : decode code 705 = .ok (.iconst 1, 1) := by decide +kernel
theorem d_W_law_706 : decode code 706 = .ok (.iadd, 1) := by decide +kernel
theorem d_W_law_707 : decode code 707 = .ok (.iaload, 1) := by decide +kernel
theorem d_W_law_708 : decode code 708 = .ok (.aload_n 3, 1) := by decide +kernel
theorem d_W_law_709 : decode code 709 = .ok (.invokestatic 158, 3) := by decide +kernel
theorem k_W_levelOf : xCalH m_W_levelOf 3 := ⟨List.mem_append_right _ (List.mem_of_getElem? (i := 1415) (by decide +kernel)), w_0, Nat.le_of_ble_eq_true rfl, ⟨by decide +kernel, by decide +kernel⟩, by decide +kernel, by decide +kernel⟩
theorem w_1413 : Cond.methodLink "BeaconIndexLaw" 158 ⟨"BeaconIndexLaw", "levelOf", "(LBeaconIndex;I[J)I"⟩ ∈ lw_tbl := List.mem_append_right _ (List.mem_of_getElem? (i := 1413) (by decide +kernel))
theorem w_1414 : Cond.static ⟨"BeaconIndexLaw", "levelOf", "(LBeaconIndex;I[J)I"⟩ ∈ lw_tbl := List.mem_append_right _ (List.mem_of_getElem? (i := 1414) (by decide +kernel))
theorem v_W_law_701 {G : XG} {d : Nat} {h : XH} {Q : XV → XH → Prop} {X : Nat → XH → Prop} {x5 : Int} {n9 : Nat} {xs : Nat → Int32} {nm9 : String} {hq9 : List (Nat × Nat × Nat × Nat)} (SC : SCR G n9 xs) (F : xFix h) (hyp : xiR (x5 + 1) ∧ 0 ≤ (x5 + 1) ∧ (x5 + 1) < (n9 : Int) ∧ (xwp G m_W_levelOf (d + 219) 0 [xR 0, xI (scV xs (x5 + 1)), xR 91, xZ] [] h (fun v9 h9 => xwp G (m_W_law nm9 hq9) (d + 220) 712 [xR (-108), xR 0, xR 53, xR 91, xR 92, xI x5, xZ, xZ, xZ] (xpush v9 []) h9 Q X) (fun _ _ => False))) : xwp G (m_W_law nm9 hq9) (d + 220) 701 [xR (-108), xR 0, xR 53, xR 91, xR 92, xI x5, xZ, xZ, xZ] [] h Q X := by
  have hnx9 : (93 : Int) ≤ xnx h := F.2.2
  refine xr_okL (fun hl9 => ?_)
  have r_x5 : -2147483648 ≤ x5 ∧ x5 ≤ 2147483647 := hl9 (xI x5) (.tail _ (.tail _ (.tail _ (.tail _ (.tail _ (.head _)))))) (Nat.le_of_ble_eq_true rfl)
  refine xr_aload_n (pc := 701) (i := 1) (hI := d_W_law_701) (hi := rfl) (hl := rfl) ?_
  refine xr_aload_n (pc := 702) (i := 0) (hI := d_W_law_702) (hi := rfl) (hl := rfl) ?_
  refine xr_iload (pc := 703) (i := 5) (hI := d_W_law_703) (hl := rfl) ?_
  refine xr_iconst (pc := 705) (hI := d_W_law_705) (hr := by decide) ?_
  obtain ⟨c9, hyp⟩ := hyp
  refine xr_iadd (pc := 706) (hI := d_W_law_706) (hr := c9) ?_
  obtain ⟨c8, c9, hyp⟩ := hyp
  refine xr_scd (pc := 707) SC (hI := d_W_law_707) c8 c9 ?_
  have f1_ : -2147483648 ≤ (scV xs (x5 + 1)) ∧ (scV xs (x5 + 1)) ≤ 2147483647 := xi_toR _
  refine xr_aload_n (pc := 708) (i := 3) (hI := d_W_law_708) (hi := rfl) (hl := rfl) ?_
  exact xl_callSW (pc := 709) (index := 158) (K := m_W_levelOf) (As := [xR 0, xI (scV xs (x5 + 1)), xR 91]) (S := []) (L0 := [xR 0, xI (scV xs (x5 + 1)), xR 91, xZ]) (hI := d_W_law_709) (hK := k_W_levelOf) (hlk := w_1413) (hS8 := Nat.le_of_ble_eq_true rfl) (hstat := w_1414) (hlen := Nat.le_of_ble_eq_true rfl) (hst := rfl) (hL0 := rfl)  hyp
theorem d_W_law_712 : decode code 712 = .ok (.istore 6, 2) := by decide +kernel
theorem d_W_law_714 : decode code 714 = .ok (.aload_n 2, 1) := by decide +kernel
theorem d_W_law_715 : decode code 715 = .ok (.aload_n 0, 1) := by decide +kernel
theorem d_W_law_716 : decode code 716 = .ok (.iload 5, 2) := by decide +kernel
theorem d_W_law_718 : decode code 718 = .ok (.iconst 1, 1) := by decide +kernel
theorem d_W_law_719 : decode code 719 = .ok (.iadd, 1) := by decide +kernel
theorem d_W_law_720 : decode code 720 = .ok (.iaload, 1) := by decide +kernel
theorem d_W_law_721 : decode code 721 = .ok (.invokevirtual 160, 3) := by decide +kernel
theorem k_M_levelOf : xCal m_M_levelOf 1 := ⟨List.mem_append_right _ (List.mem_of_getElem? (i := 1873) (by decide +kernel)), w_15, Nat.le_of_ble_eq_true rfl, ⟨by decide +kernel, by decide +kernel⟩, by decide +kernel, by decide +kernel, rfl⟩
theorem w_1870 : Cond.methodLink "BeaconIndexLaw" 160 ⟨"BeaconIndexModel", "levelOf", "(I)I"⟩ ∈ lw_tbl := List.mem_append_right _ (List.mem_of_getElem? (i := 1870) (by decide +kernel))
theorem w_1871 : Cond.instanceMethod ⟨"BeaconIndexModel", "levelOf", "(I)I"⟩ ∈ lw_tbl := List.mem_append_right _ (List.mem_of_getElem? (i := 1871) (by decide +kernel))
theorem w_1872 : Cond.selects "BeaconIndexModel" ⟨"BeaconIndexModel", "levelOf", "(I)I"⟩ ⟨"BeaconIndexModel", "levelOf", "(I)I"⟩ ∈ lw_tbl := List.mem_append_right _ (List.mem_of_getElem? (i := 1872) (by decide +kernel))
theorem v_W_law_712 {G : XG} {d : Nat} {h : XH} {Q : XV → XH → Prop} {X : Nat → XH → Prop} {x5 s0 : Int} {n9 : Nat} {xs : Nat → Int32} {nm9 : String} {hq9 : List (Nat × Nat × Nat × Nat)} (SC : SCR G n9 xs) (F : xFix h) (hyp : xiR (x5 + 1) ∧ 0 ≤ (x5 + 1) ∧ (x5 + 1) < (n9 : Int) ∧ (xwp G m_M_levelOf (d + 219) 0 [xR 53, xI (scV xs (x5 + 1))] [] h (fun v9 h9 => xwp G (m_W_law nm9 hq9) (d + 220) 724 [xR (-108), xR 0, xR 53, xR 91, xR 92, xI x5, xI s0, xZ, xZ] (xpush v9 []) h9 Q X) (fun _ _ => False))) : xwp G (m_W_law nm9 hq9) (d + 220) 712 [xR (-108), xR 0, xR 53, xR 91, xR 92, xI x5, xZ, xZ, xZ] [xI s0] h Q X := by
  have hnx9 : (93 : Int) ≤ xnx h := F.2.2
  refine xr_okL (fun hl9 => ?_)
  have r_x5 : -2147483648 ≤ x5 ∧ x5 ≤ 2147483647 := hl9 (xI x5) (.tail _ (.tail _ (.tail _ (.tail _ (.tail _ (.head _)))))) (Nat.le_of_ble_eq_true rfl)
  refine xr_okS (fun hs9 => ?_)
  have r_s0 : -2147483648 ≤ s0 ∧ s0 ≤ 2147483647 := hs9 (xI s0) (.head _)
  refine xr_istore (pc := 712) (i := 6) (L9 := [xR (-108), xR 0, xR 53, xR 91, xR 92, xI x5, xI s0, xZ, xZ]) (hI := d_W_law_712) (hn := Nat.le_of_ble_eq_true rfl) (hL9 := rfl) ?_
  refine xr_aload_n (pc := 714) (i := 2) (hI := d_W_law_714) (hi := rfl) (hl := rfl) ?_
  refine xr_aload_n (pc := 715) (i := 0) (hI := d_W_law_715) (hi := rfl) (hl := rfl) ?_
  refine xr_iload (pc := 716) (i := 5) (hI := d_W_law_716) (hl := rfl) ?_
  refine xr_iconst (pc := 718) (hI := d_W_law_718) (hr := by decide) ?_
  obtain ⟨c9, hyp⟩ := hyp
  refine xr_iadd (pc := 719) (hI := d_W_law_719) (hr := c9) ?_
  obtain ⟨c8, c9, hyp⟩ := hyp
  refine xr_scd (pc := 720) SC (hI := d_W_law_720) c8 c9 ?_
  have f1_ : -2147483648 ≤ (scV xs (x5 + 1)) ∧ (scV xs (x5 + 1)) ≤ 2147483647 := xi_toR _
  exact xl_callV (pc := 721) (index := 160) (K := m_M_levelOf) (As := [xI (scV xs (x5 + 1))]) (S := []) (L0 := [xR 53, xI (scV xs (x5 + 1))]) (hI := d_W_law_721) (hK := k_M_levelOf) (hlk := w_1870) (hS8 := Nat.le_of_ble_eq_true rfl) (ci := 11) (N := 38) (C := "BeaconIndexModel") (T := xF11) (hc := rfl) (hci := Nat.le_of_ble_eq_true rfl) (htb := (ft_53 F)) (hinst := w_1871) (hsel := w_1872) (hlen := Nat.le_of_ble_eq_true rfl) (hst := rfl) (hL0 := rfl)  hyp
theorem d_W_law_724 : decode code 724 = .ok (.istore 7, 2) := by decide +kernel
theorem d_W_law_726 : decode code 726 = .ok (.aload_n 2, 1) := by decide +kernel
theorem d_W_law_727 : decode code 727 = .ok (.invokevirtual 114, 3) := by decide +kernel
theorem d_W_law_730 : decode code 730 = .ok (.iload 6, 2) := by decide +kernel
theorem d_W_law_732 : decode code 732 = .ok (.if_icmp .eq 5, 3) := by decide +kernel
theorem d_W_law_737 : decode code 737 = .ok (.iload 6, 2) := by decide +kernel
theorem d_W_law_739 : decode code 739 = .ok (.ifCond .ne 15, 3) := by decide +kernel
theorem d_W_law_754 : decode code 754 = .ok (.goto 1264, 3) := by decide +kernel
theorem d_W_law_742 : decode code 742 = .ok (.aload_n 3, 1) := by decide +kernel
theorem d_W_law_743 : decode code 743 = .ok (.iconst 0, 1) := by decide +kernel
theorem d_W_law_744 : decode code 744 = .ok (.laload, 1) := by decide +kernel
theorem d_W_law_745 : decode code 745 = .ok (.iload 7, 2) := by decide +kernel
theorem d_W_law_747 : decode code 747 = .ok (.i2l, 1) := by decide +kernel
theorem d_W_law_748 : decode code 748 = .ok (.lcmp, 1) := by decide +kernel
theorem d_W_law_749 : decode code 749 = .ok (.ifCond .eq 5, 3) := by decide +kernel
theorem d_W_law_752 : decode code 752 = .ok (.iconst 0, 1) := by decide +kernel
theorem d_W_law_753 : decode code 753 = .ok (.ireturn, 1) := by decide +kernel
theorem d_W_law_735 : decode code 735 = .ok (.iconst 0, 1) := by decide +kernel
theorem d_W_law_736 : decode code 736 = .ok (.ireturn, 1) := by decide +kernel
theorem v_W_law_724 {G : XG} {d : Nat} {h : XH} {Q : XV → XH → Prop} {X : Nat → XH → Prop} {x5 x6 s0 : Int} {n9 : Nat} {xs : Nat → Int32} {nm9 : String} {hq9 : List (Nat × Nat × Nat × Nat)} (SC : SCR G n9 xs) (F : xFix h) (hyp : (((xpl h 53 0) = x6 → ((x6 = 0 → (((xpl h 91 0) = s0 → (xwp G (m_W_law nm9 hq9) (d + 220) 2018 [xR (-108), xR 0, xR 53, xR 91, xR 92, xI x5, xZ, xZ, xZ] [] h Q X)) ∧ (¬ (xpl h 91 0) = s0 → (Q (xI 0) h)))) ∧ (¬ x6 = 0 → (xwp G (m_W_law nm9 hq9) (d + 220) 2018 [xR (-108), xR 0, xR 53, xR 91, xR 92, xI x5, xZ, xZ, xZ] [] h Q X)))) ∧ (¬ (xpl h 53 0) = x6 → (Q (xI 0) h)))) : xwp G (m_W_law nm9 hq9) (d + 220) 724 [xR (-108), xR 0, xR 53, xR 91, xR 92, xI x5, xI x6, xZ, xZ] [xI s0] h Q X := by
  have hnx9 : (93 : Int) ≤ xnx h := F.2.2
  refine xr_okL (fun hl9 => ?_)
  have r_x5 : -2147483648 ≤ x5 ∧ x5 ≤ 2147483647 := hl9 (xI x5) (.tail _ (.tail _ (.tail _ (.tail _ (.tail _ (.head _)))))) (Nat.le_of_ble_eq_true rfl)
  have r_x6 : -2147483648 ≤ x6 ∧ x6 ≤ 2147483647 := hl9 (xI x6) (.tail _ (.tail _ (.tail _ (.tail _ (.tail _ (.tail _ (.head _))))))) (Nat.le_of_ble_eq_true rfl)
  refine xr_okS (fun hs9 => ?_)
  have r_s0 : -2147483648 ≤ s0 ∧ s0 ≤ 2147483647 := hs9 (xI s0) (.head _)
  refine xr_istore (pc := 724) (i := 7) (L9 := [xR (-108), xR 0, xR 53, xR 91, xR 92, xI x5, xI x6, xI s0, xZ]) (hI := d_W_law_724) (hn := Nat.le_of_ble_eq_true rfl) (hL9 := rfl) ?_
  refine xr_aload_n (pc := 726) (i := 2) (hI := d_W_law_726) (hi := rfl) (hl := rfl) ?_
  refine xl_callV (pc := 727) (index := 114) (K := m_M_thrown) (As := []) (S := []) (L0 := [xR 53]) (hI := d_W_law_727) (hK := k_M_thrown) (hlk := w_1702) (hS8 := Nat.le_of_ble_eq_true rfl) (ci := 11) (N := 38) (C := "BeaconIndexModel") (T := xF11) (hc := rfl) (hci := Nat.le_of_ble_eq_true rfl) (htb := (ft_53 F)) (hinst := w_1703) (hsel := w_1704) (hlen := Nat.le_of_ble_eq_true rfl) (hst := rfl) (hL0 := rfl)  ?_
  refine xr_aload_n (pc := 0) (i := 0) (hI := d_M_thrown_0) (hi := rfl) (hl := rfl) ?_
  refine xg_getf (pc := 1) (ci := 11) (k := 0) (N := 38) (v9 := 0) (v := (xpl h 53 0)) (T := xF11) (hI := d_M_thrown_1) (hw := w_1587) rfl xi11 (Or.inl rfl) (Nat.le_of_ble_eq_true rfl) (Nat.le_of_ble_eq_true rfl) rfl (ft_53 F) rfl (fun f1_ => ?_)
  replace f1_ : -2147483648 ≤ (xpl h 53 0) ∧ (xpl h 53 0) ≤ 2147483647 := f1_
  refine xr_ireturn (S := []) (pc := 4) (hI := d_M_thrown_4) (hr := rfl) ?_
  show xwp G (m_W_law nm9 hq9) (d + 220) 730 [xR (-108), xR 0, xR 53, xR 91, xR 92, xI x5, xI x6, xI s0, xZ] [xI (xpl h 53 0)] _ _ _
  refine xr_iload (pc := 730) (i := 6) (hI := d_W_law_730) (hl := rfl) ?_
  refine xr_icmp_eq (pc := 732) (tgt := 737) (hI := d_W_law_732) (ht := by decide) (fun q9 => ?_) (fun q9 => ?_)
  · replace hyp := hyp.1 q9
    have q2_ := q9
    clear q9
    refine xr_iload (pc := 737) (i := 6) (hI := d_W_law_737) (hl := rfl) ?_
    refine xr_if_ne (pc := 739) (tgt := 754) (hI := d_W_law_739) (ht := by decide) (fun q9 => ?_) (fun q9 => ?_)
    · replace hyp := hyp.2 q9
      have q3_ := q9
      clear q9
      refine xr_goto (pc := 754) (tgt := 2018) (hI := d_W_law_754) (ht := by decide) ?_
      exact xr_drop (L9 := [xR (-108), xR 0, xR 53, xR 91, xR 92, xI x5, xZ, xZ, xZ]) (xdrs (xdrs (xdrs (xdrs (xdrs (xdrs (xdrz (xdrz (xdrs xdr0))))))))) hyp
    · replace hyp := hyp.1 q9
      have q3_ := q9
      clear q9
      refine xr_aload_n (pc := 742) (i := 3) (hI := d_W_law_742) (hi := rfl) (hl := rfl) ?_
      refine xr_iconst (pc := 743) (hI := d_W_law_743) (hr := by decide) ?_
      refine xg_laload (pc := 744) (v := (xpl h 91 0)) (hI := d_W_law_744) (ft_91 F) (by decide) (xlt_of (fl_91 F) (by decide)) rfl (fun f4_ => ?_)
      replace f4_ : -9223372036854775808 ≤ (xpl h 91 0) ∧ (xpl h 91 0) ≤ 9223372036854775807 := f4_
      refine xr_iload (pc := 745) (i := 7) (hI := d_W_law_745) (hl := rfl) ?_
      refine xr_i2l (pc := 747) (hI := d_W_law_747) ?_
      refine xr_lcmp (pc := 748) (hI := d_W_law_748) ?_
      refine xg_lif_eq (pc := 749) (tgt := 754) (hI := d_W_law_749) (ht := by decide) (fun q9 => ?_) (fun q9 => ?_)
      · replace hyp := hyp.1 q9
        have q5_ := q9
        clear q9
        refine xr_goto (pc := 754) (tgt := 2018) (hI := d_W_law_754) (ht := by decide) ?_
        exact xr_drop (L9 := [xR (-108), xR 0, xR 53, xR 91, xR 92, xI x5, xZ, xZ, xZ]) (xdrs (xdrs (xdrs (xdrs (xdrs (xdrs (xdrz (xdrz (xdrs xdr0))))))))) hyp
      · replace hyp := hyp.2 q9
        have q5_ := q9
        clear q9
        refine xr_iconst (pc := 752) (hI := d_W_law_752) (hr := by decide) ?_
        refine xr_ireturnT (S := []) (pc := 753) (hI := d_W_law_753) (hr := rfl) (xnar_z (by decide)) ?_
        exact hyp
  · replace hyp := hyp.2 q9
    have q2_ := q9
    clear q9
    refine xr_iconst (pc := 735) (hI := d_W_law_735) (hr := by decide) ?_
    refine xr_ireturnT (S := []) (pc := 736) (hI := d_W_law_736) (hr := rfl) (xnar_z (by decide)) ?_
    exact hyp
theorem d_W_law_757 : decode code 757 = .ok (.aload_n 1, 1) := by decide +kernel
theorem d_W_law_758 : decode code 758 = .ok (.aload_n 0, 1) := by decide +kernel
theorem d_W_law_759 : decode code 759 = .ok (.iload 5, 2) := by decide +kernel
theorem d_W_law_761 : decode code 761 = .ok (.iconst 1, 1) := by decide +kernel
theorem d_W_law_762 : decode code 762 = .ok (.iadd, 1) := by decide +kernel
theorem d_W_law_763 : decode code 763 = .ok (.iaload, 1) := by decide +kernel
theorem d_W_law_764 : decode code 764 = .ok (.aload_n 0, 1) := by decide +kernel
theorem d_W_law_765 : decode code 765 = .ok (.iload 5, 2) := by decide +kernel
theorem d_W_law_767 : decode code 767 = .ok (.iconst 2, 1) := by decide +kernel
theorem d_W_law_768 : decode code 768 = .ok (.iadd, 1) := by decide +kernel
theorem d_W_law_769 : decode code 769 = .ok (.iaload, 1) := by decide +kernel
theorem d_W_law_770 : decode code 770 = .ok (.aload_n 3, 1) := by decide +kernel
theorem d_W_law_771 : decode code 771 = .ok (.invokestatic 161, 3) := by decide +kernel
theorem k_W_wordsIn : xCalH m_W_wordsIn 4 := ⟨List.mem_append_right _ (List.mem_of_getElem? (i := 1419) (by decide +kernel)), w_0, Nat.le_of_ble_eq_true rfl, ⟨by decide +kernel, by decide +kernel⟩, by decide +kernel, by decide +kernel⟩
theorem w_1417 : Cond.methodLink "BeaconIndexLaw" 161 ⟨"BeaconIndexLaw", "wordsIn", "(LBeaconIndex;II[J)I"⟩ ∈ lw_tbl := List.mem_append_right _ (List.mem_of_getElem? (i := 1417) (by decide +kernel))
theorem w_1418 : Cond.static ⟨"BeaconIndexLaw", "wordsIn", "(LBeaconIndex;II[J)I"⟩ ∈ lw_tbl := List.mem_append_right _ (List.mem_of_getElem? (i := 1418) (by decide +kernel))
theorem v_W_law_757 {G : XG} {d : Nat} {h : XH} {Q : XV → XH → Prop} {X : Nat → XH → Prop} {x5 : Int} {n9 : Nat} {xs : Nat → Int32} {nm9 : String} {hq9 : List (Nat × Nat × Nat × Nat)} (SC : SCR G n9 xs) (F : xFix h) (hyp : xiR (x5 + 1) ∧ 0 ≤ (x5 + 1) ∧ (x5 + 1) < (n9 : Int) ∧ xiR (x5 + 2) ∧ 0 ≤ (x5 + 2) ∧ (x5 + 2) < (n9 : Int) ∧ (xwp G m_W_wordsIn (d + 219) 0 [xR 0, xI (scV xs (x5 + 1)), xI (scV xs (x5 + 2)), xR 91, xZ] [] h (fun v9 h9 => xwp G (m_W_law nm9 hq9) (d + 220) 774 [xR (-108), xR 0, xR 53, xR 91, xR 92, xI x5, xZ, xZ, xZ] (xpush v9 []) h9 Q X) (fun _ _ => False))) : xwp G (m_W_law nm9 hq9) (d + 220) 757 [xR (-108), xR 0, xR 53, xR 91, xR 92, xI x5, xZ, xZ, xZ] [] h Q X := by
  have hnx9 : (93 : Int) ≤ xnx h := F.2.2
  refine xr_okL (fun hl9 => ?_)
  have r_x5 : -2147483648 ≤ x5 ∧ x5 ≤ 2147483647 := hl9 (xI x5) (.tail _ (.tail _ (.tail _ (.tail _ (.tail _ (.head _)))))) (Nat.le_of_ble_eq_true rfl)
  refine xr_aload_n (pc := 757) (i := 1) (hI := d_W_law_757) (hi := rfl) (hl := rfl) ?_
  refine xr_aload_n (pc := 758) (i := 0) (hI := d_W_law_758) (hi := rfl) (hl := rfl) ?_
  refine xr_iload (pc := 759) (i := 5) (hI := d_W_law_759) (hl := rfl) ?_
  refine xr_iconst (pc := 761) (hI := d_W_law_761) (hr := by decide) ?_
  obtain ⟨c9, hyp⟩ := hyp
  refine xr_iadd (pc := 762) (hI := d_W_law_762) (hr := c9) ?_
  obtain ⟨c8, c9, hyp⟩ := hyp
  refine xr_scd (pc := 763) SC (hI := d_W_law_763) c8 c9 ?_
  have f1_ : -2147483648 ≤ (scV xs (x5 + 1)) ∧ (scV xs (x5 + 1)) ≤ 2147483647 := xi_toR _
  refine xr_aload_n (pc := 764) (i := 0) (hI := d_W_law_764) (hi := rfl) (hl := rfl) ?_
  refine xr_iload (pc := 765) (i := 5) (hI := d_W_law_765) (hl := rfl) ?_
  refine xr_iconst (pc := 767) (hI := d_W_law_767) (hr := by decide) ?_
  obtain ⟨c9, hyp⟩ := hyp
  refine xr_iadd (pc := 768) (hI := d_W_law_768) (hr := c9) ?_
  obtain ⟨c8, c9, hyp⟩ := hyp
  refine xr_scd (pc := 769) SC (hI := d_W_law_769) c8 c9 ?_
  have f2_ : -2147483648 ≤ (scV xs (x5 + 2)) ∧ (scV xs (x5 + 2)) ≤ 2147483647 := xi_toR _
  refine xr_aload_n (pc := 770) (i := 3) (hI := d_W_law_770) (hi := rfl) (hl := rfl) ?_
  exact xl_callSW (pc := 771) (index := 161) (K := m_W_wordsIn) (As := [xR 0, xI (scV xs (x5 + 1)), xI (scV xs (x5 + 2)), xR 91]) (S := []) (L0 := [xR 0, xI (scV xs (x5 + 1)), xI (scV xs (x5 + 2)), xR 91, xZ]) (hI := d_W_law_771) (hK := k_W_wordsIn) (hlk := w_1417) (hS8 := Nat.le_of_ble_eq_true rfl) (hstat := w_1418) (hlen := Nat.le_of_ble_eq_true rfl) (hst := rfl) (hL0 := rfl)  hyp
theorem d_W_law_774 : decode code 774 = .ok (.istore 6, 2) := by decide +kernel
theorem d_W_law_776 : decode code 776 = .ok (.aload_n 2, 1) := by decide +kernel
theorem d_W_law_777 : decode code 777 = .ok (.aload_n 0, 1) := by decide +kernel
theorem d_W_law_778 : decode code 778 = .ok (.iload 5, 2) := by decide +kernel
theorem d_W_law_780 : decode code 780 = .ok (.iconst 1, 1) := by decide +kernel
theorem d_W_law_781 : decode code 781 = .ok (.iadd, 1) := by decide +kernel
theorem d_W_law_782 : decode code 782 = .ok (.iaload, 1) := by decide +kernel
theorem d_W_law_783 : decode code 783 = .ok (.aload_n 0, 1) := by decide +kernel
theorem d_W_law_784 : decode code 784 = .ok (.iload 5, 2) := by decide +kernel
theorem d_W_law_786 : decode code 786 = .ok (.iconst 2, 1) := by decide +kernel
theorem d_W_law_787 : decode code 787 = .ok (.iadd, 1) := by decide +kernel
theorem d_W_law_788 : decode code 788 = .ok (.iaload, 1) := by decide +kernel
theorem d_W_law_789 : decode code 789 = .ok (.invokevirtual 164, 3) := by decide +kernel
theorem k_M_wordsIn : xCal m_M_wordsIn 2 := ⟨List.mem_append_right _ (List.mem_of_getElem? (i := 1877) (by decide +kernel)), w_15, Nat.le_of_ble_eq_true rfl, ⟨by decide +kernel, by decide +kernel⟩, by decide +kernel, by decide +kernel, rfl⟩
theorem w_1874 : Cond.methodLink "BeaconIndexLaw" 164 ⟨"BeaconIndexModel", "wordsIn", "(II)I"⟩ ∈ lw_tbl := List.mem_append_right _ (List.mem_of_getElem? (i := 1874) (by decide +kernel))
theorem w_1875 : Cond.instanceMethod ⟨"BeaconIndexModel", "wordsIn", "(II)I"⟩ ∈ lw_tbl := List.mem_append_right _ (List.mem_of_getElem? (i := 1875) (by decide +kernel))
theorem w_1876 : Cond.selects "BeaconIndexModel" ⟨"BeaconIndexModel", "wordsIn", "(II)I"⟩ ⟨"BeaconIndexModel", "wordsIn", "(II)I"⟩ ∈ lw_tbl := List.mem_append_right _ (List.mem_of_getElem? (i := 1876) (by decide +kernel))
theorem v_W_law_774 {G : XG} {d : Nat} {h : XH} {Q : XV → XH → Prop} {X : Nat → XH → Prop} {x5 s0 : Int} {n9 : Nat} {xs : Nat → Int32} {nm9 : String} {hq9 : List (Nat × Nat × Nat × Nat)} (SC : SCR G n9 xs) (F : xFix h) (hyp : xiR (x5 + 1) ∧ 0 ≤ (x5 + 1) ∧ (x5 + 1) < (n9 : Int) ∧ xiR (x5 + 2) ∧ 0 ≤ (x5 + 2) ∧ (x5 + 2) < (n9 : Int) ∧ (xwp G m_M_wordsIn (d + 219) 0 [xR 53, xI (scV xs (x5 + 1)), xI (scV xs (x5 + 2))] [] h (fun v9 h9 => xwp G (m_W_law nm9 hq9) (d + 220) 792 [xR (-108), xR 0, xR 53, xR 91, xR 92, xI x5, xI s0, xZ, xZ] (xpush v9 []) h9 Q X) (fun _ _ => False))) : xwp G (m_W_law nm9 hq9) (d + 220) 774 [xR (-108), xR 0, xR 53, xR 91, xR 92, xI x5, xZ, xZ, xZ] [xI s0] h Q X := by
  have hnx9 : (93 : Int) ≤ xnx h := F.2.2
  refine xr_okL (fun hl9 => ?_)
  have r_x5 : -2147483648 ≤ x5 ∧ x5 ≤ 2147483647 := hl9 (xI x5) (.tail _ (.tail _ (.tail _ (.tail _ (.tail _ (.head _)))))) (Nat.le_of_ble_eq_true rfl)
  refine xr_okS (fun hs9 => ?_)
  have r_s0 : -2147483648 ≤ s0 ∧ s0 ≤ 2147483647 := hs9 (xI s0) (.head _)
  refine xr_istore (pc := 774) (i := 6) (L9 := [xR (-108), xR 0, xR 53, xR 91, xR 92, xI x5, xI s0, xZ, xZ]) (hI := d_W_law_774) (hn := Nat.le_of_ble_eq_true rfl) (hL9 := rfl) ?_
  refine xr_aload_n (pc := 776) (i := 2) (hI := d_W_law_776) (hi := rfl) (hl := rfl) ?_
  refine xr_aload_n (pc := 777) (i := 0) (hI := d_W_law_777) (hi := rfl) (hl := rfl) ?_
  refine xr_iload (pc := 778) (i := 5) (hI := d_W_law_778) (hl := rfl) ?_
  refine xr_iconst (pc := 780) (hI := d_W_law_780) (hr := by decide) ?_
  obtain ⟨c9, hyp⟩ := hyp
  refine xr_iadd (pc := 781) (hI := d_W_law_781) (hr := c9) ?_
  obtain ⟨c8, c9, hyp⟩ := hyp
  refine xr_scd (pc := 782) SC (hI := d_W_law_782) c8 c9 ?_
  have f1_ : -2147483648 ≤ (scV xs (x5 + 1)) ∧ (scV xs (x5 + 1)) ≤ 2147483647 := xi_toR _
  refine xr_aload_n (pc := 783) (i := 0) (hI := d_W_law_783) (hi := rfl) (hl := rfl) ?_
  refine xr_iload (pc := 784) (i := 5) (hI := d_W_law_784) (hl := rfl) ?_
  refine xr_iconst (pc := 786) (hI := d_W_law_786) (hr := by decide) ?_
  obtain ⟨c9, hyp⟩ := hyp
  refine xr_iadd (pc := 787) (hI := d_W_law_787) (hr := c9) ?_
  obtain ⟨c8, c9, hyp⟩ := hyp
  refine xr_scd (pc := 788) SC (hI := d_W_law_788) c8 c9 ?_
  have f2_ : -2147483648 ≤ (scV xs (x5 + 2)) ∧ (scV xs (x5 + 2)) ≤ 2147483647 := xi_toR _
  exact xl_callV (pc := 789) (index := 164) (K := m_M_wordsIn) (As := [xI (scV xs (x5 + 1)), xI (scV xs (x5 + 2))]) (S := []) (L0 := [xR 53, xI (scV xs (x5 + 1)), xI (scV xs (x5 + 2))]) (hI := d_W_law_789) (hK := k_M_wordsIn) (hlk := w_1874) (hS8 := Nat.le_of_ble_eq_true rfl) (ci := 11) (N := 38) (C := "BeaconIndexModel") (T := xF11) (hc := rfl) (hci := Nat.le_of_ble_eq_true rfl) (htb := (ft_53 F)) (hinst := w_1875) (hsel := w_1876) (hlen := Nat.le_of_ble_eq_true rfl) (hst := rfl) (hL0 := rfl)  hyp
theorem d_W_law_792 : decode code 792 = .ok (.istore 7, 2) := by decide +kernel
theorem d_W_law_794 : decode code 794 = .ok (.aload_n 2, 1) := by decide +kernel
theorem d_W_law_795 : decode code 795 = .ok (.invokevirtual 114, 3) := by decide +kernel
theorem d_W_law_798 : decode code 798 = .ok (.iload 6, 2) := by decide +kernel
theorem d_W_law_800 : decode code 800 = .ok (.if_icmp .eq 5, 3) := by decide +kernel
theorem d_W_law_805 : decode code 805 = .ok (.iload 6, 2) := by decide +kernel
theorem d_W_law_807 : decode code 807 = .ok (.ifCond .ne 15, 3) := by decide +kernel
theorem d_W_law_822 : decode code 822 = .ok (.goto 1196, 3) := by decide +kernel
theorem d_W_law_810 : decode code 810 = .ok (.aload_n 3, 1) := by decide +kernel
theorem d_W_law_811 : decode code 811 = .ok (.iconst 0, 1) := by decide +kernel
theorem d_W_law_812 : decode code 812 = .ok (.laload, 1) := by decide +kernel
theorem d_W_law_813 : decode code 813 = .ok (.iload 7, 2) := by decide +kernel
theorem d_W_law_815 : decode code 815 = .ok (.i2l, 1) := by decide +kernel
theorem d_W_law_816 : decode code 816 = .ok (.lcmp, 1) := by decide +kernel
theorem d_W_law_817 : decode code 817 = .ok (.ifCond .eq 5, 3) := by decide +kernel
theorem d_W_law_820 : decode code 820 = .ok (.iconst 0, 1) := by decide +kernel
theorem d_W_law_821 : decode code 821 = .ok (.ireturn, 1) := by decide +kernel
theorem d_W_law_803 : decode code 803 = .ok (.iconst 0, 1) := by decide +kernel
theorem d_W_law_804 : decode code 804 = .ok (.ireturn, 1) := by decide +kernel
theorem v_W_law_792 {G : XG} {d : Nat} {h : XH} {Q : XV → XH → Prop} {X : Nat → XH → Prop} {x5 x6 s0 : Int} {n9 : Nat} {xs : Nat → Int32} {nm9 : String} {hq9 : List (Nat × Nat × Nat × Nat)} (SC : SCR G n9 xs) (F : xFix h) (hyp : (((xpl h 53 0) = x6 → ((x6 = 0 → (((xpl h 91 0) = s0 → (xwp G (m_W_law nm9 hq9) (d + 220) 2018 [xR (-108), xR 0, xR 53, xR 91, xR 92, xI x5, xZ, xZ, xZ] [] h Q X)) ∧ (¬ (xpl h 91 0) = s0 → (Q (xI 0) h)))) ∧ (¬ x6 = 0 → (xwp G (m_W_law nm9 hq9) (d + 220) 2018 [xR (-108), xR 0, xR 53, xR 91, xR 92, xI x5, xZ, xZ, xZ] [] h Q X)))) ∧ (¬ (xpl h 53 0) = x6 → (Q (xI 0) h)))) : xwp G (m_W_law nm9 hq9) (d + 220) 792 [xR (-108), xR 0, xR 53, xR 91, xR 92, xI x5, xI x6, xZ, xZ] [xI s0] h Q X := by
  have hnx9 : (93 : Int) ≤ xnx h := F.2.2
  refine xr_okL (fun hl9 => ?_)
  have r_x5 : -2147483648 ≤ x5 ∧ x5 ≤ 2147483647 := hl9 (xI x5) (.tail _ (.tail _ (.tail _ (.tail _ (.tail _ (.head _)))))) (Nat.le_of_ble_eq_true rfl)
  have r_x6 : -2147483648 ≤ x6 ∧ x6 ≤ 2147483647 := hl9 (xI x6) (.tail _ (.tail _ (.tail _ (.tail _ (.tail _ (.tail _ (.head _))))))) (Nat.le_of_ble_eq_true rfl)
  refine xr_okS (fun hs9 => ?_)
  have r_s0 : -2147483648 ≤ s0 ∧ s0 ≤ 2147483647 := hs9 (xI s0) (.head _)
  refine xr_istore (pc := 792) (i := 7) (L9 := [xR (-108), xR 0, xR 53, xR 91, xR 92, xI x5, xI x6, xI s0, xZ]) (hI := d_W_law_792) (hn := Nat.le_of_ble_eq_true rfl) (hL9 := rfl) ?_
  refine xr_aload_n (pc := 794) (i := 2) (hI := d_W_law_794) (hi := rfl) (hl := rfl) ?_
  refine xl_callV (pc := 795) (index := 114) (K := m_M_thrown) (As := []) (S := []) (L0 := [xR 53]) (hI := d_W_law_795) (hK := k_M_thrown) (hlk := w_1702) (hS8 := Nat.le_of_ble_eq_true rfl) (ci := 11) (N := 38) (C := "BeaconIndexModel") (T := xF11) (hc := rfl) (hci := Nat.le_of_ble_eq_true rfl) (htb := (ft_53 F)) (hinst := w_1703) (hsel := w_1704) (hlen := Nat.le_of_ble_eq_true rfl) (hst := rfl) (hL0 := rfl)  ?_
  refine xr_aload_n (pc := 0) (i := 0) (hI := d_M_thrown_0) (hi := rfl) (hl := rfl) ?_
  refine xg_getf (pc := 1) (ci := 11) (k := 0) (N := 38) (v9 := 0) (v := (xpl h 53 0)) (T := xF11) (hI := d_M_thrown_1) (hw := w_1587) rfl xi11 (Or.inl rfl) (Nat.le_of_ble_eq_true rfl) (Nat.le_of_ble_eq_true rfl) rfl (ft_53 F) rfl (fun f1_ => ?_)
  replace f1_ : -2147483648 ≤ (xpl h 53 0) ∧ (xpl h 53 0) ≤ 2147483647 := f1_
  refine xr_ireturn (S := []) (pc := 4) (hI := d_M_thrown_4) (hr := rfl) ?_
  show xwp G (m_W_law nm9 hq9) (d + 220) 798 [xR (-108), xR 0, xR 53, xR 91, xR 92, xI x5, xI x6, xI s0, xZ] [xI (xpl h 53 0)] _ _ _
  refine xr_iload (pc := 798) (i := 6) (hI := d_W_law_798) (hl := rfl) ?_
  refine xr_icmp_eq (pc := 800) (tgt := 805) (hI := d_W_law_800) (ht := by decide) (fun q9 => ?_) (fun q9 => ?_)
  · replace hyp := hyp.1 q9
    have q2_ := q9
    clear q9
    refine xr_iload (pc := 805) (i := 6) (hI := d_W_law_805) (hl := rfl) ?_
    refine xr_if_ne (pc := 807) (tgt := 822) (hI := d_W_law_807) (ht := by decide) (fun q9 => ?_) (fun q9 => ?_)
    · replace hyp := hyp.2 q9
      have q3_ := q9
      clear q9
      refine xr_goto (pc := 822) (tgt := 2018) (hI := d_W_law_822) (ht := by decide) ?_
      exact xr_drop (L9 := [xR (-108), xR 0, xR 53, xR 91, xR 92, xI x5, xZ, xZ, xZ]) (xdrs (xdrs (xdrs (xdrs (xdrs (xdrs (xdrz (xdrz (xdrs xdr0))))))))) hyp
    · replace hyp := hyp.1 q9
      have q3_ := q9
      clear q9
      refine xr_aload_n (pc := 810) (i := 3) (hI := d_W_law_810) (hi := rfl) (hl := rfl) ?_
      refine xr_iconst (pc := 811) (hI := d_W_law_811) (hr := by decide) ?_
      refine xg_laload (pc := 812) (v := (xpl h 91 0)) (hI := d_W_law_812) (ft_91 F) (by decide) (xlt_of (fl_91 F) (by decide)) rfl (fun f4_ => ?_)
      replace f4_ : -9223372036854775808 ≤ (xpl h 91 0) ∧ (xpl h 91 0) ≤ 9223372036854775807 := f4_
      refine xr_iload (pc := 813) (i := 7) (hI := d_W_law_813) (hl := rfl) ?_
      refine xr_i2l (pc := 815) (hI := d_W_law_815) ?_
      refine xr_lcmp (pc := 816) (hI := d_W_law_816) ?_
      refine xg_lif_eq (pc := 817) (tgt := 822) (hI := d_W_law_817) (ht := by decide) (fun q9 => ?_) (fun q9 => ?_)
      · replace hyp := hyp.1 q9
        have q5_ := q9
        clear q9
        refine xr_goto (pc := 822) (tgt := 2018) (hI := d_W_law_822) (ht := by decide) ?_
        exact xr_drop (L9 := [xR (-108), xR 0, xR 53, xR 91, xR 92, xI x5, xZ, xZ, xZ]) (xdrs (xdrs (xdrs (xdrs (xdrs (xdrs (xdrz (xdrz (xdrs xdr0))))))))) hyp
      · replace hyp := hyp.2 q9
        have q5_ := q9
        clear q9
        refine xr_iconst (pc := 820) (hI := d_W_law_820) (hr := by decide) ?_
        refine xr_ireturnT (S := []) (pc := 821) (hI := d_W_law_821) (hr := rfl) (xnar_z (by decide)) ?_
        exact hyp
  · replace hyp := hyp.2 q9
    have q2_ := q9
    clear q9
    refine xr_iconst (pc := 803) (hI := d_W_law_803) (hr := by decide) ?_
    refine xr_ireturnT (S := []) (pc := 804) (hI := d_W_law_804) (hr := rfl) (xnar_z (by decide)) ?_
    exact hyp
theorem d_W_law_825 : decode code 825 = .ok (.aload_n 1, 1) := by decide +kernel
theorem d_W_law_826 : decode code 826 = .ok (.aload_n 0, 1) := by decide +kernel
theorem d_W_law_827 : decode code 827 = .ok (.iload 5, 2) := by decide +kernel
theorem d_W_law_829 : decode code 829 = .ok (.iconst 1, 1) := by decide +kernel
theorem d_W_law_830 : decode code 830 = .ok (.iadd, 1) := by decide +kernel
theorem d_W_law_831 : decode code 831 = .ok (.iaload, 1) := by decide +kernel
theorem d_W_law_832 : decode code 832 = .ok (.aload_n 0, 1) := by decide +kernel
theorem d_W_law_833 : decode code 833 = .ok (.iload 5, 2) := by decide +kernel
theorem d_W_law_835 : decode code 835 = .ok (.iconst 2, 1) := by decide +kernel
theorem d_W_law_836 : decode code 836 = .ok (.iadd, 1) := by decide +kernel
theorem d_W_law_837 : decode code 837 = .ok (.iaload, 1) := by decide +kernel
theorem d_W_law_838 : decode code 838 = .ok (.aload_n 3, 1) := by decide +kernel
theorem d_W_law_839 : decode code 839 = .ok (.invokestatic 165, 3) := by decide +kernel
theorem k_W_keyAt : xCalH m_W_keyAt 4 := ⟨List.mem_append_right _ (List.mem_of_getElem? (i := 1423) (by decide +kernel)), w_0, Nat.le_of_ble_eq_true rfl, ⟨by decide +kernel, by decide +kernel⟩, by decide +kernel, by decide +kernel⟩
theorem w_1421 : Cond.methodLink "BeaconIndexLaw" 165 ⟨"BeaconIndexLaw", "keyAt", "(LBeaconIndex;II[J)I"⟩ ∈ lw_tbl := List.mem_append_right _ (List.mem_of_getElem? (i := 1421) (by decide +kernel))
theorem w_1422 : Cond.static ⟨"BeaconIndexLaw", "keyAt", "(LBeaconIndex;II[J)I"⟩ ∈ lw_tbl := List.mem_append_right _ (List.mem_of_getElem? (i := 1422) (by decide +kernel))
theorem v_W_law_825 {G : XG} {d : Nat} {h : XH} {Q : XV → XH → Prop} {X : Nat → XH → Prop} {x5 : Int} {n9 : Nat} {xs : Nat → Int32} {nm9 : String} {hq9 : List (Nat × Nat × Nat × Nat)} (SC : SCR G n9 xs) (F : xFix h) (hyp : xiR (x5 + 1) ∧ 0 ≤ (x5 + 1) ∧ (x5 + 1) < (n9 : Int) ∧ xiR (x5 + 2) ∧ 0 ≤ (x5 + 2) ∧ (x5 + 2) < (n9 : Int) ∧ (xwp G m_W_keyAt (d + 219) 0 [xR 0, xI (scV xs (x5 + 1)), xI (scV xs (x5 + 2)), xR 91, xZ] [] h (fun v9 h9 => xwp G (m_W_law nm9 hq9) (d + 220) 842 [xR (-108), xR 0, xR 53, xR 91, xR 92, xI x5, xZ, xZ, xZ] (xpush v9 []) h9 Q X) (fun _ _ => False))) : xwp G (m_W_law nm9 hq9) (d + 220) 825 [xR (-108), xR 0, xR 53, xR 91, xR 92, xI x5, xZ, xZ, xZ] [] h Q X := by
  have hnx9 : (93 : Int) ≤ xnx h := F.2.2
  refine xr_okL (fun hl9 => ?_)
  have r_x5 : -2147483648 ≤ x5 ∧ x5 ≤ 2147483647 := hl9 (xI x5) (.tail _ (.tail _ (.tail _ (.tail _ (.tail _ (.head _)))))) (Nat.le_of_ble_eq_true rfl)
  refine xr_aload_n (pc := 825) (i := 1) (hI := d_W_law_825) (hi := rfl) (hl := rfl) ?_
  refine xr_aload_n (pc := 826) (i := 0) (hI := d_W_law_826) (hi := rfl) (hl := rfl) ?_
  refine xr_iload (pc := 827) (i := 5) (hI := d_W_law_827) (hl := rfl) ?_
  refine xr_iconst (pc := 829) (hI := d_W_law_829) (hr := by decide) ?_
  obtain ⟨c9, hyp⟩ := hyp
  refine xr_iadd (pc := 830) (hI := d_W_law_830) (hr := c9) ?_
  obtain ⟨c8, c9, hyp⟩ := hyp
  refine xr_scd (pc := 831) SC (hI := d_W_law_831) c8 c9 ?_
  have f1_ : -2147483648 ≤ (scV xs (x5 + 1)) ∧ (scV xs (x5 + 1)) ≤ 2147483647 := xi_toR _
  refine xr_aload_n (pc := 832) (i := 0) (hI := d_W_law_832) (hi := rfl) (hl := rfl) ?_
  refine xr_iload (pc := 833) (i := 5) (hI := d_W_law_833) (hl := rfl) ?_
  refine xr_iconst (pc := 835) (hI := d_W_law_835) (hr := by decide) ?_
  obtain ⟨c9, hyp⟩ := hyp
  refine xr_iadd (pc := 836) (hI := d_W_law_836) (hr := c9) ?_
  obtain ⟨c8, c9, hyp⟩ := hyp
  refine xr_scd (pc := 837) SC (hI := d_W_law_837) c8 c9 ?_
  have f2_ : -2147483648 ≤ (scV xs (x5 + 2)) ∧ (scV xs (x5 + 2)) ≤ 2147483647 := xi_toR _
  refine xr_aload_n (pc := 838) (i := 3) (hI := d_W_law_838) (hi := rfl) (hl := rfl) ?_
  exact xl_callSW (pc := 839) (index := 165) (K := m_W_keyAt) (As := [xR 0, xI (scV xs (x5 + 1)), xI (scV xs (x5 + 2)), xR 91]) (S := []) (L0 := [xR 0, xI (scV xs (x5 + 1)), xI (scV xs (x5 + 2)), xR 91, xZ]) (hI := d_W_law_839) (hK := k_W_keyAt) (hlk := w_1421) (hS8 := Nat.le_of_ble_eq_true rfl) (hstat := w_1422) (hlen := Nat.le_of_ble_eq_true rfl) (hst := rfl) (hL0 := rfl)  hyp
theorem d_W_law_842 : decode code 842 = .ok (.istore 6, 2) := by decide +kernel
theorem d_W_law_844 : decode code 844 = .ok (.aload_n 2, 1) := by decide +kernel
theorem d_W_law_845 : decode code 845 = .ok (.aload_n 0, 1) := by decide +kernel
theorem d_W_law_846 : decode code 846 = .ok (.iload 5, 2) := by decide +kernel
theorem d_W_law_848 : decode code 848 = .ok (.iconst 1, 1) := by decide +kernel
theorem d_W_law_849 : decode code 849 = .ok (.iadd, 1) := by decide +kernel
theorem d_W_law_850 : decode code 850 = .ok (.iaload, 1) := by decide +kernel
theorem d_W_law_851 : decode code 851 = .ok (.aload_n 0, 1) := by decide +kernel
theorem d_W_law_852 : decode code 852 = .ok (.iload 5, 2) := by decide +kernel
theorem d_W_law_854 : decode code 854 = .ok (.iconst 2, 1) := by decide +kernel
theorem d_W_law_855 : decode code 855 = .ok (.iadd, 1) := by decide +kernel
theorem d_W_law_856 : decode code 856 = .ok (.iaload, 1) := by decide +kernel
theorem d_W_law_857 : decode code 857 = .ok (.invokevirtual 167, 3) := by decide +kernel
theorem k_M_keyAt : xCal m_M_keyAt 2 := ⟨List.mem_append_right _ (List.mem_of_getElem? (i := 2174) (by decide +kernel)), w_15, Nat.le_of_ble_eq_true rfl, ⟨by decide +kernel, by decide +kernel⟩, by decide +kernel, by decide +kernel, rfl⟩
theorem w_2171 : Cond.methodLink "BeaconIndexLaw" 167 ⟨"BeaconIndexModel", "keyAt", "(II)I"⟩ ∈ lw_tbl := List.mem_append_right _ (List.mem_of_getElem? (i := 2171) (by decide +kernel))
theorem w_2172 : Cond.instanceMethod ⟨"BeaconIndexModel", "keyAt", "(II)I"⟩ ∈ lw_tbl := List.mem_append_right _ (List.mem_of_getElem? (i := 2172) (by decide +kernel))
theorem w_2173 : Cond.selects "BeaconIndexModel" ⟨"BeaconIndexModel", "keyAt", "(II)I"⟩ ⟨"BeaconIndexModel", "keyAt", "(II)I"⟩ ∈ lw_tbl := List.mem_append_right _ (List.mem_of_getElem? (i := 2173) (by decide +kernel))
theorem v_W_law_842 {G : XG} {d : Nat} {h : XH} {Q : XV → XH → Prop} {X : Nat → XH → Prop} {x5 s0 : Int} {n9 : Nat} {xs : Nat → Int32} {nm9 : String} {hq9 : List (Nat × Nat × Nat × Nat)} (SC : SCR G n9 xs) (F : xFix h) (hyp : xiR (x5 + 1) ∧ 0 ≤ (x5 + 1) ∧ (x5 + 1) < (n9 : Int) ∧ xiR (x5 + 2) ∧ 0 ≤ (x5 + 2) ∧ (x5 + 2) < (n9 : Int) ∧ (xwp G m_M_keyAt (d + 219) 0 [xR 53, xI (scV xs (x5 + 1)), xI (scV xs (x5 + 2))] [] h (fun v9 h9 => xwp G (m_W_law nm9 hq9) (d + 220) 860 [xR (-108), xR 0, xR 53, xR 91, xR 92, xI x5, xI s0, xZ, xZ] (xpush v9 []) h9 Q X) (fun _ _ => False))) : xwp G (m_W_law nm9 hq9) (d + 220) 842 [xR (-108), xR 0, xR 53, xR 91, xR 92, xI x5, xZ, xZ, xZ] [xI s0] h Q X := by
  have hnx9 : (93 : Int) ≤ xnx h := F.2.2
  refine xr_okL (fun hl9 => ?_)
  have r_x5 : -2147483648 ≤ x5 ∧ x5 ≤ 2147483647 := hl9 (xI x5) (.tail _ (.tail _ (.tail _ (.tail _ (.tail _ (.head _)))))) (Nat.le_of_ble_eq_true rfl)
  refine xr_okS (fun hs9 => ?_)
  have r_s0 : -2147483648 ≤ s0 ∧ s0 ≤ 2147483647 := hs9 (xI s0) (.head _)
  refine xr_istore (pc := 842) (i := 6) (L9 := [xR (-108), xR 0, xR 53, xR 91, xR 92, xI x5, xI s0, xZ, xZ]) (hI := d_W_law_842) (hn := Nat.le_of_ble_eq_true rfl) (hL9 := rfl) ?_
  refine xr_aload_n (pc := 844) (i := 2) (hI := d_W_law_844) (hi := rfl) (hl := rfl) ?_
  refine xr_aload_n (pc := 845) (i := 0) (hI := d_W_law_845) (hi := rfl) (hl := rfl) ?_
  refine xr_iload (pc := 846) (i := 5) (hI := d_W_law_846) (hl := rfl) ?_
  refine xr_iconst (pc := 848) (hI := d_W_law_848) (hr := by decide) ?_
  obtain ⟨c9, hyp⟩ := hyp
  refine xr_iadd (pc := 849) (hI := d_W_law_849) (hr := c9) ?_
  obtain ⟨c8, c9, hyp⟩ := hyp
  refine xr_scd (pc := 850) SC (hI := d_W_law_850) c8 c9 ?_
  have f1_ : -2147483648 ≤ (scV xs (x5 + 1)) ∧ (scV xs (x5 + 1)) ≤ 2147483647 := xi_toR _
  refine xr_aload_n (pc := 851) (i := 0) (hI := d_W_law_851) (hi := rfl) (hl := rfl) ?_
  refine xr_iload (pc := 852) (i := 5) (hI := d_W_law_852) (hl := rfl) ?_
  refine xr_iconst (pc := 854) (hI := d_W_law_854) (hr := by decide) ?_
  obtain ⟨c9, hyp⟩ := hyp
  refine xr_iadd (pc := 855) (hI := d_W_law_855) (hr := c9) ?_
  obtain ⟨c8, c9, hyp⟩ := hyp
  refine xr_scd (pc := 856) SC (hI := d_W_law_856) c8 c9 ?_
  have f2_ : -2147483648 ≤ (scV xs (x5 + 2)) ∧ (scV xs (x5 + 2)) ≤ 2147483647 := xi_toR _
  exact xl_callV (pc := 857) (index := 167) (K := m_M_keyAt) (As := [xI (scV xs (x5 + 1)), xI (scV xs (x5 + 2))]) (S := []) (L0 := [xR 53, xI (scV xs (x5 + 1)), xI (scV xs (x5 + 2))]) (hI := d_W_law_857) (hK := k_M_keyAt) (hlk := w_2171) (hS8 := Nat.le_of_ble_eq_true rfl) (ci := 11) (N := 38) (C := "BeaconIndexModel") (T := xF11) (hc := rfl) (hci := Nat.le_of_ble_eq_true rfl) (htb := (ft_53 F)) (hinst := w_2172) (hsel := w_2173) (hlen := Nat.le_of_ble_eq_true rfl) (hst := rfl) (hL0 := rfl)  hyp
theorem d_W_law_860 : decode code 860 = .ok (.istore 7, 2) := by decide +kernel
theorem d_W_law_862 : decode code 862 = .ok (.aload_n 2, 1) := by decide +kernel
theorem d_W_law_863 : decode code 863 = .ok (.invokevirtual 114, 3) := by decide +kernel
theorem d_W_law_866 : decode code 866 = .ok (.iload 6, 2) := by decide +kernel
theorem d_W_law_868 : decode code 868 = .ok (.if_icmp .eq 5, 3) := by decide +kernel
theorem d_W_law_873 : decode code 873 = .ok (.iload 6, 2) := by decide +kernel
theorem d_W_law_875 : decode code 875 = .ok (.ifCond .ne 15, 3) := by decide +kernel
theorem d_W_law_890 : decode code 890 = .ok (.goto 1128, 3) := by decide +kernel
theorem d_W_law_878 : decode code 878 = .ok (.aload_n 3, 1) := by decide +kernel
theorem d_W_law_879 : decode code 879 = .ok (.iconst 0, 1) := by decide +kernel
theorem d_W_law_880 : decode code 880 = .ok (.laload, 1) := by decide +kernel
theorem d_W_law_881 : decode code 881 = .ok (.iload 7, 2) := by decide +kernel
theorem d_W_law_883 : decode code 883 = .ok (.i2l, 1) := by decide +kernel
theorem d_W_law_884 : decode code 884 = .ok (.lcmp, 1) := by decide +kernel
theorem d_W_law_885 : decode code 885 = .ok (.ifCond .eq 5, 3) := by decide +kernel
theorem d_W_law_888 : decode code 888 = .ok (.iconst 0, 1) := by decide +kernel
theorem d_W_law_889 : decode code 889 = .ok (.ireturn, 1) := by decide +kernel
theorem d_W_law_871 : decode code 871 = .ok (.iconst 0, 1) := by decide +kernel
theorem d_W_law_872 : decode code 872 = .ok (.ireturn, 1) := by decide +kernel
theorem v_W_law_860 {G : XG} {d : Nat} {h : XH} {Q : XV → XH → Prop} {X : Nat → XH → Prop} {x5 x6 s0 : Int} {n9 : Nat} {xs : Nat → Int32} {nm9 : String} {hq9 : List (Nat × Nat × Nat × Nat)} (SC : SCR G n9 xs) (F : xFix h) (hyp : (((xpl h 53 0) = x6 → ((x6 = 0 → (((xpl h 91 0) = s0 → (xwp G (m_W_law nm9 hq9) (d + 220) 2018 [xR (-108), xR 0, xR 53, xR 91, xR 92, xI x5, xZ, xZ, xZ] [] h Q X)) ∧ (¬ (xpl h 91 0) = s0 → (Q (xI 0) h)))) ∧ (¬ x6 = 0 → (xwp G (m_W_law nm9 hq9) (d + 220) 2018 [xR (-108), xR 0, xR 53, xR 91, xR 92, xI x5, xZ, xZ, xZ] [] h Q X)))) ∧ (¬ (xpl h 53 0) = x6 → (Q (xI 0) h)))) : xwp G (m_W_law nm9 hq9) (d + 220) 860 [xR (-108), xR 0, xR 53, xR 91, xR 92, xI x5, xI x6, xZ, xZ] [xI s0] h Q X := by
  have hnx9 : (93 : Int) ≤ xnx h := F.2.2
  refine xr_okL (fun hl9 => ?_)
  have r_x5 : -2147483648 ≤ x5 ∧ x5 ≤ 2147483647 := hl9 (xI x5) (.tail _ (.tail _ (.tail _ (.tail _ (.tail _ (.head _)))))) (Nat.le_of_ble_eq_true rfl)
  have r_x6 : -2147483648 ≤ x6 ∧ x6 ≤ 2147483647 := hl9 (xI x6) (.tail _ (.tail _ (.tail _ (.tail _ (.tail _ (.tail _ (.head _))))))) (Nat.le_of_ble_eq_true rfl)
  refine xr_okS (fun hs9 => ?_)
  have r_s0 : -2147483648 ≤ s0 ∧ s0 ≤ 2147483647 := hs9 (xI s0) (.head _)
  refine xr_istore (pc := 860) (i := 7) (L9 := [xR (-108), xR 0, xR 53, xR 91, xR 92, xI x5, xI x6, xI s0, xZ]) (hI := d_W_law_860) (hn := Nat.le_of_ble_eq_true rfl) (hL9 := rfl) ?_
  refine xr_aload_n (pc := 862) (i := 2) (hI := d_W_law_862) (hi := rfl) (hl := rfl) ?_
  refine xl_callV (pc := 863) (index := 114) (K := m_M_thrown) (As := []) (S := []) (L0 := [xR 53]) (hI := d_W_law_863) (hK := k_M_thrown) (hlk := w_1702) (hS8 := Nat.le_of_ble_eq_true rfl) (ci := 11) (N := 38) (C := "BeaconIndexModel") (T := xF11) (hc := rfl) (hci := Nat.le_of_ble_eq_true rfl) (htb := (ft_53 F)) (hinst := w_1703) (hsel := w_1704) (hlen := Nat.le_of_ble_eq_true rfl) (hst := rfl) (hL0 := rfl)  ?_
  refine xr_aload_n (pc := 0) (i := 0) (hI := d_M_thrown_0) (hi := rfl) (hl := rfl) ?_
  refine xg_getf (pc := 1) (ci := 11) (k := 0) (N := 38) (v9 := 0) (v := (xpl h 53 0)) (T := xF11) (hI := d_M_thrown_1) (hw := w_1587) rfl xi11 (Or.inl rfl) (Nat.le_of_ble_eq_true rfl) (Nat.le_of_ble_eq_true rfl) rfl (ft_53 F) rfl (fun f1_ => ?_)
  replace f1_ : -2147483648 ≤ (xpl h 53 0) ∧ (xpl h 53 0) ≤ 2147483647 := f1_
  refine xr_ireturn (S := []) (pc := 4) (hI := d_M_thrown_4) (hr := rfl) ?_
  show xwp G (m_W_law nm9 hq9) (d + 220) 866 [xR (-108), xR 0, xR 53, xR 91, xR 92, xI x5, xI x6, xI s0, xZ] [xI (xpl h 53 0)] _ _ _
  refine xr_iload (pc := 866) (i := 6) (hI := d_W_law_866) (hl := rfl) ?_
  refine xr_icmp_eq (pc := 868) (tgt := 873) (hI := d_W_law_868) (ht := by decide) (fun q9 => ?_) (fun q9 => ?_)
  · replace hyp := hyp.1 q9
    have q2_ := q9
    clear q9
    refine xr_iload (pc := 873) (i := 6) (hI := d_W_law_873) (hl := rfl) ?_
    refine xr_if_ne (pc := 875) (tgt := 890) (hI := d_W_law_875) (ht := by decide) (fun q9 => ?_) (fun q9 => ?_)
    · replace hyp := hyp.2 q9
      have q3_ := q9
      clear q9
      refine xr_goto (pc := 890) (tgt := 2018) (hI := d_W_law_890) (ht := by decide) ?_
      exact xr_drop (L9 := [xR (-108), xR 0, xR 53, xR 91, xR 92, xI x5, xZ, xZ, xZ]) (xdrs (xdrs (xdrs (xdrs (xdrs (xdrs (xdrz (xdrz (xdrs xdr0))))))))) hyp
    · replace hyp := hyp.1 q9
      have q3_ := q9
      clear q9
      refine xr_aload_n (pc := 878) (i := 3) (hI := d_W_law_878) (hi := rfl) (hl := rfl) ?_
      refine xr_iconst (pc := 879) (hI := d_W_law_879) (hr := by decide) ?_
      refine xg_laload (pc := 880) (v := (xpl h 91 0)) (hI := d_W_law_880) (ft_91 F) (by decide) (xlt_of (fl_91 F) (by decide)) rfl (fun f4_ => ?_)
      replace f4_ : -9223372036854775808 ≤ (xpl h 91 0) ∧ (xpl h 91 0) ≤ 9223372036854775807 := f4_
      refine xr_iload (pc := 881) (i := 7) (hI := d_W_law_881) (hl := rfl) ?_
      refine xr_i2l (pc := 883) (hI := d_W_law_883) ?_
      refine xr_lcmp (pc := 884) (hI := d_W_law_884) ?_
      refine xg_lif_eq (pc := 885) (tgt := 890) (hI := d_W_law_885) (ht := by decide) (fun q9 => ?_) (fun q9 => ?_)
      · replace hyp := hyp.1 q9
        have q5_ := q9
        clear q9
        refine xr_goto (pc := 890) (tgt := 2018) (hI := d_W_law_890) (ht := by decide) ?_
        exact xr_drop (L9 := [xR (-108), xR 0, xR 53, xR 91, xR 92, xI x5, xZ, xZ, xZ]) (xdrs (xdrs (xdrs (xdrs (xdrs (xdrs (xdrz (xdrz (xdrs xdr0))))))))) hyp
      · replace hyp := hyp.2 q9
        have q5_ := q9
        clear q9
        refine xr_iconst (pc := 888) (hI := d_W_law_888) (hr := by decide) ?_
        refine xr_ireturnT (S := []) (pc := 889) (hI := d_W_law_889) (hr := rfl) (xnar_z (by decide)) ?_
        exact hyp
  · replace hyp := hyp.2 q9
    have q2_ := q9
    clear q9
    refine xr_iconst (pc := 871) (hI := d_W_law_871) (hr := by decide) ?_
    refine xr_ireturnT (S := []) (pc := 872) (hI := d_W_law_872) (hr := rfl) (xnar_z (by decide)) ?_
    exact hyp
theorem d_W_law_893 : decode code 893 = .ok (.aload_n 1, 1) := by decide +kernel
theorem d_W_law_894 : decode code 894 = .ok (.aload_n 0, 1) := by decide +kernel
theorem d_W_law_895 : decode code 895 = .ok (.iload 5, 2) := by decide +kernel
theorem d_W_law_897 : decode code 897 = .ok (.iconst 1, 1) := by decide +kernel
theorem d_W_law_898 : decode code 898 = .ok (.iadd, 1) := by decide +kernel
theorem d_W_law_899 : decode code 899 = .ok (.iaload, 1) := by decide +kernel
theorem d_W_law_900 : decode code 900 = .ok (.aload_n 0, 1) := by decide +kernel
theorem d_W_law_901 : decode code 901 = .ok (.iload 5, 2) := by decide +kernel
theorem d_W_law_903 : decode code 903 = .ok (.iconst 2, 1) := by decide +kernel
theorem d_W_law_904 : decode code 904 = .ok (.iadd, 1) := by decide +kernel
theorem d_W_law_905 : decode code 905 = .ok (.iaload, 1) := by decide +kernel
theorem d_W_law_906 : decode code 906 = .ok (.aload_n 3, 1) := by decide +kernel
theorem d_W_law_907 : decode code 907 = .ok (.invokestatic 168, 3) := by decide +kernel
theorem k_W_isMarked : xCalH m_W_isMarked 4 := ⟨List.mem_append_right _ (List.mem_of_getElem? (i := 1427) (by decide +kernel)), w_0, Nat.le_of_ble_eq_true rfl, ⟨by decide +kernel, by decide +kernel⟩, by decide +kernel, by decide +kernel⟩
theorem w_1425 : Cond.methodLink "BeaconIndexLaw" 168 ⟨"BeaconIndexLaw", "isMarked", "(LBeaconIndex;II[J)I"⟩ ∈ lw_tbl := List.mem_append_right _ (List.mem_of_getElem? (i := 1425) (by decide +kernel))
theorem w_1426 : Cond.static ⟨"BeaconIndexLaw", "isMarked", "(LBeaconIndex;II[J)I"⟩ ∈ lw_tbl := List.mem_append_right _ (List.mem_of_getElem? (i := 1426) (by decide +kernel))
theorem v_W_law_893 {G : XG} {d : Nat} {h : XH} {Q : XV → XH → Prop} {X : Nat → XH → Prop} {x5 : Int} {n9 : Nat} {xs : Nat → Int32} {nm9 : String} {hq9 : List (Nat × Nat × Nat × Nat)} (SC : SCR G n9 xs) (F : xFix h) (hyp : xiR (x5 + 1) ∧ 0 ≤ (x5 + 1) ∧ (x5 + 1) < (n9 : Int) ∧ xiR (x5 + 2) ∧ 0 ≤ (x5 + 2) ∧ (x5 + 2) < (n9 : Int) ∧ (xwp G m_W_isMarked (d + 219) 0 [xR 0, xI (scV xs (x5 + 1)), xI (scV xs (x5 + 2)), xR 91, xZ] [] h (fun v9 h9 => xwp G (m_W_law nm9 hq9) (d + 220) 910 [xR (-108), xR 0, xR 53, xR 91, xR 92, xI x5, xZ, xZ, xZ] (xpush v9 []) h9 Q X) (fun _ _ => False))) : xwp G (m_W_law nm9 hq9) (d + 220) 893 [xR (-108), xR 0, xR 53, xR 91, xR 92, xI x5, xZ, xZ, xZ] [] h Q X := by
  have hnx9 : (93 : Int) ≤ xnx h := F.2.2
  refine xr_okL (fun hl9 => ?_)
  have r_x5 : -2147483648 ≤ x5 ∧ x5 ≤ 2147483647 := hl9 (xI x5) (.tail _ (.tail _ (.tail _ (.tail _ (.tail _ (.head _)))))) (Nat.le_of_ble_eq_true rfl)
  refine xr_aload_n (pc := 893) (i := 1) (hI := d_W_law_893) (hi := rfl) (hl := rfl) ?_
  refine xr_aload_n (pc := 894) (i := 0) (hI := d_W_law_894) (hi := rfl) (hl := rfl) ?_
  refine xr_iload (pc := 895) (i := 5) (hI := d_W_law_895) (hl := rfl) ?_
  refine xr_iconst (pc := 897) (hI := d_W_law_897) (hr := by decide) ?_
  obtain ⟨c9, hyp⟩ := hyp
  refine xr_iadd (pc := 898) (hI := d_W_law_898) (hr := c9) ?_
  obtain ⟨c8, c9, hyp⟩ := hyp
  refine xr_scd (pc := 899) SC (hI := d_W_law_899) c8 c9 ?_
  have f1_ : -2147483648 ≤ (scV xs (x5 + 1)) ∧ (scV xs (x5 + 1)) ≤ 2147483647 := xi_toR _
  refine xr_aload_n (pc := 900) (i := 0) (hI := d_W_law_900) (hi := rfl) (hl := rfl) ?_
  refine xr_iload (pc := 901) (i := 5) (hI := d_W_law_901) (hl := rfl) ?_
  refine xr_iconst (pc := 903) (hI := d_W_law_903) (hr := by decide) ?_
  obtain ⟨c9, hyp⟩ := hyp
  refine xr_iadd (pc := 904) (hI := d_W_law_904) (hr := c9) ?_
  obtain ⟨c8, c9, hyp⟩ := hyp
  refine xr_scd (pc := 905) SC (hI := d_W_law_905) c8 c9 ?_
  have f2_ : -2147483648 ≤ (scV xs (x5 + 2)) ∧ (scV xs (x5 + 2)) ≤ 2147483647 := xi_toR _
  refine xr_aload_n (pc := 906) (i := 3) (hI := d_W_law_906) (hi := rfl) (hl := rfl) ?_
  exact xl_callSW (pc := 907) (index := 168) (K := m_W_isMarked) (As := [xR 0, xI (scV xs (x5 + 1)), xI (scV xs (x5 + 2)), xR 91]) (S := []) (L0 := [xR 0, xI (scV xs (x5 + 1)), xI (scV xs (x5 + 2)), xR 91, xZ]) (hI := d_W_law_907) (hK := k_W_isMarked) (hlk := w_1425) (hS8 := Nat.le_of_ble_eq_true rfl) (hstat := w_1426) (hlen := Nat.le_of_ble_eq_true rfl) (hst := rfl) (hL0 := rfl)  hyp
theorem d_W_law_910 : decode code 910 = .ok (.istore 6, 2) := by decide +kernel
theorem d_W_law_912 : decode code 912 = .ok (.aload_n 2, 1) := by decide +kernel
theorem d_W_law_913 : decode code 913 = .ok (.aload_n 0, 1) := by decide +kernel
theorem d_W_law_914 : decode code 914 = .ok (.iload 5, 2) := by decide +kernel
theorem d_W_law_916 : decode code 916 = .ok (.iconst 1, 1) := by decide +kernel
theorem d_W_law_917 : decode code 917 = .ok (.iadd, 1) := by decide +kernel
theorem d_W_law_918 : decode code 918 = .ok (.iaload, 1) := by decide +kernel
theorem d_W_law_919 : decode code 919 = .ok (.aload_n 0, 1) := by decide +kernel
theorem d_W_law_920 : decode code 920 = .ok (.iload 5, 2) := by decide +kernel
theorem d_W_law_922 : decode code 922 = .ok (.iconst 2, 1) := by decide +kernel
theorem d_W_law_923 : decode code 923 = .ok (.iadd, 1) := by decide +kernel
theorem d_W_law_924 : decode code 924 = .ok (.iaload, 1) := by decide +kernel
theorem d_W_law_925 : decode code 925 = .ok (.invokevirtual 170, 3) := by decide +kernel
theorem k_M_isMarked : xCal m_M_isMarked 2 := ⟨List.mem_append_right _ (List.mem_of_getElem? (i := 2186) (by decide +kernel)), w_15, Nat.le_of_ble_eq_true rfl, ⟨by decide +kernel, by decide +kernel⟩, by decide +kernel, by decide +kernel, rfl⟩
theorem w_2183 : Cond.methodLink "BeaconIndexLaw" 170 ⟨"BeaconIndexModel", "isMarked", "(II)Z"⟩ ∈ lw_tbl := List.mem_append_right _ (List.mem_of_getElem? (i := 2183) (by decide +kernel))
theorem w_2184 : Cond.instanceMethod ⟨"BeaconIndexModel", "isMarked", "(II)Z"⟩ ∈ lw_tbl := List.mem_append_right _ (List.mem_of_getElem? (i := 2184) (by decide +kernel))
theorem w_2185 : Cond.selects "BeaconIndexModel" ⟨"BeaconIndexModel", "isMarked", "(II)Z"⟩ ⟨"BeaconIndexModel", "isMarked", "(II)Z"⟩ ∈ lw_tbl := List.mem_append_right _ (List.mem_of_getElem? (i := 2185) (by decide +kernel))
theorem v_W_law_910 {G : XG} {d : Nat} {h : XH} {Q : XV → XH → Prop} {X : Nat → XH → Prop} {x5 s0 : Int} {n9 : Nat} {xs : Nat → Int32} {nm9 : String} {hq9 : List (Nat × Nat × Nat × Nat)} (SC : SCR G n9 xs) (F : xFix h) (hyp : xiR (x5 + 1) ∧ 0 ≤ (x5 + 1) ∧ (x5 + 1) < (n9 : Int) ∧ xiR (x5 + 2) ∧ 0 ≤ (x5 + 2) ∧ (x5 + 2) < (n9 : Int) ∧ (xwp G m_M_isMarked (d + 219) 0 [xR 53, xI (scV xs (x5 + 1)), xI (scV xs (x5 + 2))] [] h (fun v9 h9 => xwp G (m_W_law nm9 hq9) (d + 220) 928 [xR (-108), xR 0, xR 53, xR 91, xR 92, xI x5, xI s0, xZ, xZ] (xpush v9 []) h9 Q X) (fun _ _ => False))) : xwp G (m_W_law nm9 hq9) (d + 220) 910 [xR (-108), xR 0, xR 53, xR 91, xR 92, xI x5, xZ, xZ, xZ] [xI s0] h Q X := by
  have hnx9 : (93 : Int) ≤ xnx h := F.2.2
  refine xr_okL (fun hl9 => ?_)
  have r_x5 : -2147483648 ≤ x5 ∧ x5 ≤ 2147483647 := hl9 (xI x5) (.tail _ (.tail _ (.tail _ (.tail _ (.tail _ (.head _)))))) (Nat.le_of_ble_eq_true rfl)
  refine xr_okS (fun hs9 => ?_)
  have r_s0 : -2147483648 ≤ s0 ∧ s0 ≤ 2147483647 := hs9 (xI s0) (.head _)
  refine xr_istore (pc := 910) (i := 6) (L9 := [xR (-108), xR 0, xR 53, xR 91, xR 92, xI x5, xI s0, xZ, xZ]) (hI := d_W_law_910) (hn := Nat.le_of_ble_eq_true rfl) (hL9 := rfl) ?_
  refine xr_aload_n (pc := 912) (i := 2) (hI := d_W_law_912) (hi := rfl) (hl := rfl) ?_
  refine xr_aload_n (pc := 913) (i := 0) (hI := d_W_law_913) (hi := rfl) (hl := rfl) ?_
  refine xr_iload (pc := 914) (i := 5) (hI := d_W_law_914) (hl := rfl) ?_
  refine xr_iconst (pc := 916) (hI := d_W_law_916) (hr := by decide) ?_
  obtain ⟨c9, hyp⟩ := hyp
  refine xr_iadd (pc := 917) (hI := d_W_law_917) (hr := c9) ?_
  obtain ⟨c8, c9, hyp⟩ := hyp
  refine xr_scd (pc := 918) SC (hI := d_W_law_918) c8 c9 ?_
  have f1_ : -2147483648 ≤ (scV xs (x5 + 1)) ∧ (scV xs (x5 + 1)) ≤ 2147483647 := xi_toR _
  refine xr_aload_n (pc := 919) (i := 0) (hI := d_W_law_919) (hi := rfl) (hl := rfl) ?_
  refine xr_iload (pc := 920) (i := 5) (hI := d_W_law_920) (hl := rfl) ?_
  refine xr_iconst (pc := 922) (hI := d_W_law_922) (hr := by decide) ?_
  obtain ⟨c9, hyp⟩ := hyp
  refine xr_iadd (pc := 923) (hI := d_W_law_923) (hr := c9) ?_
  obtain ⟨c8, c9, hyp⟩ := hyp
  refine xr_scd (pc := 924) SC (hI := d_W_law_924) c8 c9 ?_
  have f2_ : -2147483648 ≤ (scV xs (x5 + 2)) ∧ (scV xs (x5 + 2)) ≤ 2147483647 := xi_toR _
  exact xl_callV (pc := 925) (index := 170) (K := m_M_isMarked) (As := [xI (scV xs (x5 + 1)), xI (scV xs (x5 + 2))]) (S := []) (L0 := [xR 53, xI (scV xs (x5 + 1)), xI (scV xs (x5 + 2))]) (hI := d_W_law_925) (hK := k_M_isMarked) (hlk := w_2183) (hS8 := Nat.le_of_ble_eq_true rfl) (ci := 11) (N := 38) (C := "BeaconIndexModel") (T := xF11) (hc := rfl) (hci := Nat.le_of_ble_eq_true rfl) (htb := (ft_53 F)) (hinst := w_2184) (hsel := w_2185) (hlen := Nat.le_of_ble_eq_true rfl) (hst := rfl) (hL0 := rfl)  hyp
theorem d_W_law_928 : decode code 928 = .ok (.istore 7, 2) := by decide +kernel
theorem d_W_law_930 : decode code 930 = .ok (.aload_n 2, 1) := by decide +kernel
theorem d_W_law_931 : decode code 931 = .ok (.invokevirtual 114, 3) := by decide +kernel
theorem d_W_law_934 : decode code 934 = .ok (.iload 6, 2) := by decide +kernel
theorem d_W_law_936 : decode code 936 = .ok (.if_icmp .eq 5, 3) := by decide +kernel
theorem d_W_law_941 : decode code 941 = .ok (.iload 6, 2) := by decide +kernel
theorem d_W_law_943 : decode code 943 = .ok (.ifCond .ne 22, 3) := by decide +kernel
theorem d_W_law_965 : decode code 965 = .ok (.goto 1053, 3) := by decide +kernel
theorem d_W_law_946 : decode code 946 = .ok (.aload_n 3, 1) := by decide +kernel
theorem d_W_law_947 : decode code 947 = .ok (.iconst 0, 1) := by decide +kernel
theorem d_W_law_948 : decode code 948 = .ok (.laload, 1) := by decide +kernel
theorem d_W_law_949 : decode code 949 = .ok (.iload 7, 2) := by decide +kernel
theorem d_W_law_951 : decode code 951 = .ok (.ifCond .eq 7, 3) := by decide +kernel
theorem d_W_law_958 : decode code 958 = .ok (.lconst 0, 1) := by decide +kernel
theorem d_W_law_959 : decode code 959 = .ok (.lcmp, 1) := by decide +kernel
theorem d_W_law_960 : decode code 960 = .ok (.ifCond .eq 5, 3) := by decide +kernel
theorem d_W_law_963 : decode code 963 = .ok (.iconst 0, 1) := by decide +kernel
theorem d_W_law_964 : decode code 964 = .ok (.ireturn, 1) := by decide +kernel
theorem d_W_law_954 : decode code 954 = .ok (.lconst 1, 1) := by decide +kernel
theorem d_W_law_955 : decode code 955 = .ok (.goto 4, 3) := by decide +kernel
theorem d_W_law_939 : decode code 939 = .ok (.iconst 0, 1) := by decide +kernel
theorem d_W_law_940 : decode code 940 = .ok (.ireturn, 1) := by decide +kernel
theorem v_W_law_928 {G : XG} {d : Nat} {h : XH} {Q : XV → XH → Prop} {X : Nat → XH → Prop} {x5 x6 s0 : Int} {n9 : Nat} {xs : Nat → Int32} {nm9 : String} {hq9 : List (Nat × Nat × Nat × Nat)} (SC : SCR G n9 xs) (F : xFix h) (hyp : (((xpl h 53 0) = x6 → ((x6 = 0 → ((s0 = 0 → (((xpl h 91 0) = 0 → (xwp G (m_W_law nm9 hq9) (d + 220) 2018 [xR (-108), xR 0, xR 53, xR 91, xR 92, xI x5, xZ, xZ, xZ] [] h Q X)) ∧ (¬ (xpl h 91 0) = 0 → (Q (xI 0) h)))) ∧ (¬ s0 = 0 → (((xpl h 91 0) = 1 → (xwp G (m_W_law nm9 hq9) (d + 220) 2018 [xR (-108), xR 0, xR 53, xR 91, xR 92, xI x5, xZ, xZ, xZ] [] h Q X)) ∧ (¬ (xpl h 91 0) = 1 → (Q (xI 0) h)))))) ∧ (¬ x6 = 0 → (xwp G (m_W_law nm9 hq9) (d + 220) 2018 [xR (-108), xR 0, xR 53, xR 91, xR 92, xI x5, xZ, xZ, xZ] [] h Q X)))) ∧ (¬ (xpl h 53 0) = x6 → (Q (xI 0) h)))) : xwp G (m_W_law nm9 hq9) (d + 220) 928 [xR (-108), xR 0, xR 53, xR 91, xR 92, xI x5, xI x6, xZ, xZ] [xI s0] h Q X := by
  have hnx9 : (93 : Int) ≤ xnx h := F.2.2
  refine xr_okL (fun hl9 => ?_)
  have r_x5 : -2147483648 ≤ x5 ∧ x5 ≤ 2147483647 := hl9 (xI x5) (.tail _ (.tail _ (.tail _ (.tail _ (.tail _ (.head _)))))) (Nat.le_of_ble_eq_true rfl)
  have r_x6 : -2147483648 ≤ x6 ∧ x6 ≤ 2147483647 := hl9 (xI x6) (.tail _ (.tail _ (.tail _ (.tail _ (.tail _ (.tail _ (.head _))))))) (Nat.le_of_ble_eq_true rfl)
  refine xr_okS (fun hs9 => ?_)
  have r_s0 : -2147483648 ≤ s0 ∧ s0 ≤ 2147483647 := hs9 (xI s0) (.head _)
  refine xr_istore (pc := 928) (i := 7) (L9 := [xR (-108), xR 0, xR 53, xR 91, xR 92, xI x5, xI x6, xI s0, xZ]) (hI := d_W_law_928) (hn := Nat.le_of_ble_eq_true rfl) (hL9 := rfl) ?_
  refine xr_aload_n (pc := 930) (i := 2) (hI := d_W_law_930) (hi := rfl) (hl := rfl) ?_
  refine xl_callV (pc := 931) (index := 114) (K := m_M_thrown) (As := []) (S := []) (L0 := [xR 53]) (hI := d_W_law_931) (hK := k_M_thrown) (hlk := w_1702) (hS8 := Nat.le_of_ble_eq_true rfl) (ci := 11) (N := 38) (C := "BeaconIndexModel") (T := xF11) (hc := rfl) (hci := Nat.le_of_ble_eq_true rfl) (htb := (ft_53 F)) (hinst := w_1703) (hsel := w_1704) (hlen := Nat.le_of_ble_eq_true rfl) (hst := rfl) (hL0 := rfl)  ?_
  refine xr_aload_n (pc := 0) (i := 0) (hI := d_M_thrown_0) (hi := rfl) (hl := rfl) ?_
  refine xg_getf (pc := 1) (ci := 11) (k := 0) (N := 38) (v9 := 0) (v := (xpl h 53 0)) (T := xF11) (hI := d_M_thrown_1) (hw := w_1587) rfl xi11 (Or.inl rfl) (Nat.le_of_ble_eq_true rfl) (Nat.le_of_ble_eq_true rfl) rfl (ft_53 F) rfl (fun f1_ => ?_)
  replace f1_ : -2147483648 ≤ (xpl h 53 0) ∧ (xpl h 53 0) ≤ 2147483647 := f1_
  refine xr_ireturn (S := []) (pc := 4) (hI := d_M_thrown_4) (hr := rfl) ?_
  show xwp G (m_W_law nm9 hq9) (d + 220) 934 [xR (-108), xR 0, xR 53, xR 91, xR 92, xI x5, xI x6, xI s0, xZ] [xI (xpl h 53 0)] _ _ _
  refine xr_iload (pc := 934) (i := 6) (hI := d_W_law_934) (hl := rfl) ?_
  refine xr_icmp_eq (pc := 936) (tgt := 941) (hI := d_W_law_936) (ht := by decide) (fun q9 => ?_) (fun q9 => ?_)
  · replace hyp := hyp.1 q9
    have q2_ := q9
    clear q9
    refine xr_iload (pc := 941) (i := 6) (hI := d_W_law_941) (hl := rfl) ?_
    refine xr_if_ne (pc := 943) (tgt := 965) (hI := d_W_law_943) (ht := by decide) (fun q9 => ?_) (fun q9 => ?_)
    · replace hyp := hyp.2 q9
      have q3_ := q9
      clear q9
      refine xr_goto (pc := 965) (tgt := 2018) (hI := d_W_law_965) (ht := by decide) ?_
      exact xr_drop (L9 := [xR (-108), xR 0, xR 53, xR 91, xR 92, xI x5, xZ, xZ, xZ]) (xdrs (xdrs (xdrs (xdrs (xdrs (xdrs (xdrz (xdrz (xdrs xdr0))))))))) hyp
    · replace hyp := hyp.1 q9
      have q3_ := q9
      clear q9
      refine xr_aload_n (pc := 946) (i := 3) (hI := d_W_law_946) (hi := rfl) (hl := rfl) ?_
      refine xr_iconst (pc := 947) (hI := d_W_law_947) (hr := by decide) ?_
      refine xg_laload (pc := 948) (v := (xpl h 91 0)) (hI := d_W_law_948) (ft_91 F) (by decide) (xlt_of (fl_91 F) (by decide)) rfl (fun f4_ => ?_)
      replace f4_ : -9223372036854775808 ≤ (xpl h 91 0) ∧ (xpl h 91 0) ≤ 9223372036854775807 := f4_
      refine xr_iload (pc := 949) (i := 7) (hI := d_W_law_949) (hl := rfl) ?_
      refine xr_if_eq (pc := 951) (tgt := 958) (hI := d_W_law_951) (ht := by decide) (fun q9 => ?_) (fun q9 => ?_)
      · replace hyp := hyp.1 q9
        have q5_ := q9
        clear q9
        refine xr_lconst (pc := 958) (z := 0) (hI := d_W_law_958) (hr := by decide) (hv := by decide) ?_
        refine xr_lcmp (pc := 959) (hI := d_W_law_959) ?_
        refine xg_lif_eq (pc := 960) (tgt := 965) (hI := d_W_law_960) (ht := by decide) (fun q9 => ?_) (fun q9 => ?_)
        · replace hyp := hyp.1 q9
          have q6_ := q9
          clear q9
          refine xr_goto (pc := 965) (tgt := 2018) (hI := d_W_law_965) (ht := by decide) ?_
          exact xr_drop (L9 := [xR (-108), xR 0, xR 53, xR 91, xR 92, xI x5, xZ, xZ, xZ]) (xdrs (xdrs (xdrs (xdrs (xdrs (xdrs (xdrz (xdrz (xdrs xdr0))))))))) hyp
        · replace hyp := hyp.2 q9
          have q6_ := q9
          clear q9
          refine xr_iconst (pc := 963) (hI := d_W_law_963) (hr := by decide) ?_
          refine xr_ireturnT (S := []) (pc := 964) (hI := d_W_law_964) (hr := rfl) (xnar_z (by decide)) ?_
          exact hyp
      · replace hyp := hyp.2 q9
        have q5_ := q9
        clear q9
        refine xr_lconst (pc := 954) (z := 1) (hI := d_W_law_954) (hr := by decide) (hv := by decide) ?_
        refine xr_goto (pc := 955) (tgt := 959) (hI := d_W_law_955) (ht := by decide) ?_
        refine xr_lcmp (pc := 959) (hI := d_W_law_959) ?_
        refine xg_lif_eq (pc := 960) (tgt := 965) (hI := d_W_law_960) (ht := by decide) (fun q9 => ?_) (fun q9 => ?_)
        · replace hyp := hyp.1 q9
          have q7_ := q9
          clear q9
          refine xr_goto (pc := 965) (tgt := 2018) (hI := d_W_law_965) (ht := by decide) ?_
          exact xr_drop (L9 := [xR (-108), xR 0, xR 53, xR 91, xR 92, xI x5, xZ, xZ, xZ]) (xdrs (xdrs (xdrs (xdrs (xdrs (xdrs (xdrz (xdrz (xdrs xdr0))))))))) hyp
        · replace hyp := hyp.2 q9
          have q7_ := q9
          clear q9
          refine xr_iconst (pc := 963) (hI := d_W_law_963) (hr := by decide) ?_
          refine xr_ireturnT (S := []) (pc := 964) (hI := d_W_law_964) (hr := rfl) (xnar_z (by decide)) ?_
          exact hyp
  · replace hyp := hyp.2 q9
    have q2_ := q9
    clear q9
    refine xr_iconst (pc := 939) (hI := d_W_law_939) (hr := by decide) ?_
    refine xr_ireturnT (S := []) (pc := 940) (hI := d_W_law_940) (hr := rfl) (xnar_z (by decide)) ?_
    exact hyp
theorem d_W_law_968 : decode code 968 = .ok (.aload_n 1, 1) := by decide +kernel
theorem d_W_law_969 : decode code 969 = .ok (.aload_n 0, 1) := by decide +kernel
theorem d_W_law_970 : decode code 970 = .ok (.iload 5, 2) := by decide +kernel
theorem d_W_law_972 : decode code 972 = .ok (.iconst 1, 1) := by decide +kernel
theorem d_W_law_973 : decode code 973 = .ok (.iadd, 1) := by decide +kernel
theorem d_W_law_974 : decode code 974 = .ok (.iaload, 1) := by decide +kernel
theorem d_W_law_975 : decode code 975 = .ok (.aload_n 0, 1) := by decide +kernel
theorem d_W_law_976 : decode code 976 = .ok (.iload 5, 2) := by decide +kernel
theorem d_W_law_978 : decode code 978 = .ok (.iconst 2, 1) := by decide +kernel
theorem d_W_law_979 : decode code 979 = .ok (.iadd, 1) := by decide +kernel
theorem d_W_law_980 : decode code 980 = .ok (.iaload, 1) := by decide +kernel
theorem d_W_law_981 : decode code 981 = .ok (.aload_n 0, 1) := by decide +kernel
theorem d_W_law_982 : decode code 982 = .ok (.iload 5, 2) := by decide +kernel
theorem d_W_law_984 : decode code 984 = .ok (.iconst 3, 1) := by decide +kernel
theorem d_W_law_985 : decode code 985 = .ok (.iadd, 1) := by decide +kernel
theorem d_W_law_986 : decode code 986 = .ok (.iaload, 1) := by decide +kernel
theorem d_W_law_987 : decode code 987 = .ok (.aload_n 3, 1) := by decide +kernel
theorem d_W_law_988 : decode code 988 = .ok (.invokestatic 171, 3) := by decide +kernel
theorem k_W_lengthOf : xCalH m_W_lengthOf 5 := ⟨List.mem_append_right _ (List.mem_of_getElem? (i := 1431) (by decide +kernel)), w_0, Nat.le_of_ble_eq_true rfl, ⟨by decide +kernel, by decide +kernel⟩, by decide +kernel, by decide +kernel⟩
theorem w_1429 : Cond.methodLink "BeaconIndexLaw" 171 ⟨"BeaconIndexLaw", "lengthOf", "(LBeaconIndex;III[J)I"⟩ ∈ lw_tbl := List.mem_append_right _ (List.mem_of_getElem? (i := 1429) (by decide +kernel))
theorem w_1430 : Cond.static ⟨"BeaconIndexLaw", "lengthOf", "(LBeaconIndex;III[J)I"⟩ ∈ lw_tbl := List.mem_append_right _ (List.mem_of_getElem? (i := 1430) (by decide +kernel))
theorem v_W_law_968 {G : XG} {d : Nat} {h : XH} {Q : XV → XH → Prop} {X : Nat → XH → Prop} {x5 : Int} {n9 : Nat} {xs : Nat → Int32} {nm9 : String} {hq9 : List (Nat × Nat × Nat × Nat)} (SC : SCR G n9 xs) (F : xFix h) (hyp : xiR (x5 + 1) ∧ 0 ≤ (x5 + 1) ∧ (x5 + 1) < (n9 : Int) ∧ xiR (x5 + 2) ∧ 0 ≤ (x5 + 2) ∧ (x5 + 2) < (n9 : Int) ∧ xiR (x5 + 3) ∧ 0 ≤ (x5 + 3) ∧ (x5 + 3) < (n9 : Int) ∧ (xwp G m_W_lengthOf (d + 219) 0 [xR 0, xI (scV xs (x5 + 1)), xI (scV xs (x5 + 2)), xI (scV xs (x5 + 3)), xR 91, xZ] [] h (fun v9 h9 => xwp G (m_W_law nm9 hq9) (d + 220) 991 [xR (-108), xR 0, xR 53, xR 91, xR 92, xI x5, xZ, xZ, xZ] (xpush v9 []) h9 Q X) (fun _ _ => False))) : xwp G (m_W_law nm9 hq9) (d + 220) 968 [xR (-108), xR 0, xR 53, xR 91, xR 92, xI x5, xZ, xZ, xZ] [] h Q X := by
  have hnx9 : (93 : Int) ≤ xnx h := F.2.2
  refine xr_okL (fun hl9 => ?_)
  have r_x5 : -2147483648 ≤ x5 ∧ x5 ≤ 2147483647 := hl9 (xI x5) (.tail _ (.tail _ (.tail _ (.tail _ (.tail _ (.head _)))))) (Nat.le_of_ble_eq_true rfl)
  refine xr_aload_n (pc := 968) (i := 1) (hI := d_W_law_968) (hi := rfl) (hl := rfl) ?_
  refine xr_aload_n (pc := 969) (i := 0) (hI := d_W_law_969) (hi := rfl) (hl := rfl) ?_
  refine xr_iload (pc := 970) (i := 5) (hI := d_W_law_970) (hl := rfl) ?_
  refine xr_iconst (pc := 972) (hI := d_W_law_972) (hr := by decide) ?_
  obtain ⟨c9, hyp⟩ := hyp
  refine xr_iadd (pc := 973) (hI := d_W_law_973) (hr := c9) ?_
  obtain ⟨c8, c9, hyp⟩ := hyp
  refine xr_scd (pc := 974) SC (hI := d_W_law_974) c8 c9 ?_
  have f1_ : -2147483648 ≤ (scV xs (x5 + 1)) ∧ (scV xs (x5 + 1)) ≤ 2147483647 := xi_toR _
  refine xr_aload_n (pc := 975) (i := 0) (hI := d_W_law_975) (hi := rfl) (hl := rfl) ?_
  refine xr_iload (pc := 976) (i := 5) (hI := d_W_law_976) (hl := rfl) ?_
  refine xr_iconst (pc := 978) (hI := d_W_law_978) (hr := by decide) ?_
  obtain ⟨c9, hyp⟩ := hyp
  refine xr_iadd (pc := 979) (hI := d_W_law_979) (hr := c9) ?_
  obtain ⟨c8, c9, hyp⟩ := hyp
  refine xr_scd (pc := 980) SC (hI := d_W_law_980) c8 c9 ?_
  have f2_ : -2147483648 ≤ (scV xs (x5 + 2)) ∧ (scV xs (x5 + 2)) ≤ 2147483647 := xi_toR _
  refine xr_aload_n (pc := 981) (i := 0) (hI := d_W_law_981) (hi := rfl) (hl := rfl) ?_
  refine xr_iload (pc := 982) (i := 5) (hI := d_W_law_982) (hl := rfl) ?_
  refine xr_iconst (pc := 984) (hI := d_W_law_984) (hr := by decide) ?_
  obtain ⟨c9, hyp⟩ := hyp
  refine xr_iadd (pc := 985) (hI := d_W_law_985) (hr := c9) ?_
  obtain ⟨c8, c9, hyp⟩ := hyp
  refine xr_scd (pc := 986) SC (hI := d_W_law_986) c8 c9 ?_
  have f3_ : -2147483648 ≤ (scV xs (x5 + 3)) ∧ (scV xs (x5 + 3)) ≤ 2147483647 := xi_toR _
  refine xr_aload_n (pc := 987) (i := 3) (hI := d_W_law_987) (hi := rfl) (hl := rfl) ?_
  exact xl_callSW (pc := 988) (index := 171) (K := m_W_lengthOf) (As := [xR 0, xI (scV xs (x5 + 1)), xI (scV xs (x5 + 2)), xI (scV xs (x5 + 3)), xR 91]) (S := []) (L0 := [xR 0, xI (scV xs (x5 + 1)), xI (scV xs (x5 + 2)), xI (scV xs (x5 + 3)), xR 91, xZ]) (hI := d_W_law_988) (hK := k_W_lengthOf) (hlk := w_1429) (hS8 := Nat.le_of_ble_eq_true rfl) (hstat := w_1430) (hlen := Nat.le_of_ble_eq_true rfl) (hst := rfl) (hL0 := rfl)  hyp
theorem d_W_law_991 : decode code 991 = .ok (.istore 6, 2) := by decide +kernel
theorem d_W_law_993 : decode code 993 = .ok (.aload_n 2, 1) := by decide +kernel
theorem d_W_law_994 : decode code 994 = .ok (.aload_n 0, 1) := by decide +kernel
theorem d_W_law_995 : decode code 995 = .ok (.iload 5, 2) := by decide +kernel
theorem d_W_law_997 : decode code 997 = .ok (.iconst 1, 1) := by decide +kernel
theorem d_W_law_998 : decode code 998 = .ok (.iadd, 1) := by decide +kernel
theorem d_W_law_999 : decode code 999 = .ok (.iaload, 1) := by decide +kernel
theorem d_W_law_1000 : decode code 1000 = .ok (.aload_n 0, 1) := by decide +kernel
theorem d_W_law_1001 : decode code 1001 = .ok (.iload 5, 2) := by decide +kernel
theorem d_W_law_1003 : decode code 1003 = .ok (.iconst 2, 1) := by decide +kernel
theorem d_W_law_1004 : decode code 1004 = .ok (.iadd, 1) := by decide +kernel
theorem d_W_law_1005 : decode code 1005 = .ok (.iaload, 1) := by decide +kernel
theorem d_W_law_1006 : decode code 1006 = .ok (.aload_n 0, 1) := by decide +kernel
theorem d_W_law_1007 : decode code 1007 = .ok (.iload 5, 2) := by decide +kernel
theorem d_W_law_1009 : decode code 1009 = .ok (.iconst 3, 1) := by decide +kernel
theorem d_W_law_1010 : decode code 1010 = .ok (.iadd, 1) := by decide +kernel
theorem d_W_law_1011 : decode code 1011 = .ok (.iaload, 1) := by decide +kernel
theorem d_W_law_1012 : decode code 1012 = .ok (.invokevirtual 173, 3) := by decide +kernel
theorem k_M_lengthOf_III : xCal m_M_lengthOf_III 3 := ⟨List.mem_append_right _ (List.mem_of_getElem? (i := 2190) (by decide +kernel)), w_15, Nat.le_of_ble_eq_true rfl, ⟨by decide +kernel, by decide +kernel⟩, by decide +kernel, by decide +kernel, rfl⟩
theorem w_2187 : Cond.methodLink "BeaconIndexLaw" 173 ⟨"BeaconIndexModel", "lengthOf", "(III)I"⟩ ∈ lw_tbl := List.mem_append_right _ (List.mem_of_getElem? (i := 2187) (by decide +kernel))
theorem w_2188 : Cond.instanceMethod ⟨"BeaconIndexModel", "lengthOf", "(III)I"⟩ ∈ lw_tbl := List.mem_append_right _ (List.mem_of_getElem? (i := 2188) (by decide +kernel))
theorem w_2189 : Cond.selects "BeaconIndexModel" ⟨"BeaconIndexModel", "lengthOf", "(III)I"⟩ ⟨"BeaconIndexModel", "lengthOf", "(III)I"⟩ ∈ lw_tbl := List.mem_append_right _ (List.mem_of_getElem? (i := 2189) (by decide +kernel))
theorem v_W_law_991 {G : XG} {d : Nat} {h : XH} {Q : XV → XH → Prop} {X : Nat → XH → Prop} {x5 s0 : Int} {n9 : Nat} {xs : Nat → Int32} {nm9 : String} {hq9 : List (Nat × Nat × Nat × Nat)} (SC : SCR G n9 xs) (F : xFix h) (hyp : xiR (x5 + 1) ∧ 0 ≤ (x5 + 1) ∧ (x5 + 1) < (n9 : Int) ∧ xiR (x5 + 2) ∧ 0 ≤ (x5 + 2) ∧ (x5 + 2) < (n9 : Int) ∧ xiR (x5 + 3) ∧ 0 ≤ (x5 + 3) ∧ (x5 + 3) < (n9 : Int) ∧ (xwp G m_M_lengthOf_III (d + 219) 0 [xR 53, xI (scV xs (x5 + 1)), xI (scV xs (x5 + 2)), xI (scV xs (x5 + 3))] [] h (fun v9 h9 => xwp G (m_W_law nm9 hq9) (d + 220) 1015 [xR (-108), xR 0, xR 53, xR 91, xR 92, xI x5, xI s0, xZ, xZ] (xpush v9 []) h9 Q X) (fun _ _ => False))) : xwp G (m_W_law nm9 hq9) (d + 220) 991 [xR (-108), xR 0, xR 53, xR 91, xR 92, xI x5, xZ, xZ, xZ] [xI s0] h Q X := by
  have hnx9 : (93 : Int) ≤ xnx h := F.2.2
  refine xr_okL (fun hl9 => ?_)
  have r_x5 : -2147483648 ≤ x5 ∧ x5 ≤ 2147483647 := hl9 (xI x5) (.tail _ (.tail _ (.tail _ (.tail _ (.tail _ (.head _)))))) (Nat.le_of_ble_eq_true rfl)
  refine xr_okS (fun hs9 => ?_)
  have r_s0 : -2147483648 ≤ s0 ∧ s0 ≤ 2147483647 := hs9 (xI s0) (.head _)
  refine xr_istore (pc := 991) (i := 6) (L9 := [xR (-108), xR 0, xR 53, xR 91, xR 92, xI x5, xI s0, xZ, xZ]) (hI := d_W_law_991) (hn := Nat.le_of_ble_eq_true rfl) (hL9 := rfl) ?_
  refine xr_aload_n (pc := 993) (i := 2) (hI := d_W_law_993) (hi := rfl) (hl := rfl) ?_
  refine xr_aload_n (pc := 994) (i := 0) (hI := d_W_law_994) (hi := rfl) (hl := rfl) ?_
  refine xr_iload (pc := 995) (i := 5) (hI := d_W_law_995) (hl := rfl) ?_
  refine xr_iconst (pc := 997) (hI := d_W_law_997) (hr := by decide) ?_
  obtain ⟨c9, hyp⟩ := hyp
  refine xr_iadd (pc := 998) (hI := d_W_law_998) (hr := c9) ?_
  obtain ⟨c8, c9, hyp⟩ := hyp
  refine xr_scd (pc := 999) SC (hI := d_W_law_999) c8 c9 ?_
  have f1_ : -2147483648 ≤ (scV xs (x5 + 1)) ∧ (scV xs (x5 + 1)) ≤ 2147483647 := xi_toR _
  refine xr_aload_n (pc := 1000) (i := 0) (hI := d_W_law_1000) (hi := rfl) (hl := rfl) ?_
  refine xr_iload (pc := 1001) (i := 5) (hI := d_W_law_1001) (hl := rfl) ?_
  refine xr_iconst (pc := 1003) (hI := d_W_law_1003) (hr := by decide) ?_
  obtain ⟨c9, hyp⟩ := hyp
  refine xr_iadd (pc := 1004) (hI := d_W_law_1004) (hr := c9) ?_
  obtain ⟨c8, c9, hyp⟩ := hyp
  refine xr_scd (pc := 1005) SC (hI := d_W_law_1005) c8 c9 ?_
  have f2_ : -2147483648 ≤ (scV xs (x5 + 2)) ∧ (scV xs (x5 + 2)) ≤ 2147483647 := xi_toR _
  refine xr_aload_n (pc := 1006) (i := 0) (hI := d_W_law_1006) (hi := rfl) (hl := rfl) ?_
  refine xr_iload (pc := 1007) (i := 5) (hI := d_W_law_1007) (hl := rfl) ?_
  refine xr_iconst (pc := 1009) (hI := d_W_law_1009) (hr := by decide) ?_
  obtain ⟨c9, hyp⟩ := hyp
  refine xr_iadd (pc := 1010) (hI := d_W_law_1010) (hr := c9) ?_
  obtain ⟨c8, c9, hyp⟩ := hyp
  refine xr_scd (pc := 1011) SC (hI := d_W_law_1011) c8 c9 ?_
  have f3_ : -2147483648 ≤ (scV xs (x5 + 3)) ∧ (scV xs (x5 + 3)) ≤ 2147483647 := xi_toR _
  exact xl_callV (pc := 1012) (index := 173) (K := m_M_lengthOf_III) (As := [xI (scV xs (x5 + 1)), xI (scV xs (x5 + 2)), xI (scV xs (x5 + 3))]) (S := []) (L0 := [xR 53, xI (scV xs (x5 + 1)), xI (scV xs (x5 + 2)), xI (scV xs (x5 + 3))]) (hI := d_W_law_1012) (hK := k_M_lengthOf_III) (hlk := w_2187) (hS8 := Nat.le_of_ble_eq_true rfl) (ci := 11) (N := 38) (C := "BeaconIndexModel") (T := xF11) (hc := rfl) (hci := Nat.le_of_ble_eq_true rfl) (htb := (ft_53 F)) (hinst := w_2188) (hsel := w_2189) (hlen := Nat.le_of_ble_eq_true rfl) (hst := rfl) (hL0 := rfl)  hyp
theorem d_W_law_1015 : decode code 1015 = .ok (.istore 7, 2) := by decide +kernel
theorem d_W_law_1017 : decode code 1017 = .ok (.aload_n 2, 1) := by decide +kernel
theorem d_W_law_1018 : decode code 1018 = .ok (.invokevirtual 114, 3) := by decide +kernel
theorem d_W_law_1021 : decode code 1021 = .ok (.iload 6, 2) := by decide +kernel
theorem d_W_law_1023 : decode code 1023 = .ok (.if_icmp .eq 5, 3) := by decide +kernel
theorem d_W_law_1028 : decode code 1028 = .ok (.iload 6, 2) := by decide +kernel
theorem d_W_law_1030 : decode code 1030 = .ok (.ifCond .ne 15, 3) := by decide +kernel
theorem d_W_law_1045 : decode code 1045 = .ok (.goto 973, 3) := by decide +kernel
theorem d_W_law_1033 : decode code 1033 = .ok (.aload_n 3, 1) := by decide +kernel
theorem d_W_law_1034 : decode code 1034 = .ok (.iconst 0, 1) := by decide +kernel
theorem d_W_law_1035 : decode code 1035 = .ok (.laload, 1) := by decide +kernel
theorem d_W_law_1036 : decode code 1036 = .ok (.iload 7, 2) := by decide +kernel
theorem d_W_law_1038 : decode code 1038 = .ok (.i2l, 1) := by decide +kernel
theorem d_W_law_1039 : decode code 1039 = .ok (.lcmp, 1) := by decide +kernel
theorem d_W_law_1040 : decode code 1040 = .ok (.ifCond .eq 5, 3) := by decide +kernel
theorem d_W_law_1043 : decode code 1043 = .ok (.iconst 0, 1) := by decide +kernel
theorem d_W_law_1044 : decode code 1044 = .ok (.ireturn, 1) := by decide +kernel
theorem d_W_law_1026 : decode code 1026 = .ok (.iconst 0, 1) := by decide +kernel
theorem d_W_law_1027 : decode code 1027 = .ok (.ireturn, 1) := by decide +kernel
theorem v_W_law_1015 {G : XG} {d : Nat} {h : XH} {Q : XV → XH → Prop} {X : Nat → XH → Prop} {x5 x6 s0 : Int} {n9 : Nat} {xs : Nat → Int32} {nm9 : String} {hq9 : List (Nat × Nat × Nat × Nat)} (SC : SCR G n9 xs) (F : xFix h) (hyp : (((xpl h 53 0) = x6 → ((x6 = 0 → (((xpl h 91 0) = s0 → (xwp G (m_W_law nm9 hq9) (d + 220) 2018 [xR (-108), xR 0, xR 53, xR 91, xR 92, xI x5, xZ, xZ, xZ] [] h Q X)) ∧ (¬ (xpl h 91 0) = s0 → (Q (xI 0) h)))) ∧ (¬ x6 = 0 → (xwp G (m_W_law nm9 hq9) (d + 220) 2018 [xR (-108), xR 0, xR 53, xR 91, xR 92, xI x5, xZ, xZ, xZ] [] h Q X)))) ∧ (¬ (xpl h 53 0) = x6 → (Q (xI 0) h)))) : xwp G (m_W_law nm9 hq9) (d + 220) 1015 [xR (-108), xR 0, xR 53, xR 91, xR 92, xI x5, xI x6, xZ, xZ] [xI s0] h Q X := by
  have hnx9 : (93 : Int) ≤ xnx h := F.2.2
  refine xr_okL (fun hl9 => ?_)
  have r_x5 : -2147483648 ≤ x5 ∧ x5 ≤ 2147483647 := hl9 (xI x5) (.tail _ (.tail _ (.tail _ (.tail _ (.tail _ (.head _)))))) (Nat.le_of_ble_eq_true rfl)
  have r_x6 : -2147483648 ≤ x6 ∧ x6 ≤ 2147483647 := hl9 (xI x6) (.tail _ (.tail _ (.tail _ (.tail _ (.tail _ (.tail _ (.head _))))))) (Nat.le_of_ble_eq_true rfl)
  refine xr_okS (fun hs9 => ?_)
  have r_s0 : -2147483648 ≤ s0 ∧ s0 ≤ 2147483647 := hs9 (xI s0) (.head _)
  refine xr_istore (pc := 1015) (i := 7) (L9 := [xR (-108), xR 0, xR 53, xR 91, xR 92, xI x5, xI x6, xI s0, xZ]) (hI := d_W_law_1015) (hn := Nat.le_of_ble_eq_true rfl) (hL9 := rfl) ?_
  refine xr_aload_n (pc := 1017) (i := 2) (hI := d_W_law_1017) (hi := rfl) (hl := rfl) ?_
  refine xl_callV (pc := 1018) (index := 114) (K := m_M_thrown) (As := []) (S := []) (L0 := [xR 53]) (hI := d_W_law_1018) (hK := k_M_thrown) (hlk := w_1702) (hS8 := Nat.le_of_ble_eq_true rfl) (ci := 11) (N := 38) (C := "BeaconIndexModel") (T := xF11) (hc := rfl) (hci := Nat.le_of_ble_eq_true rfl) (htb := (ft_53 F)) (hinst := w_1703) (hsel := w_1704) (hlen := Nat.le_of_ble_eq_true rfl) (hst := rfl) (hL0 := rfl)  ?_
  refine xr_aload_n (pc := 0) (i := 0) (hI := d_M_thrown_0) (hi := rfl) (hl := rfl) ?_
  refine xg_getf (pc := 1) (ci := 11) (k := 0) (N := 38) (v9 := 0) (v := (xpl h 53 0)) (T := xF11) (hI := d_M_thrown_1) (hw := w_1587) rfl xi11 (Or.inl rfl) (Nat.le_of_ble_eq_true rfl) (Nat.le_of_ble_eq_true rfl) rfl (ft_53 F) rfl (fun f1_ => ?_)
  replace f1_ : -2147483648 ≤ (xpl h 53 0) ∧ (xpl h 53 0) ≤ 2147483647 := f1_
  refine xr_ireturn (S := []) (pc := 4) (hI := d_M_thrown_4) (hr := rfl) ?_
  show xwp G (m_W_law nm9 hq9) (d + 220) 1021 [xR (-108), xR 0, xR 53, xR 91, xR 92, xI x5, xI x6, xI s0, xZ] [xI (xpl h 53 0)] _ _ _
  refine xr_iload (pc := 1021) (i := 6) (hI := d_W_law_1021) (hl := rfl) ?_
  refine xr_icmp_eq (pc := 1023) (tgt := 1028) (hI := d_W_law_1023) (ht := by decide) (fun q9 => ?_) (fun q9 => ?_)
  · replace hyp := hyp.1 q9
    have q2_ := q9
    clear q9
    refine xr_iload (pc := 1028) (i := 6) (hI := d_W_law_1028) (hl := rfl) ?_
    refine xr_if_ne (pc := 1030) (tgt := 1045) (hI := d_W_law_1030) (ht := by decide) (fun q9 => ?_) (fun q9 => ?_)
    · replace hyp := hyp.2 q9
      have q3_ := q9
      clear q9
      refine xr_goto (pc := 1045) (tgt := 2018) (hI := d_W_law_1045) (ht := by decide) ?_
      exact xr_drop (L9 := [xR (-108), xR 0, xR 53, xR 91, xR 92, xI x5, xZ, xZ, xZ]) (xdrs (xdrs (xdrs (xdrs (xdrs (xdrs (xdrz (xdrz (xdrs xdr0))))))))) hyp
    · replace hyp := hyp.1 q9
      have q3_ := q9
      clear q9
      refine xr_aload_n (pc := 1033) (i := 3) (hI := d_W_law_1033) (hi := rfl) (hl := rfl) ?_
      refine xr_iconst (pc := 1034) (hI := d_W_law_1034) (hr := by decide) ?_
      refine xg_laload (pc := 1035) (v := (xpl h 91 0)) (hI := d_W_law_1035) (ft_91 F) (by decide) (xlt_of (fl_91 F) (by decide)) rfl (fun f4_ => ?_)
      replace f4_ : -9223372036854775808 ≤ (xpl h 91 0) ∧ (xpl h 91 0) ≤ 9223372036854775807 := f4_
      refine xr_iload (pc := 1036) (i := 7) (hI := d_W_law_1036) (hl := rfl) ?_
      refine xr_i2l (pc := 1038) (hI := d_W_law_1038) ?_
      refine xr_lcmp (pc := 1039) (hI := d_W_law_1039) ?_
      refine xg_lif_eq (pc := 1040) (tgt := 1045) (hI := d_W_law_1040) (ht := by decide) (fun q9 => ?_) (fun q9 => ?_)
      · replace hyp := hyp.1 q9
        have q5_ := q9
        clear q9
        refine xr_goto (pc := 1045) (tgt := 2018) (hI := d_W_law_1045) (ht := by decide) ?_
        exact xr_drop (L9 := [xR (-108), xR 0, xR 53, xR 91, xR 92, xI x5, xZ, xZ, xZ]) (xdrs (xdrs (xdrs (xdrs (xdrs (xdrs (xdrz (xdrz (xdrs xdr0))))))))) hyp
      · replace hyp := hyp.2 q9
        have q5_ := q9
        clear q9
        refine xr_iconst (pc := 1043) (hI := d_W_law_1043) (hr := by decide) ?_
        refine xr_ireturnT (S := []) (pc := 1044) (hI := d_W_law_1044) (hr := rfl) (xnar_z (by decide)) ?_
        exact hyp
  · replace hyp := hyp.2 q9
    have q2_ := q9
    clear q9
    refine xr_iconst (pc := 1026) (hI := d_W_law_1026) (hr := by decide) ?_
    refine xr_ireturnT (S := []) (pc := 1027) (hI := d_W_law_1027) (hr := rfl) (xnar_z (by decide)) ?_
    exact hyp
theorem d_W_law_1048 : decode code 1048 = .ok (.aload_n 1, 1) := by decide +kernel
theorem d_W_law_1049 : decode code 1049 = .ok (.aload_n 0, 1) := by decide +kernel
theorem d_W_law_1050 : decode code 1050 = .ok (.iload 5, 2) := by decide +kernel
theorem d_W_law_1052 : decode code 1052 = .ok (.iconst 1, 1) := by decide +kernel
theorem d_W_law_1053 : decode code 1053 = .ok (.iadd, 1) := by decide +kernel
theorem d_W_law_1054 : decode code 1054 = .ok (.iaload, 1) := by decide +kernel
theorem d_W_law_1055 : decode code 1055 = .ok (.aload_n 3, 1) := by decide +kernel
theorem d_W_law_1056 : decode code 1056 = .ok (.invokestatic 174, 3) := by decide +kernel
theorem k_W_segmentOf : xCalH m_W_segmentOf 3 := ⟨List.mem_append_right _ (List.mem_of_getElem? (i := 1435) (by decide +kernel)), w_0, Nat.le_of_ble_eq_true rfl, ⟨by decide +kernel, by decide +kernel⟩, by decide +kernel, by decide +kernel⟩
theorem w_1433 : Cond.methodLink "BeaconIndexLaw" 174 ⟨"BeaconIndexLaw", "segmentOf", "(LBeaconIndex;I[J)I"⟩ ∈ lw_tbl := List.mem_append_right _ (List.mem_of_getElem? (i := 1433) (by decide +kernel))
theorem w_1434 : Cond.static ⟨"BeaconIndexLaw", "segmentOf", "(LBeaconIndex;I[J)I"⟩ ∈ lw_tbl := List.mem_append_right _ (List.mem_of_getElem? (i := 1434) (by decide +kernel))
theorem v_W_law_1048 {G : XG} {d : Nat} {h : XH} {Q : XV → XH → Prop} {X : Nat → XH → Prop} {x5 : Int} {n9 : Nat} {xs : Nat → Int32} {nm9 : String} {hq9 : List (Nat × Nat × Nat × Nat)} (SC : SCR G n9 xs) (F : xFix h) (hyp : xiR (x5 + 1) ∧ 0 ≤ (x5 + 1) ∧ (x5 + 1) < (n9 : Int) ∧ (xwp G m_W_segmentOf (d + 219) 0 [xR 0, xI (scV xs (x5 + 1)), xR 91, xZ] [] h (fun v9 h9 => xwp G (m_W_law nm9 hq9) (d + 220) 1059 [xR (-108), xR 0, xR 53, xR 91, xR 92, xI x5, xZ, xZ, xZ] (xpush v9 []) h9 Q X) (fun _ _ => False))) : xwp G (m_W_law nm9 hq9) (d + 220) 1048 [xR (-108), xR 0, xR 53, xR 91, xR 92, xI x5, xZ, xZ, xZ] [] h Q X := by
  have hnx9 : (93 : Int) ≤ xnx h := F.2.2
  refine xr_okL (fun hl9 => ?_)
  have r_x5 : -2147483648 ≤ x5 ∧ x5 ≤ 2147483647 := hl9 (xI x5) (.tail _ (.tail _ (.tail _ (.tail _ (.tail _ (.head _)))))) (Nat.le_of_ble_eq_true rfl)
  refine xr_aload_n (pc := 1048) (i := 1) (hI := d_W_law_1048) (hi := rfl) (hl := rfl) ?_
  refine xr_aload_n (pc := 1049) (i := 0) (hI := d_W_law_1049) (hi := rfl) (hl := rfl) ?_
  refine xr_iload (pc := 1050) (i := 5) (hI := d_W_law_1050) (hl := rfl) ?_
  refine xr_iconst (pc := 1052) (hI := d_W_law_1052) (hr := by decide) ?_
  obtain ⟨c9, hyp⟩ := hyp
  refine xr_iadd (pc := 1053) (hI := d_W_law_1053) (hr := c9) ?_
  obtain ⟨c8, c9, hyp⟩ := hyp
  refine xr_scd (pc := 1054) SC (hI := d_W_law_1054) c8 c9 ?_
  have f1_ : -2147483648 ≤ (scV xs (x5 + 1)) ∧ (scV xs (x5 + 1)) ≤ 2147483647 := xi_toR _
  refine xr_aload_n (pc := 1055) (i := 3) (hI := d_W_law_1055) (hi := rfl) (hl := rfl) ?_
  exact xl_callSW (pc := 1056) (index := 174) (K := m_W_segmentOf) (As := [xR 0, xI (scV xs (x5 + 1)), xR 91]) (S := []) (L0 := [xR 0, xI (scV xs (x5 + 1)), xR 91, xZ]) (hI := d_W_law_1056) (hK := k_W_segmentOf) (hlk := w_1433) (hS8 := Nat.le_of_ble_eq_true rfl) (hstat := w_1434) (hlen := Nat.le_of_ble_eq_true rfl) (hst := rfl) (hL0 := rfl)  hyp
theorem d_W_law_1059 : decode code 1059 = .ok (.istore 6, 2) := by decide +kernel
theorem d_W_law_1061 : decode code 1061 = .ok (.aload_n 2, 1) := by decide +kernel
theorem d_W_law_1062 : decode code 1062 = .ok (.aload_n 0, 1) := by decide +kernel
theorem d_W_law_1063 : decode code 1063 = .ok (.iload 5, 2) := by decide +kernel
theorem d_W_law_1065 : decode code 1065 = .ok (.iconst 1, 1) := by decide +kernel
theorem d_W_law_1066 : decode code 1066 = .ok (.iadd, 1) := by decide +kernel
theorem d_W_law_1067 : decode code 1067 = .ok (.iaload, 1) := by decide +kernel
theorem d_W_law_1068 : decode code 1068 = .ok (.invokevirtual 176, 3) := by decide +kernel
theorem k_M_segmentOf : xCal m_M_segmentOf 1 := ⟨List.mem_append_right _ (List.mem_of_getElem? (i := 2194) (by decide +kernel)), w_15, Nat.le_of_ble_eq_true rfl, ⟨by decide +kernel, by decide +kernel⟩, by decide +kernel, by decide +kernel, rfl⟩
theorem w_2191 : Cond.methodLink "BeaconIndexLaw" 176 ⟨"BeaconIndexModel", "segmentOf", "(I)I"⟩ ∈ lw_tbl := List.mem_append_right _ (List.mem_of_getElem? (i := 2191) (by decide +kernel))
theorem w_2192 : Cond.instanceMethod ⟨"BeaconIndexModel", "segmentOf", "(I)I"⟩ ∈ lw_tbl := List.mem_append_right _ (List.mem_of_getElem? (i := 2192) (by decide +kernel))
theorem w_2193 : Cond.selects "BeaconIndexModel" ⟨"BeaconIndexModel", "segmentOf", "(I)I"⟩ ⟨"BeaconIndexModel", "segmentOf", "(I)I"⟩ ∈ lw_tbl := List.mem_append_right _ (List.mem_of_getElem? (i := 2193) (by decide +kernel))
theorem v_W_law_1059 {G : XG} {d : Nat} {h : XH} {Q : XV → XH → Prop} {X : Nat → XH → Prop} {x5 s0 : Int} {n9 : Nat} {xs : Nat → Int32} {nm9 : String} {hq9 : List (Nat × Nat × Nat × Nat)} (SC : SCR G n9 xs) (F : xFix h) (hyp : xiR (x5 + 1) ∧ 0 ≤ (x5 + 1) ∧ (x5 + 1) < (n9 : Int) ∧ (xwp G m_M_segmentOf (d + 219) 0 [xR 53, xI (scV xs (x5 + 1)), xZ, xZ] [] h (fun v9 h9 => xwp G (m_W_law nm9 hq9) (d + 220) 1071 [xR (-108), xR 0, xR 53, xR 91, xR 92, xI x5, xI s0, xZ, xZ] (xpush v9 []) h9 Q X) (fun _ _ => False))) : xwp G (m_W_law nm9 hq9) (d + 220) 1059 [xR (-108), xR 0, xR 53, xR 91, xR 92, xI x5, xZ, xZ, xZ] [xI s0] h Q X := by
  have hnx9 : (93 : Int) ≤ xnx h := F.2.2
  refine xr_okL (fun hl9 => ?_)
  have r_x5 : -2147483648 ≤ x5 ∧ x5 ≤ 2147483647 := hl9 (xI x5) (.tail _ (.tail _ (.tail _ (.tail _ (.tail _ (.head _)))))) (Nat.le_of_ble_eq_true rfl)
  refine xr_okS (fun hs9 => ?_)
  have r_s0 : -2147483648 ≤ s0 ∧ s0 ≤ 2147483647 := hs9 (xI s0) (.head _)
  refine xr_istore (pc := 1059) (i := 6) (L9 := [xR (-108), xR 0, xR 53, xR 91, xR 92, xI x5, xI s0, xZ, xZ]) (hI := d_W_law_1059) (hn := Nat.le_of_ble_eq_true rfl) (hL9 := rfl) ?_
  refine xr_aload_n (pc := 1061) (i := 2) (hI := d_W_law_1061) (hi := rfl) (hl := rfl) ?_
  refine xr_aload_n (pc := 1062) (i := 0) (hI := d_W_law_1062) (hi := rfl) (hl := rfl) ?_
  refine xr_iload (pc := 1063) (i := 5) (hI := d_W_law_1063) (hl := rfl) ?_
  refine xr_iconst (pc := 1065) (hI := d_W_law_1065) (hr := by decide) ?_
  obtain ⟨c9, hyp⟩ := hyp
  refine xr_iadd (pc := 1066) (hI := d_W_law_1066) (hr := c9) ?_
  obtain ⟨c8, c9, hyp⟩ := hyp
  refine xr_scd (pc := 1067) SC (hI := d_W_law_1067) c8 c9 ?_
  have f1_ : -2147483648 ≤ (scV xs (x5 + 1)) ∧ (scV xs (x5 + 1)) ≤ 2147483647 := xi_toR _
  exact xl_callV (pc := 1068) (index := 176) (K := m_M_segmentOf) (As := [xI (scV xs (x5 + 1))]) (S := []) (L0 := [xR 53, xI (scV xs (x5 + 1)), xZ, xZ]) (hI := d_W_law_1068) (hK := k_M_segmentOf) (hlk := w_2191) (hS8 := Nat.le_of_ble_eq_true rfl) (ci := 11) (N := 38) (C := "BeaconIndexModel") (T := xF11) (hc := rfl) (hci := Nat.le_of_ble_eq_true rfl) (htb := (ft_53 F)) (hinst := w_2192) (hsel := w_2193) (hlen := Nat.le_of_ble_eq_true rfl) (hst := rfl) (hL0 := rfl)  hyp
theorem d_W_law_1071 : decode code 1071 = .ok (.istore 7, 2) := by decide +kernel
theorem d_W_law_1073 : decode code 1073 = .ok (.aload_n 2, 1) := by decide +kernel
theorem d_W_law_1074 : decode code 1074 = .ok (.invokevirtual 114, 3) := by decide +kernel
theorem d_W_law_1077 : decode code 1077 = .ok (.iload 6, 2) := by decide +kernel
theorem d_W_law_1079 : decode code 1079 = .ok (.if_icmp .eq 5, 3) := by decide +kernel
theorem d_W_law_1084 : decode code 1084 = .ok (.iload 6, 2) := by decide +kernel
theorem d_W_law_1086 : decode code 1086 = .ok (.ifCond .ne 15, 3) := by decide +kernel
theorem d_W_law_1101 : decode code 1101 = .ok (.goto 917, 3) := by decide +kernel
theorem d_W_law_1089 : decode code 1089 = .ok (.aload_n 3, 1) := by decide +kernel
theorem d_W_law_1090 : decode code 1090 = .ok (.iconst 0, 1) := by decide +kernel
theorem d_W_law_1091 : decode code 1091 = .ok (.laload, 1) := by decide +kernel
theorem d_W_law_1092 : decode code 1092 = .ok (.iload 7, 2) := by decide +kernel
theorem d_W_law_1094 : decode code 1094 = .ok (.i2l, 1) := by decide +kernel
theorem d_W_law_1095 : decode code 1095 = .ok (.lcmp, 1) := by decide +kernel
theorem d_W_law_1096 : decode code 1096 = .ok (.ifCond .eq 5, 3) := by decide +kernel
theorem d_W_law_1099 : decode code 1099 = .ok (.iconst 0, 1) := by decide +kernel
theorem d_W_law_1100 : decode code 1100 = .ok (.ireturn, 1) := by decide +kernel
theorem d_W_law_1082 : decode code 1082 = .ok (.iconst 0, 1) := by decide +kernel
theorem d_W_law_1083 : decode code 1083 = .ok (.ireturn, 1) := by decide +kernel
theorem v_W_law_1071 {G : XG} {d : Nat} {h : XH} {Q : XV → XH → Prop} {X : Nat → XH → Prop} {x5 x6 s0 : Int} {n9 : Nat} {xs : Nat → Int32} {nm9 : String} {hq9 : List (Nat × Nat × Nat × Nat)} (SC : SCR G n9 xs) (F : xFix h) (hyp : (((xpl h 53 0) = x6 → ((x6 = 0 → (((xpl h 91 0) = s0 → (xwp G (m_W_law nm9 hq9) (d + 220) 2018 [xR (-108), xR 0, xR 53, xR 91, xR 92, xI x5, xZ, xZ, xZ] [] h Q X)) ∧ (¬ (xpl h 91 0) = s0 → (Q (xI 0) h)))) ∧ (¬ x6 = 0 → (xwp G (m_W_law nm9 hq9) (d + 220) 2018 [xR (-108), xR 0, xR 53, xR 91, xR 92, xI x5, xZ, xZ, xZ] [] h Q X)))) ∧ (¬ (xpl h 53 0) = x6 → (Q (xI 0) h)))) : xwp G (m_W_law nm9 hq9) (d + 220) 1071 [xR (-108), xR 0, xR 53, xR 91, xR 92, xI x5, xI x6, xZ, xZ] [xI s0] h Q X := by
  have hnx9 : (93 : Int) ≤ xnx h := F.2.2
  refine xr_okL (fun hl9 => ?_)
  have r_x5 : -2147483648 ≤ x5 ∧ x5 ≤ 2147483647 := hl9 (xI x5) (.tail _ (.tail _ (.tail _ (.tail _ (.tail _ (.head _)))))) (Nat.le_of_ble_eq_true rfl)
  have r_x6 : -2147483648 ≤ x6 ∧ x6 ≤ 2147483647 := hl9 (xI x6) (.tail _ (.tail _ (.tail _ (.tail _ (.tail _ (.tail _ (.head _))))))) (Nat.le_of_ble_eq_true rfl)
  refine xr_okS (fun hs9 => ?_)
  have r_s0 : -2147483648 ≤ s0 ∧ s0 ≤ 2147483647 := hs9 (xI s0) (.head _)
  refine xr_istore (pc := 1071) (i := 7) (L9 := [xR (-108), xR 0, xR 53, xR 91, xR 92, xI x5, xI x6, xI s0, xZ]) (hI := d_W_law_1071) (hn := Nat.le_of_ble_eq_true rfl) (hL9 := rfl) ?_
  refine xr_aload_n (pc := 1073) (i := 2) (hI := d_W_law_1073) (hi := rfl) (hl := rfl) ?_
  refine xl_callV (pc := 1074) (index := 114) (K := m_M_thrown) (As := []) (S := []) (L0 := [xR 53]) (hI := d_W_law_1074) (hK := k_M_thrown) (hlk := w_1702) (hS8 := Nat.le_of_ble_eq_true rfl) (ci := 11) (N := 38) (C := "BeaconIndexModel") (T := xF11) (hc := rfl) (hci := Nat.le_of_ble_eq_true rfl) (htb := (ft_53 F)) (hinst := w_1703) (hsel := w_1704) (hlen := Nat.le_of_ble_eq_true rfl) (hst := rfl) (hL0 := rfl)  ?_
  refine xr_aload_n (pc := 0) (i := 0) (hI := d_M_thrown_0) (hi := rfl) (hl := rfl) ?_
  refine xg_getf (pc := 1) (ci := 11) (k := 0) (N := 38) (v9 := 0) (v := (xpl h 53 0)) (T := xF11) (hI := d_M_thrown_1) (hw := w_1587) rfl xi11 (Or.inl rfl) (Nat.le_of_ble_eq_true rfl) (Nat.le_of_ble_eq_true rfl) rfl (ft_53 F) rfl (fun f1_ => ?_)
  replace f1_ : -2147483648 ≤ (xpl h 53 0) ∧ (xpl h 53 0) ≤ 2147483647 := f1_
  refine xr_ireturn (S := []) (pc := 4) (hI := d_M_thrown_4) (hr := rfl) ?_
  show xwp G (m_W_law nm9 hq9) (d + 220) 1077 [xR (-108), xR 0, xR 53, xR 91, xR 92, xI x5, xI x6, xI s0, xZ] [xI (xpl h 53 0)] _ _ _
  refine xr_iload (pc := 1077) (i := 6) (hI := d_W_law_1077) (hl := rfl) ?_
  refine xr_icmp_eq (pc := 1079) (tgt := 1084) (hI := d_W_law_1079) (ht := by decide) (fun q9 => ?_) (fun q9 => ?_)
  · replace hyp := hyp.1 q9
    have q2_ := q9
    clear q9
    refine xr_iload (pc := 1084) (i := 6) (hI := d_W_law_1084) (hl := rfl) ?_
    refine xr_if_ne (pc := 1086) (tgt := 1101) (hI := d_W_law_1086) (ht := by decide) (fun q9 => ?_) (fun q9 => ?_)
    · replace hyp := hyp.2 q9
      have q3_ := q9
      clear q9
      refine xr_goto (pc := 1101) (tgt := 2018) (hI := d_W_law_1101) (ht := by decide) ?_
      exact xr_drop (L9 := [xR (-108), xR 0, xR 53, xR 91, xR 92, xI x5, xZ, xZ, xZ]) (xdrs (xdrs (xdrs (xdrs (xdrs (xdrs (xdrz (xdrz (xdrs xdr0))))))))) hyp
    · replace hyp := hyp.1 q9
      have q3_ := q9
      clear q9
      refine xr_aload_n (pc := 1089) (i := 3) (hI := d_W_law_1089) (hi := rfl) (hl := rfl) ?_
      refine xr_iconst (pc := 1090) (hI := d_W_law_1090) (hr := by decide) ?_
      refine xg_laload (pc := 1091) (v := (xpl h 91 0)) (hI := d_W_law_1091) (ft_91 F) (by decide) (xlt_of (fl_91 F) (by decide)) rfl (fun f4_ => ?_)
      replace f4_ : -9223372036854775808 ≤ (xpl h 91 0) ∧ (xpl h 91 0) ≤ 9223372036854775807 := f4_
      refine xr_iload (pc := 1092) (i := 7) (hI := d_W_law_1092) (hl := rfl) ?_
      refine xr_i2l (pc := 1094) (hI := d_W_law_1094) ?_
      refine xr_lcmp (pc := 1095) (hI := d_W_law_1095) ?_
      refine xg_lif_eq (pc := 1096) (tgt := 1101) (hI := d_W_law_1096) (ht := by decide) (fun q9 => ?_) (fun q9 => ?_)
      · replace hyp := hyp.1 q9
        have q5_ := q9
        clear q9
        refine xr_goto (pc := 1101) (tgt := 2018) (hI := d_W_law_1101) (ht := by decide) ?_
        exact xr_drop (L9 := [xR (-108), xR 0, xR 53, xR 91, xR 92, xI x5, xZ, xZ, xZ]) (xdrs (xdrs (xdrs (xdrs (xdrs (xdrs (xdrz (xdrz (xdrs xdr0))))))))) hyp
      · replace hyp := hyp.2 q9
        have q5_ := q9
        clear q9
        refine xr_iconst (pc := 1099) (hI := d_W_law_1099) (hr := by decide) ?_
        refine xr_ireturnT (S := []) (pc := 1100) (hI := d_W_law_1100) (hr := rfl) (xnar_z (by decide)) ?_
        exact hyp
  · replace hyp := hyp.2 q9
    have q2_ := q9
    clear q9
    refine xr_iconst (pc := 1082) (hI := d_W_law_1082) (hr := by decide) ?_
    refine xr_ireturnT (S := []) (pc := 1083) (hI := d_W_law_1083) (hr := rfl) (xnar_z (by decide)) ?_
    exact hyp
theorem d_W_law_1104 : decode code 1104 = .ok (.aload_n 1, 1) := by decide +kernel
theorem d_W_law_1105 : decode code 1105 = .ok (.aload_n 0, 1) := by decide +kernel
theorem d_W_law_1106 : decode code 1106 = .ok (.iload 5, 2) := by decide +kernel
theorem d_W_law_1108 : decode code 1108 = .ok (.iconst 1, 1) := by decide +kernel
theorem d_W_law_1109 : decode code 1109 = .ok (.iadd, 1) := by decide +kernel
theorem d_W_law_1110 : decode code 1110 = .ok (.iaload, 1) := by decide +kernel
theorem d_W_law_1111 : decode code 1111 = .ok (.aload_n 3, 1) := by decide +kernel
theorem d_W_law_1112 : decode code 1112 = .ok (.invokestatic 177, 3) := by decide +kernel
theorem k_W_shelfOf : xCalH m_W_shelfOf 3 := ⟨List.mem_append_right _ (List.mem_of_getElem? (i := 1446) (by decide +kernel)), w_0, Nat.le_of_ble_eq_true rfl, ⟨by decide +kernel, by decide +kernel⟩, by decide +kernel, by decide +kernel⟩
theorem w_1444 : Cond.methodLink "BeaconIndexLaw" 177 ⟨"BeaconIndexLaw", "shelfOf", "(LBeaconIndex;I[J)I"⟩ ∈ lw_tbl := List.mem_append_right _ (List.mem_of_getElem? (i := 1444) (by decide +kernel))
theorem w_1445 : Cond.static ⟨"BeaconIndexLaw", "shelfOf", "(LBeaconIndex;I[J)I"⟩ ∈ lw_tbl := List.mem_append_right _ (List.mem_of_getElem? (i := 1445) (by decide +kernel))
theorem v_W_law_1104 {G : XG} {d : Nat} {h : XH} {Q : XV → XH → Prop} {X : Nat → XH → Prop} {x5 : Int} {n9 : Nat} {xs : Nat → Int32} {nm9 : String} {hq9 : List (Nat × Nat × Nat × Nat)} (SC : SCR G n9 xs) (F : xFix h) (hyp : xiR (x5 + 1) ∧ 0 ≤ (x5 + 1) ∧ (x5 + 1) < (n9 : Int) ∧ (xwp G m_W_shelfOf (d + 219) 0 [xR 0, xI (scV xs (x5 + 1)), xR 91, xZ] [] h (fun v9 h9 => xwp G (m_W_law nm9 hq9) (d + 220) 1115 [xR (-108), xR 0, xR 53, xR 91, xR 92, xI x5, xZ, xZ, xZ] (xpush v9 []) h9 Q X) (fun _ _ => False))) : xwp G (m_W_law nm9 hq9) (d + 220) 1104 [xR (-108), xR 0, xR 53, xR 91, xR 92, xI x5, xZ, xZ, xZ] [] h Q X := by
  have hnx9 : (93 : Int) ≤ xnx h := F.2.2
  refine xr_okL (fun hl9 => ?_)
  have r_x5 : -2147483648 ≤ x5 ∧ x5 ≤ 2147483647 := hl9 (xI x5) (.tail _ (.tail _ (.tail _ (.tail _ (.tail _ (.head _)))))) (Nat.le_of_ble_eq_true rfl)
  refine xr_aload_n (pc := 1104) (i := 1) (hI := d_W_law_1104) (hi := rfl) (hl := rfl) ?_
  refine xr_aload_n (pc := 1105) (i := 0) (hI := d_W_law_1105) (hi := rfl) (hl := rfl) ?_
  refine xr_iload (pc := 1106) (i := 5) (hI := d_W_law_1106) (hl := rfl) ?_
  refine xr_iconst (pc := 1108) (hI := d_W_law_1108) (hr := by decide) ?_
  obtain ⟨c9, hyp⟩ := hyp
  refine xr_iadd (pc := 1109) (hI := d_W_law_1109) (hr := c9) ?_
  obtain ⟨c8, c9, hyp⟩ := hyp
  refine xr_scd (pc := 1110) SC (hI := d_W_law_1110) c8 c9 ?_
  have f1_ : -2147483648 ≤ (scV xs (x5 + 1)) ∧ (scV xs (x5 + 1)) ≤ 2147483647 := xi_toR _
  refine xr_aload_n (pc := 1111) (i := 3) (hI := d_W_law_1111) (hi := rfl) (hl := rfl) ?_
  exact xl_callSW (pc := 1112) (index := 177) (K := m_W_shelfOf) (As := [xR 0, xI (scV xs (x5 + 1)), xR 91]) (S := []) (L0 := [xR 0, xI (scV xs (x5 + 1)), xR 91, xZ]) (hI := d_W_law_1112) (hK := k_W_shelfOf) (hlk := w_1444) (hS8 := Nat.le_of_ble_eq_true rfl) (hstat := w_1445) (hlen := Nat.le_of_ble_eq_true rfl) (hst := rfl) (hL0 := rfl)  hyp
theorem d_W_law_1115 : decode code 1115 = .ok (.istore 6, 2) := by decide +kernel
theorem d_W_law_1117 : decode code 1117 = .ok (.aload_n 2, 1) := by decide +kernel
theorem d_W_law_1118 : decode code 1118 = .ok (.aload_n 0, 1) := by decide +kernel
theorem d_W_law_1119 : decode code 1119 = .ok (.iload 5, 2) := by decide +kernel
theorem d_W_law_1121 : decode code 1121 = .ok (.iconst 1, 1) := by decide +kernel
theorem d_W_law_1122 : decode code 1122 = .ok (.iadd, 1) := by decide +kernel
theorem d_W_law_1123 : decode code 1123 = .ok (.iaload, 1) := by decide +kernel
theorem d_W_law_1124 : decode code 1124 = .ok (.invokevirtual 179, 3) := by decide +kernel
theorem k_M_shelfOf : xCal m_M_shelfOf 1 := ⟨List.mem_append_right _ (List.mem_of_getElem? (i := 2198) (by decide +kernel)), w_15, Nat.le_of_ble_eq_true rfl, ⟨by decide +kernel, by decide +kernel⟩, by decide +kernel, by decide +kernel, rfl⟩
theorem w_2195 : Cond.methodLink "BeaconIndexLaw" 179 ⟨"BeaconIndexModel", "shelfOf", "(I)I"⟩ ∈ lw_tbl := List.mem_append_right _ (List.mem_of_getElem? (i := 2195) (by decide +kernel))
theorem w_2196 : Cond.instanceMethod ⟨"BeaconIndexModel", "shelfOf", "(I)I"⟩ ∈ lw_tbl := List.mem_append_right _ (List.mem_of_getElem? (i := 2196) (by decide +kernel))
theorem w_2197 : Cond.selects "BeaconIndexModel" ⟨"BeaconIndexModel", "shelfOf", "(I)I"⟩ ⟨"BeaconIndexModel", "shelfOf", "(I)I"⟩ ∈ lw_tbl := List.mem_append_right _ (List.mem_of_getElem? (i := 2197) (by decide +kernel))
theorem v_W_law_1115 {G : XG} {d : Nat} {h : XH} {Q : XV → XH → Prop} {X : Nat → XH → Prop} {x5 s0 : Int} {n9 : Nat} {xs : Nat → Int32} {nm9 : String} {hq9 : List (Nat × Nat × Nat × Nat)} (SC : SCR G n9 xs) (F : xFix h) (hyp : xiR (x5 + 1) ∧ 0 ≤ (x5 + 1) ∧ (x5 + 1) < (n9 : Int) ∧ (xwp G m_M_shelfOf (d + 219) 0 [xR 53, xI (scV xs (x5 + 1)), xZ] [] h (fun v9 h9 => xwp G (m_W_law nm9 hq9) (d + 220) 1127 [xR (-108), xR 0, xR 53, xR 91, xR 92, xI x5, xI s0, xZ, xZ] (xpush v9 []) h9 Q X) (fun _ _ => False))) : xwp G (m_W_law nm9 hq9) (d + 220) 1115 [xR (-108), xR 0, xR 53, xR 91, xR 92, xI x5, xZ, xZ, xZ] [xI s0] h Q X := by
  have hnx9 : (93 : Int) ≤ xnx h := F.2.2
  refine xr_okL (fun hl9 => ?_)
  have r_x5 : -2147483648 ≤ x5 ∧ x5 ≤ 2147483647 := hl9 (xI x5) (.tail _ (.tail _ (.tail _ (.tail _ (.tail _ (.head _)))))) (Nat.le_of_ble_eq_true rfl)
  refine xr_okS (fun hs9 => ?_)
  have r_s0 : -2147483648 ≤ s0 ∧ s0 ≤ 2147483647 := hs9 (xI s0) (.head _)
  refine xr_istore (pc := 1115) (i := 6) (L9 := [xR (-108), xR 0, xR 53, xR 91, xR 92, xI x5, xI s0, xZ, xZ]) (hI := d_W_law_1115) (hn := Nat.le_of_ble_eq_true rfl) (hL9 := rfl) ?_
  refine xr_aload_n (pc := 1117) (i := 2) (hI := d_W_law_1117) (hi := rfl) (hl := rfl) ?_
  refine xr_aload_n (pc := 1118) (i := 0) (hI := d_W_law_1118) (hi := rfl) (hl := rfl) ?_
  refine xr_iload (pc := 1119) (i := 5) (hI := d_W_law_1119) (hl := rfl) ?_
  refine xr_iconst (pc := 1121) (hI := d_W_law_1121) (hr := by decide) ?_
  obtain ⟨c9, hyp⟩ := hyp
  refine xr_iadd (pc := 1122) (hI := d_W_law_1122) (hr := c9) ?_
  obtain ⟨c8, c9, hyp⟩ := hyp
  refine xr_scd (pc := 1123) SC (hI := d_W_law_1123) c8 c9 ?_
  have f1_ : -2147483648 ≤ (scV xs (x5 + 1)) ∧ (scV xs (x5 + 1)) ≤ 2147483647 := xi_toR _
  exact xl_callV (pc := 1124) (index := 179) (K := m_M_shelfOf) (As := [xI (scV xs (x5 + 1))]) (S := []) (L0 := [xR 53, xI (scV xs (x5 + 1)), xZ]) (hI := d_W_law_1124) (hK := k_M_shelfOf) (hlk := w_2195) (hS8 := Nat.le_of_ble_eq_true rfl) (ci := 11) (N := 38) (C := "BeaconIndexModel") (T := xF11) (hc := rfl) (hci := Nat.le_of_ble_eq_true rfl) (htb := (ft_53 F)) (hinst := w_2196) (hsel := w_2197) (hlen := Nat.le_of_ble_eq_true rfl) (hst := rfl) (hL0 := rfl)  hyp
theorem d_W_law_1127 : decode code 1127 = .ok (.istore 7, 2) := by decide +kernel
theorem d_W_law_1129 : decode code 1129 = .ok (.aload_n 2, 1) := by decide +kernel
theorem d_W_law_1130 : decode code 1130 = .ok (.invokevirtual 114, 3) := by decide +kernel
theorem d_W_law_1133 : decode code 1133 = .ok (.iload 6, 2) := by decide +kernel
theorem d_W_law_1135 : decode code 1135 = .ok (.if_icmp .eq 5, 3) := by decide +kernel
theorem d_W_law_1140 : decode code 1140 = .ok (.iload 6, 2) := by decide +kernel
theorem d_W_law_1142 : decode code 1142 = .ok (.ifCond .ne 15, 3) := by decide +kernel
theorem d_W_law_1157 : decode code 1157 = .ok (.goto 861, 3) := by decide +kernel
theorem d_W_law_1145 : decode code 1145 = .ok (.aload_n 3, 1) := by decide +kernel
theorem d_W_law_1146 : decode code 1146 = .ok (.iconst 0, 1) := by decide +kernel
theorem d_W_law_1147 : decode code 1147 = .ok (.laload, 1) := by decide +kernel
theorem d_W_law_1148 : decode code 1148 = .ok (.iload 7, 2) := by decide +kernel
theorem d_W_law_1150 : decode code 1150 = .ok (.i2l, 1) := by decide +kernel
theorem d_W_law_1151 : decode code 1151 = .ok (.lcmp, 1) := by decide +kernel
theorem d_W_law_1152 : decode code 1152 = .ok (.ifCond .eq 5, 3) := by decide +kernel
theorem d_W_law_1155 : decode code 1155 = .ok (.iconst 0, 1) := by decide +kernel
theorem d_W_law_1156 : decode code 1156 = .ok (.ireturn, 1) := by decide +kernel
theorem d_W_law_1138 : decode code 1138 = .ok (.iconst 0, 1) := by decide +kernel
theorem d_W_law_1139 : decode code 1139 = .ok (.ireturn, 1) := by decide +kernel
theorem v_W_law_1127 {G : XG} {d : Nat} {h : XH} {Q : XV → XH → Prop} {X : Nat → XH → Prop} {x5 x6 s0 : Int} {n9 : Nat} {xs : Nat → Int32} {nm9 : String} {hq9 : List (Nat × Nat × Nat × Nat)} (SC : SCR G n9 xs) (F : xFix h) (hyp : (((xpl h 53 0) = x6 → ((x6 = 0 → (((xpl h 91 0) = s0 → (xwp G (m_W_law nm9 hq9) (d + 220) 2018 [xR (-108), xR 0, xR 53, xR 91, xR 92, xI x5, xZ, xZ, xZ] [] h Q X)) ∧ (¬ (xpl h 91 0) = s0 → (Q (xI 0) h)))) ∧ (¬ x6 = 0 → (xwp G (m_W_law nm9 hq9) (d + 220) 2018 [xR (-108), xR 0, xR 53, xR 91, xR 92, xI x5, xZ, xZ, xZ] [] h Q X)))) ∧ (¬ (xpl h 53 0) = x6 → (Q (xI 0) h)))) : xwp G (m_W_law nm9 hq9) (d + 220) 1127 [xR (-108), xR 0, xR 53, xR 91, xR 92, xI x5, xI x6, xZ, xZ] [xI s0] h Q X := by
  have hnx9 : (93 : Int) ≤ xnx h := F.2.2
  refine xr_okL (fun hl9 => ?_)
  have r_x5 : -2147483648 ≤ x5 ∧ x5 ≤ 2147483647 := hl9 (xI x5) (.tail _ (.tail _ (.tail _ (.tail _ (.tail _ (.head _)))))) (Nat.le_of_ble_eq_true rfl)
  have r_x6 : -2147483648 ≤ x6 ∧ x6 ≤ 2147483647 := hl9 (xI x6) (.tail _ (.tail _ (.tail _ (.tail _ (.tail _ (.tail _ (.head _))))))) (Nat.le_of_ble_eq_true rfl)
  refine xr_okS (fun hs9 => ?_)
  have r_s0 : -2147483648 ≤ s0 ∧ s0 ≤ 2147483647 := hs9 (xI s0) (.head _)
  refine xr_istore (pc := 1127) (i := 7) (L9 := [xR (-108), xR 0, xR 53, xR 91, xR 92, xI x5, xI x6, xI s0, xZ]) (hI := d_W_law_1127) (hn := Nat.le_of_ble_eq_true rfl) (hL9 := rfl) ?_
  refine xr_aload_n (pc := 1129) (i := 2) (hI := d_W_law_1129) (hi := rfl) (hl := rfl) ?_
  refine xl_callV (pc := 1130) (index := 114) (K := m_M_thrown) (As := []) (S := []) (L0 := [xR 53]) (hI := d_W_law_1130) (hK := k_M_thrown) (hlk := w_1702) (hS8 := Nat.le_of_ble_eq_true rfl) (ci := 11) (N := 38) (C := "BeaconIndexModel") (T := xF11) (hc := rfl) (hci := Nat.le_of_ble_eq_true rfl) (htb := (ft_53 F)) (hinst := w_1703) (hsel := w_1704) (hlen := Nat.le_of_ble_eq_true rfl) (hst := rfl) (hL0 := rfl)  ?_
  refine xr_aload_n (pc := 0) (i := 0) (hI := d_M_thrown_0) (hi := rfl) (hl := rfl) ?_
  refine xg_getf (pc := 1) (ci := 11) (k := 0) (N := 38) (v9 := 0) (v := (xpl h 53 0)) (T := xF11) (hI := d_M_thrown_1) (hw := w_1587) rfl xi11 (Or.inl rfl) (Nat.le_of_ble_eq_true rfl) (Nat.le_of_ble_eq_true rfl) rfl (ft_53 F) rfl (fun f1_ => ?_)
  replace f1_ : -2147483648 ≤ (xpl h 53 0) ∧ (xpl h 53 0) ≤ 2147483647 := f1_
  refine xr_ireturn (S := []) (pc := 4) (hI := d_M_thrown_4) (hr := rfl) ?_
  show xwp G (m_W_law nm9 hq9) (d + 220) 1133 [xR (-108), xR 0, xR 53, xR 91, xR 92, xI x5, xI x6, xI s0, xZ] [xI (xpl h 53 0)] _ _ _
  refine xr_iload (pc := 1133) (i := 6) (hI := d_W_law_1133) (hl := rfl) ?_
  refine xr_icmp_eq (pc := 1135) (tgt := 1140) (hI := d_W_law_1135) (ht := by decide) (fun q9 => ?_) (fun q9 => ?_)
  · replace hyp := hyp.1 q9
    have q2_ := q9
    clear q9
    refine xr_iload (pc := 1140) (i := 6) (hI := d_W_law_1140) (hl := rfl) ?_
    refine xr_if_ne (pc := 1142) (tgt := 1157) (hI := d_W_law_1142) (ht := by decide) (fun q9 => ?_) (fun q9 => ?_)
    · replace hyp := hyp.2 q9
      have q3_ := q9
      clear q9
      refine xr_goto (pc := 1157) (tgt := 2018) (hI := d_W_law_1157) (ht := by decide) ?_
      exact xr_drop (L9 := [xR (-108), xR 0, xR 53, xR 91, xR 92, xI x5, xZ, xZ, xZ]) (xdrs (xdrs (xdrs (xdrs (xdrs (xdrs (xdrz (xdrz (xdrs xdr0))))))))) hyp
    · replace hyp := hyp.1 q9
      have q3_ := q9
      clear q9
      refine xr_aload_n (pc := 1145) (i := 3) (hI := d_W_law_1145) (hi := rfl) (hl := rfl) ?_
      refine xr_iconst (pc := 1146) (hI := d_W_law_1146) (hr := by decide) ?_
      refine xg_laload (pc := 1147) (v := (xpl h 91 0)) (hI := d_W_law_1147) (ft_91 F) (by decide) (xlt_of (fl_91 F) (by decide)) rfl (fun f4_ => ?_)
      replace f4_ : -9223372036854775808 ≤ (xpl h 91 0) ∧ (xpl h 91 0) ≤ 9223372036854775807 := f4_
      refine xr_iload (pc := 1148) (i := 7) (hI := d_W_law_1148) (hl := rfl) ?_
      refine xr_i2l (pc := 1150) (hI := d_W_law_1150) ?_
      refine xr_lcmp (pc := 1151) (hI := d_W_law_1151) ?_
      refine xg_lif_eq (pc := 1152) (tgt := 1157) (hI := d_W_law_1152) (ht := by decide) (fun q9 => ?_) (fun q9 => ?_)
      · replace hyp := hyp.1 q9
        have q5_ := q9
        clear q9
        refine xr_goto (pc := 1157) (tgt := 2018) (hI := d_W_law_1157) (ht := by decide) ?_
        exact xr_drop (L9 := [xR (-108), xR 0, xR 53, xR 91, xR 92, xI x5, xZ, xZ, xZ]) (xdrs (xdrs (xdrs (xdrs (xdrs (xdrs (xdrz (xdrz (xdrs xdr0))))))))) hyp
      · replace hyp := hyp.2 q9
        have q5_ := q9
        clear q9
        refine xr_iconst (pc := 1155) (hI := d_W_law_1155) (hr := by decide) ?_
        refine xr_ireturnT (S := []) (pc := 1156) (hI := d_W_law_1156) (hr := rfl) (xnar_z (by decide)) ?_
        exact hyp
  · replace hyp := hyp.2 q9
    have q2_ := q9
    clear q9
    refine xr_iconst (pc := 1138) (hI := d_W_law_1138) (hr := by decide) ?_
    refine xr_ireturnT (S := []) (pc := 1139) (hI := d_W_law_1139) (hr := rfl) (xnar_z (by decide)) ?_
    exact hyp
theorem d_W_law_1160 : decode code 1160 = .ok (.aload_n 1, 1) := by decide +kernel
theorem d_W_law_1161 : decode code 1161 = .ok (.invokevirtual 180, 3) := by decide +kernel
theorem k_B_takeWord : xCal m_B_takeWord 0 := ⟨List.mem_append_right _ (List.mem_of_getElem? (i := 786) (by decide +kernel)), w_1, Nat.le_of_ble_eq_true rfl, ⟨by decide +kernel, by decide +kernel⟩, by decide +kernel, by decide +kernel, rfl⟩
theorem w_783 : Cond.methodLink "BeaconIndexLaw" 180 ⟨"BeaconIndex", "takeWord", "()I"⟩ ∈ lw_tbl := List.mem_append_right _ (List.mem_of_getElem? (i := 783) (by decide +kernel))
theorem w_784 : Cond.instanceMethod ⟨"BeaconIndex", "takeWord", "()I"⟩ ∈ lw_tbl := List.mem_append_right _ (List.mem_of_getElem? (i := 784) (by decide +kernel))
theorem w_785 : Cond.selects "BeaconIndex" ⟨"BeaconIndex", "takeWord", "()I"⟩ ⟨"BeaconIndex", "takeWord", "()I"⟩ ∈ lw_tbl := List.mem_append_right _ (List.mem_of_getElem? (i := 785) (by decide +kernel))
theorem v_W_law_1160 {G : XG} {d : Nat} {h : XH} {Q : XV → XH → Prop} {X : Nat → XH → Prop} {x5 : Int} {n9 : Nat} {xs : Nat → Int32} {nm9 : String} {hq9 : List (Nat × Nat × Nat × Nat)} (SC : SCR G n9 xs) (F : xFix h) (hyp : (xwp G m_B_takeWord (d + 219) 0 [xR 0] [] h (fun v9 h9 => xwp G (m_W_law nm9 hq9) (d + 220) 1164 [xR (-108), xR 0, xR 53, xR 91, xR 92, xI x5, xZ, xZ, xZ] (xpush v9 []) h9 Q X) (fun _ _ => False))) : xwp G (m_W_law nm9 hq9) (d + 220) 1160 [xR (-108), xR 0, xR 53, xR 91, xR 92, xI x5, xZ, xZ, xZ] [] h Q X := by
  have hnx9 : (93 : Int) ≤ xnx h := F.2.2
  refine xr_okL (fun hl9 => ?_)
  have r_x5 : -2147483648 ≤ x5 ∧ x5 ≤ 2147483647 := hl9 (xI x5) (.tail _ (.tail _ (.tail _ (.tail _ (.tail _ (.head _)))))) (Nat.le_of_ble_eq_true rfl)
  refine xr_aload_n (pc := 1160) (i := 1) (hI := d_W_law_1160) (hi := rfl) (hl := rfl) ?_
  exact xl_callV (pc := 1161) (index := 180) (K := m_B_takeWord) (As := []) (S := []) (L0 := [xR 0]) (hI := d_W_law_1161) (hK := k_B_takeWord) (hlk := w_783) (hS8 := Nat.le_of_ble_eq_true rfl) (ci := 0) (N := 7) (C := "BeaconIndex") (T := xF0) (hc := rfl) (hci := Nat.le_of_ble_eq_true rfl) (htb := (ft_0 F)) (hinst := w_784) (hsel := w_785) (hlen := Nat.le_of_ble_eq_true rfl) (hst := rfl) (hL0 := rfl)  hyp
theorem d_W_law_1164 : decode code 1164 = .ok (.aload_n 2, 1) := by decide +kernel
theorem d_W_law_1165 : decode code 1165 = .ok (.invokevirtual 183, 3) := by decide +kernel
theorem k_M_takeWord : xCal m_M_takeWord 0 := ⟨List.mem_append_right _ (List.mem_of_getElem? (i := 2202) (by decide +kernel)), w_15, Nat.le_of_ble_eq_true rfl, ⟨by decide +kernel, by decide +kernel⟩, by decide +kernel, by decide +kernel, rfl⟩
theorem w_2199 : Cond.methodLink "BeaconIndexLaw" 183 ⟨"BeaconIndexModel", "takeWord", "()I"⟩ ∈ lw_tbl := List.mem_append_right _ (List.mem_of_getElem? (i := 2199) (by decide +kernel))
theorem w_2200 : Cond.instanceMethod ⟨"BeaconIndexModel", "takeWord", "()I"⟩ ∈ lw_tbl := List.mem_append_right _ (List.mem_of_getElem? (i := 2200) (by decide +kernel))
theorem w_2201 : Cond.selects "BeaconIndexModel" ⟨"BeaconIndexModel", "takeWord", "()I"⟩ ⟨"BeaconIndexModel", "takeWord", "()I"⟩ ∈ lw_tbl := List.mem_append_right _ (List.mem_of_getElem? (i := 2201) (by decide +kernel))
theorem v_W_law_1164 {G : XG} {d : Nat} {h : XH} {Q : XV → XH → Prop} {X : Nat → XH → Prop} {x5 s0 : Int} {n9 : Nat} {xs : Nat → Int32} {nm9 : String} {hq9 : List (Nat × Nat × Nat × Nat)} (SC : SCR G n9 xs) (F : xFix h) (hyp : (xwp G m_M_takeWord (d + 219) 0 [xR 53, xZ] [] h (fun v9 h9 => xwp G (m_W_law nm9 hq9) (d + 220) 1168 [xR (-108), xR 0, xR 53, xR 91, xR 92, xI x5, xZ, xZ, xZ] (xpush v9 [xI s0]) h9 Q X) (fun _ _ => False))) : xwp G (m_W_law nm9 hq9) (d + 220) 1164 [xR (-108), xR 0, xR 53, xR 91, xR 92, xI x5, xZ, xZ, xZ] [xI s0] h Q X := by
  have hnx9 : (93 : Int) ≤ xnx h := F.2.2
  refine xr_okL (fun hl9 => ?_)
  have r_x5 : -2147483648 ≤ x5 ∧ x5 ≤ 2147483647 := hl9 (xI x5) (.tail _ (.tail _ (.tail _ (.tail _ (.tail _ (.head _)))))) (Nat.le_of_ble_eq_true rfl)
  refine xr_okS (fun hs9 => ?_)
  have r_s0 : -2147483648 ≤ s0 ∧ s0 ≤ 2147483647 := hs9 (xI s0) (.head _)
  refine xr_aload_n (pc := 1164) (i := 2) (hI := d_W_law_1164) (hi := rfl) (hl := rfl) ?_
  exact xl_callV (pc := 1165) (index := 183) (K := m_M_takeWord) (As := []) (S := [xI s0]) (L0 := [xR 53, xZ]) (hI := d_W_law_1165) (hK := k_M_takeWord) (hlk := w_2199) (hS8 := Nat.le_of_ble_eq_true rfl) (ci := 11) (N := 38) (C := "BeaconIndexModel") (T := xF11) (hc := rfl) (hci := Nat.le_of_ble_eq_true rfl) (htb := (ft_53 F)) (hinst := w_2200) (hsel := w_2201) (hlen := Nat.le_of_ble_eq_true rfl) (hst := rfl) (hL0 := rfl)  hyp
theorem d_W_law_1168 : decode code 1168 = .ok (.if_icmp .eq 850, 3) := by decide +kernel
theorem d_W_law_1171 : decode code 1171 = .ok (.iconst 0, 1) := by decide +kernel
theorem d_W_law_1172 : decode code 1172 = .ok (.ireturn, 1) := by decide +kernel
theorem v_W_law_1168 {G : XG} {d : Nat} {h : XH} {Q : XV → XH → Prop} {X : Nat → XH → Prop} {x5 s0 s1 : Int} {n9 : Nat} {xs : Nat → Int32} {nm9 : String} {hq9 : List (Nat × Nat × Nat × Nat)} (SC : SCR G n9 xs) (F : xFix h) (hyp : ((s1 = s0 → (xwp G (m_W_law nm9 hq9) (d + 220) 2018 [xR (-108), xR 0, xR 53, xR 91, xR 92, xI x5, xZ, xZ, xZ] [] h Q X)) ∧ (¬ s1 = s0 → (Q (xI 0) h)))) : xwp G (m_W_law nm9 hq9) (d + 220) 1168 [xR (-108), xR 0, xR 53, xR 91, xR 92, xI x5, xZ, xZ, xZ] [xI s0, xI s1] h Q X := by
  have hnx9 : (93 : Int) ≤ xnx h := F.2.2
  refine xr_okL (fun hl9 => ?_)
  have r_x5 : -2147483648 ≤ x5 ∧ x5 ≤ 2147483647 := hl9 (xI x5) (.tail _ (.tail _ (.tail _ (.tail _ (.tail _ (.head _)))))) (Nat.le_of_ble_eq_true rfl)
  refine xr_okS (fun hs9 => ?_)
  have r_s0 : -2147483648 ≤ s0 ∧ s0 ≤ 2147483647 := hs9 (xI s0) (.head _)
  have r_s1 : -2147483648 ≤ s1 ∧ s1 ≤ 2147483647 := hs9 (xI s1) (.tail _ (.head _))
  refine xr_icmp_eq (pc := 1168) (tgt := 2018) (hI := d_W_law_1168) (ht := by decide) (fun q9 => ?_) (fun q9 => ?_)
  · replace hyp := hyp.1 q9
    have q1_ := q9
    clear q9
    exact hyp
  · replace hyp := hyp.2 q9
    have q1_ := q9
    clear q9
    refine xr_iconst (pc := 1171) (hI := d_W_law_1171) (hr := by decide) ?_
    refine xr_ireturnT (S := []) (pc := 1172) (hI := d_W_law_1172) (hr := rfl) (xnar_z (by decide)) ?_
    exact hyp
theorem d_W_law_1173 : decode code 1173 = .ok (.aload_n 1, 1) := by decide +kernel
theorem d_W_law_1174 : decode code 1174 = .ok (.aload_n 0, 1) := by decide +kernel
theorem d_W_law_1175 : decode code 1175 = .ok (.iload 5, 2) := by decide +kernel
theorem d_W_law_1177 : decode code 1177 = .ok (.iconst 1, 1) := by decide +kernel
theorem d_W_law_1178 : decode code 1178 = .ok (.iadd, 1) := by decide +kernel
theorem d_W_law_1179 : decode code 1179 = .ok (.iaload, 1) := by decide +kernel
theorem d_W_law_1180 : decode code 1180 = .ok (.aload_n 3, 1) := by decide +kernel
theorem d_W_law_1181 : decode code 1181 = .ok (.invokestatic 184, 3) := by decide +kernel
theorem k_W_wordByte : xCalH m_W_wordByte 3 := ⟨List.mem_append_right _ (List.mem_of_getElem? (i := 1453) (by decide +kernel)), w_0, Nat.le_of_ble_eq_true rfl, ⟨by decide +kernel, by decide +kernel⟩, by decide +kernel, by decide +kernel⟩
theorem w_1451 : Cond.methodLink "BeaconIndexLaw" 184 ⟨"BeaconIndexLaw", "wordByte", "(LBeaconIndex;I[J)I"⟩ ∈ lw_tbl := List.mem_append_right _ (List.mem_of_getElem? (i := 1451) (by decide +kernel))
theorem w_1452 : Cond.static ⟨"BeaconIndexLaw", "wordByte", "(LBeaconIndex;I[J)I"⟩ ∈ lw_tbl := List.mem_append_right _ (List.mem_of_getElem? (i := 1452) (by decide +kernel))
theorem v_W_law_1173 {G : XG} {d : Nat} {h : XH} {Q : XV → XH → Prop} {X : Nat → XH → Prop} {x5 : Int} {n9 : Nat} {xs : Nat → Int32} {nm9 : String} {hq9 : List (Nat × Nat × Nat × Nat)} (SC : SCR G n9 xs) (F : xFix h) (hyp : xiR (x5 + 1) ∧ 0 ≤ (x5 + 1) ∧ (x5 + 1) < (n9 : Int) ∧ (xwp G m_W_wordByte (d + 219) 0 [xR 0, xI (scV xs (x5 + 1)), xR 91, xZ] [] h (fun v9 h9 => xwp G (m_W_law nm9 hq9) (d + 220) 1184 [xR (-108), xR 0, xR 53, xR 91, xR 92, xI x5, xZ, xZ, xZ] (xpush v9 []) h9 Q X) (fun _ _ => False))) : xwp G (m_W_law nm9 hq9) (d + 220) 1173 [xR (-108), xR 0, xR 53, xR 91, xR 92, xI x5, xZ, xZ, xZ] [] h Q X := by
  have hnx9 : (93 : Int) ≤ xnx h := F.2.2
  refine xr_okL (fun hl9 => ?_)
  have r_x5 : -2147483648 ≤ x5 ∧ x5 ≤ 2147483647 := hl9 (xI x5) (.tail _ (.tail _ (.tail _ (.tail _ (.tail _ (.head _)))))) (Nat.le_of_ble_eq_true rfl)
  refine xr_aload_n (pc := 1173) (i := 1) (hI := d_W_law_1173) (hi := rfl) (hl := rfl) ?_
  refine xr_aload_n (pc := 1174) (i := 0) (hI := d_W_law_1174) (hi := rfl) (hl := rfl) ?_
  refine xr_iload (pc := 1175) (i := 5) (hI := d_W_law_1175) (hl := rfl) ?_
  refine xr_iconst (pc := 1177) (hI := d_W_law_1177) (hr := by decide) ?_
  obtain ⟨c9, hyp⟩ := hyp
  refine xr_iadd (pc := 1178) (hI := d_W_law_1178) (hr := c9) ?_
  obtain ⟨c8, c9, hyp⟩ := hyp
  refine xr_scd (pc := 1179) SC (hI := d_W_law_1179) c8 c9 ?_
  have f1_ : -2147483648 ≤ (scV xs (x5 + 1)) ∧ (scV xs (x5 + 1)) ≤ 2147483647 := xi_toR _
  refine xr_aload_n (pc := 1180) (i := 3) (hI := d_W_law_1180) (hi := rfl) (hl := rfl) ?_
  exact xl_callSW (pc := 1181) (index := 184) (K := m_W_wordByte) (As := [xR 0, xI (scV xs (x5 + 1)), xR 91]) (S := []) (L0 := [xR 0, xI (scV xs (x5 + 1)), xR 91, xZ]) (hI := d_W_law_1181) (hK := k_W_wordByte) (hlk := w_1451) (hS8 := Nat.le_of_ble_eq_true rfl) (hstat := w_1452) (hlen := Nat.le_of_ble_eq_true rfl) (hst := rfl) (hL0 := rfl)  hyp
theorem d_W_law_1184 : decode code 1184 = .ok (.istore 6, 2) := by decide +kernel
theorem d_W_law_1186 : decode code 1186 = .ok (.aload_n 2, 1) := by decide +kernel
theorem d_W_law_1187 : decode code 1187 = .ok (.aload_n 0, 1) := by decide +kernel
theorem d_W_law_1188 : decode code 1188 = .ok (.iload 5, 2) := by decide +kernel
theorem d_W_law_1190 : decode code 1190 = .ok (.iconst 1, 1) := by decide +kernel
theorem d_W_law_1191 : decode code 1191 = .ok (.iadd, 1) := by decide +kernel
theorem d_W_law_1192 : decode code 1192 = .ok (.iaload, 1) := by decide +kernel
theorem d_W_law_1193 : decode code 1193 = .ok (.invokevirtual 186, 3) := by decide +kernel
theorem w_2212 : Cond.methodLink "BeaconIndexLaw" 186 ⟨"BeaconIndexModel", "wordByte", "(I)I"⟩ ∈ lw_tbl := List.mem_append_right _ (List.mem_of_getElem? (i := 2212) (by decide +kernel))
theorem v_W_law_1184 {G : XG} {d : Nat} {h : XH} {Q : XV → XH → Prop} {X : Nat → XH → Prop} {x5 s0 : Int} {n9 : Nat} {xs : Nat → Int32} {nm9 : String} {hq9 : List (Nat × Nat × Nat × Nat)} (SC : SCR G n9 xs) (F : xFix h) (hyp : xiR (x5 + 1) ∧ 0 ≤ (x5 + 1) ∧ (x5 + 1) < (n9 : Int) ∧ (xwp G m_M_wordByte (d + 219) 0 [xR 53, xI (scV xs (x5 + 1)), xZ] [] h (fun v9 h9 => xwp G (m_W_law nm9 hq9) (d + 220) 1196 [xR (-108), xR 0, xR 53, xR 91, xR 92, xI x5, xI s0, xZ, xZ] (xpush v9 []) h9 Q X) (fun _ _ => False))) : xwp G (m_W_law nm9 hq9) (d + 220) 1184 [xR (-108), xR 0, xR 53, xR 91, xR 92, xI x5, xZ, xZ, xZ] [xI s0] h Q X := by
  have hnx9 : (93 : Int) ≤ xnx h := F.2.2
  refine xr_okL (fun hl9 => ?_)
  have r_x5 : -2147483648 ≤ x5 ∧ x5 ≤ 2147483647 := hl9 (xI x5) (.tail _ (.tail _ (.tail _ (.tail _ (.tail _ (.head _)))))) (Nat.le_of_ble_eq_true rfl)
  refine xr_okS (fun hs9 => ?_)
  have r_s0 : -2147483648 ≤ s0 ∧ s0 ≤ 2147483647 := hs9 (xI s0) (.head _)
  refine xr_istore (pc := 1184) (i := 6) (L9 := [xR (-108), xR 0, xR 53, xR 91, xR 92, xI x5, xI s0, xZ, xZ]) (hI := d_W_law_1184) (hn := Nat.le_of_ble_eq_true rfl) (hL9 := rfl) ?_
  refine xr_aload_n (pc := 1186) (i := 2) (hI := d_W_law_1186) (hi := rfl) (hl := rfl) ?_
  refine xr_aload_n (pc := 1187) (i := 0) (hI := d_W_law_1187) (hi := rfl) (hl := rfl) ?_
  refine xr_iload (pc := 1188) (i := 5) (hI := d_W_law_1188) (hl := rfl) ?_
  refine xr_iconst (pc := 1190) (hI := d_W_law_1190) (hr := by decide) ?_
  obtain ⟨c9, hyp⟩ := hyp
  refine xr_iadd (pc := 1191) (hI := d_W_law_1191) (hr := c9) ?_
  obtain ⟨c8, c9, hyp⟩ := hyp
  refine xr_scd (pc := 1192) SC (hI := d_W_law_1192) c8 c9 ?_
  have f1_ : -2147483648 ≤ (scV xs (x5 + 1)) ∧ (scV xs (x5 + 1)) ≤ 2147483647 := xi_toR _
  exact xl_callV (pc := 1193) (index := 186) (K := m_M_wordByte) (As := [xI (scV xs (x5 + 1))]) (S := []) (L0 := [xR 53, xI (scV xs (x5 + 1)), xZ]) (hI := d_W_law_1193) (hK := k_M_wordByte) (hlk := w_2212) (hS8 := Nat.le_of_ble_eq_true rfl) (ci := 11) (N := 38) (C := "BeaconIndexModel") (T := xF11) (hc := rfl) (hci := Nat.le_of_ble_eq_true rfl) (htb := (ft_53 F)) (hinst := w_2213) (hsel := w_2214) (hlen := Nat.le_of_ble_eq_true rfl) (hst := rfl) (hL0 := rfl)  hyp
theorem d_W_law_1196 : decode code 1196 = .ok (.istore 7, 2) := by decide +kernel
theorem d_W_law_1198 : decode code 1198 = .ok (.aload_n 2, 1) := by decide +kernel
theorem d_W_law_1199 : decode code 1199 = .ok (.invokevirtual 114, 3) := by decide +kernel
theorem d_W_law_1202 : decode code 1202 = .ok (.iload 6, 2) := by decide +kernel
theorem d_W_law_1204 : decode code 1204 = .ok (.if_icmp .eq 5, 3) := by decide +kernel
theorem d_W_law_1209 : decode code 1209 = .ok (.iload 6, 2) := by decide +kernel
theorem d_W_law_1211 : decode code 1211 = .ok (.ifCond .ne 15, 3) := by decide +kernel
theorem d_W_law_1226 : decode code 1226 = .ok (.goto 792, 3) := by decide +kernel
theorem d_W_law_1214 : decode code 1214 = .ok (.aload_n 3, 1) := by decide +kernel
theorem d_W_law_1215 : decode code 1215 = .ok (.iconst 0, 1) := by decide +kernel
theorem d_W_law_1216 : decode code 1216 = .ok (.laload, 1) := by decide +kernel
theorem d_W_law_1217 : decode code 1217 = .ok (.iload 7, 2) := by decide +kernel
theorem d_W_law_1219 : decode code 1219 = .ok (.i2l, 1) := by decide +kernel
theorem d_W_law_1220 : decode code 1220 = .ok (.lcmp, 1) := by decide +kernel
theorem d_W_law_1221 : decode code 1221 = .ok (.ifCond .eq 5, 3) := by decide +kernel
theorem d_W_law_1224 : decode code 1224 = .ok (.iconst 0, 1) := by decide +kernel
theorem d_W_law_1225 : decode code 1225 = .ok (.ireturn, 1) := by decide +kernel
theorem d_W_law_1207 : decode code 1207 = .ok (.iconst 0, 1) := by decide +kernel
theorem d_W_law_1208 : decode code 1208 = .ok (.ireturn, 1) := by decide +kernel
theorem v_W_law_1196 {G : XG} {d : Nat} {h : XH} {Q : XV → XH → Prop} {X : Nat → XH → Prop} {x5 x6 s0 : Int} {n9 : Nat} {xs : Nat → Int32} {nm9 : String} {hq9 : List (Nat × Nat × Nat × Nat)} (SC : SCR G n9 xs) (F : xFix h) (hyp : (((xpl h 53 0) = x6 → ((x6 = 0 → (((xpl h 91 0) = s0 → (xwp G (m_W_law nm9 hq9) (d + 220) 2018 [xR (-108), xR 0, xR 53, xR 91, xR 92, xI x5, xZ, xZ, xZ] [] h Q X)) ∧ (¬ (xpl h 91 0) = s0 → (Q (xI 0) h)))) ∧ (¬ x6 = 0 → (xwp G (m_W_law nm9 hq9) (d + 220) 2018 [xR (-108), xR 0, xR 53, xR 91, xR 92, xI x5, xZ, xZ, xZ] [] h Q X)))) ∧ (¬ (xpl h 53 0) = x6 → (Q (xI 0) h)))) : xwp G (m_W_law nm9 hq9) (d + 220) 1196 [xR (-108), xR 0, xR 53, xR 91, xR 92, xI x5, xI x6, xZ, xZ] [xI s0] h Q X := by
  have hnx9 : (93 : Int) ≤ xnx h := F.2.2
  refine xr_okL (fun hl9 => ?_)
  have r_x5 : -2147483648 ≤ x5 ∧ x5 ≤ 2147483647 := hl9 (xI x5) (.tail _ (.tail _ (.tail _ (.tail _ (.tail _ (.head _)))))) (Nat.le_of_ble_eq_true rfl)
  have r_x6 : -2147483648 ≤ x6 ∧ x6 ≤ 2147483647 := hl9 (xI x6) (.tail _ (.tail _ (.tail _ (.tail _ (.tail _ (.tail _ (.head _))))))) (Nat.le_of_ble_eq_true rfl)
  refine xr_okS (fun hs9 => ?_)
  have r_s0 : -2147483648 ≤ s0 ∧ s0 ≤ 2147483647 := hs9 (xI s0) (.head _)
  refine xr_istore (pc := 1196) (i := 7) (L9 := [xR (-108), xR 0, xR 53, xR 91, xR 92, xI x5, xI x6, xI s0, xZ]) (hI := d_W_law_1196) (hn := Nat.le_of_ble_eq_true rfl) (hL9 := rfl) ?_
  refine xr_aload_n (pc := 1198) (i := 2) (hI := d_W_law_1198) (hi := rfl) (hl := rfl) ?_
  refine xl_callV (pc := 1199) (index := 114) (K := m_M_thrown) (As := []) (S := []) (L0 := [xR 53]) (hI := d_W_law_1199) (hK := k_M_thrown) (hlk := w_1702) (hS8 := Nat.le_of_ble_eq_true rfl) (ci := 11) (N := 38) (C := "BeaconIndexModel") (T := xF11) (hc := rfl) (hci := Nat.le_of_ble_eq_true rfl) (htb := (ft_53 F)) (hinst := w_1703) (hsel := w_1704) (hlen := Nat.le_of_ble_eq_true rfl) (hst := rfl) (hL0 := rfl)  ?_
  refine xr_aload_n (pc := 0) (i := 0) (hI := d_M_thrown_0) (hi := rfl) (hl := rfl) ?_
  refine xg_getf (pc := 1) (ci := 11) (k := 0) (N := 38) (v9 := 0) (v := (xpl h 53 0)) (T := xF11) (hI := d_M_thrown_1) (hw := w_1587) rfl xi11 (Or.inl rfl) (Nat.le_of_ble_eq_true rfl) (Nat.le_of_ble_eq_true rfl) rfl (ft_53 F) rfl (fun f1_ => ?_)
  replace f1_ : -2147483648 ≤ (xpl h 53 0) ∧ (xpl h 53 0) ≤ 2147483647 := f1_
  refine xr_ireturn (S := []) (pc := 4) (hI := d_M_thrown_4) (hr := rfl) ?_
  show xwp G (m_W_law nm9 hq9) (d + 220) 1202 [xR (-108), xR 0, xR 53, xR 91, xR 92, xI x5, xI x6, xI s0, xZ] [xI (xpl h 53 0)] _ _ _
  refine xr_iload (pc := 1202) (i := 6) (hI := d_W_law_1202) (hl := rfl) ?_
  refine xr_icmp_eq (pc := 1204) (tgt := 1209) (hI := d_W_law_1204) (ht := by decide) (fun q9 => ?_) (fun q9 => ?_)
  · replace hyp := hyp.1 q9
    have q2_ := q9
    clear q9
    refine xr_iload (pc := 1209) (i := 6) (hI := d_W_law_1209) (hl := rfl) ?_
    refine xr_if_ne (pc := 1211) (tgt := 1226) (hI := d_W_law_1211) (ht := by decide) (fun q9 => ?_) (fun q9 => ?_)
    · replace hyp := hyp.2 q9
      have q3_ := q9
      clear q9
      refine xr_goto (pc := 1226) (tgt := 2018) (hI := d_W_law_1226) (ht := by decide) ?_
      exact xr_drop (L9 := [xR (-108), xR 0, xR 53, xR 91, xR 92, xI x5, xZ, xZ, xZ]) (xdrs (xdrs (xdrs (xdrs (xdrs (xdrs (xdrz (xdrz (xdrs xdr0))))))))) hyp
    · replace hyp := hyp.1 q9
      have q3_ := q9
      clear q9
      refine xr_aload_n (pc := 1214) (i := 3) (hI := d_W_law_1214) (hi := rfl) (hl := rfl) ?_
      refine xr_iconst (pc := 1215) (hI := d_W_law_1215) (hr := by decide) ?_
      refine xg_laload (pc := 1216) (v := (xpl h 91 0)) (hI := d_W_law_1216) (ft_91 F) (by decide) (xlt_of (fl_91 F) (by decide)) rfl (fun f4_ => ?_)
      replace f4_ : -9223372036854775808 ≤ (xpl h 91 0) ∧ (xpl h 91 0) ≤ 9223372036854775807 := f4_
      refine xr_iload (pc := 1217) (i := 7) (hI := d_W_law_1217) (hl := rfl) ?_
      refine xr_i2l (pc := 1219) (hI := d_W_law_1219) ?_
      refine xr_lcmp (pc := 1220) (hI := d_W_law_1220) ?_
      refine xg_lif_eq (pc := 1221) (tgt := 1226) (hI := d_W_law_1221) (ht := by decide) (fun q9 => ?_) (fun q9 => ?_)
      · replace hyp := hyp.1 q9
        have q5_ := q9
        clear q9
        refine xr_goto (pc := 1226) (tgt := 2018) (hI := d_W_law_1226) (ht := by decide) ?_
        exact xr_drop (L9 := [xR (-108), xR 0, xR 53, xR 91, xR 92, xI x5, xZ, xZ, xZ]) (xdrs (xdrs (xdrs (xdrs (xdrs (xdrs (xdrz (xdrz (xdrs xdr0))))))))) hyp
      · replace hyp := hyp.2 q9
        have q5_ := q9
        clear q9
        refine xr_iconst (pc := 1224) (hI := d_W_law_1224) (hr := by decide) ?_
        refine xr_ireturnT (S := []) (pc := 1225) (hI := d_W_law_1225) (hr := rfl) (xnar_z (by decide)) ?_
        exact hyp
  · replace hyp := hyp.2 q9
    have q2_ := q9
    clear q9
    refine xr_iconst (pc := 1207) (hI := d_W_law_1207) (hr := by decide) ?_
    refine xr_ireturnT (S := []) (pc := 1208) (hI := d_W_law_1208) (hr := rfl) (xnar_z (by decide)) ?_
    exact hyp
theorem d_W_law_1229 : decode code 1229 = .ok (.aload_n 1, 1) := by decide +kernel
theorem d_W_law_1230 : decode code 1230 = .ok (.aload_n 0, 1) := by decide +kernel
theorem d_W_law_1231 : decode code 1231 = .ok (.iload 5, 2) := by decide +kernel
theorem d_W_law_1233 : decode code 1233 = .ok (.iconst 1, 1) := by decide +kernel
theorem d_W_law_1234 : decode code 1234 = .ok (.iadd, 1) := by decide +kernel
theorem d_W_law_1235 : decode code 1235 = .ok (.iaload, 1) := by decide +kernel
theorem d_W_law_1236 : decode code 1236 = .ok (.aload_n 3, 1) := by decide +kernel
theorem d_W_law_1237 : decode code 1237 = .ok (.invokestatic 187, 3) := by decide +kernel
theorem k_W_textsWith : xCalH m_W_textsWith 3 := ⟨List.mem_append_right _ (List.mem_of_getElem? (i := 1457) (by decide +kernel)), w_0, Nat.le_of_ble_eq_true rfl, ⟨by decide +kernel, by decide +kernel⟩, by decide +kernel, by decide +kernel⟩
theorem w_1455 : Cond.methodLink "BeaconIndexLaw" 187 ⟨"BeaconIndexLaw", "textsWith", "(LBeaconIndex;I[J)I"⟩ ∈ lw_tbl := List.mem_append_right _ (List.mem_of_getElem? (i := 1455) (by decide +kernel))
theorem w_1456 : Cond.static ⟨"BeaconIndexLaw", "textsWith", "(LBeaconIndex;I[J)I"⟩ ∈ lw_tbl := List.mem_append_right _ (List.mem_of_getElem? (i := 1456) (by decide +kernel))
theorem v_W_law_1229 {G : XG} {d : Nat} {h : XH} {Q : XV → XH → Prop} {X : Nat → XH → Prop} {x5 : Int} {n9 : Nat} {xs : Nat → Int32} {nm9 : String} {hq9 : List (Nat × Nat × Nat × Nat)} (SC : SCR G n9 xs) (F : xFix h) (hyp : xiR (x5 + 1) ∧ 0 ≤ (x5 + 1) ∧ (x5 + 1) < (n9 : Int) ∧ (xwp G m_W_textsWith (d + 219) 0 [xR 0, xI (scV xs (x5 + 1)), xR 91, xZ] [] h (fun v9 h9 => xwp G (m_W_law nm9 hq9) (d + 220) 1240 [xR (-108), xR 0, xR 53, xR 91, xR 92, xI x5, xZ, xZ, xZ] (xpush v9 []) h9 Q X) (fun _ _ => False))) : xwp G (m_W_law nm9 hq9) (d + 220) 1229 [xR (-108), xR 0, xR 53, xR 91, xR 92, xI x5, xZ, xZ, xZ] [] h Q X := by
  have hnx9 : (93 : Int) ≤ xnx h := F.2.2
  refine xr_okL (fun hl9 => ?_)
  have r_x5 : -2147483648 ≤ x5 ∧ x5 ≤ 2147483647 := hl9 (xI x5) (.tail _ (.tail _ (.tail _ (.tail _ (.tail _ (.head _)))))) (Nat.le_of_ble_eq_true rfl)
  refine xr_aload_n (pc := 1229) (i := 1) (hI := d_W_law_1229) (hi := rfl) (hl := rfl) ?_
  refine xr_aload_n (pc := 1230) (i := 0) (hI := d_W_law_1230) (hi := rfl) (hl := rfl) ?_
  refine xr_iload (pc := 1231) (i := 5) (hI := d_W_law_1231) (hl := rfl) ?_
  refine xr_iconst (pc := 1233) (hI := d_W_law_1233) (hr := by decide) ?_
  obtain ⟨c9, hyp⟩ := hyp
  refine xr_iadd (pc := 1234) (hI := d_W_law_1234) (hr := c9) ?_
  obtain ⟨c8, c9, hyp⟩ := hyp
  refine xr_scd (pc := 1235) SC (hI := d_W_law_1235) c8 c9 ?_
  have f1_ : -2147483648 ≤ (scV xs (x5 + 1)) ∧ (scV xs (x5 + 1)) ≤ 2147483647 := xi_toR _
  refine xr_aload_n (pc := 1236) (i := 3) (hI := d_W_law_1236) (hi := rfl) (hl := rfl) ?_
  exact xl_callSW (pc := 1237) (index := 187) (K := m_W_textsWith) (As := [xR 0, xI (scV xs (x5 + 1)), xR 91]) (S := []) (L0 := [xR 0, xI (scV xs (x5 + 1)), xR 91, xZ]) (hI := d_W_law_1237) (hK := k_W_textsWith) (hlk := w_1455) (hS8 := Nat.le_of_ble_eq_true rfl) (hstat := w_1456) (hlen := Nat.le_of_ble_eq_true rfl) (hst := rfl) (hL0 := rfl)  hyp
theorem d_W_law_1240 : decode code 1240 = .ok (.istore 6, 2) := by decide +kernel
theorem d_W_law_1242 : decode code 1242 = .ok (.aload_n 2, 1) := by decide +kernel
theorem d_W_law_1243 : decode code 1243 = .ok (.aload_n 0, 1) := by decide +kernel
theorem d_W_law_1244 : decode code 1244 = .ok (.iload 5, 2) := by decide +kernel
theorem d_W_law_1246 : decode code 1246 = .ok (.iconst 1, 1) := by decide +kernel
theorem d_W_law_1247 : decode code 1247 = .ok (.iadd, 1) := by decide +kernel
theorem d_W_law_1248 : decode code 1248 = .ok (.iaload, 1) := by decide +kernel
theorem d_W_law_1249 : decode code 1249 = .ok (.invokevirtual 189, 3) := by decide +kernel
theorem k_M_textsWith : xCal m_M_textsWith 1 := ⟨List.mem_append_right _ (List.mem_of_getElem? (i := 2219) (by decide +kernel)), w_15, Nat.le_of_ble_eq_true rfl, ⟨by decide +kernel, by decide +kernel⟩, by decide +kernel, by decide +kernel, rfl⟩
theorem w_2216 : Cond.methodLink "BeaconIndexLaw" 189 ⟨"BeaconIndexModel", "textsWith", "(I)I"⟩ ∈ lw_tbl := List.mem_append_right _ (List.mem_of_getElem? (i := 2216) (by decide +kernel))
theorem w_2217 : Cond.instanceMethod ⟨"BeaconIndexModel", "textsWith", "(I)I"⟩ ∈ lw_tbl := List.mem_append_right _ (List.mem_of_getElem? (i := 2217) (by decide +kernel))
theorem w_2218 : Cond.selects "BeaconIndexModel" ⟨"BeaconIndexModel", "textsWith", "(I)I"⟩ ⟨"BeaconIndexModel", "textsWith", "(I)I"⟩ ∈ lw_tbl := List.mem_append_right _ (List.mem_of_getElem? (i := 2218) (by decide +kernel))
theorem v_W_law_1240 {G : XG} {d : Nat} {h : XH} {Q : XV → XH → Prop} {X : Nat → XH → Prop} {x5 s0 : Int} {n9 : Nat} {xs : Nat → Int32} {nm9 : String} {hq9 : List (Nat × Nat × Nat × Nat)} (SC : SCR G n9 xs) (F : xFix h) (hyp : xiR (x5 + 1) ∧ 0 ≤ (x5 + 1) ∧ (x5 + 1) < (n9 : Int) ∧ (xwp G m_M_textsWith (d + 219) 0 [xR 53, xI (scV xs (x5 + 1))] [] h (fun v9 h9 => xwp G (m_W_law nm9 hq9) (d + 220) 1252 [xR (-108), xR 0, xR 53, xR 91, xR 92, xI x5, xI s0, xZ, xZ] (xpush v9 []) h9 Q X) (fun _ _ => False))) : xwp G (m_W_law nm9 hq9) (d + 220) 1240 [xR (-108), xR 0, xR 53, xR 91, xR 92, xI x5, xZ, xZ, xZ] [xI s0] h Q X := by
  have hnx9 : (93 : Int) ≤ xnx h := F.2.2
  refine xr_okL (fun hl9 => ?_)
  have r_x5 : -2147483648 ≤ x5 ∧ x5 ≤ 2147483647 := hl9 (xI x5) (.tail _ (.tail _ (.tail _ (.tail _ (.tail _ (.head _)))))) (Nat.le_of_ble_eq_true rfl)
  refine xr_okS (fun hs9 => ?_)
  have r_s0 : -2147483648 ≤ s0 ∧ s0 ≤ 2147483647 := hs9 (xI s0) (.head _)
  refine xr_istore (pc := 1240) (i := 6) (L9 := [xR (-108), xR 0, xR 53, xR 91, xR 92, xI x5, xI s0, xZ, xZ]) (hI := d_W_law_1240) (hn := Nat.le_of_ble_eq_true rfl) (hL9 := rfl) ?_
  refine xr_aload_n (pc := 1242) (i := 2) (hI := d_W_law_1242) (hi := rfl) (hl := rfl) ?_
  refine xr_aload_n (pc := 1243) (i := 0) (hI := d_W_law_1243) (hi := rfl) (hl := rfl) ?_
  refine xr_iload (pc := 1244) (i := 5) (hI := d_W_law_1244) (hl := rfl) ?_
  refine xr_iconst (pc := 1246) (hI := d_W_law_1246) (hr := by decide) ?_
  obtain ⟨c9, hyp⟩ := hyp
  refine xr_iadd (pc := 1247) (hI := d_W_law_1247) (hr := c9) ?_
  obtain ⟨c8, c9, hyp⟩ := hyp
  refine xr_scd (pc := 1248) SC (hI := d_W_law_1248) c8 c9 ?_
  have f1_ : -2147483648 ≤ (scV xs (x5 + 1)) ∧ (scV xs (x5 + 1)) ≤ 2147483647 := xi_toR _
  exact xl_callV (pc := 1249) (index := 189) (K := m_M_textsWith) (As := [xI (scV xs (x5 + 1))]) (S := []) (L0 := [xR 53, xI (scV xs (x5 + 1))]) (hI := d_W_law_1249) (hK := k_M_textsWith) (hlk := w_2216) (hS8 := Nat.le_of_ble_eq_true rfl) (ci := 11) (N := 38) (C := "BeaconIndexModel") (T := xF11) (hc := rfl) (hci := Nat.le_of_ble_eq_true rfl) (htb := (ft_53 F)) (hinst := w_2217) (hsel := w_2218) (hlen := Nat.le_of_ble_eq_true rfl) (hst := rfl) (hL0 := rfl)  hyp
theorem d_W_law_1252 : decode code 1252 = .ok (.istore 7, 2) := by decide +kernel
theorem d_W_law_1254 : decode code 1254 = .ok (.aload_n 2, 1) := by decide +kernel
theorem d_W_law_1255 : decode code 1255 = .ok (.invokevirtual 114, 3) := by decide +kernel
theorem d_W_law_1258 : decode code 1258 = .ok (.iload 6, 2) := by decide +kernel
theorem d_W_law_1260 : decode code 1260 = .ok (.if_icmp .eq 5, 3) := by decide +kernel
theorem d_W_law_1265 : decode code 1265 = .ok (.iload 6, 2) := by decide +kernel
theorem d_W_law_1267 : decode code 1267 = .ok (.ifCond .ne 15, 3) := by decide +kernel
theorem d_W_law_1282 : decode code 1282 = .ok (.goto 736, 3) := by decide +kernel
theorem d_W_law_1270 : decode code 1270 = .ok (.aload_n 3, 1) := by decide +kernel
theorem d_W_law_1271 : decode code 1271 = .ok (.iconst 0, 1) := by decide +kernel
theorem d_W_law_1272 : decode code 1272 = .ok (.laload, 1) := by decide +kernel
theorem d_W_law_1273 : decode code 1273 = .ok (.iload 7, 2) := by decide +kernel
theorem d_W_law_1275 : decode code 1275 = .ok (.i2l, 1) := by decide +kernel
theorem d_W_law_1276 : decode code 1276 = .ok (.lcmp, 1) := by decide +kernel
theorem d_W_law_1277 : decode code 1277 = .ok (.ifCond .eq 5, 3) := by decide +kernel
theorem d_W_law_1280 : decode code 1280 = .ok (.iconst 0, 1) := by decide +kernel
theorem d_W_law_1281 : decode code 1281 = .ok (.ireturn, 1) := by decide +kernel
theorem d_W_law_1263 : decode code 1263 = .ok (.iconst 0, 1) := by decide +kernel
theorem d_W_law_1264 : decode code 1264 = .ok (.ireturn, 1) := by decide +kernel
theorem v_W_law_1252 {G : XG} {d : Nat} {h : XH} {Q : XV → XH → Prop} {X : Nat → XH → Prop} {x5 x6 s0 : Int} {n9 : Nat} {xs : Nat → Int32} {nm9 : String} {hq9 : List (Nat × Nat × Nat × Nat)} (SC : SCR G n9 xs) (F : xFix h) (hyp : (((xpl h 53 0) = x6 → ((x6 = 0 → (((xpl h 91 0) = s0 → (xwp G (m_W_law nm9 hq9) (d + 220) 2018 [xR (-108), xR 0, xR 53, xR 91, xR 92, xI x5, xZ, xZ, xZ] [] h Q X)) ∧ (¬ (xpl h 91 0) = s0 → (Q (xI 0) h)))) ∧ (¬ x6 = 0 → (xwp G (m_W_law nm9 hq9) (d + 220) 2018 [xR (-108), xR 0, xR 53, xR 91, xR 92, xI x5, xZ, xZ, xZ] [] h Q X)))) ∧ (¬ (xpl h 53 0) = x6 → (Q (xI 0) h)))) : xwp G (m_W_law nm9 hq9) (d + 220) 1252 [xR (-108), xR 0, xR 53, xR 91, xR 92, xI x5, xI x6, xZ, xZ] [xI s0] h Q X := by
  have hnx9 : (93 : Int) ≤ xnx h := F.2.2
  refine xr_okL (fun hl9 => ?_)
  have r_x5 : -2147483648 ≤ x5 ∧ x5 ≤ 2147483647 := hl9 (xI x5) (.tail _ (.tail _ (.tail _ (.tail _ (.tail _ (.head _)))))) (Nat.le_of_ble_eq_true rfl)
  have r_x6 : -2147483648 ≤ x6 ∧ x6 ≤ 2147483647 := hl9 (xI x6) (.tail _ (.tail _ (.tail _ (.tail _ (.tail _ (.tail _ (.head _))))))) (Nat.le_of_ble_eq_true rfl)
  refine xr_okS (fun hs9 => ?_)
  have r_s0 : -2147483648 ≤ s0 ∧ s0 ≤ 2147483647 := hs9 (xI s0) (.head _)
  refine xr_istore (pc := 1252) (i := 7) (L9 := [xR (-108), xR 0, xR 53, xR 91, xR 92, xI x5, xI x6, xI s0, xZ]) (hI := d_W_law_1252) (hn := Nat.le_of_ble_eq_true rfl) (hL9 := rfl) ?_
  refine xr_aload_n (pc := 1254) (i := 2) (hI := d_W_law_1254) (hi := rfl) (hl := rfl) ?_
  refine xl_callV (pc := 1255) (index := 114) (K := m_M_thrown) (As := []) (S := []) (L0 := [xR 53]) (hI := d_W_law_1255) (hK := k_M_thrown) (hlk := w_1702) (hS8 := Nat.le_of_ble_eq_true rfl) (ci := 11) (N := 38) (C := "BeaconIndexModel") (T := xF11) (hc := rfl) (hci := Nat.le_of_ble_eq_true rfl) (htb := (ft_53 F)) (hinst := w_1703) (hsel := w_1704) (hlen := Nat.le_of_ble_eq_true rfl) (hst := rfl) (hL0 := rfl)  ?_
  refine xr_aload_n (pc := 0) (i := 0) (hI := d_M_thrown_0) (hi := rfl) (hl := rfl) ?_
  refine xg_getf (pc := 1) (ci := 11) (k := 0) (N := 38) (v9 := 0) (v := (xpl h 53 0)) (T := xF11) (hI := d_M_thrown_1) (hw := w_1587) rfl xi11 (Or.inl rfl) (Nat.le_of_ble_eq_true rfl) (Nat.le_of_ble_eq_true rfl) rfl (ft_53 F) rfl (fun f1_ => ?_)
  replace f1_ : -2147483648 ≤ (xpl h 53 0) ∧ (xpl h 53 0) ≤ 2147483647 := f1_
  refine xr_ireturn (S := []) (pc := 4) (hI := d_M_thrown_4) (hr := rfl) ?_
  show xwp G (m_W_law nm9 hq9) (d + 220) 1258 [xR (-108), xR 0, xR 53, xR 91, xR 92, xI x5, xI x6, xI s0, xZ] [xI (xpl h 53 0)] _ _ _
  refine xr_iload (pc := 1258) (i := 6) (hI := d_W_law_1258) (hl := rfl) ?_
  refine xr_icmp_eq (pc := 1260) (tgt := 1265) (hI := d_W_law_1260) (ht := by decide) (fun q9 => ?_) (fun q9 => ?_)
  · replace hyp := hyp.1 q9
    have q2_ := q9
    clear q9
    refine xr_iload (pc := 1265) (i := 6) (hI := d_W_law_1265) (hl := rfl) ?_
    refine xr_if_ne (pc := 1267) (tgt := 1282) (hI := d_W_law_1267) (ht := by decide) (fun q9 => ?_) (fun q9 => ?_)
    · replace hyp := hyp.2 q9
      have q3_ := q9
      clear q9
      refine xr_goto (pc := 1282) (tgt := 2018) (hI := d_W_law_1282) (ht := by decide) ?_
      exact xr_drop (L9 := [xR (-108), xR 0, xR 53, xR 91, xR 92, xI x5, xZ, xZ, xZ]) (xdrs (xdrs (xdrs (xdrs (xdrs (xdrs (xdrz (xdrz (xdrs xdr0))))))))) hyp
    · replace hyp := hyp.1 q9
      have q3_ := q9
      clear q9
      refine xr_aload_n (pc := 1270) (i := 3) (hI := d_W_law_1270) (hi := rfl) (hl := rfl) ?_
      refine xr_iconst (pc := 1271) (hI := d_W_law_1271) (hr := by decide) ?_
      refine xg_laload (pc := 1272) (v := (xpl h 91 0)) (hI := d_W_law_1272) (ft_91 F) (by decide) (xlt_of (fl_91 F) (by decide)) rfl (fun f4_ => ?_)
      replace f4_ : -9223372036854775808 ≤ (xpl h 91 0) ∧ (xpl h 91 0) ≤ 9223372036854775807 := f4_
      refine xr_iload (pc := 1273) (i := 7) (hI := d_W_law_1273) (hl := rfl) ?_
      refine xr_i2l (pc := 1275) (hI := d_W_law_1275) ?_
      refine xr_lcmp (pc := 1276) (hI := d_W_law_1276) ?_
      refine xg_lif_eq (pc := 1277) (tgt := 1282) (hI := d_W_law_1277) (ht := by decide) (fun q9 => ?_) (fun q9 => ?_)
      · replace hyp := hyp.1 q9
        have q5_ := q9
        clear q9
        refine xr_goto (pc := 1282) (tgt := 2018) (hI := d_W_law_1282) (ht := by decide) ?_
        exact xr_drop (L9 := [xR (-108), xR 0, xR 53, xR 91, xR 92, xI x5, xZ, xZ, xZ]) (xdrs (xdrs (xdrs (xdrs (xdrs (xdrs (xdrz (xdrz (xdrs xdr0))))))))) hyp
      · replace hyp := hyp.2 q9
        have q5_ := q9
        clear q9
        refine xr_iconst (pc := 1280) (hI := d_W_law_1280) (hr := by decide) ?_
        refine xr_ireturnT (S := []) (pc := 1281) (hI := d_W_law_1281) (hr := rfl) (xnar_z (by decide)) ?_
        exact hyp
  · replace hyp := hyp.2 q9
    have q2_ := q9
    clear q9
    refine xr_iconst (pc := 1263) (hI := d_W_law_1263) (hr := by decide) ?_
    refine xr_ireturnT (S := []) (pc := 1264) (hI := d_W_law_1264) (hr := rfl) (xnar_z (by decide)) ?_
    exact hyp
theorem d_W_law_1285 : decode code 1285 = .ok (.aload_n 1, 1) := by decide +kernel
theorem d_W_law_1286 : decode code 1286 = .ok (.aload_n 0, 1) := by decide +kernel
theorem d_W_law_1287 : decode code 1287 = .ok (.iload 5, 2) := by decide +kernel
theorem d_W_law_1289 : decode code 1289 = .ok (.iconst 1, 1) := by decide +kernel
theorem d_W_law_1290 : decode code 1290 = .ok (.iadd, 1) := by decide +kernel
theorem d_W_law_1291 : decode code 1291 = .ok (.iaload, 1) := by decide +kernel
theorem d_W_law_1292 : decode code 1292 = .ok (.aload_n 0, 1) := by decide +kernel
theorem d_W_law_1293 : decode code 1293 = .ok (.iload 5, 2) := by decide +kernel
theorem d_W_law_1295 : decode code 1295 = .ok (.iconst 2, 1) := by decide +kernel
theorem d_W_law_1296 : decode code 1296 = .ok (.iadd, 1) := by decide +kernel
theorem d_W_law_1297 : decode code 1297 = .ok (.iaload, 1) := by decide +kernel
theorem d_W_law_1298 : decode code 1298 = .ok (.aload_n 3, 1) := by decide +kernel
theorem d_W_law_1299 : decode code 1299 = .ok (.invokestatic 190, 3) := by decide +kernel
theorem k_W_timesIn : xCalH m_W_timesIn 4 := ⟨List.mem_append_right _ (List.mem_of_getElem? (i := 1461) (by decide +kernel)), w_0, Nat.le_of_ble_eq_true rfl, ⟨by decide +kernel, by decide +kernel⟩, by decide +kernel, by decide +kernel⟩
theorem w_1459 : Cond.methodLink "BeaconIndexLaw" 190 ⟨"BeaconIndexLaw", "timesIn", "(LBeaconIndex;II[J)I"⟩ ∈ lw_tbl := List.mem_append_right _ (List.mem_of_getElem? (i := 1459) (by decide +kernel))
theorem w_1460 : Cond.static ⟨"BeaconIndexLaw", "timesIn", "(LBeaconIndex;II[J)I"⟩ ∈ lw_tbl := List.mem_append_right _ (List.mem_of_getElem? (i := 1460) (by decide +kernel))
theorem v_W_law_1285 {G : XG} {d : Nat} {h : XH} {Q : XV → XH → Prop} {X : Nat → XH → Prop} {x5 : Int} {n9 : Nat} {xs : Nat → Int32} {nm9 : String} {hq9 : List (Nat × Nat × Nat × Nat)} (SC : SCR G n9 xs) (F : xFix h) (hyp : xiR (x5 + 1) ∧ 0 ≤ (x5 + 1) ∧ (x5 + 1) < (n9 : Int) ∧ xiR (x5 + 2) ∧ 0 ≤ (x5 + 2) ∧ (x5 + 2) < (n9 : Int) ∧ (xwp G m_W_timesIn (d + 219) 0 [xR 0, xI (scV xs (x5 + 1)), xI (scV xs (x5 + 2)), xR 91, xZ] [] h (fun v9 h9 => xwp G (m_W_law nm9 hq9) (d + 220) 1302 [xR (-108), xR 0, xR 53, xR 91, xR 92, xI x5, xZ, xZ, xZ] (xpush v9 []) h9 Q X) (fun _ _ => False))) : xwp G (m_W_law nm9 hq9) (d + 220) 1285 [xR (-108), xR 0, xR 53, xR 91, xR 92, xI x5, xZ, xZ, xZ] [] h Q X := by
  have hnx9 : (93 : Int) ≤ xnx h := F.2.2
  refine xr_okL (fun hl9 => ?_)
  have r_x5 : -2147483648 ≤ x5 ∧ x5 ≤ 2147483647 := hl9 (xI x5) (.tail _ (.tail _ (.tail _ (.tail _ (.tail _ (.head _)))))) (Nat.le_of_ble_eq_true rfl)
  refine xr_aload_n (pc := 1285) (i := 1) (hI := d_W_law_1285) (hi := rfl) (hl := rfl) ?_
  refine xr_aload_n (pc := 1286) (i := 0) (hI := d_W_law_1286) (hi := rfl) (hl := rfl) ?_
  refine xr_iload (pc := 1287) (i := 5) (hI := d_W_law_1287) (hl := rfl) ?_
  refine xr_iconst (pc := 1289) (hI := d_W_law_1289) (hr := by decide) ?_
  obtain ⟨c9, hyp⟩ := hyp
  refine xr_iadd (pc := 1290) (hI := d_W_law_1290) (hr := c9) ?_
  obtain ⟨c8, c9, hyp⟩ := hyp
  refine xr_scd (pc := 1291) SC (hI := d_W_law_1291) c8 c9 ?_
  have f1_ : -2147483648 ≤ (scV xs (x5 + 1)) ∧ (scV xs (x5 + 1)) ≤ 2147483647 := xi_toR _
  refine xr_aload_n (pc := 1292) (i := 0) (hI := d_W_law_1292) (hi := rfl) (hl := rfl) ?_
  refine xr_iload (pc := 1293) (i := 5) (hI := d_W_law_1293) (hl := rfl) ?_
  refine xr_iconst (pc := 1295) (hI := d_W_law_1295) (hr := by decide) ?_
  obtain ⟨c9, hyp⟩ := hyp
  refine xr_iadd (pc := 1296) (hI := d_W_law_1296) (hr := c9) ?_
  obtain ⟨c8, c9, hyp⟩ := hyp
  refine xr_scd (pc := 1297) SC (hI := d_W_law_1297) c8 c9 ?_
  have f2_ : -2147483648 ≤ (scV xs (x5 + 2)) ∧ (scV xs (x5 + 2)) ≤ 2147483647 := xi_toR _
  refine xr_aload_n (pc := 1298) (i := 3) (hI := d_W_law_1298) (hi := rfl) (hl := rfl) ?_
  exact xl_callSW (pc := 1299) (index := 190) (K := m_W_timesIn) (As := [xR 0, xI (scV xs (x5 + 1)), xI (scV xs (x5 + 2)), xR 91]) (S := []) (L0 := [xR 0, xI (scV xs (x5 + 1)), xI (scV xs (x5 + 2)), xR 91, xZ]) (hI := d_W_law_1299) (hK := k_W_timesIn) (hlk := w_1459) (hS8 := Nat.le_of_ble_eq_true rfl) (hstat := w_1460) (hlen := Nat.le_of_ble_eq_true rfl) (hst := rfl) (hL0 := rfl)  hyp
theorem d_W_law_1302 : decode code 1302 = .ok (.istore 6, 2) := by decide +kernel
theorem d_W_law_1304 : decode code 1304 = .ok (.aload_n 2, 1) := by decide +kernel
theorem d_W_law_1305 : decode code 1305 = .ok (.aload_n 0, 1) := by decide +kernel
theorem d_W_law_1306 : decode code 1306 = .ok (.iload 5, 2) := by decide +kernel
theorem d_W_law_1308 : decode code 1308 = .ok (.iconst 1, 1) := by decide +kernel
theorem d_W_law_1309 : decode code 1309 = .ok (.iadd, 1) := by decide +kernel
theorem d_W_law_1310 : decode code 1310 = .ok (.iaload, 1) := by decide +kernel
theorem d_W_law_1311 : decode code 1311 = .ok (.aload_n 0, 1) := by decide +kernel
theorem d_W_law_1312 : decode code 1312 = .ok (.iload 5, 2) := by decide +kernel
theorem d_W_law_1314 : decode code 1314 = .ok (.iconst 2, 1) := by decide +kernel
theorem d_W_law_1315 : decode code 1315 = .ok (.iadd, 1) := by decide +kernel
theorem d_W_law_1316 : decode code 1316 = .ok (.iaload, 1) := by decide +kernel
theorem d_W_law_1317 : decode code 1317 = .ok (.invokevirtual 192, 3) := by decide +kernel
theorem k_M_timesIn : xCal m_M_timesIn 2 := ⟨List.mem_append_right _ (List.mem_of_getElem? (i := 2231) (by decide +kernel)), w_15, Nat.le_of_ble_eq_true rfl, ⟨by decide +kernel, by decide +kernel⟩, by decide +kernel, by decide +kernel, rfl⟩
theorem w_2228 : Cond.methodLink "BeaconIndexLaw" 192 ⟨"BeaconIndexModel", "timesIn", "(II)I"⟩ ∈ lw_tbl := List.mem_append_right _ (List.mem_of_getElem? (i := 2228) (by decide +kernel))
theorem w_2229 : Cond.instanceMethod ⟨"BeaconIndexModel", "timesIn", "(II)I"⟩ ∈ lw_tbl := List.mem_append_right _ (List.mem_of_getElem? (i := 2229) (by decide +kernel))
theorem w_2230 : Cond.selects "BeaconIndexModel" ⟨"BeaconIndexModel", "timesIn", "(II)I"⟩ ⟨"BeaconIndexModel", "timesIn", "(II)I"⟩ ∈ lw_tbl := List.mem_append_right _ (List.mem_of_getElem? (i := 2230) (by decide +kernel))
theorem v_W_law_1302 {G : XG} {d : Nat} {h : XH} {Q : XV → XH → Prop} {X : Nat → XH → Prop} {x5 s0 : Int} {n9 : Nat} {xs : Nat → Int32} {nm9 : String} {hq9 : List (Nat × Nat × Nat × Nat)} (SC : SCR G n9 xs) (F : xFix h) (hyp : xiR (x5 + 1) ∧ 0 ≤ (x5 + 1) ∧ (x5 + 1) < (n9 : Int) ∧ xiR (x5 + 2) ∧ 0 ≤ (x5 + 2) ∧ (x5 + 2) < (n9 : Int) ∧ (xwp G m_M_timesIn (d + 219) 0 [xR 53, xI (scV xs (x5 + 1)), xI (scV xs (x5 + 2)), xZ] [] h (fun v9 h9 => xwp G (m_W_law nm9 hq9) (d + 220) 1320 [xR (-108), xR 0, xR 53, xR 91, xR 92, xI x5, xI s0, xZ, xZ] (xpush v9 []) h9 Q X) (fun _ _ => False))) : xwp G (m_W_law nm9 hq9) (d + 220) 1302 [xR (-108), xR 0, xR 53, xR 91, xR 92, xI x5, xZ, xZ, xZ] [xI s0] h Q X := by
  have hnx9 : (93 : Int) ≤ xnx h := F.2.2
  refine xr_okL (fun hl9 => ?_)
  have r_x5 : -2147483648 ≤ x5 ∧ x5 ≤ 2147483647 := hl9 (xI x5) (.tail _ (.tail _ (.tail _ (.tail _ (.tail _ (.head _)))))) (Nat.le_of_ble_eq_true rfl)
  refine xr_okS (fun hs9 => ?_)
  have r_s0 : -2147483648 ≤ s0 ∧ s0 ≤ 2147483647 := hs9 (xI s0) (.head _)
  refine xr_istore (pc := 1302) (i := 6) (L9 := [xR (-108), xR 0, xR 53, xR 91, xR 92, xI x5, xI s0, xZ, xZ]) (hI := d_W_law_1302) (hn := Nat.le_of_ble_eq_true rfl) (hL9 := rfl) ?_
  refine xr_aload_n (pc := 1304) (i := 2) (hI := d_W_law_1304) (hi := rfl) (hl := rfl) ?_
  refine xr_aload_n (pc := 1305) (i := 0) (hI := d_W_law_1305) (hi := rfl) (hl := rfl) ?_
  refine xr_iload (pc := 1306) (i := 5) (hI := d_W_law_1306) (hl := rfl) ?_
  refine xr_iconst (pc := 1308) (hI := d_W_law_1308) (hr := by decide) ?_
  obtain ⟨c9, hyp⟩ := hyp
  refine xr_iadd (pc := 1309) (hI := d_W_law_1309) (hr := c9) ?_
  obtain ⟨c8, c9, hyp⟩ := hyp
  refine xr_scd (pc := 1310) SC (hI := d_W_law_1310) c8 c9 ?_
  have f1_ : -2147483648 ≤ (scV xs (x5 + 1)) ∧ (scV xs (x5 + 1)) ≤ 2147483647 := xi_toR _
  refine xr_aload_n (pc := 1311) (i := 0) (hI := d_W_law_1311) (hi := rfl) (hl := rfl) ?_
  refine xr_iload (pc := 1312) (i := 5) (hI := d_W_law_1312) (hl := rfl) ?_
  refine xr_iconst (pc := 1314) (hI := d_W_law_1314) (hr := by decide) ?_
  obtain ⟨c9, hyp⟩ := hyp
  refine xr_iadd (pc := 1315) (hI := d_W_law_1315) (hr := c9) ?_
  obtain ⟨c8, c9, hyp⟩ := hyp
  refine xr_scd (pc := 1316) SC (hI := d_W_law_1316) c8 c9 ?_
  have f2_ : -2147483648 ≤ (scV xs (x5 + 2)) ∧ (scV xs (x5 + 2)) ≤ 2147483647 := xi_toR _
  exact xl_callV (pc := 1317) (index := 192) (K := m_M_timesIn) (As := [xI (scV xs (x5 + 1)), xI (scV xs (x5 + 2))]) (S := []) (L0 := [xR 53, xI (scV xs (x5 + 1)), xI (scV xs (x5 + 2)), xZ]) (hI := d_W_law_1317) (hK := k_M_timesIn) (hlk := w_2228) (hS8 := Nat.le_of_ble_eq_true rfl) (ci := 11) (N := 38) (C := "BeaconIndexModel") (T := xF11) (hc := rfl) (hci := Nat.le_of_ble_eq_true rfl) (htb := (ft_53 F)) (hinst := w_2229) (hsel := w_2230) (hlen := Nat.le_of_ble_eq_true rfl) (hst := rfl) (hL0 := rfl)  hyp
theorem d_W_law_1320 : decode code 1320 = .ok (.istore 7, 2) := by decide +kernel
theorem d_W_law_1322 : decode code 1322 = .ok (.aload_n 2, 1) := by decide +kernel
theorem d_W_law_1323 : decode code 1323 = .ok (.invokevirtual 114, 3) := by decide +kernel
theorem d_W_law_1326 : decode code 1326 = .ok (.iload 6, 2) := by decide +kernel
theorem d_W_law_1328 : decode code 1328 = .ok (.if_icmp .eq 5, 3) := by decide +kernel
theorem d_W_law_1333 : decode code 1333 = .ok (.iload 6, 2) := by decide +kernel
theorem d_W_law_1335 : decode code 1335 = .ok (.ifCond .ne 15, 3) := by decide +kernel
theorem d_W_law_1350 : decode code 1350 = .ok (.goto 668, 3) := by decide +kernel
theorem d_W_law_1338 : decode code 1338 = .ok (.aload_n 3, 1) := by decide +kernel
theorem d_W_law_1339 : decode code 1339 = .ok (.iconst 0, 1) := by decide +kernel
theorem d_W_law_1340 : decode code 1340 = .ok (.laload, 1) := by decide +kernel
theorem d_W_law_1341 : decode code 1341 = .ok (.iload 7, 2) := by decide +kernel
theorem d_W_law_1343 : decode code 1343 = .ok (.i2l, 1) := by decide +kernel
theorem d_W_law_1344 : decode code 1344 = .ok (.lcmp, 1) := by decide +kernel
theorem d_W_law_1345 : decode code 1345 = .ok (.ifCond .eq 5, 3) := by decide +kernel
theorem d_W_law_1348 : decode code 1348 = .ok (.iconst 0, 1) := by decide +kernel
theorem d_W_law_1349 : decode code 1349 = .ok (.ireturn, 1) := by decide +kernel
theorem d_W_law_1331 : decode code 1331 = .ok (.iconst 0, 1) := by decide +kernel
theorem d_W_law_1332 : decode code 1332 = .ok (.ireturn, 1) := by decide +kernel
theorem v_W_law_1320 {G : XG} {d : Nat} {h : XH} {Q : XV → XH → Prop} {X : Nat → XH → Prop} {x5 x6 s0 : Int} {n9 : Nat} {xs : Nat → Int32} {nm9 : String} {hq9 : List (Nat × Nat × Nat × Nat)} (SC : SCR G n9 xs) (F : xFix h) (hyp : (((xpl h 53 0) = x6 → ((x6 = 0 → (((xpl h 91 0) = s0 → (xwp G (m_W_law nm9 hq9) (d + 220) 2018 [xR (-108), xR 0, xR 53, xR 91, xR 92, xI x5, xZ, xZ, xZ] [] h Q X)) ∧ (¬ (xpl h 91 0) = s0 → (Q (xI 0) h)))) ∧ (¬ x6 = 0 → (xwp G (m_W_law nm9 hq9) (d + 220) 2018 [xR (-108), xR 0, xR 53, xR 91, xR 92, xI x5, xZ, xZ, xZ] [] h Q X)))) ∧ (¬ (xpl h 53 0) = x6 → (Q (xI 0) h)))) : xwp G (m_W_law nm9 hq9) (d + 220) 1320 [xR (-108), xR 0, xR 53, xR 91, xR 92, xI x5, xI x6, xZ, xZ] [xI s0] h Q X := by
  have hnx9 : (93 : Int) ≤ xnx h := F.2.2
  refine xr_okL (fun hl9 => ?_)
  have r_x5 : -2147483648 ≤ x5 ∧ x5 ≤ 2147483647 := hl9 (xI x5) (.tail _ (.tail _ (.tail _ (.tail _ (.tail _ (.head _)))))) (Nat.le_of_ble_eq_true rfl)
  have r_x6 : -2147483648 ≤ x6 ∧ x6 ≤ 2147483647 := hl9 (xI x6) (.tail _ (.tail _ (.tail _ (.tail _ (.tail _ (.tail _ (.head _))))))) (Nat.le_of_ble_eq_true rfl)
  refine xr_okS (fun hs9 => ?_)
  have r_s0 : -2147483648 ≤ s0 ∧ s0 ≤ 2147483647 := hs9 (xI s0) (.head _)
  refine xr_istore (pc := 1320) (i := 7) (L9 := [xR (-108), xR 0, xR 53, xR 91, xR 92, xI x5, xI x6, xI s0, xZ]) (hI := d_W_law_1320) (hn := Nat.le_of_ble_eq_true rfl) (hL9 := rfl) ?_
  refine xr_aload_n (pc := 1322) (i := 2) (hI := d_W_law_1322) (hi := rfl) (hl := rfl) ?_
  refine xl_callV (pc := 1323) (index := 114) (K := m_M_thrown) (As := []) (S := []) (L0 := [xR 53]) (hI := d_W_law_1323) (hK := k_M_thrown) (hlk := w_1702) (hS8 := Nat.le_of_ble_eq_true rfl) (ci := 11) (N := 38) (C := "BeaconIndexModel") (T := xF11) (hc := rfl) (hci := Nat.le_of_ble_eq_true rfl) (htb := (ft_53 F)) (hinst := w_1703) (hsel := w_1704) (hlen := Nat.le_of_ble_eq_true rfl) (hst := rfl) (hL0 := rfl)  ?_
  refine xr_aload_n (pc := 0) (i := 0) (hI := d_M_thrown_0) (hi := rfl) (hl := rfl) ?_
  refine xg_getf (pc := 1) (ci := 11) (k := 0) (N := 38) (v9 := 0) (v := (xpl h 53 0)) (T := xF11) (hI := d_M_thrown_1) (hw := w_1587) rfl xi11 (Or.inl rfl) (Nat.le_of_ble_eq_true rfl) (Nat.le_of_ble_eq_true rfl) rfl (ft_53 F) rfl (fun f1_ => ?_)
  replace f1_ : -2147483648 ≤ (xpl h 53 0) ∧ (xpl h 53 0) ≤ 2147483647 := f1_
  refine xr_ireturn (S := []) (pc := 4) (hI := d_M_thrown_4) (hr := rfl) ?_
  show xwp G (m_W_law nm9 hq9) (d + 220) 1326 [xR (-108), xR 0, xR 53, xR 91, xR 92, xI x5, xI x6, xI s0, xZ] [xI (xpl h 53 0)] _ _ _
  refine xr_iload (pc := 1326) (i := 6) (hI := d_W_law_1326) (hl := rfl) ?_
  refine xr_icmp_eq (pc := 1328) (tgt := 1333) (hI := d_W_law_1328) (ht := by decide) (fun q9 => ?_) (fun q9 => ?_)
  · replace hyp := hyp.1 q9
    have q2_ := q9
    clear q9
    refine xr_iload (pc := 1333) (i := 6) (hI := d_W_law_1333) (hl := rfl) ?_
    refine xr_if_ne (pc := 1335) (tgt := 1350) (hI := d_W_law_1335) (ht := by decide) (fun q9 => ?_) (fun q9 => ?_)
    · replace hyp := hyp.2 q9
      have q3_ := q9
      clear q9
      refine xr_goto (pc := 1350) (tgt := 2018) (hI := d_W_law_1350) (ht := by decide) ?_
      exact xr_drop (L9 := [xR (-108), xR 0, xR 53, xR 91, xR 92, xI x5, xZ, xZ, xZ]) (xdrs (xdrs (xdrs (xdrs (xdrs (xdrs (xdrz (xdrz (xdrs xdr0))))))))) hyp
    · replace hyp := hyp.1 q9
      have q3_ := q9
      clear q9
      refine xr_aload_n (pc := 1338) (i := 3) (hI := d_W_law_1338) (hi := rfl) (hl := rfl) ?_
      refine xr_iconst (pc := 1339) (hI := d_W_law_1339) (hr := by decide) ?_
      refine xg_laload (pc := 1340) (v := (xpl h 91 0)) (hI := d_W_law_1340) (ft_91 F) (by decide) (xlt_of (fl_91 F) (by decide)) rfl (fun f4_ => ?_)
      replace f4_ : -9223372036854775808 ≤ (xpl h 91 0) ∧ (xpl h 91 0) ≤ 9223372036854775807 := f4_
      refine xr_iload (pc := 1341) (i := 7) (hI := d_W_law_1341) (hl := rfl) ?_
      refine xr_i2l (pc := 1343) (hI := d_W_law_1343) ?_
      refine xr_lcmp (pc := 1344) (hI := d_W_law_1344) ?_
      refine xg_lif_eq (pc := 1345) (tgt := 1350) (hI := d_W_law_1345) (ht := by decide) (fun q9 => ?_) (fun q9 => ?_)
      · replace hyp := hyp.1 q9
        have q5_ := q9
        clear q9
        refine xr_goto (pc := 1350) (tgt := 2018) (hI := d_W_law_1350) (ht := by decide) ?_
        exact xr_drop (L9 := [xR (-108), xR 0, xR 53, xR 91, xR 92, xI x5, xZ, xZ, xZ]) (xdrs (xdrs (xdrs (xdrs (xdrs (xdrs (xdrz (xdrz (xdrs xdr0))))))))) hyp
      · replace hyp := hyp.2 q9
        have q5_ := q9
        clear q9
        refine xr_iconst (pc := 1348) (hI := d_W_law_1348) (hr := by decide) ?_
        refine xr_ireturnT (S := []) (pc := 1349) (hI := d_W_law_1349) (hr := rfl) (xnar_z (by decide)) ?_
        exact hyp
  · replace hyp := hyp.2 q9
    have q2_ := q9
    clear q9
    refine xr_iconst (pc := 1331) (hI := d_W_law_1331) (hr := by decide) ?_
    refine xr_ireturnT (S := []) (pc := 1332) (hI := d_W_law_1332) (hr := rfl) (xnar_z (by decide)) ?_
    exact hyp
theorem d_W_law_1353 : decode code 1353 = .ok (.aload_n 1, 1) := by decide +kernel
theorem d_W_law_1354 : decode code 1354 = .ok (.aload_n 0, 1) := by decide +kernel
theorem d_W_law_1355 : decode code 1355 = .ok (.iload 5, 2) := by decide +kernel
theorem d_W_law_1357 : decode code 1357 = .ok (.iconst 1, 1) := by decide +kernel
theorem d_W_law_1358 : decode code 1358 = .ok (.iadd, 1) := by decide +kernel
theorem d_W_law_1359 : decode code 1359 = .ok (.iaload, 1) := by decide +kernel
theorem d_W_law_1360 : decode code 1360 = .ok (.aload_n 3, 1) := by decide +kernel
theorem d_W_law_1361 : decode code 1361 = .ok (.invokestatic 193, 3) := by decide +kernel
theorem k_W_rarity : xCalH m_W_rarity 3 := ⟨List.mem_append_right _ (List.mem_of_getElem? (i := 1468) (by decide +kernel)), w_0, Nat.le_of_ble_eq_true rfl, ⟨by decide +kernel, by decide +kernel⟩, by decide +kernel, by decide +kernel⟩
theorem w_1466 : Cond.methodLink "BeaconIndexLaw" 193 ⟨"BeaconIndexLaw", "rarity", "(LBeaconIndex;I[J)I"⟩ ∈ lw_tbl := List.mem_append_right _ (List.mem_of_getElem? (i := 1466) (by decide +kernel))
theorem w_1467 : Cond.static ⟨"BeaconIndexLaw", "rarity", "(LBeaconIndex;I[J)I"⟩ ∈ lw_tbl := List.mem_append_right _ (List.mem_of_getElem? (i := 1467) (by decide +kernel))
theorem v_W_law_1353 {G : XG} {d : Nat} {h : XH} {Q : XV → XH → Prop} {X : Nat → XH → Prop} {x5 : Int} {n9 : Nat} {xs : Nat → Int32} {nm9 : String} {hq9 : List (Nat × Nat × Nat × Nat)} (SC : SCR G n9 xs) (F : xFix h) (hyp : xiR (x5 + 1) ∧ 0 ≤ (x5 + 1) ∧ (x5 + 1) < (n9 : Int) ∧ (xwp G m_W_rarity (d + 219) 0 [xR 0, xI (scV xs (x5 + 1)), xR 91, xZ] [] h (fun v9 h9 => xwp G (m_W_law nm9 hq9) (d + 220) 1364 [xR (-108), xR 0, xR 53, xR 91, xR 92, xI x5, xZ, xZ, xZ] (xpush v9 []) h9 Q X) (fun _ _ => False))) : xwp G (m_W_law nm9 hq9) (d + 220) 1353 [xR (-108), xR 0, xR 53, xR 91, xR 92, xI x5, xZ, xZ, xZ] [] h Q X := by
  have hnx9 : (93 : Int) ≤ xnx h := F.2.2
  refine xr_okL (fun hl9 => ?_)
  have r_x5 : -2147483648 ≤ x5 ∧ x5 ≤ 2147483647 := hl9 (xI x5) (.tail _ (.tail _ (.tail _ (.tail _ (.tail _ (.head _)))))) (Nat.le_of_ble_eq_true rfl)
  refine xr_aload_n (pc := 1353) (i := 1) (hI := d_W_law_1353) (hi := rfl) (hl := rfl) ?_
  refine xr_aload_n (pc := 1354) (i := 0) (hI := d_W_law_1354) (hi := rfl) (hl := rfl) ?_
  refine xr_iload (pc := 1355) (i := 5) (hI := d_W_law_1355) (hl := rfl) ?_
  refine xr_iconst (pc := 1357) (hI := d_W_law_1357) (hr := by decide) ?_
  obtain ⟨c9, hyp⟩ := hyp
  refine xr_iadd (pc := 1358) (hI := d_W_law_1358) (hr := c9) ?_
  obtain ⟨c8, c9, hyp⟩ := hyp
  refine xr_scd (pc := 1359) SC (hI := d_W_law_1359) c8 c9 ?_
  have f1_ : -2147483648 ≤ (scV xs (x5 + 1)) ∧ (scV xs (x5 + 1)) ≤ 2147483647 := xi_toR _
  refine xr_aload_n (pc := 1360) (i := 3) (hI := d_W_law_1360) (hi := rfl) (hl := rfl) ?_
  exact xl_callSW (pc := 1361) (index := 193) (K := m_W_rarity) (As := [xR 0, xI (scV xs (x5 + 1)), xR 91]) (S := []) (L0 := [xR 0, xI (scV xs (x5 + 1)), xR 91, xZ]) (hI := d_W_law_1361) (hK := k_W_rarity) (hlk := w_1466) (hS8 := Nat.le_of_ble_eq_true rfl) (hstat := w_1467) (hlen := Nat.le_of_ble_eq_true rfl) (hst := rfl) (hL0 := rfl)  hyp
theorem d_W_law_1364 : decode code 1364 = .ok (.istore 6, 2) := by decide +kernel
theorem d_W_law_1366 : decode code 1366 = .ok (.aload_n 2, 1) := by decide +kernel
theorem d_W_law_1367 : decode code 1367 = .ok (.aload_n 0, 1) := by decide +kernel
theorem d_W_law_1368 : decode code 1368 = .ok (.iload 5, 2) := by decide +kernel
theorem d_W_law_1370 : decode code 1370 = .ok (.iconst 1, 1) := by decide +kernel
theorem d_W_law_1371 : decode code 1371 = .ok (.iadd, 1) := by decide +kernel
theorem d_W_law_1372 : decode code 1372 = .ok (.iaload, 1) := by decide +kernel
theorem d_W_law_1373 : decode code 1373 = .ok (.invokevirtual 195, 3) := by decide +kernel
theorem k_M_rarity : xCal m_M_rarity 1 := ⟨List.mem_append_right _ (List.mem_of_getElem? (i := 2239) (by decide +kernel)), w_15, Nat.le_of_ble_eq_true rfl, ⟨by decide +kernel, by decide +kernel⟩, by decide +kernel, by decide +kernel, rfl⟩
theorem w_2236 : Cond.methodLink "BeaconIndexLaw" 195 ⟨"BeaconIndexModel", "rarity", "(I)I"⟩ ∈ lw_tbl := List.mem_append_right _ (List.mem_of_getElem? (i := 2236) (by decide +kernel))
theorem w_2237 : Cond.instanceMethod ⟨"BeaconIndexModel", "rarity", "(I)I"⟩ ∈ lw_tbl := List.mem_append_right _ (List.mem_of_getElem? (i := 2237) (by decide +kernel))
theorem w_2238 : Cond.selects "BeaconIndexModel" ⟨"BeaconIndexModel", "rarity", "(I)I"⟩ ⟨"BeaconIndexModel", "rarity", "(I)I"⟩ ∈ lw_tbl := List.mem_append_right _ (List.mem_of_getElem? (i := 2238) (by decide +kernel))
theorem v_W_law_1364 {G : XG} {d : Nat} {h : XH} {Q : XV → XH → Prop} {X : Nat → XH → Prop} {x5 s0 : Int} {n9 : Nat} {xs : Nat → Int32} {nm9 : String} {hq9 : List (Nat × Nat × Nat × Nat)} (SC : SCR G n9 xs) (F : xFix h) (hyp : xiR (x5 + 1) ∧ 0 ≤ (x5 + 1) ∧ (x5 + 1) < (n9 : Int) ∧ (xwp G m_M_rarity (d + 219) 0 [xR 53, xI (scV xs (x5 + 1))] [] h (fun v9 h9 => xwp G (m_W_law nm9 hq9) (d + 220) 1376 [xR (-108), xR 0, xR 53, xR 91, xR 92, xI x5, xI s0, xZ, xZ] (xpush v9 []) h9 Q X) (fun _ _ => False))) : xwp G (m_W_law nm9 hq9) (d + 220) 1364 [xR (-108), xR 0, xR 53, xR 91, xR 92, xI x5, xZ, xZ, xZ] [xI s0] h Q X := by
  have hnx9 : (93 : Int) ≤ xnx h := F.2.2
  refine xr_okL (fun hl9 => ?_)
  have r_x5 : -2147483648 ≤ x5 ∧ x5 ≤ 2147483647 := hl9 (xI x5) (.tail _ (.tail _ (.tail _ (.tail _ (.tail _ (.head _)))))) (Nat.le_of_ble_eq_true rfl)
  refine xr_okS (fun hs9 => ?_)
  have r_s0 : -2147483648 ≤ s0 ∧ s0 ≤ 2147483647 := hs9 (xI s0) (.head _)
  refine xr_istore (pc := 1364) (i := 6) (L9 := [xR (-108), xR 0, xR 53, xR 91, xR 92, xI x5, xI s0, xZ, xZ]) (hI := d_W_law_1364) (hn := Nat.le_of_ble_eq_true rfl) (hL9 := rfl) ?_
  refine xr_aload_n (pc := 1366) (i := 2) (hI := d_W_law_1366) (hi := rfl) (hl := rfl) ?_
  refine xr_aload_n (pc := 1367) (i := 0) (hI := d_W_law_1367) (hi := rfl) (hl := rfl) ?_
  refine xr_iload (pc := 1368) (i := 5) (hI := d_W_law_1368) (hl := rfl) ?_
  refine xr_iconst (pc := 1370) (hI := d_W_law_1370) (hr := by decide) ?_
  obtain ⟨c9, hyp⟩ := hyp
  refine xr_iadd (pc := 1371) (hI := d_W_law_1371) (hr := c9) ?_
  obtain ⟨c8, c9, hyp⟩ := hyp
  refine xr_scd (pc := 1372) SC (hI := d_W_law_1372) c8 c9 ?_
  have f1_ : -2147483648 ≤ (scV xs (x5 + 1)) ∧ (scV xs (x5 + 1)) ≤ 2147483647 := xi_toR _
  exact xl_callV (pc := 1373) (index := 195) (K := m_M_rarity) (As := [xI (scV xs (x5 + 1))]) (S := []) (L0 := [xR 53, xI (scV xs (x5 + 1))]) (hI := d_W_law_1373) (hK := k_M_rarity) (hlk := w_2236) (hS8 := Nat.le_of_ble_eq_true rfl) (ci := 11) (N := 38) (C := "BeaconIndexModel") (T := xF11) (hc := rfl) (hci := Nat.le_of_ble_eq_true rfl) (htb := (ft_53 F)) (hinst := w_2237) (hsel := w_2238) (hlen := Nat.le_of_ble_eq_true rfl) (hst := rfl) (hL0 := rfl)  hyp
theorem d_W_law_1376 : decode code 1376 = .ok (.istore 7, 2) := by decide +kernel
theorem d_W_law_1378 : decode code 1378 = .ok (.aload_n 2, 1) := by decide +kernel
theorem d_W_law_1379 : decode code 1379 = .ok (.invokevirtual 114, 3) := by decide +kernel
theorem d_W_law_1382 : decode code 1382 = .ok (.iload 6, 2) := by decide +kernel
theorem d_W_law_1384 : decode code 1384 = .ok (.if_icmp .eq 5, 3) := by decide +kernel
theorem d_W_law_1389 : decode code 1389 = .ok (.iload 6, 2) := by decide +kernel
theorem d_W_law_1391 : decode code 1391 = .ok (.ifCond .ne 15, 3) := by decide +kernel
theorem d_W_law_1406 : decode code 1406 = .ok (.goto 612, 3) := by decide +kernel
theorem d_W_law_1394 : decode code 1394 = .ok (.aload_n 3, 1) := by decide +kernel
theorem d_W_law_1395 : decode code 1395 = .ok (.iconst 0, 1) := by decide +kernel
theorem d_W_law_1396 : decode code 1396 = .ok (.laload, 1) := by decide +kernel
theorem d_W_law_1397 : decode code 1397 = .ok (.iload 7, 2) := by decide +kernel
theorem d_W_law_1399 : decode code 1399 = .ok (.i2l, 1) := by decide +kernel
theorem d_W_law_1400 : decode code 1400 = .ok (.lcmp, 1) := by decide +kernel
theorem d_W_law_1401 : decode code 1401 = .ok (.ifCond .eq 5, 3) := by decide +kernel
theorem d_W_law_1404 : decode code 1404 = .ok (.iconst 0, 1) := by decide +kernel
theorem d_W_law_1405 : decode code 1405 = .ok (.ireturn, 1) := by decide +kernel
theorem d_W_law_1387 : decode code 1387 = .ok (.iconst 0, 1) := by decide +kernel
theorem d_W_law_1388 : decode code 1388 = .ok (.ireturn, 1) := by decide +kernel
theorem v_W_law_1376 {G : XG} {d : Nat} {h : XH} {Q : XV → XH → Prop} {X : Nat → XH → Prop} {x5 x6 s0 : Int} {n9 : Nat} {xs : Nat → Int32} {nm9 : String} {hq9 : List (Nat × Nat × Nat × Nat)} (SC : SCR G n9 xs) (F : xFix h) (hyp : (((xpl h 53 0) = x6 → ((x6 = 0 → (((xpl h 91 0) = s0 → (xwp G (m_W_law nm9 hq9) (d + 220) 2018 [xR (-108), xR 0, xR 53, xR 91, xR 92, xI x5, xZ, xZ, xZ] [] h Q X)) ∧ (¬ (xpl h 91 0) = s0 → (Q (xI 0) h)))) ∧ (¬ x6 = 0 → (xwp G (m_W_law nm9 hq9) (d + 220) 2018 [xR (-108), xR 0, xR 53, xR 91, xR 92, xI x5, xZ, xZ, xZ] [] h Q X)))) ∧ (¬ (xpl h 53 0) = x6 → (Q (xI 0) h)))) : xwp G (m_W_law nm9 hq9) (d + 220) 1376 [xR (-108), xR 0, xR 53, xR 91, xR 92, xI x5, xI x6, xZ, xZ] [xI s0] h Q X := by
  have hnx9 : (93 : Int) ≤ xnx h := F.2.2
  refine xr_okL (fun hl9 => ?_)
  have r_x5 : -2147483648 ≤ x5 ∧ x5 ≤ 2147483647 := hl9 (xI x5) (.tail _ (.tail _ (.tail _ (.tail _ (.tail _ (.head _)))))) (Nat.le_of_ble_eq_true rfl)
  have r_x6 : -2147483648 ≤ x6 ∧ x6 ≤ 2147483647 := hl9 (xI x6) (.tail _ (.tail _ (.tail _ (.tail _ (.tail _ (.tail _ (.head _))))))) (Nat.le_of_ble_eq_true rfl)
  refine xr_okS (fun hs9 => ?_)
  have r_s0 : -2147483648 ≤ s0 ∧ s0 ≤ 2147483647 := hs9 (xI s0) (.head _)
  refine xr_istore (pc := 1376) (i := 7) (L9 := [xR (-108), xR 0, xR 53, xR 91, xR 92, xI x5, xI x6, xI s0, xZ]) (hI := d_W_law_1376) (hn := Nat.le_of_ble_eq_true rfl) (hL9 := rfl) ?_
  refine xr_aload_n (pc := 1378) (i := 2) (hI := d_W_law_1378) (hi := rfl) (hl := rfl) ?_
  refine xl_callV (pc := 1379) (index := 114) (K := m_M_thrown) (As := []) (S := []) (L0 := [xR 53]) (hI := d_W_law_1379) (hK := k_M_thrown) (hlk := w_1702) (hS8 := Nat.le_of_ble_eq_true rfl) (ci := 11) (N := 38) (C := "BeaconIndexModel") (T := xF11) (hc := rfl) (hci := Nat.le_of_ble_eq_true rfl) (htb := (ft_53 F)) (hinst := w_1703) (hsel := w_1704) (hlen := Nat.le_of_ble_eq_true rfl) (hst := rfl) (hL0 := rfl)  ?_
  refine xr_aload_n (pc := 0) (i := 0) (hI := d_M_thrown_0) (hi := rfl) (hl := rfl) ?_
  refine xg_getf (pc := 1) (ci := 11) (k := 0) (N := 38) (v9 := 0) (v := (xpl h 53 0)) (T := xF11) (hI := d_M_thrown_1) (hw := w_1587) rfl xi11 (Or.inl rfl) (Nat.le_of_ble_eq_true rfl) (Nat.le_of_ble_eq_true rfl) rfl (ft_53 F) rfl (fun f1_ => ?_)
  replace f1_ : -2147483648 ≤ (xpl h 53 0) ∧ (xpl h 53 0) ≤ 2147483647 := f1_
  refine xr_ireturn (S := []) (pc := 4) (hI := d_M_thrown_4) (hr := rfl) ?_
  show xwp G (m_W_law nm9 hq9) (d + 220) 1382 [xR (-108), xR 0, xR 53, xR 91, xR 92, xI x5, xI x6, xI s0, xZ] [xI (xpl h 53 0)] _ _ _
  refine xr_iload (pc := 1382) (i := 6) (hI := d_W_law_1382) (hl := rfl) ?_
  refine xr_icmp_eq (pc := 1384) (tgt := 1389) (hI := d_W_law_1384) (ht := by decide) (fun q9 => ?_) (fun q9 => ?_)
  · replace hyp := hyp.1 q9
    have q2_ := q9
    clear q9
    refine xr_iload (pc := 1389) (i := 6) (hI := d_W_law_1389) (hl := rfl) ?_
    refine xr_if_ne (pc := 1391) (tgt := 1406) (hI := d_W_law_1391) (ht := by decide) (fun q9 => ?_) (fun q9 => ?_)
    · replace hyp := hyp.2 q9
      have q3_ := q9
      clear q9
      refine xr_goto (pc := 1406) (tgt := 2018) (hI := d_W_law_1406) (ht := by decide) ?_
      exact xr_drop (L9 := [xR (-108), xR 0, xR 53, xR 91, xR 92, xI x5, xZ, xZ, xZ]) (xdrs (xdrs (xdrs (xdrs (xdrs (xdrs (xdrz (xdrz (xdrs xdr0))))))))) hyp
    · replace hyp := hyp.1 q9
      have q3_ := q9
      clear q9
      refine xr_aload_n (pc := 1394) (i := 3) (hI := d_W_law_1394) (hi := rfl) (hl := rfl) ?_
      refine xr_iconst (pc := 1395) (hI := d_W_law_1395) (hr := by decide) ?_
      refine xg_laload (pc := 1396) (v := (xpl h 91 0)) (hI := d_W_law_1396) (ft_91 F) (by decide) (xlt_of (fl_91 F) (by decide)) rfl (fun f4_ => ?_)
      replace f4_ : -9223372036854775808 ≤ (xpl h 91 0) ∧ (xpl h 91 0) ≤ 9223372036854775807 := f4_
      refine xr_iload (pc := 1397) (i := 7) (hI := d_W_law_1397) (hl := rfl) ?_
      refine xr_i2l (pc := 1399) (hI := d_W_law_1399) ?_
      refine xr_lcmp (pc := 1400) (hI := d_W_law_1400) ?_
      refine xg_lif_eq (pc := 1401) (tgt := 1406) (hI := d_W_law_1401) (ht := by decide) (fun q9 => ?_) (fun q9 => ?_)
      · replace hyp := hyp.1 q9
        have q5_ := q9
        clear q9
        refine xr_goto (pc := 1406) (tgt := 2018) (hI := d_W_law_1406) (ht := by decide) ?_
        exact xr_drop (L9 := [xR (-108), xR 0, xR 53, xR 91, xR 92, xI x5, xZ, xZ, xZ]) (xdrs (xdrs (xdrs (xdrs (xdrs (xdrs (xdrz (xdrz (xdrs xdr0))))))))) hyp
      · replace hyp := hyp.2 q9
        have q5_ := q9
        clear q9
        refine xr_iconst (pc := 1404) (hI := d_W_law_1404) (hr := by decide) ?_
        refine xr_ireturnT (S := []) (pc := 1405) (hI := d_W_law_1405) (hr := rfl) (xnar_z (by decide)) ?_
        exact hyp
  · replace hyp := hyp.2 q9
    have q2_ := q9
    clear q9
    refine xr_iconst (pc := 1387) (hI := d_W_law_1387) (hr := by decide) ?_
    refine xr_ireturnT (S := []) (pc := 1388) (hI := d_W_law_1388) (hr := rfl) (xnar_z (by decide)) ?_
    exact hyp
theorem d_W_law_1409 : decode code 1409 = .ok (.aload_n 1, 1) := by decide +kernel
theorem d_W_law_1410 : decode code 1410 = .ok (.invokevirtual 196, 3) := by decide +kernel
theorem k_B_nearest : xCal m_B_nearest 0 := ⟨List.mem_append_right _ (List.mem_of_getElem? (i := 881) (by decide +kernel)), w_1, Nat.le_of_ble_eq_true rfl, ⟨by decide +kernel, by decide +kernel⟩, by decide +kernel, by decide +kernel, rfl⟩
theorem w_878 : Cond.methodLink "BeaconIndexLaw" 196 ⟨"BeaconIndex", "nearest", "()I"⟩ ∈ lw_tbl := List.mem_append_right _ (List.mem_of_getElem? (i := 878) (by decide +kernel))
theorem w_879 : Cond.instanceMethod ⟨"BeaconIndex", "nearest", "()I"⟩ ∈ lw_tbl := List.mem_append_right _ (List.mem_of_getElem? (i := 879) (by decide +kernel))
theorem w_880 : Cond.selects "BeaconIndex" ⟨"BeaconIndex", "nearest", "()I"⟩ ⟨"BeaconIndex", "nearest", "()I"⟩ ∈ lw_tbl := List.mem_append_right _ (List.mem_of_getElem? (i := 880) (by decide +kernel))
theorem v_W_law_1409 {G : XG} {d : Nat} {h : XH} {Q : XV → XH → Prop} {X : Nat → XH → Prop} {x5 : Int} {n9 : Nat} {xs : Nat → Int32} {nm9 : String} {hq9 : List (Nat × Nat × Nat × Nat)} (SC : SCR G n9 xs) (F : xFix h) (hyp : (xwp G m_B_nearest (d + 219) 0 [xR 0, xZ, xZ, xZ] [] h (fun v9 h9 => xwp G (m_W_law nm9 hq9) (d + 220) 1413 [xR (-108), xR 0, xR 53, xR 91, xR 92, xI x5, xZ, xZ, xZ] (xpush v9 []) h9 Q X) (fun _ _ => False))) : xwp G (m_W_law nm9 hq9) (d + 220) 1409 [xR (-108), xR 0, xR 53, xR 91, xR 92, xI x5, xZ, xZ, xZ] [] h Q X := by
  have hnx9 : (93 : Int) ≤ xnx h := F.2.2
  refine xr_okL (fun hl9 => ?_)
  have r_x5 : -2147483648 ≤ x5 ∧ x5 ≤ 2147483647 := hl9 (xI x5) (.tail _ (.tail _ (.tail _ (.tail _ (.tail _ (.head _)))))) (Nat.le_of_ble_eq_true rfl)
  refine xr_aload_n (pc := 1409) (i := 1) (hI := d_W_law_1409) (hi := rfl) (hl := rfl) ?_
  exact xl_callV (pc := 1410) (index := 196) (K := m_B_nearest) (As := []) (S := []) (L0 := [xR 0, xZ, xZ, xZ]) (hI := d_W_law_1410) (hK := k_B_nearest) (hlk := w_878) (hS8 := Nat.le_of_ble_eq_true rfl) (ci := 0) (N := 7) (C := "BeaconIndex") (T := xF0) (hc := rfl) (hci := Nat.le_of_ble_eq_true rfl) (htb := (ft_0 F)) (hinst := w_879) (hsel := w_880) (hlen := Nat.le_of_ble_eq_true rfl) (hst := rfl) (hL0 := rfl)  hyp
theorem d_W_law_1413 : decode code 1413 = .ok (.aload_n 2, 1) := by decide +kernel
theorem d_W_law_1414 : decode code 1414 = .ok (.invokevirtual 199, 3) := by decide +kernel
theorem k_M_nearest : xCal m_M_nearest 0 := ⟨List.mem_append_right _ (List.mem_of_getElem? (i := 2250) (by decide +kernel)), w_15, Nat.le_of_ble_eq_true rfl, ⟨by decide +kernel, by decide +kernel⟩, by decide +kernel, by decide +kernel, rfl⟩
theorem w_2247 : Cond.methodLink "BeaconIndexLaw" 199 ⟨"BeaconIndexModel", "nearest", "()I"⟩ ∈ lw_tbl := List.mem_append_right _ (List.mem_of_getElem? (i := 2247) (by decide +kernel))
theorem w_2248 : Cond.instanceMethod ⟨"BeaconIndexModel", "nearest", "()I"⟩ ∈ lw_tbl := List.mem_append_right _ (List.mem_of_getElem? (i := 2248) (by decide +kernel))
theorem w_2249 : Cond.selects "BeaconIndexModel" ⟨"BeaconIndexModel", "nearest", "()I"⟩ ⟨"BeaconIndexModel", "nearest", "()I"⟩ ∈ lw_tbl := List.mem_append_right _ (List.mem_of_getElem? (i := 2249) (by decide +kernel))
theorem v_W_law_1413 {G : XG} {d : Nat} {h : XH} {Q : XV → XH → Prop} {X : Nat → XH → Prop} {x5 s0 : Int} {n9 : Nat} {xs : Nat → Int32} {nm9 : String} {hq9 : List (Nat × Nat × Nat × Nat)} (SC : SCR G n9 xs) (F : xFix h) (hyp : (xwp G m_M_nearest (d + 219) 0 [xR 53, xZ, xZ, xZ, xZ, xZ, xZ, xZ, xZ] [] h (fun v9 h9 => xwp G (m_W_law nm9 hq9) (d + 220) 1417 [xR (-108), xR 0, xR 53, xR 91, xR 92, xI x5, xZ, xZ, xZ] (xpush v9 [xI s0]) h9 Q X) (fun _ _ => False))) : xwp G (m_W_law nm9 hq9) (d + 220) 1413 [xR (-108), xR 0, xR 53, xR 91, xR 92, xI x5, xZ, xZ, xZ] [xI s0] h Q X := by
  have hnx9 : (93 : Int) ≤ xnx h := F.2.2
  refine xr_okL (fun hl9 => ?_)
  have r_x5 : -2147483648 ≤ x5 ∧ x5 ≤ 2147483647 := hl9 (xI x5) (.tail _ (.tail _ (.tail _ (.tail _ (.tail _ (.head _)))))) (Nat.le_of_ble_eq_true rfl)
  refine xr_okS (fun hs9 => ?_)
  have r_s0 : -2147483648 ≤ s0 ∧ s0 ≤ 2147483647 := hs9 (xI s0) (.head _)
  refine xr_aload_n (pc := 1413) (i := 2) (hI := d_W_law_1413) (hi := rfl) (hl := rfl) ?_
  exact xl_callV (pc := 1414) (index := 199) (K := m_M_nearest) (As := []) (S := [xI s0]) (L0 := [xR 53, xZ, xZ, xZ, xZ, xZ, xZ, xZ, xZ]) (hI := d_W_law_1414) (hK := k_M_nearest) (hlk := w_2247) (hS8 := Nat.le_of_ble_eq_true rfl) (ci := 11) (N := 38) (C := "BeaconIndexModel") (T := xF11) (hc := rfl) (hci := Nat.le_of_ble_eq_true rfl) (htb := (ft_53 F)) (hinst := w_2248) (hsel := w_2249) (hlen := Nat.le_of_ble_eq_true rfl) (hst := rfl) (hL0 := rfl)  hyp
theorem d_W_law_1417 : decode code 1417 = .ok (.if_icmp .eq 601, 3) := by decide +kernel
theorem d_W_law_1420 : decode code 1420 = .ok (.iconst 0, 1) := by decide +kernel
theorem d_W_law_1421 : decode code 1421 = .ok (.ireturn, 1) := by decide +kernel
theorem v_W_law_1417 {G : XG} {d : Nat} {h : XH} {Q : XV → XH → Prop} {X : Nat → XH → Prop} {x5 s0 s1 : Int} {n9 : Nat} {xs : Nat → Int32} {nm9 : String} {hq9 : List (Nat × Nat × Nat × Nat)} (SC : SCR G n9 xs) (F : xFix h) (hyp : ((s1 = s0 → (xwp G (m_W_law nm9 hq9) (d + 220) 2018 [xR (-108), xR 0, xR 53, xR 91, xR 92, xI x5, xZ, xZ, xZ] [] h Q X)) ∧ (¬ s1 = s0 → (Q (xI 0) h)))) : xwp G (m_W_law nm9 hq9) (d + 220) 1417 [xR (-108), xR 0, xR 53, xR 91, xR 92, xI x5, xZ, xZ, xZ] [xI s0, xI s1] h Q X := by
  have hnx9 : (93 : Int) ≤ xnx h := F.2.2
  refine xr_okL (fun hl9 => ?_)
  have r_x5 : -2147483648 ≤ x5 ∧ x5 ≤ 2147483647 := hl9 (xI x5) (.tail _ (.tail _ (.tail _ (.tail _ (.tail _ (.head _)))))) (Nat.le_of_ble_eq_true rfl)
  refine xr_okS (fun hs9 => ?_)
  have r_s0 : -2147483648 ≤ s0 ∧ s0 ≤ 2147483647 := hs9 (xI s0) (.head _)
  have r_s1 : -2147483648 ≤ s1 ∧ s1 ≤ 2147483647 := hs9 (xI s1) (.tail _ (.head _))
  refine xr_icmp_eq (pc := 1417) (tgt := 2018) (hI := d_W_law_1417) (ht := by decide) (fun q9 => ?_) (fun q9 => ?_)
  · replace hyp := hyp.1 q9
    have q1_ := q9
    clear q9
    exact hyp
  · replace hyp := hyp.2 q9
    have q1_ := q9
    clear q9
    refine xr_iconst (pc := 1420) (hI := d_W_law_1420) (hr := by decide) ?_
    refine xr_ireturnT (S := []) (pc := 1421) (hI := d_W_law_1421) (hr := rfl) (xnar_z (by decide)) ?_
    exact hyp
theorem d_W_law_1422 : decode code 1422 = .ok (.aload_n 1, 1) := by decide +kernel
theorem d_W_law_1423 : decode code 1423 = .ok (.invokevirtual 200, 3) := by decide +kernel
theorem k_B_ask : xCal m_B_ask 0 := ⟨List.mem_append_right _ (List.mem_of_getElem? (i := 951) (by decide +kernel)), w_1, Nat.le_of_ble_eq_true rfl, ⟨by decide +kernel, by decide +kernel⟩, by decide +kernel, by decide +kernel, rfl⟩
theorem w_948 : Cond.methodLink "BeaconIndexLaw" 200 ⟨"BeaconIndex", "ask", "()I"⟩ ∈ lw_tbl := List.mem_append_right _ (List.mem_of_getElem? (i := 948) (by decide +kernel))
theorem w_949 : Cond.instanceMethod ⟨"BeaconIndex", "ask", "()I"⟩ ∈ lw_tbl := List.mem_append_right _ (List.mem_of_getElem? (i := 949) (by decide +kernel))
theorem w_950 : Cond.selects "BeaconIndex" ⟨"BeaconIndex", "ask", "()I"⟩ ⟨"BeaconIndex", "ask", "()I"⟩ ∈ lw_tbl := List.mem_append_right _ (List.mem_of_getElem? (i := 950) (by decide +kernel))
theorem v_W_law_1422 {G : XG} {d : Nat} {h : XH} {Q : XV → XH → Prop} {X : Nat → XH → Prop} {x5 : Int} {n9 : Nat} {xs : Nat → Int32} {nm9 : String} {hq9 : List (Nat × Nat × Nat × Nat)} (SC : SCR G n9 xs) (F : xFix h) (hyp : (xwp G m_B_ask (d + 219) 0 [xR 0, xZ] [] h (fun v9 h9 => xwp G (m_W_law nm9 hq9) (d + 220) 1426 [xR (-108), xR 0, xR 53, xR 91, xR 92, xI x5, xZ, xZ, xZ] (xpush v9 []) h9 Q X) (fun _ _ => False))) : xwp G (m_W_law nm9 hq9) (d + 220) 1422 [xR (-108), xR 0, xR 53, xR 91, xR 92, xI x5, xZ, xZ, xZ] [] h Q X := by
  have hnx9 : (93 : Int) ≤ xnx h := F.2.2
  refine xr_okL (fun hl9 => ?_)
  have r_x5 : -2147483648 ≤ x5 ∧ x5 ≤ 2147483647 := hl9 (xI x5) (.tail _ (.tail _ (.tail _ (.tail _ (.tail _ (.head _)))))) (Nat.le_of_ble_eq_true rfl)
  refine xr_aload_n (pc := 1422) (i := 1) (hI := d_W_law_1422) (hi := rfl) (hl := rfl) ?_
  exact xl_callV (pc := 1423) (index := 200) (K := m_B_ask) (As := []) (S := []) (L0 := [xR 0, xZ]) (hI := d_W_law_1423) (hK := k_B_ask) (hlk := w_948) (hS8 := Nat.le_of_ble_eq_true rfl) (ci := 0) (N := 7) (C := "BeaconIndex") (T := xF0) (hc := rfl) (hci := Nat.le_of_ble_eq_true rfl) (htb := (ft_0 F)) (hinst := w_949) (hsel := w_950) (hlen := Nat.le_of_ble_eq_true rfl) (hst := rfl) (hL0 := rfl)  hyp
theorem d_W_law_1426 : decode code 1426 = .ok (.aload_n 2, 1) := by decide +kernel
theorem d_W_law_1427 : decode code 1427 = .ok (.invokevirtual 203, 3) := by decide +kernel
theorem k_M_ask : xCal m_M_ask 0 := ⟨List.mem_append_right _ (List.mem_of_getElem? (i := 2258) (by decide +kernel)), w_15, Nat.le_of_ble_eq_true rfl, ⟨by decide +kernel, by decide +kernel⟩, by decide +kernel, by decide +kernel, rfl⟩
theorem w_2255 : Cond.methodLink "BeaconIndexLaw" 203 ⟨"BeaconIndexModel", "ask", "()I"⟩ ∈ lw_tbl := List.mem_append_right _ (List.mem_of_getElem? (i := 2255) (by decide +kernel))
theorem w_2256 : Cond.instanceMethod ⟨"BeaconIndexModel", "ask", "()I"⟩ ∈ lw_tbl := List.mem_append_right _ (List.mem_of_getElem? (i := 2256) (by decide +kernel))
theorem w_2257 : Cond.selects "BeaconIndexModel" ⟨"BeaconIndexModel", "ask", "()I"⟩ ⟨"BeaconIndexModel", "ask", "()I"⟩ ∈ lw_tbl := List.mem_append_right _ (List.mem_of_getElem? (i := 2257) (by decide +kernel))
theorem v_W_law_1426 {G : XG} {d : Nat} {h : XH} {Q : XV → XH → Prop} {X : Nat → XH → Prop} {x5 s0 : Int} {n9 : Nat} {xs : Nat → Int32} {nm9 : String} {hq9 : List (Nat × Nat × Nat × Nat)} (SC : SCR G n9 xs) (F : xFix h) (hyp : (xwp G m_M_ask (d + 219) 0 [xR 53, xZ] [] h (fun v9 h9 => xwp G (m_W_law nm9 hq9) (d + 220) 1430 [xR (-108), xR 0, xR 53, xR 91, xR 92, xI x5, xZ, xZ, xZ] (xpush v9 [xI s0]) h9 Q X) (fun _ _ => False))) : xwp G (m_W_law nm9 hq9) (d + 220) 1426 [xR (-108), xR 0, xR 53, xR 91, xR 92, xI x5, xZ, xZ, xZ] [xI s0] h Q X := by
  have hnx9 : (93 : Int) ≤ xnx h := F.2.2
  refine xr_okL (fun hl9 => ?_)
  have r_x5 : -2147483648 ≤ x5 ∧ x5 ≤ 2147483647 := hl9 (xI x5) (.tail _ (.tail _ (.tail _ (.tail _ (.tail _ (.head _)))))) (Nat.le_of_ble_eq_true rfl)
  refine xr_okS (fun hs9 => ?_)
  have r_s0 : -2147483648 ≤ s0 ∧ s0 ≤ 2147483647 := hs9 (xI s0) (.head _)
  refine xr_aload_n (pc := 1426) (i := 2) (hI := d_W_law_1426) (hi := rfl) (hl := rfl) ?_
  exact xl_callV (pc := 1427) (index := 203) (K := m_M_ask) (As := []) (S := [xI s0]) (L0 := [xR 53, xZ]) (hI := d_W_law_1427) (hK := k_M_ask) (hlk := w_2255) (hS8 := Nat.le_of_ble_eq_true rfl) (ci := 11) (N := 38) (C := "BeaconIndexModel") (T := xF11) (hc := rfl) (hci := Nat.le_of_ble_eq_true rfl) (htb := (ft_53 F)) (hinst := w_2256) (hsel := w_2257) (hlen := Nat.le_of_ble_eq_true rfl) (hst := rfl) (hL0 := rfl)  hyp
theorem d_W_law_1430 : decode code 1430 = .ok (.if_icmp .eq 588, 3) := by decide +kernel
theorem d_W_law_1433 : decode code 1433 = .ok (.iconst 0, 1) := by decide +kernel
theorem d_W_law_1434 : decode code 1434 = .ok (.ireturn, 1) := by decide +kernel
theorem v_W_law_1430 {G : XG} {d : Nat} {h : XH} {Q : XV → XH → Prop} {X : Nat → XH → Prop} {x5 s0 s1 : Int} {n9 : Nat} {xs : Nat → Int32} {nm9 : String} {hq9 : List (Nat × Nat × Nat × Nat)} (SC : SCR G n9 xs) (F : xFix h) (hyp : ((s1 = s0 → (xwp G (m_W_law nm9 hq9) (d + 220) 2018 [xR (-108), xR 0, xR 53, xR 91, xR 92, xI x5, xZ, xZ, xZ] [] h Q X)) ∧ (¬ s1 = s0 → (Q (xI 0) h)))) : xwp G (m_W_law nm9 hq9) (d + 220) 1430 [xR (-108), xR 0, xR 53, xR 91, xR 92, xI x5, xZ, xZ, xZ] [xI s0, xI s1] h Q X := by
  have hnx9 : (93 : Int) ≤ xnx h := F.2.2
  refine xr_okL (fun hl9 => ?_)
  have r_x5 : -2147483648 ≤ x5 ∧ x5 ≤ 2147483647 := hl9 (xI x5) (.tail _ (.tail _ (.tail _ (.tail _ (.tail _ (.head _)))))) (Nat.le_of_ble_eq_true rfl)
  refine xr_okS (fun hs9 => ?_)
  have r_s0 : -2147483648 ≤ s0 ∧ s0 ≤ 2147483647 := hs9 (xI s0) (.head _)
  have r_s1 : -2147483648 ≤ s1 ∧ s1 ≤ 2147483647 := hs9 (xI s1) (.tail _ (.head _))
  refine xr_icmp_eq (pc := 1430) (tgt := 2018) (hI := d_W_law_1430) (ht := by decide) (fun q9 => ?_) (fun q9 => ?_)
  · replace hyp := hyp.1 q9
    have q1_ := q9
    clear q9
    exact hyp
  · replace hyp := hyp.2 q9
    have q1_ := q9
    clear q9
    refine xr_iconst (pc := 1433) (hI := d_W_law_1433) (hr := by decide) ?_
    refine xr_ireturnT (S := []) (pc := 1434) (hI := d_W_law_1434) (hr := rfl) (xnar_z (by decide)) ?_
    exact hyp
theorem d_W_law_1435 : decode code 1435 = .ok (.aload_n 1, 1) := by decide +kernel
theorem d_W_law_1436 : decode code 1436 = .ok (.aload_n 3, 1) := by decide +kernel
theorem d_W_law_1437 : decode code 1437 = .ok (.invokestatic 204, 3) := by decide +kernel
theorem k_W_parts : xCalH m_W_parts 2 := ⟨List.mem_append_right _ (List.mem_of_getElem? (i := 1472) (by decide +kernel)), w_0, Nat.le_of_ble_eq_true rfl, ⟨by decide +kernel, by decide +kernel⟩, by decide +kernel, by decide +kernel⟩
theorem w_1470 : Cond.methodLink "BeaconIndexLaw" 204 ⟨"BeaconIndexLaw", "parts", "(LBeaconIndex;[J)I"⟩ ∈ lw_tbl := List.mem_append_right _ (List.mem_of_getElem? (i := 1470) (by decide +kernel))
theorem w_1471 : Cond.static ⟨"BeaconIndexLaw", "parts", "(LBeaconIndex;[J)I"⟩ ∈ lw_tbl := List.mem_append_right _ (List.mem_of_getElem? (i := 1471) (by decide +kernel))
theorem v_W_law_1435 {G : XG} {d : Nat} {h : XH} {Q : XV → XH → Prop} {X : Nat → XH → Prop} {x5 : Int} {n9 : Nat} {xs : Nat → Int32} {nm9 : String} {hq9 : List (Nat × Nat × Nat × Nat)} (SC : SCR G n9 xs) (F : xFix h) (hyp : (xwp G m_W_parts (d + 219) 0 [xR 0, xR 91, xZ] [] h (fun v9 h9 => xwp G (m_W_law nm9 hq9) (d + 220) 1440 [xR (-108), xR 0, xR 53, xR 91, xR 92, xI x5, xZ, xZ, xZ] (xpush v9 []) h9 Q X) (fun _ _ => False))) : xwp G (m_W_law nm9 hq9) (d + 220) 1435 [xR (-108), xR 0, xR 53, xR 91, xR 92, xI x5, xZ, xZ, xZ] [] h Q X := by
  have hnx9 : (93 : Int) ≤ xnx h := F.2.2
  refine xr_okL (fun hl9 => ?_)
  have r_x5 : -2147483648 ≤ x5 ∧ x5 ≤ 2147483647 := hl9 (xI x5) (.tail _ (.tail _ (.tail _ (.tail _ (.tail _ (.head _)))))) (Nat.le_of_ble_eq_true rfl)
  refine xr_aload_n (pc := 1435) (i := 1) (hI := d_W_law_1435) (hi := rfl) (hl := rfl) ?_
  refine xr_aload_n (pc := 1436) (i := 3) (hI := d_W_law_1436) (hi := rfl) (hl := rfl) ?_
  exact xl_callSW (pc := 1437) (index := 204) (K := m_W_parts) (As := [xR 0, xR 91]) (S := []) (L0 := [xR 0, xR 91, xZ]) (hI := d_W_law_1437) (hK := k_W_parts) (hlk := w_1470) (hS8 := Nat.le_of_ble_eq_true rfl) (hstat := w_1471) (hlen := Nat.le_of_ble_eq_true rfl) (hst := rfl) (hL0 := rfl)  hyp
theorem d_W_law_1440 : decode code 1440 = .ok (.istore 6, 2) := by decide +kernel
theorem d_W_law_1442 : decode code 1442 = .ok (.aload_n 2, 1) := by decide +kernel
theorem d_W_law_1443 : decode code 1443 = .ok (.invokevirtual 207, 3) := by decide +kernel
theorem k_M_parts : xCal m_M_parts 0 := ⟨List.mem_append_right _ (List.mem_of_getElem? (i := 2359) (by decide +kernel)), w_15, Nat.le_of_ble_eq_true rfl, ⟨by decide +kernel, by decide +kernel⟩, by decide +kernel, by decide +kernel, rfl⟩
theorem w_2356 : Cond.methodLink "BeaconIndexLaw" 207 ⟨"BeaconIndexModel", "parts", "()I"⟩ ∈ lw_tbl := List.mem_append_right _ (List.mem_of_getElem? (i := 2356) (by decide +kernel))
theorem w_2357 : Cond.instanceMethod ⟨"BeaconIndexModel", "parts", "()I"⟩ ∈ lw_tbl := List.mem_append_right _ (List.mem_of_getElem? (i := 2357) (by decide +kernel))
theorem w_2358 : Cond.selects "BeaconIndexModel" ⟨"BeaconIndexModel", "parts", "()I"⟩ ⟨"BeaconIndexModel", "parts", "()I"⟩ ∈ lw_tbl := List.mem_append_right _ (List.mem_of_getElem? (i := 2358) (by decide +kernel))
theorem v_W_law_1440 {G : XG} {d : Nat} {h : XH} {Q : XV → XH → Prop} {X : Nat → XH → Prop} {x5 s0 : Int} {n9 : Nat} {xs : Nat → Int32} {nm9 : String} {hq9 : List (Nat × Nat × Nat × Nat)} (SC : SCR G n9 xs) (F : xFix h) (hyp : (xwp G m_M_parts (d + 219) 0 [xR 53] [] h (fun v9 h9 => xwp G (m_W_law nm9 hq9) (d + 220) 1446 [xR (-108), xR 0, xR 53, xR 91, xR 92, xI x5, xI s0, xZ, xZ] (xpush v9 []) h9 Q X) (fun _ _ => False))) : xwp G (m_W_law nm9 hq9) (d + 220) 1440 [xR (-108), xR 0, xR 53, xR 91, xR 92, xI x5, xZ, xZ, xZ] [xI s0] h Q X := by
  have hnx9 : (93 : Int) ≤ xnx h := F.2.2
  refine xr_okL (fun hl9 => ?_)
  have r_x5 : -2147483648 ≤ x5 ∧ x5 ≤ 2147483647 := hl9 (xI x5) (.tail _ (.tail _ (.tail _ (.tail _ (.tail _ (.head _)))))) (Nat.le_of_ble_eq_true rfl)
  refine xr_okS (fun hs9 => ?_)
  have r_s0 : -2147483648 ≤ s0 ∧ s0 ≤ 2147483647 := hs9 (xI s0) (.head _)
  refine xr_istore (pc := 1440) (i := 6) (L9 := [xR (-108), xR 0, xR 53, xR 91, xR 92, xI x5, xI s0, xZ, xZ]) (hI := d_W_law_1440) (hn := Nat.le_of_ble_eq_true rfl) (hL9 := rfl) ?_
  refine xr_aload_n (pc := 1442) (i := 2) (hI := d_W_law_1442) (hi := rfl) (hl := rfl) ?_
  exact xl_callV (pc := 1443) (index := 207) (K := m_M_parts) (As := []) (S := []) (L0 := [xR 53]) (hI := d_W_law_1443) (hK := k_M_parts) (hlk := w_2356) (hS8 := Nat.le_of_ble_eq_true rfl) (ci := 11) (N := 38) (C := "BeaconIndexModel") (T := xF11) (hc := rfl) (hci := Nat.le_of_ble_eq_true rfl) (htb := (ft_53 F)) (hinst := w_2357) (hsel := w_2358) (hlen := Nat.le_of_ble_eq_true rfl) (hst := rfl) (hL0 := rfl)  hyp
theorem d_W_law_1446 : decode code 1446 = .ok (.istore 7, 2) := by decide +kernel
theorem d_W_law_1448 : decode code 1448 = .ok (.aload_n 2, 1) := by decide +kernel
theorem d_W_law_1449 : decode code 1449 = .ok (.invokevirtual 114, 3) := by decide +kernel
theorem d_W_law_1452 : decode code 1452 = .ok (.iload 6, 2) := by decide +kernel
theorem d_W_law_1454 : decode code 1454 = .ok (.if_icmp .eq 5, 3) := by decide +kernel
theorem d_W_law_1459 : decode code 1459 = .ok (.iload 6, 2) := by decide +kernel
theorem d_W_law_1461 : decode code 1461 = .ok (.ifCond .ne 15, 3) := by decide +kernel
theorem d_W_law_1476 : decode code 1476 = .ok (.goto 542, 3) := by decide +kernel
theorem d_W_law_1464 : decode code 1464 = .ok (.aload_n 3, 1) := by decide +kernel
theorem d_W_law_1465 : decode code 1465 = .ok (.iconst 0, 1) := by decide +kernel
theorem d_W_law_1466 : decode code 1466 = .ok (.laload, 1) := by decide +kernel
theorem d_W_law_1467 : decode code 1467 = .ok (.iload 7, 2) := by decide +kernel
theorem d_W_law_1469 : decode code 1469 = .ok (.i2l, 1) := by decide +kernel
theorem d_W_law_1470 : decode code 1470 = .ok (.lcmp, 1) := by decide +kernel
theorem d_W_law_1471 : decode code 1471 = .ok (.ifCond .eq 5, 3) := by decide +kernel
theorem d_W_law_1474 : decode code 1474 = .ok (.iconst 0, 1) := by decide +kernel
theorem d_W_law_1475 : decode code 1475 = .ok (.ireturn, 1) := by decide +kernel
theorem d_W_law_1457 : decode code 1457 = .ok (.iconst 0, 1) := by decide +kernel
theorem d_W_law_1458 : decode code 1458 = .ok (.ireturn, 1) := by decide +kernel
theorem v_W_law_1446 {G : XG} {d : Nat} {h : XH} {Q : XV → XH → Prop} {X : Nat → XH → Prop} {x5 x6 s0 : Int} {n9 : Nat} {xs : Nat → Int32} {nm9 : String} {hq9 : List (Nat × Nat × Nat × Nat)} (SC : SCR G n9 xs) (F : xFix h) (hyp : (((xpl h 53 0) = x6 → ((x6 = 0 → (((xpl h 91 0) = s0 → (xwp G (m_W_law nm9 hq9) (d + 220) 2018 [xR (-108), xR 0, xR 53, xR 91, xR 92, xI x5, xZ, xZ, xZ] [] h Q X)) ∧ (¬ (xpl h 91 0) = s0 → (Q (xI 0) h)))) ∧ (¬ x6 = 0 → (xwp G (m_W_law nm9 hq9) (d + 220) 2018 [xR (-108), xR 0, xR 53, xR 91, xR 92, xI x5, xZ, xZ, xZ] [] h Q X)))) ∧ (¬ (xpl h 53 0) = x6 → (Q (xI 0) h)))) : xwp G (m_W_law nm9 hq9) (d + 220) 1446 [xR (-108), xR 0, xR 53, xR 91, xR 92, xI x5, xI x6, xZ, xZ] [xI s0] h Q X := by
  have hnx9 : (93 : Int) ≤ xnx h := F.2.2
  refine xr_okL (fun hl9 => ?_)
  have r_x5 : -2147483648 ≤ x5 ∧ x5 ≤ 2147483647 := hl9 (xI x5) (.tail _ (.tail _ (.tail _ (.tail _ (.tail _ (.head _)))))) (Nat.le_of_ble_eq_true rfl)
  have r_x6 : -2147483648 ≤ x6 ∧ x6 ≤ 2147483647 := hl9 (xI x6) (.tail _ (.tail _ (.tail _ (.tail _ (.tail _ (.tail _ (.head _))))))) (Nat.le_of_ble_eq_true rfl)
  refine xr_okS (fun hs9 => ?_)
  have r_s0 : -2147483648 ≤ s0 ∧ s0 ≤ 2147483647 := hs9 (xI s0) (.head _)
  refine xr_istore (pc := 1446) (i := 7) (L9 := [xR (-108), xR 0, xR 53, xR 91, xR 92, xI x5, xI x6, xI s0, xZ]) (hI := d_W_law_1446) (hn := Nat.le_of_ble_eq_true rfl) (hL9 := rfl) ?_
  refine xr_aload_n (pc := 1448) (i := 2) (hI := d_W_law_1448) (hi := rfl) (hl := rfl) ?_
  refine xl_callV (pc := 1449) (index := 114) (K := m_M_thrown) (As := []) (S := []) (L0 := [xR 53]) (hI := d_W_law_1449) (hK := k_M_thrown) (hlk := w_1702) (hS8 := Nat.le_of_ble_eq_true rfl) (ci := 11) (N := 38) (C := "BeaconIndexModel") (T := xF11) (hc := rfl) (hci := Nat.le_of_ble_eq_true rfl) (htb := (ft_53 F)) (hinst := w_1703) (hsel := w_1704) (hlen := Nat.le_of_ble_eq_true rfl) (hst := rfl) (hL0 := rfl)  ?_
  refine xr_aload_n (pc := 0) (i := 0) (hI := d_M_thrown_0) (hi := rfl) (hl := rfl) ?_
  refine xg_getf (pc := 1) (ci := 11) (k := 0) (N := 38) (v9 := 0) (v := (xpl h 53 0)) (T := xF11) (hI := d_M_thrown_1) (hw := w_1587) rfl xi11 (Or.inl rfl) (Nat.le_of_ble_eq_true rfl) (Nat.le_of_ble_eq_true rfl) rfl (ft_53 F) rfl (fun f1_ => ?_)
  replace f1_ : -2147483648 ≤ (xpl h 53 0) ∧ (xpl h 53 0) ≤ 2147483647 := f1_
  refine xr_ireturn (S := []) (pc := 4) (hI := d_M_thrown_4) (hr := rfl) ?_
  show xwp G (m_W_law nm9 hq9) (d + 220) 1452 [xR (-108), xR 0, xR 53, xR 91, xR 92, xI x5, xI x6, xI s0, xZ] [xI (xpl h 53 0)] _ _ _
  refine xr_iload (pc := 1452) (i := 6) (hI := d_W_law_1452) (hl := rfl) ?_
  refine xr_icmp_eq (pc := 1454) (tgt := 1459) (hI := d_W_law_1454) (ht := by decide) (fun q9 => ?_) (fun q9 => ?_)
  · replace hyp := hyp.1 q9
    have q2_ := q9
    clear q9
    refine xr_iload (pc := 1459) (i := 6) (hI := d_W_law_1459) (hl := rfl) ?_
    refine xr_if_ne (pc := 1461) (tgt := 1476) (hI := d_W_law_1461) (ht := by decide) (fun q9 => ?_) (fun q9 => ?_)
    · replace hyp := hyp.2 q9
      have q3_ := q9
      clear q9
      refine xr_goto (pc := 1476) (tgt := 2018) (hI := d_W_law_1476) (ht := by decide) ?_
      exact xr_drop (L9 := [xR (-108), xR 0, xR 53, xR 91, xR 92, xI x5, xZ, xZ, xZ]) (xdrs (xdrs (xdrs (xdrs (xdrs (xdrs (xdrz (xdrz (xdrs xdr0))))))))) hyp
    · replace hyp := hyp.1 q9
      have q3_ := q9
      clear q9
      refine xr_aload_n (pc := 1464) (i := 3) (hI := d_W_law_1464) (hi := rfl) (hl := rfl) ?_
      refine xr_iconst (pc := 1465) (hI := d_W_law_1465) (hr := by decide) ?_
      refine xg_laload (pc := 1466) (v := (xpl h 91 0)) (hI := d_W_law_1466) (ft_91 F) (by decide) (xlt_of (fl_91 F) (by decide)) rfl (fun f4_ => ?_)
      replace f4_ : -9223372036854775808 ≤ (xpl h 91 0) ∧ (xpl h 91 0) ≤ 9223372036854775807 := f4_
      refine xr_iload (pc := 1467) (i := 7) (hI := d_W_law_1467) (hl := rfl) ?_
      refine xr_i2l (pc := 1469) (hI := d_W_law_1469) ?_
      refine xr_lcmp (pc := 1470) (hI := d_W_law_1470) ?_
      refine xg_lif_eq (pc := 1471) (tgt := 1476) (hI := d_W_law_1471) (ht := by decide) (fun q9 => ?_) (fun q9 => ?_)
      · replace hyp := hyp.1 q9
        have q5_ := q9
        clear q9
        refine xr_goto (pc := 1476) (tgt := 2018) (hI := d_W_law_1476) (ht := by decide) ?_
        exact xr_drop (L9 := [xR (-108), xR 0, xR 53, xR 91, xR 92, xI x5, xZ, xZ, xZ]) (xdrs (xdrs (xdrs (xdrs (xdrs (xdrs (xdrz (xdrz (xdrs xdr0))))))))) hyp
      · replace hyp := hyp.2 q9
        have q5_ := q9
        clear q9
        refine xr_iconst (pc := 1474) (hI := d_W_law_1474) (hr := by decide) ?_
        refine xr_ireturnT (S := []) (pc := 1475) (hI := d_W_law_1475) (hr := rfl) (xnar_z (by decide)) ?_
        exact hyp
  · replace hyp := hyp.2 q9
    have q2_ := q9
    clear q9
    refine xr_iconst (pc := 1457) (hI := d_W_law_1457) (hr := by decide) ?_
    refine xr_ireturnT (S := []) (pc := 1458) (hI := d_W_law_1458) (hr := rfl) (xnar_z (by decide)) ?_
    exact hyp
theorem d_W_law_1479 : decode code 1479 = .ok (.aload_n 1, 1) := by decide +kernel
theorem d_W_law_1480 : decode code 1480 = .ok (.aload_n 3, 1) := by decide +kernel
theorem d_W_law_1481 : decode code 1481 = .ok (.invokestatic 208, 3) := by decide +kernel
theorem k_W_found : xCalH m_W_found 2 := ⟨List.mem_append_right _ (List.mem_of_getElem? (i := 1476) (by decide +kernel)), w_0, Nat.le_of_ble_eq_true rfl, ⟨by decide +kernel, by decide +kernel⟩, by decide +kernel, by decide +kernel⟩
theorem w_1474 : Cond.methodLink "BeaconIndexLaw" 208 ⟨"BeaconIndexLaw", "found", "(LBeaconIndex;[J)I"⟩ ∈ lw_tbl := List.mem_append_right _ (List.mem_of_getElem? (i := 1474) (by decide +kernel))
theorem w_1475 : Cond.static ⟨"BeaconIndexLaw", "found", "(LBeaconIndex;[J)I"⟩ ∈ lw_tbl := List.mem_append_right _ (List.mem_of_getElem? (i := 1475) (by decide +kernel))
theorem v_W_law_1479 {G : XG} {d : Nat} {h : XH} {Q : XV → XH → Prop} {X : Nat → XH → Prop} {x5 : Int} {n9 : Nat} {xs : Nat → Int32} {nm9 : String} {hq9 : List (Nat × Nat × Nat × Nat)} (SC : SCR G n9 xs) (F : xFix h) (hyp : (xwp G m_W_found (d + 219) 0 [xR 0, xR 91, xZ] [] h (fun v9 h9 => xwp G (m_W_law nm9 hq9) (d + 220) 1484 [xR (-108), xR 0, xR 53, xR 91, xR 92, xI x5, xZ, xZ, xZ] (xpush v9 []) h9 Q X) (fun _ _ => False))) : xwp G (m_W_law nm9 hq9) (d + 220) 1479 [xR (-108), xR 0, xR 53, xR 91, xR 92, xI x5, xZ, xZ, xZ] [] h Q X := by
  have hnx9 : (93 : Int) ≤ xnx h := F.2.2
  refine xr_okL (fun hl9 => ?_)
  have r_x5 : -2147483648 ≤ x5 ∧ x5 ≤ 2147483647 := hl9 (xI x5) (.tail _ (.tail _ (.tail _ (.tail _ (.tail _ (.head _)))))) (Nat.le_of_ble_eq_true rfl)
  refine xr_aload_n (pc := 1479) (i := 1) (hI := d_W_law_1479) (hi := rfl) (hl := rfl) ?_
  refine xr_aload_n (pc := 1480) (i := 3) (hI := d_W_law_1480) (hi := rfl) (hl := rfl) ?_
  exact xl_callSW (pc := 1481) (index := 208) (K := m_W_found) (As := [xR 0, xR 91]) (S := []) (L0 := [xR 0, xR 91, xZ]) (hI := d_W_law_1481) (hK := k_W_found) (hlk := w_1474) (hS8 := Nat.le_of_ble_eq_true rfl) (hstat := w_1475) (hlen := Nat.le_of_ble_eq_true rfl) (hst := rfl) (hL0 := rfl)  hyp
theorem d_W_law_1484 : decode code 1484 = .ok (.istore 6, 2) := by decide +kernel
theorem d_W_law_1486 : decode code 1486 = .ok (.aload_n 2, 1) := by decide +kernel
theorem d_W_law_1487 : decode code 1487 = .ok (.invokevirtual 210, 3) := by decide +kernel
theorem k_M_found : xCal m_M_found 0 := ⟨List.mem_append_right _ (List.mem_of_getElem? (i := 2367) (by decide +kernel)), w_15, Nat.le_of_ble_eq_true rfl, ⟨by decide +kernel, by decide +kernel⟩, by decide +kernel, by decide +kernel, rfl⟩
theorem w_2364 : Cond.methodLink "BeaconIndexLaw" 210 ⟨"BeaconIndexModel", "found", "()I"⟩ ∈ lw_tbl := List.mem_append_right _ (List.mem_of_getElem? (i := 2364) (by decide +kernel))
theorem w_2365 : Cond.instanceMethod ⟨"BeaconIndexModel", "found", "()I"⟩ ∈ lw_tbl := List.mem_append_right _ (List.mem_of_getElem? (i := 2365) (by decide +kernel))
theorem w_2366 : Cond.selects "BeaconIndexModel" ⟨"BeaconIndexModel", "found", "()I"⟩ ⟨"BeaconIndexModel", "found", "()I"⟩ ∈ lw_tbl := List.mem_append_right _ (List.mem_of_getElem? (i := 2366) (by decide +kernel))
theorem v_W_law_1484 {G : XG} {d : Nat} {h : XH} {Q : XV → XH → Prop} {X : Nat → XH → Prop} {x5 s0 : Int} {n9 : Nat} {xs : Nat → Int32} {nm9 : String} {hq9 : List (Nat × Nat × Nat × Nat)} (SC : SCR G n9 xs) (F : xFix h) (hyp : (xwp G m_M_found (d + 219) 0 [xR 53] [] h (fun v9 h9 => xwp G (m_W_law nm9 hq9) (d + 220) 1490 [xR (-108), xR 0, xR 53, xR 91, xR 92, xI x5, xI s0, xZ, xZ] (xpush v9 []) h9 Q X) (fun _ _ => False))) : xwp G (m_W_law nm9 hq9) (d + 220) 1484 [xR (-108), xR 0, xR 53, xR 91, xR 92, xI x5, xZ, xZ, xZ] [xI s0] h Q X := by
  have hnx9 : (93 : Int) ≤ xnx h := F.2.2
  refine xr_okL (fun hl9 => ?_)
  have r_x5 : -2147483648 ≤ x5 ∧ x5 ≤ 2147483647 := hl9 (xI x5) (.tail _ (.tail _ (.tail _ (.tail _ (.tail _ (.head _)))))) (Nat.le_of_ble_eq_true rfl)
  refine xr_okS (fun hs9 => ?_)
  have r_s0 : -2147483648 ≤ s0 ∧ s0 ≤ 2147483647 := hs9 (xI s0) (.head _)
  refine xr_istore (pc := 1484) (i := 6) (L9 := [xR (-108), xR 0, xR 53, xR 91, xR 92, xI x5, xI s0, xZ, xZ]) (hI := d_W_law_1484) (hn := Nat.le_of_ble_eq_true rfl) (hL9 := rfl) ?_
  refine xr_aload_n (pc := 1486) (i := 2) (hI := d_W_law_1486) (hi := rfl) (hl := rfl) ?_
  exact xl_callV (pc := 1487) (index := 210) (K := m_M_found) (As := []) (S := []) (L0 := [xR 53]) (hI := d_W_law_1487) (hK := k_M_found) (hlk := w_2364) (hS8 := Nat.le_of_ble_eq_true rfl) (ci := 11) (N := 38) (C := "BeaconIndexModel") (T := xF11) (hc := rfl) (hci := Nat.le_of_ble_eq_true rfl) (htb := (ft_53 F)) (hinst := w_2365) (hsel := w_2366) (hlen := Nat.le_of_ble_eq_true rfl) (hst := rfl) (hL0 := rfl)  hyp
theorem d_W_law_1490 : decode code 1490 = .ok (.istore 7, 2) := by decide +kernel
theorem d_W_law_1492 : decode code 1492 = .ok (.aload_n 2, 1) := by decide +kernel
theorem d_W_law_1493 : decode code 1493 = .ok (.invokevirtual 114, 3) := by decide +kernel
theorem d_W_law_1496 : decode code 1496 = .ok (.iload 6, 2) := by decide +kernel
theorem d_W_law_1498 : decode code 1498 = .ok (.if_icmp .eq 5, 3) := by decide +kernel
theorem d_W_law_1503 : decode code 1503 = .ok (.iload 6, 2) := by decide +kernel
theorem d_W_law_1505 : decode code 1505 = .ok (.ifCond .ne 15, 3) := by decide +kernel
theorem d_W_law_1520 : decode code 1520 = .ok (.goto 498, 3) := by decide +kernel
theorem d_W_law_1508 : decode code 1508 = .ok (.aload_n 3, 1) := by decide +kernel
theorem d_W_law_1509 : decode code 1509 = .ok (.iconst 0, 1) := by decide +kernel
theorem d_W_law_1510 : decode code 1510 = .ok (.laload, 1) := by decide +kernel
theorem d_W_law_1511 : decode code 1511 = .ok (.iload 7, 2) := by decide +kernel
theorem d_W_law_1513 : decode code 1513 = .ok (.i2l, 1) := by decide +kernel
theorem d_W_law_1514 : decode code 1514 = .ok (.lcmp, 1) := by decide +kernel
theorem d_W_law_1515 : decode code 1515 = .ok (.ifCond .eq 5, 3) := by decide +kernel
theorem d_W_law_1518 : decode code 1518 = .ok (.iconst 0, 1) := by decide +kernel
theorem d_W_law_1519 : decode code 1519 = .ok (.ireturn, 1) := by decide +kernel
theorem d_W_law_1501 : decode code 1501 = .ok (.iconst 0, 1) := by decide +kernel
theorem d_W_law_1502 : decode code 1502 = .ok (.ireturn, 1) := by decide +kernel
theorem v_W_law_1490 {G : XG} {d : Nat} {h : XH} {Q : XV → XH → Prop} {X : Nat → XH → Prop} {x5 x6 s0 : Int} {n9 : Nat} {xs : Nat → Int32} {nm9 : String} {hq9 : List (Nat × Nat × Nat × Nat)} (SC : SCR G n9 xs) (F : xFix h) (hyp : (((xpl h 53 0) = x6 → ((x6 = 0 → (((xpl h 91 0) = s0 → (xwp G (m_W_law nm9 hq9) (d + 220) 2018 [xR (-108), xR 0, xR 53, xR 91, xR 92, xI x5, xZ, xZ, xZ] [] h Q X)) ∧ (¬ (xpl h 91 0) = s0 → (Q (xI 0) h)))) ∧ (¬ x6 = 0 → (xwp G (m_W_law nm9 hq9) (d + 220) 2018 [xR (-108), xR 0, xR 53, xR 91, xR 92, xI x5, xZ, xZ, xZ] [] h Q X)))) ∧ (¬ (xpl h 53 0) = x6 → (Q (xI 0) h)))) : xwp G (m_W_law nm9 hq9) (d + 220) 1490 [xR (-108), xR 0, xR 53, xR 91, xR 92, xI x5, xI x6, xZ, xZ] [xI s0] h Q X := by
  have hnx9 : (93 : Int) ≤ xnx h := F.2.2
  refine xr_okL (fun hl9 => ?_)
  have r_x5 : -2147483648 ≤ x5 ∧ x5 ≤ 2147483647 := hl9 (xI x5) (.tail _ (.tail _ (.tail _ (.tail _ (.tail _ (.head _)))))) (Nat.le_of_ble_eq_true rfl)
  have r_x6 : -2147483648 ≤ x6 ∧ x6 ≤ 2147483647 := hl9 (xI x6) (.tail _ (.tail _ (.tail _ (.tail _ (.tail _ (.tail _ (.head _))))))) (Nat.le_of_ble_eq_true rfl)
  refine xr_okS (fun hs9 => ?_)
  have r_s0 : -2147483648 ≤ s0 ∧ s0 ≤ 2147483647 := hs9 (xI s0) (.head _)
  refine xr_istore (pc := 1490) (i := 7) (L9 := [xR (-108), xR 0, xR 53, xR 91, xR 92, xI x5, xI x6, xI s0, xZ]) (hI := d_W_law_1490) (hn := Nat.le_of_ble_eq_true rfl) (hL9 := rfl) ?_
  refine xr_aload_n (pc := 1492) (i := 2) (hI := d_W_law_1492) (hi := rfl) (hl := rfl) ?_
  refine xl_callV (pc := 1493) (index := 114) (K := m_M_thrown) (As := []) (S := []) (L0 := [xR 53]) (hI := d_W_law_1493) (hK := k_M_thrown) (hlk := w_1702) (hS8 := Nat.le_of_ble_eq_true rfl) (ci := 11) (N := 38) (C := "BeaconIndexModel") (T := xF11) (hc := rfl) (hci := Nat.le_of_ble_eq_true rfl) (htb := (ft_53 F)) (hinst := w_1703) (hsel := w_1704) (hlen := Nat.le_of_ble_eq_true rfl) (hst := rfl) (hL0 := rfl)  ?_
  refine xr_aload_n (pc := 0) (i := 0) (hI := d_M_thrown_0) (hi := rfl) (hl := rfl) ?_
  refine xg_getf (pc := 1) (ci := 11) (k := 0) (N := 38) (v9 := 0) (v := (xpl h 53 0)) (T := xF11) (hI := d_M_thrown_1) (hw := w_1587) rfl xi11 (Or.inl rfl) (Nat.le_of_ble_eq_true rfl) (Nat.le_of_ble_eq_true rfl) rfl (ft_53 F) rfl (fun f1_ => ?_)
  replace f1_ : -2147483648 ≤ (xpl h 53 0) ∧ (xpl h 53 0) ≤ 2147483647 := f1_
  refine xr_ireturn (S := []) (pc := 4) (hI := d_M_thrown_4) (hr := rfl) ?_
  show xwp G (m_W_law nm9 hq9) (d + 220) 1496 [xR (-108), xR 0, xR 53, xR 91, xR 92, xI x5, xI x6, xI s0, xZ] [xI (xpl h 53 0)] _ _ _
  refine xr_iload (pc := 1496) (i := 6) (hI := d_W_law_1496) (hl := rfl) ?_
  refine xr_icmp_eq (pc := 1498) (tgt := 1503) (hI := d_W_law_1498) (ht := by decide) (fun q9 => ?_) (fun q9 => ?_)
  · replace hyp := hyp.1 q9
    have q2_ := q9
    clear q9
    refine xr_iload (pc := 1503) (i := 6) (hI := d_W_law_1503) (hl := rfl) ?_
    refine xr_if_ne (pc := 1505) (tgt := 1520) (hI := d_W_law_1505) (ht := by decide) (fun q9 => ?_) (fun q9 => ?_)
    · replace hyp := hyp.2 q9
      have q3_ := q9
      clear q9
      refine xr_goto (pc := 1520) (tgt := 2018) (hI := d_W_law_1520) (ht := by decide) ?_
      exact xr_drop (L9 := [xR (-108), xR 0, xR 53, xR 91, xR 92, xI x5, xZ, xZ, xZ]) (xdrs (xdrs (xdrs (xdrs (xdrs (xdrs (xdrz (xdrz (xdrs xdr0))))))))) hyp
    · replace hyp := hyp.1 q9
      have q3_ := q9
      clear q9
      refine xr_aload_n (pc := 1508) (i := 3) (hI := d_W_law_1508) (hi := rfl) (hl := rfl) ?_
      refine xr_iconst (pc := 1509) (hI := d_W_law_1509) (hr := by decide) ?_
      refine xg_laload (pc := 1510) (v := (xpl h 91 0)) (hI := d_W_law_1510) (ft_91 F) (by decide) (xlt_of (fl_91 F) (by decide)) rfl (fun f4_ => ?_)
      replace f4_ : -9223372036854775808 ≤ (xpl h 91 0) ∧ (xpl h 91 0) ≤ 9223372036854775807 := f4_
      refine xr_iload (pc := 1511) (i := 7) (hI := d_W_law_1511) (hl := rfl) ?_
      refine xr_i2l (pc := 1513) (hI := d_W_law_1513) ?_
      refine xr_lcmp (pc := 1514) (hI := d_W_law_1514) ?_
      refine xg_lif_eq (pc := 1515) (tgt := 1520) (hI := d_W_law_1515) (ht := by decide) (fun q9 => ?_) (fun q9 => ?_)
      · replace hyp := hyp.1 q9
        have q5_ := q9
        clear q9
        refine xr_goto (pc := 1520) (tgt := 2018) (hI := d_W_law_1520) (ht := by decide) ?_
        exact xr_drop (L9 := [xR (-108), xR 0, xR 53, xR 91, xR 92, xI x5, xZ, xZ, xZ]) (xdrs (xdrs (xdrs (xdrs (xdrs (xdrs (xdrz (xdrz (xdrs xdr0))))))))) hyp
      · replace hyp := hyp.2 q9
        have q5_ := q9
        clear q9
        refine xr_iconst (pc := 1518) (hI := d_W_law_1518) (hr := by decide) ?_
        refine xr_ireturnT (S := []) (pc := 1519) (hI := d_W_law_1519) (hr := rfl) (xnar_z (by decide)) ?_
        exact hyp
  · replace hyp := hyp.2 q9
    have q2_ := q9
    clear q9
    refine xr_iconst (pc := 1501) (hI := d_W_law_1501) (hr := by decide) ?_
    refine xr_ireturnT (S := []) (pc := 1502) (hI := d_W_law_1502) (hr := rfl) (xnar_z (by decide)) ?_
    exact hyp
theorem d_W_law_1523 : decode code 1523 = .ok (.aload_n 1, 1) := by decide +kernel
theorem d_W_law_1524 : decode code 1524 = .ok (.aload_n 0, 1) := by decide +kernel
theorem d_W_law_1525 : decode code 1525 = .ok (.iload 5, 2) := by decide +kernel
theorem d_W_law_1527 : decode code 1527 = .ok (.iconst 1, 1) := by decide +kernel
theorem d_W_law_1528 : decode code 1528 = .ok (.iadd, 1) := by decide +kernel
theorem d_W_law_1529 : decode code 1529 = .ok (.iaload, 1) := by decide +kernel
theorem d_W_law_1530 : decode code 1530 = .ok (.aload_n 3, 1) := by decide +kernel
theorem d_W_law_1531 : decode code 1531 = .ok (.invokestatic 211, 3) := by decide +kernel
theorem k_W_keyFound : xCalH m_W_keyFound 3 := ⟨List.mem_append_right _ (List.mem_of_getElem? (i := 1480) (by decide +kernel)), w_0, Nat.le_of_ble_eq_true rfl, ⟨by decide +kernel, by decide +kernel⟩, by decide +kernel, by decide +kernel⟩
theorem w_1478 : Cond.methodLink "BeaconIndexLaw" 211 ⟨"BeaconIndexLaw", "keyFound", "(LBeaconIndex;I[J)I"⟩ ∈ lw_tbl := List.mem_append_right _ (List.mem_of_getElem? (i := 1478) (by decide +kernel))
theorem w_1479 : Cond.static ⟨"BeaconIndexLaw", "keyFound", "(LBeaconIndex;I[J)I"⟩ ∈ lw_tbl := List.mem_append_right _ (List.mem_of_getElem? (i := 1479) (by decide +kernel))
theorem v_W_law_1523 {G : XG} {d : Nat} {h : XH} {Q : XV → XH → Prop} {X : Nat → XH → Prop} {x5 : Int} {n9 : Nat} {xs : Nat → Int32} {nm9 : String} {hq9 : List (Nat × Nat × Nat × Nat)} (SC : SCR G n9 xs) (F : xFix h) (hyp : xiR (x5 + 1) ∧ 0 ≤ (x5 + 1) ∧ (x5 + 1) < (n9 : Int) ∧ (xwp G m_W_keyFound (d + 219) 0 [xR 0, xI (scV xs (x5 + 1)), xR 91, xZ] [] h (fun v9 h9 => xwp G (m_W_law nm9 hq9) (d + 220) 1534 [xR (-108), xR 0, xR 53, xR 91, xR 92, xI x5, xZ, xZ, xZ] (xpush v9 []) h9 Q X) (fun _ _ => False))) : xwp G (m_W_law nm9 hq9) (d + 220) 1523 [xR (-108), xR 0, xR 53, xR 91, xR 92, xI x5, xZ, xZ, xZ] [] h Q X := by
  have hnx9 : (93 : Int) ≤ xnx h := F.2.2
  refine xr_okL (fun hl9 => ?_)
  have r_x5 : -2147483648 ≤ x5 ∧ x5 ≤ 2147483647 := hl9 (xI x5) (.tail _ (.tail _ (.tail _ (.tail _ (.tail _ (.head _)))))) (Nat.le_of_ble_eq_true rfl)
  refine xr_aload_n (pc := 1523) (i := 1) (hI := d_W_law_1523) (hi := rfl) (hl := rfl) ?_
  refine xr_aload_n (pc := 1524) (i := 0) (hI := d_W_law_1524) (hi := rfl) (hl := rfl) ?_
  refine xr_iload (pc := 1525) (i := 5) (hI := d_W_law_1525) (hl := rfl) ?_
  refine xr_iconst (pc := 1527) (hI := d_W_law_1527) (hr := by decide) ?_
  obtain ⟨c9, hyp⟩ := hyp
  refine xr_iadd (pc := 1528) (hI := d_W_law_1528) (hr := c9) ?_
  obtain ⟨c8, c9, hyp⟩ := hyp
  refine xr_scd (pc := 1529) SC (hI := d_W_law_1529) c8 c9 ?_
  have f1_ : -2147483648 ≤ (scV xs (x5 + 1)) ∧ (scV xs (x5 + 1)) ≤ 2147483647 := xi_toR _
  refine xr_aload_n (pc := 1530) (i := 3) (hI := d_W_law_1530) (hi := rfl) (hl := rfl) ?_
  exact xl_callSW (pc := 1531) (index := 211) (K := m_W_keyFound) (As := [xR 0, xI (scV xs (x5 + 1)), xR 91]) (S := []) (L0 := [xR 0, xI (scV xs (x5 + 1)), xR 91, xZ]) (hI := d_W_law_1531) (hK := k_W_keyFound) (hlk := w_1478) (hS8 := Nat.le_of_ble_eq_true rfl) (hstat := w_1479) (hlen := Nat.le_of_ble_eq_true rfl) (hst := rfl) (hL0 := rfl)  hyp
theorem d_W_law_1534 : decode code 1534 = .ok (.istore 6, 2) := by decide +kernel
theorem d_W_law_1536 : decode code 1536 = .ok (.aload_n 2, 1) := by decide +kernel
theorem d_W_law_1537 : decode code 1537 = .ok (.aload_n 0, 1) := by decide +kernel
theorem d_W_law_1538 : decode code 1538 = .ok (.iload 5, 2) := by decide +kernel
theorem d_W_law_1540 : decode code 1540 = .ok (.iconst 1, 1) := by decide +kernel
theorem d_W_law_1541 : decode code 1541 = .ok (.iadd, 1) := by decide +kernel
theorem d_W_law_1542 : decode code 1542 = .ok (.iaload, 1) := by decide +kernel
theorem d_W_law_1543 : decode code 1543 = .ok (.invokevirtual 213, 3) := by decide +kernel
theorem k_M_keyFound : xCal m_M_keyFound 1 := ⟨List.mem_append_right _ (List.mem_of_getElem? (i := 2429) (by decide +kernel)), w_15, Nat.le_of_ble_eq_true rfl, ⟨by decide +kernel, by decide +kernel⟩, by decide +kernel, by decide +kernel, rfl⟩
theorem w_2426 : Cond.methodLink "BeaconIndexLaw" 213 ⟨"BeaconIndexModel", "keyFound", "(I)I"⟩ ∈ lw_tbl := List.mem_append_right _ (List.mem_of_getElem? (i := 2426) (by decide +kernel))
theorem w_2427 : Cond.instanceMethod ⟨"BeaconIndexModel", "keyFound", "(I)I"⟩ ∈ lw_tbl := List.mem_append_right _ (List.mem_of_getElem? (i := 2427) (by decide +kernel))
theorem w_2428 : Cond.selects "BeaconIndexModel" ⟨"BeaconIndexModel", "keyFound", "(I)I"⟩ ⟨"BeaconIndexModel", "keyFound", "(I)I"⟩ ∈ lw_tbl := List.mem_append_right _ (List.mem_of_getElem? (i := 2428) (by decide +kernel))
theorem v_W_law_1534 {G : XG} {d : Nat} {h : XH} {Q : XV → XH → Prop} {X : Nat → XH → Prop} {x5 s0 : Int} {n9 : Nat} {xs : Nat → Int32} {nm9 : String} {hq9 : List (Nat × Nat × Nat × Nat)} (SC : SCR G n9 xs) (F : xFix h) (hyp : xiR (x5 + 1) ∧ 0 ≤ (x5 + 1) ∧ (x5 + 1) < (n9 : Int) ∧ (xwp G m_M_keyFound (d + 219) 0 [xR 53, xI (scV xs (x5 + 1))] [] h (fun v9 h9 => xwp G (m_W_law nm9 hq9) (d + 220) 1546 [xR (-108), xR 0, xR 53, xR 91, xR 92, xI x5, xI s0, xZ, xZ] (xpush v9 []) h9 Q X) (fun _ _ => False))) : xwp G (m_W_law nm9 hq9) (d + 220) 1534 [xR (-108), xR 0, xR 53, xR 91, xR 92, xI x5, xZ, xZ, xZ] [xI s0] h Q X := by
  have hnx9 : (93 : Int) ≤ xnx h := F.2.2
  refine xr_okL (fun hl9 => ?_)
  have r_x5 : -2147483648 ≤ x5 ∧ x5 ≤ 2147483647 := hl9 (xI x5) (.tail _ (.tail _ (.tail _ (.tail _ (.tail _ (.head _)))))) (Nat.le_of_ble_eq_true rfl)
  refine xr_okS (fun hs9 => ?_)
  have r_s0 : -2147483648 ≤ s0 ∧ s0 ≤ 2147483647 := hs9 (xI s0) (.head _)
  refine xr_istore (pc := 1534) (i := 6) (L9 := [xR (-108), xR 0, xR 53, xR 91, xR 92, xI x5, xI s0, xZ, xZ]) (hI := d_W_law_1534) (hn := Nat.le_of_ble_eq_true rfl) (hL9 := rfl) ?_
  refine xr_aload_n (pc := 1536) (i := 2) (hI := d_W_law_1536) (hi := rfl) (hl := rfl) ?_
  refine xr_aload_n (pc := 1537) (i := 0) (hI := d_W_law_1537) (hi := rfl) (hl := rfl) ?_
  refine xr_iload (pc := 1538) (i := 5) (hI := d_W_law_1538) (hl := rfl) ?_
  refine xr_iconst (pc := 1540) (hI := d_W_law_1540) (hr := by decide) ?_
  obtain ⟨c9, hyp⟩ := hyp
  refine xr_iadd (pc := 1541) (hI := d_W_law_1541) (hr := c9) ?_
  obtain ⟨c8, c9, hyp⟩ := hyp
  refine xr_scd (pc := 1542) SC (hI := d_W_law_1542) c8 c9 ?_
  have f1_ : -2147483648 ≤ (scV xs (x5 + 1)) ∧ (scV xs (x5 + 1)) ≤ 2147483647 := xi_toR _
  exact xl_callV (pc := 1543) (index := 213) (K := m_M_keyFound) (As := [xI (scV xs (x5 + 1))]) (S := []) (L0 := [xR 53, xI (scV xs (x5 + 1))]) (hI := d_W_law_1543) (hK := k_M_keyFound) (hlk := w_2426) (hS8 := Nat.le_of_ble_eq_true rfl) (ci := 11) (N := 38) (C := "BeaconIndexModel") (T := xF11) (hc := rfl) (hci := Nat.le_of_ble_eq_true rfl) (htb := (ft_53 F)) (hinst := w_2427) (hsel := w_2428) (hlen := Nat.le_of_ble_eq_true rfl) (hst := rfl) (hL0 := rfl)  hyp
theorem d_W_law_1546 : decode code 1546 = .ok (.istore 7, 2) := by decide +kernel
theorem d_W_law_1548 : decode code 1548 = .ok (.aload_n 2, 1) := by decide +kernel
theorem d_W_law_1549 : decode code 1549 = .ok (.invokevirtual 114, 3) := by decide +kernel
theorem d_W_law_1552 : decode code 1552 = .ok (.iload 6, 2) := by decide +kernel
theorem d_W_law_1554 : decode code 1554 = .ok (.if_icmp .eq 5, 3) := by decide +kernel
theorem d_W_law_1559 : decode code 1559 = .ok (.iload 6, 2) := by decide +kernel
theorem d_W_law_1561 : decode code 1561 = .ok (.ifCond .ne 15, 3) := by decide +kernel
theorem d_W_law_1576 : decode code 1576 = .ok (.goto 442, 3) := by decide +kernel
theorem d_W_law_1564 : decode code 1564 = .ok (.aload_n 3, 1) := by decide +kernel
theorem d_W_law_1565 : decode code 1565 = .ok (.iconst 0, 1) := by decide +kernel
theorem d_W_law_1566 : decode code 1566 = .ok (.laload, 1) := by decide +kernel
theorem d_W_law_1567 : decode code 1567 = .ok (.iload 7, 2) := by decide +kernel
theorem d_W_law_1569 : decode code 1569 = .ok (.i2l, 1) := by decide +kernel
theorem d_W_law_1570 : decode code 1570 = .ok (.lcmp, 1) := by decide +kernel
theorem d_W_law_1571 : decode code 1571 = .ok (.ifCond .eq 5, 3) := by decide +kernel
theorem d_W_law_1574 : decode code 1574 = .ok (.iconst 0, 1) := by decide +kernel
theorem d_W_law_1575 : decode code 1575 = .ok (.ireturn, 1) := by decide +kernel
theorem d_W_law_1557 : decode code 1557 = .ok (.iconst 0, 1) := by decide +kernel
theorem d_W_law_1558 : decode code 1558 = .ok (.ireturn, 1) := by decide +kernel
theorem v_W_law_1546 {G : XG} {d : Nat} {h : XH} {Q : XV → XH → Prop} {X : Nat → XH → Prop} {x5 x6 s0 : Int} {n9 : Nat} {xs : Nat → Int32} {nm9 : String} {hq9 : List (Nat × Nat × Nat × Nat)} (SC : SCR G n9 xs) (F : xFix h) (hyp : (((xpl h 53 0) = x6 → ((x6 = 0 → (((xpl h 91 0) = s0 → (xwp G (m_W_law nm9 hq9) (d + 220) 2018 [xR (-108), xR 0, xR 53, xR 91, xR 92, xI x5, xZ, xZ, xZ] [] h Q X)) ∧ (¬ (xpl h 91 0) = s0 → (Q (xI 0) h)))) ∧ (¬ x6 = 0 → (xwp G (m_W_law nm9 hq9) (d + 220) 2018 [xR (-108), xR 0, xR 53, xR 91, xR 92, xI x5, xZ, xZ, xZ] [] h Q X)))) ∧ (¬ (xpl h 53 0) = x6 → (Q (xI 0) h)))) : xwp G (m_W_law nm9 hq9) (d + 220) 1546 [xR (-108), xR 0, xR 53, xR 91, xR 92, xI x5, xI x6, xZ, xZ] [xI s0] h Q X := by
  have hnx9 : (93 : Int) ≤ xnx h := F.2.2
  refine xr_okL (fun hl9 => ?_)
  have r_x5 : -2147483648 ≤ x5 ∧ x5 ≤ 2147483647 := hl9 (xI x5) (.tail _ (.tail _ (.tail _ (.tail _ (.tail _ (.head _)))))) (Nat.le_of_ble_eq_true rfl)
  have r_x6 : -2147483648 ≤ x6 ∧ x6 ≤ 2147483647 := hl9 (xI x6) (.tail _ (.tail _ (.tail _ (.tail _ (.tail _ (.tail _ (.head _))))))) (Nat.le_of_ble_eq_true rfl)
  refine xr_okS (fun hs9 => ?_)
  have r_s0 : -2147483648 ≤ s0 ∧ s0 ≤ 2147483647 := hs9 (xI s0) (.head _)
  refine xr_istore (pc := 1546) (i := 7) (L9 := [xR (-108), xR 0, xR 53, xR 91, xR 92, xI x5, xI x6, xI s0, xZ]) (hI := d_W_law_1546) (hn := Nat.le_of_ble_eq_true rfl) (hL9 := rfl) ?_
  refine xr_aload_n (pc := 1548) (i := 2) (hI := d_W_law_1548) (hi := rfl) (hl := rfl) ?_
  refine xl_callV (pc := 1549) (index := 114) (K := m_M_thrown) (As := []) (S := []) (L0 := [xR 53]) (hI := d_W_law_1549) (hK := k_M_thrown) (hlk := w_1702) (hS8 := Nat.le_of_ble_eq_true rfl) (ci := 11) (N := 38) (C := "BeaconIndexModel") (T := xF11) (hc := rfl) (hci := Nat.le_of_ble_eq_true rfl) (htb := (ft_53 F)) (hinst := w_1703) (hsel := w_1704) (hlen := Nat.le_of_ble_eq_true rfl) (hst := rfl) (hL0 := rfl)  ?_
  refine xr_aload_n (pc := 0) (i := 0) (hI := d_M_thrown_0) (hi := rfl) (hl := rfl) ?_
  refine xg_getf (pc := 1) (ci := 11) (k := 0) (N := 38) (v9 := 0) (v := (xpl h 53 0)) (T := xF11) (hI := d_M_thrown_1) (hw := w_1587) rfl xi11 (Or.inl rfl) (Nat.le_of_ble_eq_true rfl) (Nat.le_of_ble_eq_true rfl) rfl (ft_53 F) rfl (fun f1_ => ?_)
  replace f1_ : -2147483648 ≤ (xpl h 53 0) ∧ (xpl h 53 0) ≤ 2147483647 := f1_
  refine xr_ireturn (S := []) (pc := 4) (hI := d_M_thrown_4) (hr := rfl) ?_
  show xwp G (m_W_law nm9 hq9) (d + 220) 1552 [xR (-108), xR 0, xR 53, xR 91, xR 92, xI x5, xI x6, xI s0, xZ] [xI (xpl h 53 0)] _ _ _
  refine xr_iload (pc := 1552) (i := 6) (hI := d_W_law_1552) (hl := rfl) ?_
  refine xr_icmp_eq (pc := 1554) (tgt := 1559) (hI := d_W_law_1554) (ht := by decide) (fun q9 => ?_) (fun q9 => ?_)
  · replace hyp := hyp.1 q9
    have q2_ := q9
    clear q9
    refine xr_iload (pc := 1559) (i := 6) (hI := d_W_law_1559) (hl := rfl) ?_
    refine xr_if_ne (pc := 1561) (tgt := 1576) (hI := d_W_law_1561) (ht := by decide) (fun q9 => ?_) (fun q9 => ?_)
    · replace hyp := hyp.2 q9
      have q3_ := q9
      clear q9
      refine xr_goto (pc := 1576) (tgt := 2018) (hI := d_W_law_1576) (ht := by decide) ?_
      exact xr_drop (L9 := [xR (-108), xR 0, xR 53, xR 91, xR 92, xI x5, xZ, xZ, xZ]) (xdrs (xdrs (xdrs (xdrs (xdrs (xdrs (xdrz (xdrz (xdrs xdr0))))))))) hyp
    · replace hyp := hyp.1 q9
      have q3_ := q9
      clear q9
      refine xr_aload_n (pc := 1564) (i := 3) (hI := d_W_law_1564) (hi := rfl) (hl := rfl) ?_
      refine xr_iconst (pc := 1565) (hI := d_W_law_1565) (hr := by decide) ?_
      refine xg_laload (pc := 1566) (v := (xpl h 91 0)) (hI := d_W_law_1566) (ft_91 F) (by decide) (xlt_of (fl_91 F) (by decide)) rfl (fun f4_ => ?_)
      replace f4_ : -9223372036854775808 ≤ (xpl h 91 0) ∧ (xpl h 91 0) ≤ 9223372036854775807 := f4_
      refine xr_iload (pc := 1567) (i := 7) (hI := d_W_law_1567) (hl := rfl) ?_
      refine xr_i2l (pc := 1569) (hI := d_W_law_1569) ?_
      refine xr_lcmp (pc := 1570) (hI := d_W_law_1570) ?_
      refine xg_lif_eq (pc := 1571) (tgt := 1576) (hI := d_W_law_1571) (ht := by decide) (fun q9 => ?_) (fun q9 => ?_)
      · replace hyp := hyp.1 q9
        have q5_ := q9
        clear q9
        refine xr_goto (pc := 1576) (tgt := 2018) (hI := d_W_law_1576) (ht := by decide) ?_
        exact xr_drop (L9 := [xR (-108), xR 0, xR 53, xR 91, xR 92, xI x5, xZ, xZ, xZ]) (xdrs (xdrs (xdrs (xdrs (xdrs (xdrs (xdrz (xdrz (xdrs xdr0))))))))) hyp
      · replace hyp := hyp.2 q9
        have q5_ := q9
        clear q9
        refine xr_iconst (pc := 1574) (hI := d_W_law_1574) (hr := by decide) ?_
        refine xr_ireturnT (S := []) (pc := 1575) (hI := d_W_law_1575) (hr := rfl) (xnar_z (by decide)) ?_
        exact hyp
  · replace hyp := hyp.2 q9
    have q2_ := q9
    clear q9
    refine xr_iconst (pc := 1557) (hI := d_W_law_1557) (hr := by decide) ?_
    refine xr_ireturnT (S := []) (pc := 1558) (hI := d_W_law_1558) (hr := rfl) (xnar_z (by decide)) ?_
    exact hyp
theorem d_W_law_1579 : decode code 1579 = .ok (.aload_n 1, 1) := by decide +kernel
theorem d_W_law_1580 : decode code 1580 = .ok (.aload_n 0, 1) := by decide +kernel
theorem d_W_law_1581 : decode code 1581 = .ok (.iload 5, 2) := by decide +kernel
theorem d_W_law_1583 : decode code 1583 = .ok (.iconst 1, 1) := by decide +kernel
theorem d_W_law_1584 : decode code 1584 = .ok (.iadd, 1) := by decide +kernel
theorem d_W_law_1585 : decode code 1585 = .ok (.iaload, 1) := by decide +kernel
theorem d_W_law_1586 : decode code 1586 = .ok (.aload_n 3, 1) := by decide +kernel
theorem d_W_law_1587 : decode code 1587 = .ok (.invokestatic 214, 3) := by decide +kernel
theorem k_W_weightFound : xCalH m_W_weightFound 3 := ⟨List.mem_append_right _ (List.mem_of_getElem? (i := 1484) (by decide +kernel)), w_0, Nat.le_of_ble_eq_true rfl, ⟨by decide +kernel, by decide +kernel⟩, by decide +kernel, by decide +kernel⟩
theorem w_1482 : Cond.methodLink "BeaconIndexLaw" 214 ⟨"BeaconIndexLaw", "weightFound", "(LBeaconIndex;I[J)I"⟩ ∈ lw_tbl := List.mem_append_right _ (List.mem_of_getElem? (i := 1482) (by decide +kernel))
theorem w_1483 : Cond.static ⟨"BeaconIndexLaw", "weightFound", "(LBeaconIndex;I[J)I"⟩ ∈ lw_tbl := List.mem_append_right _ (List.mem_of_getElem? (i := 1483) (by decide +kernel))
theorem v_W_law_1579 {G : XG} {d : Nat} {h : XH} {Q : XV → XH → Prop} {X : Nat → XH → Prop} {x5 : Int} {n9 : Nat} {xs : Nat → Int32} {nm9 : String} {hq9 : List (Nat × Nat × Nat × Nat)} (SC : SCR G n9 xs) (F : xFix h) (hyp : xiR (x5 + 1) ∧ 0 ≤ (x5 + 1) ∧ (x5 + 1) < (n9 : Int) ∧ (xwp G m_W_weightFound (d + 219) 0 [xR 0, xI (scV xs (x5 + 1)), xR 91, xZ] [] h (fun v9 h9 => xwp G (m_W_law nm9 hq9) (d + 220) 1590 [xR (-108), xR 0, xR 53, xR 91, xR 92, xI x5, xZ, xZ, xZ] (xpush v9 []) h9 Q X) (fun _ _ => False))) : xwp G (m_W_law nm9 hq9) (d + 220) 1579 [xR (-108), xR 0, xR 53, xR 91, xR 92, xI x5, xZ, xZ, xZ] [] h Q X := by
  have hnx9 : (93 : Int) ≤ xnx h := F.2.2
  refine xr_okL (fun hl9 => ?_)
  have r_x5 : -2147483648 ≤ x5 ∧ x5 ≤ 2147483647 := hl9 (xI x5) (.tail _ (.tail _ (.tail _ (.tail _ (.tail _ (.head _)))))) (Nat.le_of_ble_eq_true rfl)
  refine xr_aload_n (pc := 1579) (i := 1) (hI := d_W_law_1579) (hi := rfl) (hl := rfl) ?_
  refine xr_aload_n (pc := 1580) (i := 0) (hI := d_W_law_1580) (hi := rfl) (hl := rfl) ?_
  refine xr_iload (pc := 1581) (i := 5) (hI := d_W_law_1581) (hl := rfl) ?_
  refine xr_iconst (pc := 1583) (hI := d_W_law_1583) (hr := by decide) ?_
  obtain ⟨c9, hyp⟩ := hyp
  refine xr_iadd (pc := 1584) (hI := d_W_law_1584) (hr := c9) ?_
  obtain ⟨c8, c9, hyp⟩ := hyp
  refine xr_scd (pc := 1585) SC (hI := d_W_law_1585) c8 c9 ?_
  have f1_ : -2147483648 ≤ (scV xs (x5 + 1)) ∧ (scV xs (x5 + 1)) ≤ 2147483647 := xi_toR _
  refine xr_aload_n (pc := 1586) (i := 3) (hI := d_W_law_1586) (hi := rfl) (hl := rfl) ?_
  exact xl_callSW (pc := 1587) (index := 214) (K := m_W_weightFound) (As := [xR 0, xI (scV xs (x5 + 1)), xR 91]) (S := []) (L0 := [xR 0, xI (scV xs (x5 + 1)), xR 91, xZ]) (hI := d_W_law_1587) (hK := k_W_weightFound) (hlk := w_1482) (hS8 := Nat.le_of_ble_eq_true rfl) (hstat := w_1483) (hlen := Nat.le_of_ble_eq_true rfl) (hst := rfl) (hL0 := rfl)  hyp
theorem d_W_law_1590 : decode code 1590 = .ok (.istore 6, 2) := by decide +kernel
theorem d_W_law_1592 : decode code 1592 = .ok (.aload_n 2, 1) := by decide +kernel
theorem d_W_law_1593 : decode code 1593 = .ok (.aload_n 0, 1) := by decide +kernel
theorem d_W_law_1594 : decode code 1594 = .ok (.iload 5, 2) := by decide +kernel
theorem d_W_law_1596 : decode code 1596 = .ok (.iconst 1, 1) := by decide +kernel
theorem d_W_law_1597 : decode code 1597 = .ok (.iadd, 1) := by decide +kernel
theorem d_W_law_1598 : decode code 1598 = .ok (.iaload, 1) := by decide +kernel
theorem d_W_law_1599 : decode code 1599 = .ok (.invokevirtual 216, 3) := by decide +kernel
theorem k_M_weightFound : xCal m_M_weightFound 1 := ⟨List.mem_append_right _ (List.mem_of_getElem? (i := 2433) (by decide +kernel)), w_15, Nat.le_of_ble_eq_true rfl, ⟨by decide +kernel, by decide +kernel⟩, by decide +kernel, by decide +kernel, rfl⟩
theorem w_2430 : Cond.methodLink "BeaconIndexLaw" 216 ⟨"BeaconIndexModel", "weightFound", "(I)I"⟩ ∈ lw_tbl := List.mem_append_right _ (List.mem_of_getElem? (i := 2430) (by decide +kernel))
theorem w_2431 : Cond.instanceMethod ⟨"BeaconIndexModel", "weightFound", "(I)I"⟩ ∈ lw_tbl := List.mem_append_right _ (List.mem_of_getElem? (i := 2431) (by decide +kernel))
theorem w_2432 : Cond.selects "BeaconIndexModel" ⟨"BeaconIndexModel", "weightFound", "(I)I"⟩ ⟨"BeaconIndexModel", "weightFound", "(I)I"⟩ ∈ lw_tbl := List.mem_append_right _ (List.mem_of_getElem? (i := 2432) (by decide +kernel))
theorem v_W_law_1590 {G : XG} {d : Nat} {h : XH} {Q : XV → XH → Prop} {X : Nat → XH → Prop} {x5 s0 : Int} {n9 : Nat} {xs : Nat → Int32} {nm9 : String} {hq9 : List (Nat × Nat × Nat × Nat)} (SC : SCR G n9 xs) (F : xFix h) (hyp : xiR (x5 + 1) ∧ 0 ≤ (x5 + 1) ∧ (x5 + 1) < (n9 : Int) ∧ (xwp G m_M_weightFound (d + 219) 0 [xR 53, xI (scV xs (x5 + 1))] [] h (fun v9 h9 => xwp G (m_W_law nm9 hq9) (d + 220) 1602 [xR (-108), xR 0, xR 53, xR 91, xR 92, xI x5, xI s0, xZ, xZ] (xpush v9 []) h9 Q X) (fun _ _ => False))) : xwp G (m_W_law nm9 hq9) (d + 220) 1590 [xR (-108), xR 0, xR 53, xR 91, xR 92, xI x5, xZ, xZ, xZ] [xI s0] h Q X := by
  have hnx9 : (93 : Int) ≤ xnx h := F.2.2
  refine xr_okL (fun hl9 => ?_)
  have r_x5 : -2147483648 ≤ x5 ∧ x5 ≤ 2147483647 := hl9 (xI x5) (.tail _ (.tail _ (.tail _ (.tail _ (.tail _ (.head _)))))) (Nat.le_of_ble_eq_true rfl)
  refine xr_okS (fun hs9 => ?_)
  have r_s0 : -2147483648 ≤ s0 ∧ s0 ≤ 2147483647 := hs9 (xI s0) (.head _)
  refine xr_istore (pc := 1590) (i := 6) (L9 := [xR (-108), xR 0, xR 53, xR 91, xR 92, xI x5, xI s0, xZ, xZ]) (hI := d_W_law_1590) (hn := Nat.le_of_ble_eq_true rfl) (hL9 := rfl) ?_
  refine xr_aload_n (pc := 1592) (i := 2) (hI := d_W_law_1592) (hi := rfl) (hl := rfl) ?_
  refine xr_aload_n (pc := 1593) (i := 0) (hI := d_W_law_1593) (hi := rfl) (hl := rfl) ?_
  refine xr_iload (pc := 1594) (i := 5) (hI := d_W_law_1594) (hl := rfl) ?_
  refine xr_iconst (pc := 1596) (hI := d_W_law_1596) (hr := by decide) ?_
  obtain ⟨c9, hyp⟩ := hyp
  refine xr_iadd (pc := 1597) (hI := d_W_law_1597) (hr := c9) ?_
  obtain ⟨c8, c9, hyp⟩ := hyp
  refine xr_scd (pc := 1598) SC (hI := d_W_law_1598) c8 c9 ?_
  have f1_ : -2147483648 ≤ (scV xs (x5 + 1)) ∧ (scV xs (x5 + 1)) ≤ 2147483647 := xi_toR _
  exact xl_callV (pc := 1599) (index := 216) (K := m_M_weightFound) (As := [xI (scV xs (x5 + 1))]) (S := []) (L0 := [xR 53, xI (scV xs (x5 + 1))]) (hI := d_W_law_1599) (hK := k_M_weightFound) (hlk := w_2430) (hS8 := Nat.le_of_ble_eq_true rfl) (ci := 11) (N := 38) (C := "BeaconIndexModel") (T := xF11) (hc := rfl) (hci := Nat.le_of_ble_eq_true rfl) (htb := (ft_53 F)) (hinst := w_2431) (hsel := w_2432) (hlen := Nat.le_of_ble_eq_true rfl) (hst := rfl) (hL0 := rfl)  hyp
theorem d_W_law_1602 : decode code 1602 = .ok (.istore 7, 2) := by decide +kernel
theorem d_W_law_1604 : decode code 1604 = .ok (.aload_n 2, 1) := by decide +kernel
theorem d_W_law_1605 : decode code 1605 = .ok (.invokevirtual 114, 3) := by decide +kernel
theorem d_W_law_1608 : decode code 1608 = .ok (.iload 6, 2) := by decide +kernel
theorem d_W_law_1610 : decode code 1610 = .ok (.if_icmp .eq 5, 3) := by decide +kernel
theorem d_W_law_1615 : decode code 1615 = .ok (.iload 6, 2) := by decide +kernel
theorem d_W_law_1617 : decode code 1617 = .ok (.ifCond .ne 15, 3) := by decide +kernel
theorem d_W_law_1632 : decode code 1632 = .ok (.goto 386, 3) := by decide +kernel
theorem d_W_law_1620 : decode code 1620 = .ok (.aload_n 3, 1) := by decide +kernel
theorem d_W_law_1621 : decode code 1621 = .ok (.iconst 0, 1) := by decide +kernel
theorem d_W_law_1622 : decode code 1622 = .ok (.laload, 1) := by decide +kernel
theorem d_W_law_1623 : decode code 1623 = .ok (.iload 7, 2) := by decide +kernel
theorem d_W_law_1625 : decode code 1625 = .ok (.i2l, 1) := by decide +kernel
theorem d_W_law_1626 : decode code 1626 = .ok (.lcmp, 1) := by decide +kernel
theorem d_W_law_1627 : decode code 1627 = .ok (.ifCond .eq 5, 3) := by decide +kernel
theorem d_W_law_1630 : decode code 1630 = .ok (.iconst 0, 1) := by decide +kernel
theorem d_W_law_1631 : decode code 1631 = .ok (.ireturn, 1) := by decide +kernel
theorem d_W_law_1613 : decode code 1613 = .ok (.iconst 0, 1) := by decide +kernel
theorem d_W_law_1614 : decode code 1614 = .ok (.ireturn, 1) := by decide +kernel
theorem v_W_law_1602 {G : XG} {d : Nat} {h : XH} {Q : XV → XH → Prop} {X : Nat → XH → Prop} {x5 x6 s0 : Int} {n9 : Nat} {xs : Nat → Int32} {nm9 : String} {hq9 : List (Nat × Nat × Nat × Nat)} (SC : SCR G n9 xs) (F : xFix h) (hyp : (((xpl h 53 0) = x6 → ((x6 = 0 → (((xpl h 91 0) = s0 → (xwp G (m_W_law nm9 hq9) (d + 220) 2018 [xR (-108), xR 0, xR 53, xR 91, xR 92, xI x5, xZ, xZ, xZ] [] h Q X)) ∧ (¬ (xpl h 91 0) = s0 → (Q (xI 0) h)))) ∧ (¬ x6 = 0 → (xwp G (m_W_law nm9 hq9) (d + 220) 2018 [xR (-108), xR 0, xR 53, xR 91, xR 92, xI x5, xZ, xZ, xZ] [] h Q X)))) ∧ (¬ (xpl h 53 0) = x6 → (Q (xI 0) h)))) : xwp G (m_W_law nm9 hq9) (d + 220) 1602 [xR (-108), xR 0, xR 53, xR 91, xR 92, xI x5, xI x6, xZ, xZ] [xI s0] h Q X := by
  have hnx9 : (93 : Int) ≤ xnx h := F.2.2
  refine xr_okL (fun hl9 => ?_)
  have r_x5 : -2147483648 ≤ x5 ∧ x5 ≤ 2147483647 := hl9 (xI x5) (.tail _ (.tail _ (.tail _ (.tail _ (.tail _ (.head _)))))) (Nat.le_of_ble_eq_true rfl)
  have r_x6 : -2147483648 ≤ x6 ∧ x6 ≤ 2147483647 := hl9 (xI x6) (.tail _ (.tail _ (.tail _ (.tail _ (.tail _ (.tail _ (.head _))))))) (Nat.le_of_ble_eq_true rfl)
  refine xr_okS (fun hs9 => ?_)
  have r_s0 : -2147483648 ≤ s0 ∧ s0 ≤ 2147483647 := hs9 (xI s0) (.head _)
  refine xr_istore (pc := 1602) (i := 7) (L9 := [xR (-108), xR 0, xR 53, xR 91, xR 92, xI x5, xI x6, xI s0, xZ]) (hI := d_W_law_1602) (hn := Nat.le_of_ble_eq_true rfl) (hL9 := rfl) ?_
  refine xr_aload_n (pc := 1604) (i := 2) (hI := d_W_law_1604) (hi := rfl) (hl := rfl) ?_
  refine xl_callV (pc := 1605) (index := 114) (K := m_M_thrown) (As := []) (S := []) (L0 := [xR 53]) (hI := d_W_law_1605) (hK := k_M_thrown) (hlk := w_1702) (hS8 := Nat.le_of_ble_eq_true rfl) (ci := 11) (N := 38) (C := "BeaconIndexModel") (T := xF11) (hc := rfl) (hci := Nat.le_of_ble_eq_true rfl) (htb := (ft_53 F)) (hinst := w_1703) (hsel := w_1704) (hlen := Nat.le_of_ble_eq_true rfl) (hst := rfl) (hL0 := rfl)  ?_
  refine xr_aload_n (pc := 0) (i := 0) (hI := d_M_thrown_0) (hi := rfl) (hl := rfl) ?_
  refine xg_getf (pc := 1) (ci := 11) (k := 0) (N := 38) (v9 := 0) (v := (xpl h 53 0)) (T := xF11) (hI := d_M_thrown_1) (hw := w_1587) rfl xi11 (Or.inl rfl) (Nat.le_of_ble_eq_true rfl) (Nat.le_of_ble_eq_true rfl) rfl (ft_53 F) rfl (fun f1_ => ?_)
  replace f1_ : -2147483648 ≤ (xpl h 53 0) ∧ (xpl h 53 0) ≤ 2147483647 := f1_
  refine xr_ireturn (S := []) (pc := 4) (hI := d_M_thrown_4) (hr := rfl) ?_
  show xwp G (m_W_law nm9 hq9) (d + 220) 1608 [xR (-108), xR 0, xR 53, xR 91, xR 92, xI x5, xI x6, xI s0, xZ] [xI (xpl h 53 0)] _ _ _
  refine xr_iload (pc := 1608) (i := 6) (hI := d_W_law_1608) (hl := rfl) ?_
  refine xr_icmp_eq (pc := 1610) (tgt := 1615) (hI := d_W_law_1610) (ht := by decide) (fun q9 => ?_) (fun q9 => ?_)
  · replace hyp := hyp.1 q9
    have q2_ := q9
    clear q9
    refine xr_iload (pc := 1615) (i := 6) (hI := d_W_law_1615) (hl := rfl) ?_
    refine xr_if_ne (pc := 1617) (tgt := 1632) (hI := d_W_law_1617) (ht := by decide) (fun q9 => ?_) (fun q9 => ?_)
    · replace hyp := hyp.2 q9
      have q3_ := q9
      clear q9
      refine xr_goto (pc := 1632) (tgt := 2018) (hI := d_W_law_1632) (ht := by decide) ?_
      exact xr_drop (L9 := [xR (-108), xR 0, xR 53, xR 91, xR 92, xI x5, xZ, xZ, xZ]) (xdrs (xdrs (xdrs (xdrs (xdrs (xdrs (xdrz (xdrz (xdrs xdr0))))))))) hyp
    · replace hyp := hyp.1 q9
      have q3_ := q9
      clear q9
      refine xr_aload_n (pc := 1620) (i := 3) (hI := d_W_law_1620) (hi := rfl) (hl := rfl) ?_
      refine xr_iconst (pc := 1621) (hI := d_W_law_1621) (hr := by decide) ?_
      refine xg_laload (pc := 1622) (v := (xpl h 91 0)) (hI := d_W_law_1622) (ft_91 F) (by decide) (xlt_of (fl_91 F) (by decide)) rfl (fun f4_ => ?_)
      replace f4_ : -9223372036854775808 ≤ (xpl h 91 0) ∧ (xpl h 91 0) ≤ 9223372036854775807 := f4_
      refine xr_iload (pc := 1623) (i := 7) (hI := d_W_law_1623) (hl := rfl) ?_
      refine xr_i2l (pc := 1625) (hI := d_W_law_1625) ?_
      refine xr_lcmp (pc := 1626) (hI := d_W_law_1626) ?_
      refine xg_lif_eq (pc := 1627) (tgt := 1632) (hI := d_W_law_1627) (ht := by decide) (fun q9 => ?_) (fun q9 => ?_)
      · replace hyp := hyp.1 q9
        have q5_ := q9
        clear q9
        refine xr_goto (pc := 1632) (tgt := 2018) (hI := d_W_law_1632) (ht := by decide) ?_
        exact xr_drop (L9 := [xR (-108), xR 0, xR 53, xR 91, xR 92, xI x5, xZ, xZ, xZ]) (xdrs (xdrs (xdrs (xdrs (xdrs (xdrs (xdrz (xdrz (xdrs xdr0))))))))) hyp
      · replace hyp := hyp.2 q9
        have q5_ := q9
        clear q9
        refine xr_iconst (pc := 1630) (hI := d_W_law_1630) (hr := by decide) ?_
        refine xr_ireturnT (S := []) (pc := 1631) (hI := d_W_law_1631) (hr := rfl) (xnar_z (by decide)) ?_
        exact hyp
  · replace hyp := hyp.2 q9
    have q2_ := q9
    clear q9
    refine xr_iconst (pc := 1613) (hI := d_W_law_1613) (hr := by decide) ?_
    refine xr_ireturnT (S := []) (pc := 1614) (hI := d_W_law_1614) (hr := rfl) (xnar_z (by decide)) ?_
    exact hyp
theorem d_W_law_1635 : decode code 1635 = .ok (.aload_n 1, 1) := by decide +kernel
theorem d_W_law_1636 : decode code 1636 = .ok (.aload_n 0, 1) := by decide +kernel
theorem d_W_law_1637 : decode code 1637 = .ok (.iload 5, 2) := by decide +kernel
theorem d_W_law_1639 : decode code 1639 = .ok (.iconst 1, 1) := by decide +kernel
theorem d_W_law_1640 : decode code 1640 = .ok (.iadd, 1) := by decide +kernel
theorem d_W_law_1641 : decode code 1641 = .ok (.iaload, 1) := by decide +kernel
theorem d_W_law_1642 : decode code 1642 = .ok (.aload_n 3, 1) := by decide +kernel
theorem d_W_law_1643 : decode code 1643 = .ok (.invokestatic 217, 3) := by decide +kernel
theorem k_W_foundOn : xCalH m_W_foundOn 3 := ⟨List.mem_append_right _ (List.mem_of_getElem? (i := 1488) (by decide +kernel)), w_0, Nat.le_of_ble_eq_true rfl, ⟨by decide +kernel, by decide +kernel⟩, by decide +kernel, by decide +kernel⟩
theorem w_1486 : Cond.methodLink "BeaconIndexLaw" 217 ⟨"BeaconIndexLaw", "foundOn", "(LBeaconIndex;I[J)I"⟩ ∈ lw_tbl := List.mem_append_right _ (List.mem_of_getElem? (i := 1486) (by decide +kernel))
theorem w_1487 : Cond.static ⟨"BeaconIndexLaw", "foundOn", "(LBeaconIndex;I[J)I"⟩ ∈ lw_tbl := List.mem_append_right _ (List.mem_of_getElem? (i := 1487) (by decide +kernel))
theorem v_W_law_1635 {G : XG} {d : Nat} {h : XH} {Q : XV → XH → Prop} {X : Nat → XH → Prop} {x5 : Int} {n9 : Nat} {xs : Nat → Int32} {nm9 : String} {hq9 : List (Nat × Nat × Nat × Nat)} (SC : SCR G n9 xs) (F : xFix h) (hyp : xiR (x5 + 1) ∧ 0 ≤ (x5 + 1) ∧ (x5 + 1) < (n9 : Int) ∧ (xwp G m_W_foundOn (d + 219) 0 [xR 0, xI (scV xs (x5 + 1)), xR 91, xZ] [] h (fun v9 h9 => xwp G (m_W_law nm9 hq9) (d + 220) 1646 [xR (-108), xR 0, xR 53, xR 91, xR 92, xI x5, xZ, xZ, xZ] (xpush v9 []) h9 Q X) (fun _ _ => False))) : xwp G (m_W_law nm9 hq9) (d + 220) 1635 [xR (-108), xR 0, xR 53, xR 91, xR 92, xI x5, xZ, xZ, xZ] [] h Q X := by
  have hnx9 : (93 : Int) ≤ xnx h := F.2.2
  refine xr_okL (fun hl9 => ?_)
  have r_x5 : -2147483648 ≤ x5 ∧ x5 ≤ 2147483647 := hl9 (xI x5) (.tail _ (.tail _ (.tail _ (.tail _ (.tail _ (.head _)))))) (Nat.le_of_ble_eq_true rfl)
  refine xr_aload_n (pc := 1635) (i := 1) (hI := d_W_law_1635) (hi := rfl) (hl := rfl) ?_
  refine xr_aload_n (pc := 1636) (i := 0) (hI := d_W_law_1636) (hi := rfl) (hl := rfl) ?_
  refine xr_iload (pc := 1637) (i := 5) (hI := d_W_law_1637) (hl := rfl) ?_
  refine xr_iconst (pc := 1639) (hI := d_W_law_1639) (hr := by decide) ?_
  obtain ⟨c9, hyp⟩ := hyp
  refine xr_iadd (pc := 1640) (hI := d_W_law_1640) (hr := c9) ?_
  obtain ⟨c8, c9, hyp⟩ := hyp
  refine xr_scd (pc := 1641) SC (hI := d_W_law_1641) c8 c9 ?_
  have f1_ : -2147483648 ≤ (scV xs (x5 + 1)) ∧ (scV xs (x5 + 1)) ≤ 2147483647 := xi_toR _
  refine xr_aload_n (pc := 1642) (i := 3) (hI := d_W_law_1642) (hi := rfl) (hl := rfl) ?_
  exact xl_callSW (pc := 1643) (index := 217) (K := m_W_foundOn) (As := [xR 0, xI (scV xs (x5 + 1)), xR 91]) (S := []) (L0 := [xR 0, xI (scV xs (x5 + 1)), xR 91, xZ]) (hI := d_W_law_1643) (hK := k_W_foundOn) (hlk := w_1486) (hS8 := Nat.le_of_ble_eq_true rfl) (hstat := w_1487) (hlen := Nat.le_of_ble_eq_true rfl) (hst := rfl) (hL0 := rfl)  hyp
theorem d_W_law_1646 : decode code 1646 = .ok (.istore 6, 2) := by decide +kernel
theorem d_W_law_1648 : decode code 1648 = .ok (.aload_n 2, 1) := by decide +kernel
theorem d_W_law_1649 : decode code 1649 = .ok (.aload_n 0, 1) := by decide +kernel
theorem d_W_law_1650 : decode code 1650 = .ok (.iload 5, 2) := by decide +kernel
theorem d_W_law_1652 : decode code 1652 = .ok (.iconst 1, 1) := by decide +kernel
theorem d_W_law_1653 : decode code 1653 = .ok (.iadd, 1) := by decide +kernel
theorem d_W_law_1654 : decode code 1654 = .ok (.iaload, 1) := by decide +kernel
theorem d_W_law_1655 : decode code 1655 = .ok (.invokevirtual 219, 3) := by decide +kernel
theorem k_M_foundOn : xCal m_M_foundOn 1 := ⟨List.mem_append_right _ (List.mem_of_getElem? (i := 2437) (by decide +kernel)), w_15, Nat.le_of_ble_eq_true rfl, ⟨by decide +kernel, by decide +kernel⟩, by decide +kernel, by decide +kernel, rfl⟩
theorem w_2434 : Cond.methodLink "BeaconIndexLaw" 219 ⟨"BeaconIndexModel", "foundOn", "(I)I"⟩ ∈ lw_tbl := List.mem_append_right _ (List.mem_of_getElem? (i := 2434) (by decide +kernel))
theorem w_2435 : Cond.instanceMethod ⟨"BeaconIndexModel", "foundOn", "(I)I"⟩ ∈ lw_tbl := List.mem_append_right _ (List.mem_of_getElem? (i := 2435) (by decide +kernel))
theorem w_2436 : Cond.selects "BeaconIndexModel" ⟨"BeaconIndexModel", "foundOn", "(I)I"⟩ ⟨"BeaconIndexModel", "foundOn", "(I)I"⟩ ∈ lw_tbl := List.mem_append_right _ (List.mem_of_getElem? (i := 2436) (by decide +kernel))
theorem v_W_law_1646 {G : XG} {d : Nat} {h : XH} {Q : XV → XH → Prop} {X : Nat → XH → Prop} {x5 s0 : Int} {n9 : Nat} {xs : Nat → Int32} {nm9 : String} {hq9 : List (Nat × Nat × Nat × Nat)} (SC : SCR G n9 xs) (F : xFix h) (hyp : xiR (x5 + 1) ∧ 0 ≤ (x5 + 1) ∧ (x5 + 1) < (n9 : Int) ∧ (xwp G m_M_foundOn (d + 219) 0 [xR 53, xI (scV xs (x5 + 1))] [] h (fun v9 h9 => xwp G (m_W_law nm9 hq9) (d + 220) 1658 [xR (-108), xR 0, xR 53, xR 91, xR 92, xI x5, xI s0, xZ, xZ] (xpush v9 []) h9 Q X) (fun _ _ => False))) : xwp G (m_W_law nm9 hq9) (d + 220) 1646 [xR (-108), xR 0, xR 53, xR 91, xR 92, xI x5, xZ, xZ, xZ] [xI s0] h Q X := by
  have hnx9 : (93 : Int) ≤ xnx h := F.2.2
  refine xr_okL (fun hl9 => ?_)
  have r_x5 : -2147483648 ≤ x5 ∧ x5 ≤ 2147483647 := hl9 (xI x5) (.tail _ (.tail _ (.tail _ (.tail _ (.tail _ (.head _)))))) (Nat.le_of_ble_eq_true rfl)
  refine xr_okS (fun hs9 => ?_)
  have r_s0 : -2147483648 ≤ s0 ∧ s0 ≤ 2147483647 := hs9 (xI s0) (.head _)
  refine xr_istore (pc := 1646) (i := 6) (L9 := [xR (-108), xR 0, xR 53, xR 91, xR 92, xI x5, xI s0, xZ, xZ]) (hI := d_W_law_1646) (hn := Nat.le_of_ble_eq_true rfl) (hL9 := rfl) ?_
  refine xr_aload_n (pc := 1648) (i := 2) (hI := d_W_law_1648) (hi := rfl) (hl := rfl) ?_
  refine xr_aload_n (pc := 1649) (i := 0) (hI := d_W_law_1649) (hi := rfl) (hl := rfl) ?_
  refine xr_iload (pc := 1650) (i := 5) (hI := d_W_law_1650) (hl := rfl) ?_
  refine xr_iconst (pc := 1652) (hI := d_W_law_1652) (hr := by decide) ?_
  obtain ⟨c9, hyp⟩ := hyp
  refine xr_iadd (pc := 1653) (hI := d_W_law_1653) (hr := c9) ?_
  obtain ⟨c8, c9, hyp⟩ := hyp
  refine xr_scd (pc := 1654) SC (hI := d_W_law_1654) c8 c9 ?_
  have f1_ : -2147483648 ≤ (scV xs (x5 + 1)) ∧ (scV xs (x5 + 1)) ≤ 2147483647 := xi_toR _
  exact xl_callV (pc := 1655) (index := 219) (K := m_M_foundOn) (As := [xI (scV xs (x5 + 1))]) (S := []) (L0 := [xR 53, xI (scV xs (x5 + 1))]) (hI := d_W_law_1655) (hK := k_M_foundOn) (hlk := w_2434) (hS8 := Nat.le_of_ble_eq_true rfl) (ci := 11) (N := 38) (C := "BeaconIndexModel") (T := xF11) (hc := rfl) (hci := Nat.le_of_ble_eq_true rfl) (htb := (ft_53 F)) (hinst := w_2435) (hsel := w_2436) (hlen := Nat.le_of_ble_eq_true rfl) (hst := rfl) (hL0 := rfl)  hyp
theorem d_W_law_1658 : decode code 1658 = .ok (.istore 7, 2) := by decide +kernel
theorem d_W_law_1660 : decode code 1660 = .ok (.aload_n 2, 1) := by decide +kernel
theorem d_W_law_1661 : decode code 1661 = .ok (.invokevirtual 114, 3) := by decide +kernel
theorem d_W_law_1664 : decode code 1664 = .ok (.iload 6, 2) := by decide +kernel
theorem d_W_law_1666 : decode code 1666 = .ok (.if_icmp .eq 5, 3) := by decide +kernel
theorem d_W_law_1671 : decode code 1671 = .ok (.iload 6, 2) := by decide +kernel
theorem d_W_law_1673 : decode code 1673 = .ok (.ifCond .ne 15, 3) := by decide +kernel
theorem d_W_law_1688 : decode code 1688 = .ok (.goto 330, 3) := by decide +kernel
theorem d_W_law_1676 : decode code 1676 = .ok (.aload_n 3, 1) := by decide +kernel
theorem d_W_law_1677 : decode code 1677 = .ok (.iconst 0, 1) := by decide +kernel
theorem d_W_law_1678 : decode code 1678 = .ok (.laload, 1) := by decide +kernel
theorem d_W_law_1679 : decode code 1679 = .ok (.iload 7, 2) := by decide +kernel
theorem d_W_law_1681 : decode code 1681 = .ok (.i2l, 1) := by decide +kernel
theorem d_W_law_1682 : decode code 1682 = .ok (.lcmp, 1) := by decide +kernel
theorem d_W_law_1683 : decode code 1683 = .ok (.ifCond .eq 5, 3) := by decide +kernel
theorem d_W_law_1686 : decode code 1686 = .ok (.iconst 0, 1) := by decide +kernel
theorem d_W_law_1687 : decode code 1687 = .ok (.ireturn, 1) := by decide +kernel
theorem d_W_law_1669 : decode code 1669 = .ok (.iconst 0, 1) := by decide +kernel
theorem d_W_law_1670 : decode code 1670 = .ok (.ireturn, 1) := by decide +kernel
theorem v_W_law_1658 {G : XG} {d : Nat} {h : XH} {Q : XV → XH → Prop} {X : Nat → XH → Prop} {x5 x6 s0 : Int} {n9 : Nat} {xs : Nat → Int32} {nm9 : String} {hq9 : List (Nat × Nat × Nat × Nat)} (SC : SCR G n9 xs) (F : xFix h) (hyp : (((xpl h 53 0) = x6 → ((x6 = 0 → (((xpl h 91 0) = s0 → (xwp G (m_W_law nm9 hq9) (d + 220) 2018 [xR (-108), xR 0, xR 53, xR 91, xR 92, xI x5, xZ, xZ, xZ] [] h Q X)) ∧ (¬ (xpl h 91 0) = s0 → (Q (xI 0) h)))) ∧ (¬ x6 = 0 → (xwp G (m_W_law nm9 hq9) (d + 220) 2018 [xR (-108), xR 0, xR 53, xR 91, xR 92, xI x5, xZ, xZ, xZ] [] h Q X)))) ∧ (¬ (xpl h 53 0) = x6 → (Q (xI 0) h)))) : xwp G (m_W_law nm9 hq9) (d + 220) 1658 [xR (-108), xR 0, xR 53, xR 91, xR 92, xI x5, xI x6, xZ, xZ] [xI s0] h Q X := by
  have hnx9 : (93 : Int) ≤ xnx h := F.2.2
  refine xr_okL (fun hl9 => ?_)
  have r_x5 : -2147483648 ≤ x5 ∧ x5 ≤ 2147483647 := hl9 (xI x5) (.tail _ (.tail _ (.tail _ (.tail _ (.tail _ (.head _)))))) (Nat.le_of_ble_eq_true rfl)
  have r_x6 : -2147483648 ≤ x6 ∧ x6 ≤ 2147483647 := hl9 (xI x6) (.tail _ (.tail _ (.tail _ (.tail _ (.tail _ (.tail _ (.head _))))))) (Nat.le_of_ble_eq_true rfl)
  refine xr_okS (fun hs9 => ?_)
  have r_s0 : -2147483648 ≤ s0 ∧ s0 ≤ 2147483647 := hs9 (xI s0) (.head _)
  refine xr_istore (pc := 1658) (i := 7) (L9 := [xR (-108), xR 0, xR 53, xR 91, xR 92, xI x5, xI x6, xI s0, xZ]) (hI := d_W_law_1658) (hn := Nat.le_of_ble_eq_true rfl) (hL9 := rfl) ?_
  refine xr_aload_n (pc := 1660) (i := 2) (hI := d_W_law_1660) (hi := rfl) (hl := rfl) ?_
  refine xl_callV (pc := 1661) (index := 114) (K := m_M_thrown) (As := []) (S := []) (L0 := [xR 53]) (hI := d_W_law_1661) (hK := k_M_thrown) (hlk := w_1702) (hS8 := Nat.le_of_ble_eq_true rfl) (ci := 11) (N := 38) (C := "BeaconIndexModel") (T := xF11) (hc := rfl) (hci := Nat.le_of_ble_eq_true rfl) (htb := (ft_53 F)) (hinst := w_1703) (hsel := w_1704) (hlen := Nat.le_of_ble_eq_true rfl) (hst := rfl) (hL0 := rfl)  ?_
  refine xr_aload_n (pc := 0) (i := 0) (hI := d_M_thrown_0) (hi := rfl) (hl := rfl) ?_
  refine xg_getf (pc := 1) (ci := 11) (k := 0) (N := 38) (v9 := 0) (v := (xpl h 53 0)) (T := xF11) (hI := d_M_thrown_1) (hw := w_1587) rfl xi11 (Or.inl rfl) (Nat.le_of_ble_eq_true rfl) (Nat.le_of_ble_eq_true rfl) rfl (ft_53 F) rfl (fun f1_ => ?_)
  replace f1_ : -2147483648 ≤ (xpl h 53 0) ∧ (xpl h 53 0) ≤ 2147483647 := f1_
  refine xr_ireturn (S := []) (pc := 4) (hI := d_M_thrown_4) (hr := rfl) ?_
  show xwp G (m_W_law nm9 hq9) (d + 220) 1664 [xR (-108), xR 0, xR 53, xR 91, xR 92, xI x5, xI x6, xI s0, xZ] [xI (xpl h 53 0)] _ _ _
  refine xr_iload (pc := 1664) (i := 6) (hI := d_W_law_1664) (hl := rfl) ?_
  refine xr_icmp_eq (pc := 1666) (tgt := 1671) (hI := d_W_law_1666) (ht := by decide) (fun q9 => ?_) (fun q9 => ?_)
  · replace hyp := hyp.1 q9
    have q2_ := q9
    clear q9
    refine xr_iload (pc := 1671) (i := 6) (hI := d_W_law_1671) (hl := rfl) ?_
    refine xr_if_ne (pc := 1673) (tgt := 1688) (hI := d_W_law_1673) (ht := by decide) (fun q9 => ?_) (fun q9 => ?_)
    · replace hyp := hyp.2 q9
      have q3_ := q9
      clear q9
      refine xr_goto (pc := 1688) (tgt := 2018) (hI := d_W_law_1688) (ht := by decide) ?_
      exact xr_drop (L9 := [xR (-108), xR 0, xR 53, xR 91, xR 92, xI x5, xZ, xZ, xZ]) (xdrs (xdrs (xdrs (xdrs (xdrs (xdrs (xdrz (xdrz (xdrs xdr0))))))))) hyp
    · replace hyp := hyp.1 q9
      have q3_ := q9
      clear q9
      refine xr_aload_n (pc := 1676) (i := 3) (hI := d_W_law_1676) (hi := rfl) (hl := rfl) ?_
      refine xr_iconst (pc := 1677) (hI := d_W_law_1677) (hr := by decide) ?_
      refine xg_laload (pc := 1678) (v := (xpl h 91 0)) (hI := d_W_law_1678) (ft_91 F) (by decide) (xlt_of (fl_91 F) (by decide)) rfl (fun f4_ => ?_)
      replace f4_ : -9223372036854775808 ≤ (xpl h 91 0) ∧ (xpl h 91 0) ≤ 9223372036854775807 := f4_
      refine xr_iload (pc := 1679) (i := 7) (hI := d_W_law_1679) (hl := rfl) ?_
      refine xr_i2l (pc := 1681) (hI := d_W_law_1681) ?_
      refine xr_lcmp (pc := 1682) (hI := d_W_law_1682) ?_
      refine xg_lif_eq (pc := 1683) (tgt := 1688) (hI := d_W_law_1683) (ht := by decide) (fun q9 => ?_) (fun q9 => ?_)
      · replace hyp := hyp.1 q9
        have q5_ := q9
        clear q9
        refine xr_goto (pc := 1688) (tgt := 2018) (hI := d_W_law_1688) (ht := by decide) ?_
        exact xr_drop (L9 := [xR (-108), xR 0, xR 53, xR 91, xR 92, xI x5, xZ, xZ, xZ]) (xdrs (xdrs (xdrs (xdrs (xdrs (xdrs (xdrz (xdrz (xdrs xdr0))))))))) hyp
      · replace hyp := hyp.2 q9
        have q5_ := q9
        clear q9
        refine xr_iconst (pc := 1686) (hI := d_W_law_1686) (hr := by decide) ?_
        refine xr_ireturnT (S := []) (pc := 1687) (hI := d_W_law_1687) (hr := rfl) (xnar_z (by decide)) ?_
        exact hyp
  · replace hyp := hyp.2 q9
    have q2_ := q9
    clear q9
    refine xr_iconst (pc := 1669) (hI := d_W_law_1669) (hr := by decide) ?_
    refine xr_ireturnT (S := []) (pc := 1670) (hI := d_W_law_1670) (hr := rfl) (xnar_z (by decide)) ?_
    exact hyp
theorem d_W_law_1691 : decode code 1691 = .ok (.aload_n 1, 1) := by decide +kernel
theorem d_W_law_1692 : decode code 1692 = .ok (.aload_n 0, 1) := by decide +kernel
theorem d_W_law_1693 : decode code 1693 = .ok (.iload 5, 2) := by decide +kernel
theorem d_W_law_1695 : decode code 1695 = .ok (.iconst 1, 1) := by decide +kernel
theorem d_W_law_1696 : decode code 1696 = .ok (.iadd, 1) := by decide +kernel
theorem d_W_law_1697 : decode code 1697 = .ok (.iaload, 1) := by decide +kernel
theorem d_W_law_1698 : decode code 1698 = .ok (.aload_n 3, 1) := by decide +kernel
theorem d_W_law_1699 : decode code 1699 = .ok (.invokestatic 220, 3) := by decide +kernel
theorem k_W_placeOf : xCalH m_W_placeOf 3 := ⟨List.mem_append_right _ (List.mem_of_getElem? (i := 1492) (by decide +kernel)), w_0, Nat.le_of_ble_eq_true rfl, ⟨by decide +kernel, by decide +kernel⟩, by decide +kernel, by decide +kernel⟩
theorem w_1490 : Cond.methodLink "BeaconIndexLaw" 220 ⟨"BeaconIndexLaw", "placeOf", "(LBeaconIndex;I[J)I"⟩ ∈ lw_tbl := List.mem_append_right _ (List.mem_of_getElem? (i := 1490) (by decide +kernel))
theorem w_1491 : Cond.static ⟨"BeaconIndexLaw", "placeOf", "(LBeaconIndex;I[J)I"⟩ ∈ lw_tbl := List.mem_append_right _ (List.mem_of_getElem? (i := 1491) (by decide +kernel))
theorem v_W_law_1691 {G : XG} {d : Nat} {h : XH} {Q : XV → XH → Prop} {X : Nat → XH → Prop} {x5 : Int} {n9 : Nat} {xs : Nat → Int32} {nm9 : String} {hq9 : List (Nat × Nat × Nat × Nat)} (SC : SCR G n9 xs) (F : xFix h) (hyp : xiR (x5 + 1) ∧ 0 ≤ (x5 + 1) ∧ (x5 + 1) < (n9 : Int) ∧ (xwp G m_W_placeOf (d + 219) 0 [xR 0, xI (scV xs (x5 + 1)), xR 91, xZ] [] h (fun v9 h9 => xwp G (m_W_law nm9 hq9) (d + 220) 1702 [xR (-108), xR 0, xR 53, xR 91, xR 92, xI x5, xZ, xZ, xZ] (xpush v9 []) h9 Q X) (fun _ _ => False))) : xwp G (m_W_law nm9 hq9) (d + 220) 1691 [xR (-108), xR 0, xR 53, xR 91, xR 92, xI x5, xZ, xZ, xZ] [] h Q X := by
  have hnx9 : (93 : Int) ≤ xnx h := F.2.2
  refine xr_okL (fun hl9 => ?_)
  have r_x5 : -2147483648 ≤ x5 ∧ x5 ≤ 2147483647 := hl9 (xI x5) (.tail _ (.tail _ (.tail _ (.tail _ (.tail _ (.head _)))))) (Nat.le_of_ble_eq_true rfl)
  refine xr_aload_n (pc := 1691) (i := 1) (hI := d_W_law_1691) (hi := rfl) (hl := rfl) ?_
  refine xr_aload_n (pc := 1692) (i := 0) (hI := d_W_law_1692) (hi := rfl) (hl := rfl) ?_
  refine xr_iload (pc := 1693) (i := 5) (hI := d_W_law_1693) (hl := rfl) ?_
  refine xr_iconst (pc := 1695) (hI := d_W_law_1695) (hr := by decide) ?_
  obtain ⟨c9, hyp⟩ := hyp
  refine xr_iadd (pc := 1696) (hI := d_W_law_1696) (hr := c9) ?_
  obtain ⟨c8, c9, hyp⟩ := hyp
  refine xr_scd (pc := 1697) SC (hI := d_W_law_1697) c8 c9 ?_
  have f1_ : -2147483648 ≤ (scV xs (x5 + 1)) ∧ (scV xs (x5 + 1)) ≤ 2147483647 := xi_toR _
  refine xr_aload_n (pc := 1698) (i := 3) (hI := d_W_law_1698) (hi := rfl) (hl := rfl) ?_
  exact xl_callSW (pc := 1699) (index := 220) (K := m_W_placeOf) (As := [xR 0, xI (scV xs (x5 + 1)), xR 91]) (S := []) (L0 := [xR 0, xI (scV xs (x5 + 1)), xR 91, xZ]) (hI := d_W_law_1699) (hK := k_W_placeOf) (hlk := w_1490) (hS8 := Nat.le_of_ble_eq_true rfl) (hstat := w_1491) (hlen := Nat.le_of_ble_eq_true rfl) (hst := rfl) (hL0 := rfl)  hyp
theorem d_W_law_1702 : decode code 1702 = .ok (.istore 6, 2) := by decide +kernel
theorem d_W_law_1704 : decode code 1704 = .ok (.aload_n 2, 1) := by decide +kernel
theorem d_W_law_1705 : decode code 1705 = .ok (.aload_n 0, 1) := by decide +kernel
theorem d_W_law_1706 : decode code 1706 = .ok (.iload 5, 2) := by decide +kernel
theorem d_W_law_1708 : decode code 1708 = .ok (.iconst 1, 1) := by decide +kernel
theorem d_W_law_1709 : decode code 1709 = .ok (.iadd, 1) := by decide +kernel
theorem d_W_law_1710 : decode code 1710 = .ok (.iaload, 1) := by decide +kernel
theorem d_W_law_1711 : decode code 1711 = .ok (.invokevirtual 222, 3) := by decide +kernel
theorem k_M_placeOf : xCal m_M_placeOf 1 := ⟨List.mem_append_right _ (List.mem_of_getElem? (i := 2445) (by decide +kernel)), w_15, Nat.le_of_ble_eq_true rfl, ⟨by decide +kernel, by decide +kernel⟩, by decide +kernel, by decide +kernel, rfl⟩
theorem w_2442 : Cond.methodLink "BeaconIndexLaw" 222 ⟨"BeaconIndexModel", "placeOf", "(I)I"⟩ ∈ lw_tbl := List.mem_append_right _ (List.mem_of_getElem? (i := 2442) (by decide +kernel))
theorem w_2443 : Cond.instanceMethod ⟨"BeaconIndexModel", "placeOf", "(I)I"⟩ ∈ lw_tbl := List.mem_append_right _ (List.mem_of_getElem? (i := 2443) (by decide +kernel))
theorem w_2444 : Cond.selects "BeaconIndexModel" ⟨"BeaconIndexModel", "placeOf", "(I)I"⟩ ⟨"BeaconIndexModel", "placeOf", "(I)I"⟩ ∈ lw_tbl := List.mem_append_right _ (List.mem_of_getElem? (i := 2444) (by decide +kernel))
theorem v_W_law_1702 {G : XG} {d : Nat} {h : XH} {Q : XV → XH → Prop} {X : Nat → XH → Prop} {x5 s0 : Int} {n9 : Nat} {xs : Nat → Int32} {nm9 : String} {hq9 : List (Nat × Nat × Nat × Nat)} (SC : SCR G n9 xs) (F : xFix h) (hyp : xiR (x5 + 1) ∧ 0 ≤ (x5 + 1) ∧ (x5 + 1) < (n9 : Int) ∧ (xwp G m_M_placeOf (d + 219) 0 [xR 53, xI (scV xs (x5 + 1)), xZ, xZ] [] h (fun v9 h9 => xwp G (m_W_law nm9 hq9) (d + 220) 1714 [xR (-108), xR 0, xR 53, xR 91, xR 92, xI x5, xI s0, xZ, xZ] (xpush v9 []) h9 Q X) (fun _ _ => False))) : xwp G (m_W_law nm9 hq9) (d + 220) 1702 [xR (-108), xR 0, xR 53, xR 91, xR 92, xI x5, xZ, xZ, xZ] [xI s0] h Q X := by
  have hnx9 : (93 : Int) ≤ xnx h := F.2.2
  refine xr_okL (fun hl9 => ?_)
  have r_x5 : -2147483648 ≤ x5 ∧ x5 ≤ 2147483647 := hl9 (xI x5) (.tail _ (.tail _ (.tail _ (.tail _ (.tail _ (.head _)))))) (Nat.le_of_ble_eq_true rfl)
  refine xr_okS (fun hs9 => ?_)
  have r_s0 : -2147483648 ≤ s0 ∧ s0 ≤ 2147483647 := hs9 (xI s0) (.head _)
  refine xr_istore (pc := 1702) (i := 6) (L9 := [xR (-108), xR 0, xR 53, xR 91, xR 92, xI x5, xI s0, xZ, xZ]) (hI := d_W_law_1702) (hn := Nat.le_of_ble_eq_true rfl) (hL9 := rfl) ?_
  refine xr_aload_n (pc := 1704) (i := 2) (hI := d_W_law_1704) (hi := rfl) (hl := rfl) ?_
  refine xr_aload_n (pc := 1705) (i := 0) (hI := d_W_law_1705) (hi := rfl) (hl := rfl) ?_
  refine xr_iload (pc := 1706) (i := 5) (hI := d_W_law_1706) (hl := rfl) ?_
  refine xr_iconst (pc := 1708) (hI := d_W_law_1708) (hr := by decide) ?_
  obtain ⟨c9, hyp⟩ := hyp
  refine xr_iadd (pc := 1709) (hI := d_W_law_1709) (hr := c9) ?_
  obtain ⟨c8, c9, hyp⟩ := hyp
  refine xr_scd (pc := 1710) SC (hI := d_W_law_1710) c8 c9 ?_
  have f1_ : -2147483648 ≤ (scV xs (x5 + 1)) ∧ (scV xs (x5 + 1)) ≤ 2147483647 := xi_toR _
  exact xl_callV (pc := 1711) (index := 222) (K := m_M_placeOf) (As := [xI (scV xs (x5 + 1))]) (S := []) (L0 := [xR 53, xI (scV xs (x5 + 1)), xZ, xZ]) (hI := d_W_law_1711) (hK := k_M_placeOf) (hlk := w_2442) (hS8 := Nat.le_of_ble_eq_true rfl) (ci := 11) (N := 38) (C := "BeaconIndexModel") (T := xF11) (hc := rfl) (hci := Nat.le_of_ble_eq_true rfl) (htb := (ft_53 F)) (hinst := w_2443) (hsel := w_2444) (hlen := Nat.le_of_ble_eq_true rfl) (hst := rfl) (hL0 := rfl)  hyp
theorem d_W_law_1714 : decode code 1714 = .ok (.istore 7, 2) := by decide +kernel
theorem d_W_law_1716 : decode code 1716 = .ok (.aload_n 2, 1) := by decide +kernel
theorem d_W_law_1717 : decode code 1717 = .ok (.invokevirtual 114, 3) := by decide +kernel
theorem d_W_law_1720 : decode code 1720 = .ok (.iload 6, 2) := by decide +kernel
theorem d_W_law_1722 : decode code 1722 = .ok (.if_icmp .eq 5, 3) := by decide +kernel
theorem d_W_law_1727 : decode code 1727 = .ok (.iload 6, 2) := by decide +kernel
theorem d_W_law_1729 : decode code 1729 = .ok (.ifCond .ne 15, 3) := by decide +kernel
theorem d_W_law_1744 : decode code 1744 = .ok (.goto 274, 3) := by decide +kernel
theorem d_W_law_1732 : decode code 1732 = .ok (.aload_n 3, 1) := by decide +kernel
theorem d_W_law_1733 : decode code 1733 = .ok (.iconst 0, 1) := by decide +kernel
theorem d_W_law_1734 : decode code 1734 = .ok (.laload, 1) := by decide +kernel
theorem d_W_law_1735 : decode code 1735 = .ok (.iload 7, 2) := by decide +kernel
theorem d_W_law_1737 : decode code 1737 = .ok (.i2l, 1) := by decide +kernel
theorem d_W_law_1738 : decode code 1738 = .ok (.lcmp, 1) := by decide +kernel
theorem d_W_law_1739 : decode code 1739 = .ok (.ifCond .eq 5, 3) := by decide +kernel
theorem d_W_law_1742 : decode code 1742 = .ok (.iconst 0, 1) := by decide +kernel
theorem d_W_law_1743 : decode code 1743 = .ok (.ireturn, 1) := by decide +kernel
theorem d_W_law_1725 : decode code 1725 = .ok (.iconst 0, 1) := by decide +kernel
theorem d_W_law_1726 : decode code 1726 = .ok (.ireturn, 1) := by decide +kernel
theorem v_W_law_1714 {G : XG} {d : Nat} {h : XH} {Q : XV → XH → Prop} {X : Nat → XH → Prop} {x5 x6 s0 : Int} {n9 : Nat} {xs : Nat → Int32} {nm9 : String} {hq9 : List (Nat × Nat × Nat × Nat)} (SC : SCR G n9 xs) (F : xFix h) (hyp : (((xpl h 53 0) = x6 → ((x6 = 0 → (((xpl h 91 0) = s0 → (xwp G (m_W_law nm9 hq9) (d + 220) 2018 [xR (-108), xR 0, xR 53, xR 91, xR 92, xI x5, xZ, xZ, xZ] [] h Q X)) ∧ (¬ (xpl h 91 0) = s0 → (Q (xI 0) h)))) ∧ (¬ x6 = 0 → (xwp G (m_W_law nm9 hq9) (d + 220) 2018 [xR (-108), xR 0, xR 53, xR 91, xR 92, xI x5, xZ, xZ, xZ] [] h Q X)))) ∧ (¬ (xpl h 53 0) = x6 → (Q (xI 0) h)))) : xwp G (m_W_law nm9 hq9) (d + 220) 1714 [xR (-108), xR 0, xR 53, xR 91, xR 92, xI x5, xI x6, xZ, xZ] [xI s0] h Q X := by
  have hnx9 : (93 : Int) ≤ xnx h := F.2.2
  refine xr_okL (fun hl9 => ?_)
  have r_x5 : -2147483648 ≤ x5 ∧ x5 ≤ 2147483647 := hl9 (xI x5) (.tail _ (.tail _ (.tail _ (.tail _ (.tail _ (.head _)))))) (Nat.le_of_ble_eq_true rfl)
  have r_x6 : -2147483648 ≤ x6 ∧ x6 ≤ 2147483647 := hl9 (xI x6) (.tail _ (.tail _ (.tail _ (.tail _ (.tail _ (.tail _ (.head _))))))) (Nat.le_of_ble_eq_true rfl)
  refine xr_okS (fun hs9 => ?_)
  have r_s0 : -2147483648 ≤ s0 ∧ s0 ≤ 2147483647 := hs9 (xI s0) (.head _)
  refine xr_istore (pc := 1714) (i := 7) (L9 := [xR (-108), xR 0, xR 53, xR 91, xR 92, xI x5, xI x6, xI s0, xZ]) (hI := d_W_law_1714) (hn := Nat.le_of_ble_eq_true rfl) (hL9 := rfl) ?_
  refine xr_aload_n (pc := 1716) (i := 2) (hI := d_W_law_1716) (hi := rfl) (hl := rfl) ?_
  refine xl_callV (pc := 1717) (index := 114) (K := m_M_thrown) (As := []) (S := []) (L0 := [xR 53]) (hI := d_W_law_1717) (hK := k_M_thrown) (hlk := w_1702) (hS8 := Nat.le_of_ble_eq_true rfl) (ci := 11) (N := 38) (C := "BeaconIndexModel") (T := xF11) (hc := rfl) (hci := Nat.le_of_ble_eq_true rfl) (htb := (ft_53 F)) (hinst := w_1703) (hsel := w_1704) (hlen := Nat.le_of_ble_eq_true rfl) (hst := rfl) (hL0 := rfl)  ?_
  refine xr_aload_n (pc := 0) (i := 0) (hI := d_M_thrown_0) (hi := rfl) (hl := rfl) ?_
  refine xg_getf (pc := 1) (ci := 11) (k := 0) (N := 38) (v9 := 0) (v := (xpl h 53 0)) (T := xF11) (hI := d_M_thrown_1) (hw := w_1587) rfl xi11 (Or.inl rfl) (Nat.le_of_ble_eq_true rfl) (Nat.le_of_ble_eq_true rfl) rfl (ft_53 F) rfl (fun f1_ => ?_)
  replace f1_ : -2147483648 ≤ (xpl h 53 0) ∧ (xpl h 53 0) ≤ 2147483647 := f1_
  refine xr_ireturn (S := []) (pc := 4) (hI := d_M_thrown_4) (hr := rfl) ?_
  show xwp G (m_W_law nm9 hq9) (d + 220) 1720 [xR (-108), xR 0, xR 53, xR 91, xR 92, xI x5, xI x6, xI s0, xZ] [xI (xpl h 53 0)] _ _ _
  refine xr_iload (pc := 1720) (i := 6) (hI := d_W_law_1720) (hl := rfl) ?_
  refine xr_icmp_eq (pc := 1722) (tgt := 1727) (hI := d_W_law_1722) (ht := by decide) (fun q9 => ?_) (fun q9 => ?_)
  · replace hyp := hyp.1 q9
    have q2_ := q9
    clear q9
    refine xr_iload (pc := 1727) (i := 6) (hI := d_W_law_1727) (hl := rfl) ?_
    refine xr_if_ne (pc := 1729) (tgt := 1744) (hI := d_W_law_1729) (ht := by decide) (fun q9 => ?_) (fun q9 => ?_)
    · replace hyp := hyp.2 q9
      have q3_ := q9
      clear q9
      refine xr_goto (pc := 1744) (tgt := 2018) (hI := d_W_law_1744) (ht := by decide) ?_
      exact xr_drop (L9 := [xR (-108), xR 0, xR 53, xR 91, xR 92, xI x5, xZ, xZ, xZ]) (xdrs (xdrs (xdrs (xdrs (xdrs (xdrs (xdrz (xdrz (xdrs xdr0))))))))) hyp
    · replace hyp := hyp.1 q9
      have q3_ := q9
      clear q9
      refine xr_aload_n (pc := 1732) (i := 3) (hI := d_W_law_1732) (hi := rfl) (hl := rfl) ?_
      refine xr_iconst (pc := 1733) (hI := d_W_law_1733) (hr := by decide) ?_
      refine xg_laload (pc := 1734) (v := (xpl h 91 0)) (hI := d_W_law_1734) (ft_91 F) (by decide) (xlt_of (fl_91 F) (by decide)) rfl (fun f4_ => ?_)
      replace f4_ : -9223372036854775808 ≤ (xpl h 91 0) ∧ (xpl h 91 0) ≤ 9223372036854775807 := f4_
      refine xr_iload (pc := 1735) (i := 7) (hI := d_W_law_1735) (hl := rfl) ?_
      refine xr_i2l (pc := 1737) (hI := d_W_law_1737) ?_
      refine xr_lcmp (pc := 1738) (hI := d_W_law_1738) ?_
      refine xg_lif_eq (pc := 1739) (tgt := 1744) (hI := d_W_law_1739) (ht := by decide) (fun q9 => ?_) (fun q9 => ?_)
      · replace hyp := hyp.1 q9
        have q5_ := q9
        clear q9
        refine xr_goto (pc := 1744) (tgt := 2018) (hI := d_W_law_1744) (ht := by decide) ?_
        exact xr_drop (L9 := [xR (-108), xR 0, xR 53, xR 91, xR 92, xI x5, xZ, xZ, xZ]) (xdrs (xdrs (xdrs (xdrs (xdrs (xdrs (xdrz (xdrz (xdrs xdr0))))))))) hyp
      · replace hyp := hyp.2 q9
        have q5_ := q9
        clear q9
        refine xr_iconst (pc := 1742) (hI := d_W_law_1742) (hr := by decide) ?_
        refine xr_ireturnT (S := []) (pc := 1743) (hI := d_W_law_1743) (hr := rfl) (xnar_z (by decide)) ?_
        exact hyp
  · replace hyp := hyp.2 q9
    have q2_ := q9
    clear q9
    refine xr_iconst (pc := 1725) (hI := d_W_law_1725) (hr := by decide) ?_
    refine xr_ireturnT (S := []) (pc := 1726) (hI := d_W_law_1726) (hr := rfl) (xnar_z (by decide)) ?_
    exact hyp
theorem d_W_law_1747 : decode code 1747 = .ok (.aload_n 1, 1) := by decide +kernel
theorem d_W_law_1748 : decode code 1748 = .ok (.aload_n 0, 1) := by decide +kernel
theorem d_W_law_1749 : decode code 1749 = .ok (.iload 5, 2) := by decide +kernel
theorem d_W_law_1751 : decode code 1751 = .ok (.iconst 1, 1) := by decide +kernel
theorem d_W_law_1752 : decode code 1752 = .ok (.iadd, 1) := by decide +kernel
theorem d_W_law_1753 : decode code 1753 = .ok (.iaload, 1) := by decide +kernel
theorem d_W_law_1754 : decode code 1754 = .ok (.aload_n 0, 1) := by decide +kernel
theorem d_W_law_1755 : decode code 1755 = .ok (.iload 5, 2) := by decide +kernel
theorem d_W_law_1757 : decode code 1757 = .ok (.iconst 2, 1) := by decide +kernel
theorem d_W_law_1758 : decode code 1758 = .ok (.iadd, 1) := by decide +kernel
theorem d_W_law_1759 : decode code 1759 = .ok (.iaload, 1) := by decide +kernel
theorem d_W_law_1760 : decode code 1760 = .ok (.aload_n 3, 1) := by decide +kernel
theorem d_W_law_1761 : decode code 1761 = .ok (.invokestatic 223, 3) := by decide +kernel
theorem k_W_partWeight : xCalH m_W_partWeight 4 := ⟨List.mem_append_right _ (List.mem_of_getElem? (i := 1499) (by decide +kernel)), w_0, Nat.le_of_ble_eq_true rfl, ⟨by decide +kernel, by decide +kernel⟩, by decide +kernel, by decide +kernel⟩
theorem w_1497 : Cond.methodLink "BeaconIndexLaw" 223 ⟨"BeaconIndexLaw", "partWeight", "(LBeaconIndex;II[J)I"⟩ ∈ lw_tbl := List.mem_append_right _ (List.mem_of_getElem? (i := 1497) (by decide +kernel))
theorem w_1498 : Cond.static ⟨"BeaconIndexLaw", "partWeight", "(LBeaconIndex;II[J)I"⟩ ∈ lw_tbl := List.mem_append_right _ (List.mem_of_getElem? (i := 1498) (by decide +kernel))
theorem v_W_law_1747 {G : XG} {d : Nat} {h : XH} {Q : XV → XH → Prop} {X : Nat → XH → Prop} {x5 : Int} {n9 : Nat} {xs : Nat → Int32} {nm9 : String} {hq9 : List (Nat × Nat × Nat × Nat)} (SC : SCR G n9 xs) (F : xFix h) (hyp : xiR (x5 + 1) ∧ 0 ≤ (x5 + 1) ∧ (x5 + 1) < (n9 : Int) ∧ xiR (x5 + 2) ∧ 0 ≤ (x5 + 2) ∧ (x5 + 2) < (n9 : Int) ∧ (xwp G m_W_partWeight (d + 219) 0 [xR 0, xI (scV xs (x5 + 1)), xI (scV xs (x5 + 2)), xR 91, xZ] [] h (fun v9 h9 => xwp G (m_W_law nm9 hq9) (d + 220) 1764 [xR (-108), xR 0, xR 53, xR 91, xR 92, xI x5, xZ, xZ, xZ] (xpush v9 []) h9 Q X) (fun _ _ => False))) : xwp G (m_W_law nm9 hq9) (d + 220) 1747 [xR (-108), xR 0, xR 53, xR 91, xR 92, xI x5, xZ, xZ, xZ] [] h Q X := by
  have hnx9 : (93 : Int) ≤ xnx h := F.2.2
  refine xr_okL (fun hl9 => ?_)
  have r_x5 : -2147483648 ≤ x5 ∧ x5 ≤ 2147483647 := hl9 (xI x5) (.tail _ (.tail _ (.tail _ (.tail _ (.tail _ (.head _)))))) (Nat.le_of_ble_eq_true rfl)
  refine xr_aload_n (pc := 1747) (i := 1) (hI := d_W_law_1747) (hi := rfl) (hl := rfl) ?_
  refine xr_aload_n (pc := 1748) (i := 0) (hI := d_W_law_1748) (hi := rfl) (hl := rfl) ?_
  refine xr_iload (pc := 1749) (i := 5) (hI := d_W_law_1749) (hl := rfl) ?_
  refine xr_iconst (pc := 1751) (hI := d_W_law_1751) (hr := by decide) ?_
  obtain ⟨c9, hyp⟩ := hyp
  refine xr_iadd (pc := 1752) (hI := d_W_law_1752) (hr := c9) ?_
  obtain ⟨c8, c9, hyp⟩ := hyp
  refine xr_scd (pc := 1753) SC (hI := d_W_law_1753) c8 c9 ?_
  have f1_ : -2147483648 ≤ (scV xs (x5 + 1)) ∧ (scV xs (x5 + 1)) ≤ 2147483647 := xi_toR _
  refine xr_aload_n (pc := 1754) (i := 0) (hI := d_W_law_1754) (hi := rfl) (hl := rfl) ?_
  refine xr_iload (pc := 1755) (i := 5) (hI := d_W_law_1755) (hl := rfl) ?_
  refine xr_iconst (pc := 1757) (hI := d_W_law_1757) (hr := by decide) ?_
  obtain ⟨c9, hyp⟩ := hyp
  refine xr_iadd (pc := 1758) (hI := d_W_law_1758) (hr := c9) ?_
  obtain ⟨c8, c9, hyp⟩ := hyp
  refine xr_scd (pc := 1759) SC (hI := d_W_law_1759) c8 c9 ?_
  have f2_ : -2147483648 ≤ (scV xs (x5 + 2)) ∧ (scV xs (x5 + 2)) ≤ 2147483647 := xi_toR _
  refine xr_aload_n (pc := 1760) (i := 3) (hI := d_W_law_1760) (hi := rfl) (hl := rfl) ?_
  exact xl_callSW (pc := 1761) (index := 223) (K := m_W_partWeight) (As := [xR 0, xI (scV xs (x5 + 1)), xI (scV xs (x5 + 2)), xR 91]) (S := []) (L0 := [xR 0, xI (scV xs (x5 + 1)), xI (scV xs (x5 + 2)), xR 91, xZ]) (hI := d_W_law_1761) (hK := k_W_partWeight) (hlk := w_1497) (hS8 := Nat.le_of_ble_eq_true rfl) (hstat := w_1498) (hlen := Nat.le_of_ble_eq_true rfl) (hst := rfl) (hL0 := rfl)  hyp
theorem d_W_law_1764 : decode code 1764 = .ok (.istore 6, 2) := by decide +kernel
theorem d_W_law_1766 : decode code 1766 = .ok (.aload_n 2, 1) := by decide +kernel
theorem d_W_law_1767 : decode code 1767 = .ok (.aload_n 0, 1) := by decide +kernel
theorem d_W_law_1768 : decode code 1768 = .ok (.iload 5, 2) := by decide +kernel
theorem d_W_law_1770 : decode code 1770 = .ok (.iconst 1, 1) := by decide +kernel
theorem d_W_law_1771 : decode code 1771 = .ok (.iadd, 1) := by decide +kernel
theorem d_W_law_1772 : decode code 1772 = .ok (.iaload, 1) := by decide +kernel
theorem d_W_law_1773 : decode code 1773 = .ok (.aload_n 0, 1) := by decide +kernel
theorem d_W_law_1774 : decode code 1774 = .ok (.iload 5, 2) := by decide +kernel
theorem d_W_law_1776 : decode code 1776 = .ok (.iconst 2, 1) := by decide +kernel
theorem d_W_law_1777 : decode code 1777 = .ok (.iadd, 1) := by decide +kernel
theorem d_W_law_1778 : decode code 1778 = .ok (.iaload, 1) := by decide +kernel
theorem d_W_law_1779 : decode code 1779 = .ok (.invokevirtual 225, 3) := by decide +kernel
theorem k_M_partWeight : xCal m_M_partWeight 2 := ⟨List.mem_append_right _ (List.mem_of_getElem? (i := 2449) (by decide +kernel)), w_15, Nat.le_of_ble_eq_true rfl, ⟨by decide +kernel, by decide +kernel⟩, by decide +kernel, by decide +kernel, rfl⟩
theorem w_2446 : Cond.methodLink "BeaconIndexLaw" 225 ⟨"BeaconIndexModel", "partWeight", "(II)I"⟩ ∈ lw_tbl := List.mem_append_right _ (List.mem_of_getElem? (i := 2446) (by decide +kernel))
theorem w_2447 : Cond.instanceMethod ⟨"BeaconIndexModel", "partWeight", "(II)I"⟩ ∈ lw_tbl := List.mem_append_right _ (List.mem_of_getElem? (i := 2447) (by decide +kernel))
theorem w_2448 : Cond.selects "BeaconIndexModel" ⟨"BeaconIndexModel", "partWeight", "(II)I"⟩ ⟨"BeaconIndexModel", "partWeight", "(II)I"⟩ ∈ lw_tbl := List.mem_append_right _ (List.mem_of_getElem? (i := 2448) (by decide +kernel))
theorem v_W_law_1764 {G : XG} {d : Nat} {h : XH} {Q : XV → XH → Prop} {X : Nat → XH → Prop} {x5 s0 : Int} {n9 : Nat} {xs : Nat → Int32} {nm9 : String} {hq9 : List (Nat × Nat × Nat × Nat)} (SC : SCR G n9 xs) (F : xFix h) (hyp : xiR (x5 + 1) ∧ 0 ≤ (x5 + 1) ∧ (x5 + 1) < (n9 : Int) ∧ xiR (x5 + 2) ∧ 0 ≤ (x5 + 2) ∧ (x5 + 2) < (n9 : Int) ∧ (xwp G m_M_partWeight (d + 219) 0 [xR 53, xI (scV xs (x5 + 1)), xI (scV xs (x5 + 2)), xZ] [] h (fun v9 h9 => xwp G (m_W_law nm9 hq9) (d + 220) 1782 [xR (-108), xR 0, xR 53, xR 91, xR 92, xI x5, xI s0, xZ, xZ] (xpush v9 []) h9 Q X) (fun _ _ => False))) : xwp G (m_W_law nm9 hq9) (d + 220) 1764 [xR (-108), xR 0, xR 53, xR 91, xR 92, xI x5, xZ, xZ, xZ] [xI s0] h Q X := by
  have hnx9 : (93 : Int) ≤ xnx h := F.2.2
  refine xr_okL (fun hl9 => ?_)
  have r_x5 : -2147483648 ≤ x5 ∧ x5 ≤ 2147483647 := hl9 (xI x5) (.tail _ (.tail _ (.tail _ (.tail _ (.tail _ (.head _)))))) (Nat.le_of_ble_eq_true rfl)
  refine xr_okS (fun hs9 => ?_)
  have r_s0 : -2147483648 ≤ s0 ∧ s0 ≤ 2147483647 := hs9 (xI s0) (.head _)
  refine xr_istore (pc := 1764) (i := 6) (L9 := [xR (-108), xR 0, xR 53, xR 91, xR 92, xI x5, xI s0, xZ, xZ]) (hI := d_W_law_1764) (hn := Nat.le_of_ble_eq_true rfl) (hL9 := rfl) ?_
  refine xr_aload_n (pc := 1766) (i := 2) (hI := d_W_law_1766) (hi := rfl) (hl := rfl) ?_
  refine xr_aload_n (pc := 1767) (i := 0) (hI := d_W_law_1767) (hi := rfl) (hl := rfl) ?_
  refine xr_iload (pc := 1768) (i := 5) (hI := d_W_law_1768) (hl := rfl) ?_
  refine xr_iconst (pc := 1770) (hI := d_W_law_1770) (hr := by decide) ?_
  obtain ⟨c9, hyp⟩ := hyp
  refine xr_iadd (pc := 1771) (hI := d_W_law_1771) (hr := c9) ?_
  obtain ⟨c8, c9, hyp⟩ := hyp
  refine xr_scd (pc := 1772) SC (hI := d_W_law_1772) c8 c9 ?_
  have f1_ : -2147483648 ≤ (scV xs (x5 + 1)) ∧ (scV xs (x5 + 1)) ≤ 2147483647 := xi_toR _
  refine xr_aload_n (pc := 1773) (i := 0) (hI := d_W_law_1773) (hi := rfl) (hl := rfl) ?_
  refine xr_iload (pc := 1774) (i := 5) (hI := d_W_law_1774) (hl := rfl) ?_
  refine xr_iconst (pc := 1776) (hI := d_W_law_1776) (hr := by decide) ?_
  obtain ⟨c9, hyp⟩ := hyp
  refine xr_iadd (pc := 1777) (hI := d_W_law_1777) (hr := c9) ?_
  obtain ⟨c8, c9, hyp⟩ := hyp
  refine xr_scd (pc := 1778) SC (hI := d_W_law_1778) c8 c9 ?_
  have f2_ : -2147483648 ≤ (scV xs (x5 + 2)) ∧ (scV xs (x5 + 2)) ≤ 2147483647 := xi_toR _
  exact xl_callV (pc := 1779) (index := 225) (K := m_M_partWeight) (As := [xI (scV xs (x5 + 1)), xI (scV xs (x5 + 2))]) (S := []) (L0 := [xR 53, xI (scV xs (x5 + 1)), xI (scV xs (x5 + 2)), xZ]) (hI := d_W_law_1779) (hK := k_M_partWeight) (hlk := w_2446) (hS8 := Nat.le_of_ble_eq_true rfl) (ci := 11) (N := 38) (C := "BeaconIndexModel") (T := xF11) (hc := rfl) (hci := Nat.le_of_ble_eq_true rfl) (htb := (ft_53 F)) (hinst := w_2447) (hsel := w_2448) (hlen := Nat.le_of_ble_eq_true rfl) (hst := rfl) (hL0 := rfl)  hyp
theorem d_W_law_1782 : decode code 1782 = .ok (.istore 7, 2) := by decide +kernel
theorem d_W_law_1784 : decode code 1784 = .ok (.aload_n 2, 1) := by decide +kernel
theorem d_W_law_1785 : decode code 1785 = .ok (.invokevirtual 114, 3) := by decide +kernel
theorem d_W_law_1788 : decode code 1788 = .ok (.iload 6, 2) := by decide +kernel
theorem d_W_law_1790 : decode code 1790 = .ok (.if_icmp .eq 5, 3) := by decide +kernel
theorem d_W_law_1795 : decode code 1795 = .ok (.iload 6, 2) := by decide +kernel
theorem d_W_law_1797 : decode code 1797 = .ok (.ifCond .ne 15, 3) := by decide +kernel
theorem d_W_law_1812 : decode code 1812 = .ok (.goto 206, 3) := by decide +kernel
theorem d_W_law_1800 : decode code 1800 = .ok (.aload_n 3, 1) := by decide +kernel
theorem d_W_law_1801 : decode code 1801 = .ok (.iconst 0, 1) := by decide +kernel
theorem d_W_law_1802 : decode code 1802 = .ok (.laload, 1) := by decide +kernel
theorem d_W_law_1803 : decode code 1803 = .ok (.iload 7, 2) := by decide +kernel
theorem d_W_law_1805 : decode code 1805 = .ok (.i2l, 1) := by decide +kernel
theorem d_W_law_1806 : decode code 1806 = .ok (.lcmp, 1) := by decide +kernel
theorem d_W_law_1807 : decode code 1807 = .ok (.ifCond .eq 5, 3) := by decide +kernel
theorem d_W_law_1810 : decode code 1810 = .ok (.iconst 0, 1) := by decide +kernel
theorem d_W_law_1811 : decode code 1811 = .ok (.ireturn, 1) := by decide +kernel
theorem d_W_law_1793 : decode code 1793 = .ok (.iconst 0, 1) := by decide +kernel
theorem d_W_law_1794 : decode code 1794 = .ok (.ireturn, 1) := by decide +kernel
theorem v_W_law_1782 {G : XG} {d : Nat} {h : XH} {Q : XV → XH → Prop} {X : Nat → XH → Prop} {x5 x6 s0 : Int} {n9 : Nat} {xs : Nat → Int32} {nm9 : String} {hq9 : List (Nat × Nat × Nat × Nat)} (SC : SCR G n9 xs) (F : xFix h) (hyp : (((xpl h 53 0) = x6 → ((x6 = 0 → (((xpl h 91 0) = s0 → (xwp G (m_W_law nm9 hq9) (d + 220) 2018 [xR (-108), xR 0, xR 53, xR 91, xR 92, xI x5, xZ, xZ, xZ] [] h Q X)) ∧ (¬ (xpl h 91 0) = s0 → (Q (xI 0) h)))) ∧ (¬ x6 = 0 → (xwp G (m_W_law nm9 hq9) (d + 220) 2018 [xR (-108), xR 0, xR 53, xR 91, xR 92, xI x5, xZ, xZ, xZ] [] h Q X)))) ∧ (¬ (xpl h 53 0) = x6 → (Q (xI 0) h)))) : xwp G (m_W_law nm9 hq9) (d + 220) 1782 [xR (-108), xR 0, xR 53, xR 91, xR 92, xI x5, xI x6, xZ, xZ] [xI s0] h Q X := by
  have hnx9 : (93 : Int) ≤ xnx h := F.2.2
  refine xr_okL (fun hl9 => ?_)
  have r_x5 : -2147483648 ≤ x5 ∧ x5 ≤ 2147483647 := hl9 (xI x5) (.tail _ (.tail _ (.tail _ (.tail _ (.tail _ (.head _)))))) (Nat.le_of_ble_eq_true rfl)
  have r_x6 : -2147483648 ≤ x6 ∧ x6 ≤ 2147483647 := hl9 (xI x6) (.tail _ (.tail _ (.tail _ (.tail _ (.tail _ (.tail _ (.head _))))))) (Nat.le_of_ble_eq_true rfl)
  refine xr_okS (fun hs9 => ?_)
  have r_s0 : -2147483648 ≤ s0 ∧ s0 ≤ 2147483647 := hs9 (xI s0) (.head _)
  refine xr_istore (pc := 1782) (i := 7) (L9 := [xR (-108), xR 0, xR 53, xR 91, xR 92, xI x5, xI x6, xI s0, xZ]) (hI := d_W_law_1782) (hn := Nat.le_of_ble_eq_true rfl) (hL9 := rfl) ?_
  refine xr_aload_n (pc := 1784) (i := 2) (hI := d_W_law_1784) (hi := rfl) (hl := rfl) ?_
  refine xl_callV (pc := 1785) (index := 114) (K := m_M_thrown) (As := []) (S := []) (L0 := [xR 53]) (hI := d_W_law_1785) (hK := k_M_thrown) (hlk := w_1702) (hS8 := Nat.le_of_ble_eq_true rfl) (ci := 11) (N := 38) (C := "BeaconIndexModel") (T := xF11) (hc := rfl) (hci := Nat.le_of_ble_eq_true rfl) (htb := (ft_53 F)) (hinst := w_1703) (hsel := w_1704) (hlen := Nat.le_of_ble_eq_true rfl) (hst := rfl) (hL0 := rfl)  ?_
  refine xr_aload_n (pc := 0) (i := 0) (hI := d_M_thrown_0) (hi := rfl) (hl := rfl) ?_
  refine xg_getf (pc := 1) (ci := 11) (k := 0) (N := 38) (v9 := 0) (v := (xpl h 53 0)) (T := xF11) (hI := d_M_thrown_1) (hw := w_1587) rfl xi11 (Or.inl rfl) (Nat.le_of_ble_eq_true rfl) (Nat.le_of_ble_eq_true rfl) rfl (ft_53 F) rfl (fun f1_ => ?_)
  replace f1_ : -2147483648 ≤ (xpl h 53 0) ∧ (xpl h 53 0) ≤ 2147483647 := f1_
  refine xr_ireturn (S := []) (pc := 4) (hI := d_M_thrown_4) (hr := rfl) ?_
  show xwp G (m_W_law nm9 hq9) (d + 220) 1788 [xR (-108), xR 0, xR 53, xR 91, xR 92, xI x5, xI x6, xI s0, xZ] [xI (xpl h 53 0)] _ _ _
  refine xr_iload (pc := 1788) (i := 6) (hI := d_W_law_1788) (hl := rfl) ?_
  refine xr_icmp_eq (pc := 1790) (tgt := 1795) (hI := d_W_law_1790) (ht := by decide) (fun q9 => ?_) (fun q9 => ?_)
  · replace hyp := hyp.1 q9
    have q2_ := q9
    clear q9
    refine xr_iload (pc := 1795) (i := 6) (hI := d_W_law_1795) (hl := rfl) ?_
    refine xr_if_ne (pc := 1797) (tgt := 1812) (hI := d_W_law_1797) (ht := by decide) (fun q9 => ?_) (fun q9 => ?_)
    · replace hyp := hyp.2 q9
      have q3_ := q9
      clear q9
      refine xr_goto (pc := 1812) (tgt := 2018) (hI := d_W_law_1812) (ht := by decide) ?_
      exact xr_drop (L9 := [xR (-108), xR 0, xR 53, xR 91, xR 92, xI x5, xZ, xZ, xZ]) (xdrs (xdrs (xdrs (xdrs (xdrs (xdrs (xdrz (xdrz (xdrs xdr0))))))))) hyp
    · replace hyp := hyp.1 q9
      have q3_ := q9
      clear q9
      refine xr_aload_n (pc := 1800) (i := 3) (hI := d_W_law_1800) (hi := rfl) (hl := rfl) ?_
      refine xr_iconst (pc := 1801) (hI := d_W_law_1801) (hr := by decide) ?_
      refine xg_laload (pc := 1802) (v := (xpl h 91 0)) (hI := d_W_law_1802) (ft_91 F) (by decide) (xlt_of (fl_91 F) (by decide)) rfl (fun f4_ => ?_)
      replace f4_ : -9223372036854775808 ≤ (xpl h 91 0) ∧ (xpl h 91 0) ≤ 9223372036854775807 := f4_
      refine xr_iload (pc := 1803) (i := 7) (hI := d_W_law_1803) (hl := rfl) ?_
      refine xr_i2l (pc := 1805) (hI := d_W_law_1805) ?_
      refine xr_lcmp (pc := 1806) (hI := d_W_law_1806) ?_
      refine xg_lif_eq (pc := 1807) (tgt := 1812) (hI := d_W_law_1807) (ht := by decide) (fun q9 => ?_) (fun q9 => ?_)
      · replace hyp := hyp.1 q9
        have q5_ := q9
        clear q9
        refine xr_goto (pc := 1812) (tgt := 2018) (hI := d_W_law_1812) (ht := by decide) ?_
        exact xr_drop (L9 := [xR (-108), xR 0, xR 53, xR 91, xR 92, xI x5, xZ, xZ, xZ]) (xdrs (xdrs (xdrs (xdrs (xdrs (xdrs (xdrz (xdrz (xdrs xdr0))))))))) hyp
      · replace hyp := hyp.2 q9
        have q5_ := q9
        clear q9
        refine xr_iconst (pc := 1810) (hI := d_W_law_1810) (hr := by decide) ?_
        refine xr_ireturnT (S := []) (pc := 1811) (hI := d_W_law_1811) (hr := rfl) (xnar_z (by decide)) ?_
        exact hyp
  · replace hyp := hyp.2 q9
    have q2_ := q9
    clear q9
    refine xr_iconst (pc := 1793) (hI := d_W_law_1793) (hr := by decide) ?_
    refine xr_ireturnT (S := []) (pc := 1794) (hI := d_W_law_1794) (hr := rfl) (xnar_z (by decide)) ?_
    exact hyp
theorem d_W_law_1815 : decode code 1815 = .ok (.aload_n 1, 1) := by decide +kernel
theorem d_W_law_1816 : decode code 1816 = .ok (.aload_n 0, 1) := by decide +kernel
theorem d_W_law_1817 : decode code 1817 = .ok (.iload 5, 2) := by decide +kernel
theorem d_W_law_1819 : decode code 1819 = .ok (.iconst 1, 1) := by decide +kernel
theorem d_W_law_1820 : decode code 1820 = .ok (.iadd, 1) := by decide +kernel
theorem d_W_law_1821 : decode code 1821 = .ok (.iaload, 1) := by decide +kernel
theorem d_W_law_1822 : decode code 1822 = .ok (.aload_n 3, 1) := by decide +kernel
theorem d_W_law_1823 : decode code 1823 = .ok (.invokestatic 226, 3) := by decide +kernel
theorem k_W_foundWithout : xCalH m_W_foundWithout 3 := ⟨List.mem_append_right _ (List.mem_of_getElem? (i := 1511) (by decide +kernel)), w_0, Nat.le_of_ble_eq_true rfl, ⟨by decide +kernel, by decide +kernel⟩, by decide +kernel, by decide +kernel⟩
theorem w_1509 : Cond.methodLink "BeaconIndexLaw" 226 ⟨"BeaconIndexLaw", "foundWithout", "(LBeaconIndex;I[J)I"⟩ ∈ lw_tbl := List.mem_append_right _ (List.mem_of_getElem? (i := 1509) (by decide +kernel))
theorem w_1510 : Cond.static ⟨"BeaconIndexLaw", "foundWithout", "(LBeaconIndex;I[J)I"⟩ ∈ lw_tbl := List.mem_append_right _ (List.mem_of_getElem? (i := 1510) (by decide +kernel))
theorem v_W_law_1815 {G : XG} {d : Nat} {h : XH} {Q : XV → XH → Prop} {X : Nat → XH → Prop} {x5 : Int} {n9 : Nat} {xs : Nat → Int32} {nm9 : String} {hq9 : List (Nat × Nat × Nat × Nat)} (SC : SCR G n9 xs) (F : xFix h) (hyp : xiR (x5 + 1) ∧ 0 ≤ (x5 + 1) ∧ (x5 + 1) < (n9 : Int) ∧ (xwp G m_W_foundWithout (d + 219) 0 [xR 0, xI (scV xs (x5 + 1)), xR 91, xZ] [] h (fun v9 h9 => xwp G (m_W_law nm9 hq9) (d + 220) 1826 [xR (-108), xR 0, xR 53, xR 91, xR 92, xI x5, xZ, xZ, xZ] (xpush v9 []) h9 Q X) (fun _ _ => False))) : xwp G (m_W_law nm9 hq9) (d + 220) 1815 [xR (-108), xR 0, xR 53, xR 91, xR 92, xI x5, xZ, xZ, xZ] [] h Q X := by
  have hnx9 : (93 : Int) ≤ xnx h := F.2.2
  refine xr_okL (fun hl9 => ?_)
  have r_x5 : -2147483648 ≤ x5 ∧ x5 ≤ 2147483647 := hl9 (xI x5) (.tail _ (.tail _ (.tail _ (.tail _ (.tail _ (.head _)))))) (Nat.le_of_ble_eq_true rfl)
  refine xr_aload_n (pc := 1815) (i := 1) (hI := d_W_law_1815) (hi := rfl) (hl := rfl) ?_
  refine xr_aload_n (pc := 1816) (i := 0) (hI := d_W_law_1816) (hi := rfl) (hl := rfl) ?_
  refine xr_iload (pc := 1817) (i := 5) (hI := d_W_law_1817) (hl := rfl) ?_
  refine xr_iconst (pc := 1819) (hI := d_W_law_1819) (hr := by decide) ?_
  obtain ⟨c9, hyp⟩ := hyp
  refine xr_iadd (pc := 1820) (hI := d_W_law_1820) (hr := c9) ?_
  obtain ⟨c8, c9, hyp⟩ := hyp
  refine xr_scd (pc := 1821) SC (hI := d_W_law_1821) c8 c9 ?_
  have f1_ : -2147483648 ≤ (scV xs (x5 + 1)) ∧ (scV xs (x5 + 1)) ≤ 2147483647 := xi_toR _
  refine xr_aload_n (pc := 1822) (i := 3) (hI := d_W_law_1822) (hi := rfl) (hl := rfl) ?_
  exact xl_callSW (pc := 1823) (index := 226) (K := m_W_foundWithout) (As := [xR 0, xI (scV xs (x5 + 1)), xR 91]) (S := []) (L0 := [xR 0, xI (scV xs (x5 + 1)), xR 91, xZ]) (hI := d_W_law_1823) (hK := k_W_foundWithout) (hlk := w_1509) (hS8 := Nat.le_of_ble_eq_true rfl) (hstat := w_1510) (hlen := Nat.le_of_ble_eq_true rfl) (hst := rfl) (hL0 := rfl)  hyp
theorem d_W_law_1826 : decode code 1826 = .ok (.istore 6, 2) := by decide +kernel
theorem d_W_law_1828 : decode code 1828 = .ok (.aload_n 2, 1) := by decide +kernel
theorem d_W_law_1829 : decode code 1829 = .ok (.aload_n 0, 1) := by decide +kernel
theorem d_W_law_1830 : decode code 1830 = .ok (.iload 5, 2) := by decide +kernel
theorem d_W_law_1832 : decode code 1832 = .ok (.iconst 1, 1) := by decide +kernel
theorem d_W_law_1833 : decode code 1833 = .ok (.iadd, 1) := by decide +kernel
theorem d_W_law_1834 : decode code 1834 = .ok (.iaload, 1) := by decide +kernel
theorem d_W_law_1835 : decode code 1835 = .ok (.invokevirtual 228, 3) := by decide +kernel
theorem k_M_foundWithout : xCal m_M_foundWithout 1 := ⟨List.mem_append_right _ (List.mem_of_getElem? (i := 2457) (by decide +kernel)), w_15, Nat.le_of_ble_eq_true rfl, ⟨by decide +kernel, by decide +kernel⟩, by decide +kernel, by decide +kernel, rfl⟩
theorem w_2454 : Cond.methodLink "BeaconIndexLaw" 228 ⟨"BeaconIndexModel", "foundWithout", "(I)I"⟩ ∈ lw_tbl := List.mem_append_right _ (List.mem_of_getElem? (i := 2454) (by decide +kernel))
theorem w_2455 : Cond.instanceMethod ⟨"BeaconIndexModel", "foundWithout", "(I)I"⟩ ∈ lw_tbl := List.mem_append_right _ (List.mem_of_getElem? (i := 2455) (by decide +kernel))
theorem w_2456 : Cond.selects "BeaconIndexModel" ⟨"BeaconIndexModel", "foundWithout", "(I)I"⟩ ⟨"BeaconIndexModel", "foundWithout", "(I)I"⟩ ∈ lw_tbl := List.mem_append_right _ (List.mem_of_getElem? (i := 2456) (by decide +kernel))
theorem v_W_law_1826 {G : XG} {d : Nat} {h : XH} {Q : XV → XH → Prop} {X : Nat → XH → Prop} {x5 s0 : Int} {n9 : Nat} {xs : Nat → Int32} {nm9 : String} {hq9 : List (Nat × Nat × Nat × Nat)} (SC : SCR G n9 xs) (F : xFix h) (hyp : xiR (x5 + 1) ∧ 0 ≤ (x5 + 1) ∧ (x5 + 1) < (n9 : Int) ∧ (xwp G m_M_foundWithout (d + 219) 0 [xR 53, xI (scV xs (x5 + 1))] [] h (fun v9 h9 => xwp G (m_W_law nm9 hq9) (d + 220) 1838 [xR (-108), xR 0, xR 53, xR 91, xR 92, xI x5, xI s0, xZ, xZ] (xpush v9 []) h9 Q X) (fun _ _ => False))) : xwp G (m_W_law nm9 hq9) (d + 220) 1826 [xR (-108), xR 0, xR 53, xR 91, xR 92, xI x5, xZ, xZ, xZ] [xI s0] h Q X := by
  have hnx9 : (93 : Int) ≤ xnx h := F.2.2
  refine xr_okL (fun hl9 => ?_)
  have r_x5 : -2147483648 ≤ x5 ∧ x5 ≤ 2147483647 := hl9 (xI x5) (.tail _ (.tail _ (.tail _ (.tail _ (.tail _ (.head _)))))) (Nat.le_of_ble_eq_true rfl)
  refine xr_okS (fun hs9 => ?_)
  have r_s0 : -2147483648 ≤ s0 ∧ s0 ≤ 2147483647 := hs9 (xI s0) (.head _)
  refine xr_istore (pc := 1826) (i := 6) (L9 := [xR (-108), xR 0, xR 53, xR 91, xR 92, xI x5, xI s0, xZ, xZ]) (hI := d_W_law_1826) (hn := Nat.le_of_ble_eq_true rfl) (hL9 := rfl) ?_
  refine xr_aload_n (pc := 1828) (i := 2) (hI := d_W_law_1828) (hi := rfl) (hl := rfl) ?_
  refine xr_aload_n (pc := 1829) (i := 0) (hI := d_W_law_1829) (hi := rfl) (hl := rfl) ?_
  refine xr_iload (pc := 1830) (i := 5) (hI := d_W_law_1830) (hl := rfl) ?_
  refine xr_iconst (pc := 1832) (hI := d_W_law_1832) (hr := by decide) ?_
  obtain ⟨c9, hyp⟩ := hyp
  refine xr_iadd (pc := 1833) (hI := d_W_law_1833) (hr := c9) ?_
  obtain ⟨c8, c9, hyp⟩ := hyp
  refine xr_scd (pc := 1834) SC (hI := d_W_law_1834) c8 c9 ?_
  have f1_ : -2147483648 ≤ (scV xs (x5 + 1)) ∧ (scV xs (x5 + 1)) ≤ 2147483647 := xi_toR _
  exact xl_callV (pc := 1835) (index := 228) (K := m_M_foundWithout) (As := [xI (scV xs (x5 + 1))]) (S := []) (L0 := [xR 53, xI (scV xs (x5 + 1))]) (hI := d_W_law_1835) (hK := k_M_foundWithout) (hlk := w_2454) (hS8 := Nat.le_of_ble_eq_true rfl) (ci := 11) (N := 38) (C := "BeaconIndexModel") (T := xF11) (hc := rfl) (hci := Nat.le_of_ble_eq_true rfl) (htb := (ft_53 F)) (hinst := w_2455) (hsel := w_2456) (hlen := Nat.le_of_ble_eq_true rfl) (hst := rfl) (hL0 := rfl)  hyp
theorem d_W_law_1838 : decode code 1838 = .ok (.istore 7, 2) := by decide +kernel
theorem d_W_law_1840 : decode code 1840 = .ok (.aload_n 2, 1) := by decide +kernel
theorem d_W_law_1841 : decode code 1841 = .ok (.invokevirtual 114, 3) := by decide +kernel
theorem d_W_law_1844 : decode code 1844 = .ok (.iload 6, 2) := by decide +kernel
theorem d_W_law_1846 : decode code 1846 = .ok (.if_icmp .eq 5, 3) := by decide +kernel
theorem d_W_law_1851 : decode code 1851 = .ok (.iload 6, 2) := by decide +kernel
theorem d_W_law_1853 : decode code 1853 = .ok (.ifCond .ne 15, 3) := by decide +kernel
theorem d_W_law_1868 : decode code 1868 = .ok (.goto 150, 3) := by decide +kernel
theorem d_W_law_1856 : decode code 1856 = .ok (.aload_n 3, 1) := by decide +kernel
theorem d_W_law_1857 : decode code 1857 = .ok (.iconst 0, 1) := by decide +kernel
theorem d_W_law_1858 : decode code 1858 = .ok (.laload, 1) := by decide +kernel
theorem d_W_law_1859 : decode code 1859 = .ok (.iload 7, 2) := by decide +kernel
theorem d_W_law_1861 : decode code 1861 = .ok (.i2l, 1) := by decide +kernel
theorem d_W_law_1862 : decode code 1862 = .ok (.lcmp, 1) := by decide +kernel
theorem d_W_law_1863 : decode code 1863 = .ok (.ifCond .eq 5, 3) := by decide +kernel
theorem d_W_law_1866 : decode code 1866 = .ok (.iconst 0, 1) := by decide +kernel
theorem d_W_law_1867 : decode code 1867 = .ok (.ireturn, 1) := by decide +kernel
theorem d_W_law_1849 : decode code 1849 = .ok (.iconst 0, 1) := by decide +kernel
theorem d_W_law_1850 : decode code 1850 = .ok (.ireturn, 1) := by decide +kernel
theorem v_W_law_1838 {G : XG} {d : Nat} {h : XH} {Q : XV → XH → Prop} {X : Nat → XH → Prop} {x5 x6 s0 : Int} {n9 : Nat} {xs : Nat → Int32} {nm9 : String} {hq9 : List (Nat × Nat × Nat × Nat)} (SC : SCR G n9 xs) (F : xFix h) (hyp : (((xpl h 53 0) = x6 → ((x6 = 0 → (((xpl h 91 0) = s0 → (xwp G (m_W_law nm9 hq9) (d + 220) 2018 [xR (-108), xR 0, xR 53, xR 91, xR 92, xI x5, xZ, xZ, xZ] [] h Q X)) ∧ (¬ (xpl h 91 0) = s0 → (Q (xI 0) h)))) ∧ (¬ x6 = 0 → (xwp G (m_W_law nm9 hq9) (d + 220) 2018 [xR (-108), xR 0, xR 53, xR 91, xR 92, xI x5, xZ, xZ, xZ] [] h Q X)))) ∧ (¬ (xpl h 53 0) = x6 → (Q (xI 0) h)))) : xwp G (m_W_law nm9 hq9) (d + 220) 1838 [xR (-108), xR 0, xR 53, xR 91, xR 92, xI x5, xI x6, xZ, xZ] [xI s0] h Q X := by
  have hnx9 : (93 : Int) ≤ xnx h := F.2.2
  refine xr_okL (fun hl9 => ?_)
  have r_x5 : -2147483648 ≤ x5 ∧ x5 ≤ 2147483647 := hl9 (xI x5) (.tail _ (.tail _ (.tail _ (.tail _ (.tail _ (.head _)))))) (Nat.le_of_ble_eq_true rfl)
  have r_x6 : -2147483648 ≤ x6 ∧ x6 ≤ 2147483647 := hl9 (xI x6) (.tail _ (.tail _ (.tail _ (.tail _ (.tail _ (.tail _ (.head _))))))) (Nat.le_of_ble_eq_true rfl)
  refine xr_okS (fun hs9 => ?_)
  have r_s0 : -2147483648 ≤ s0 ∧ s0 ≤ 2147483647 := hs9 (xI s0) (.head _)
  refine xr_istore (pc := 1838) (i := 7) (L9 := [xR (-108), xR 0, xR 53, xR 91, xR 92, xI x5, xI x6, xI s0, xZ]) (hI := d_W_law_1838) (hn := Nat.le_of_ble_eq_true rfl) (hL9 := rfl) ?_
  refine xr_aload_n (pc := 1840) (i := 2) (hI := d_W_law_1840) (hi := rfl) (hl := rfl) ?_
  refine xl_callV (pc := 1841) (index := 114) (K := m_M_thrown) (As := []) (S := []) (L0 := [xR 53]) (hI := d_W_law_1841) (hK := k_M_thrown) (hlk := w_1702) (hS8 := Nat.le_of_ble_eq_true rfl) (ci := 11) (N := 38) (C := "BeaconIndexModel") (T := xF11) (hc := rfl) (hci := Nat.le_of_ble_eq_true rfl) (htb := (ft_53 F)) (hinst := w_1703) (hsel := w_1704) (hlen := Nat.le_of_ble_eq_true rfl) (hst := rfl) (hL0 := rfl)  ?_
  refine xr_aload_n (pc := 0) (i := 0) (hI := d_M_thrown_0) (hi := rfl) (hl := rfl) ?_
  refine xg_getf (pc := 1) (ci := 11) (k := 0) (N := 38) (v9 := 0) (v := (xpl h 53 0)) (T := xF11) (hI := d_M_thrown_1) (hw := w_1587) rfl xi11 (Or.inl rfl) (Nat.le_of_ble_eq_true rfl) (Nat.le_of_ble_eq_true rfl) rfl (ft_53 F) rfl (fun f1_ => ?_)
  replace f1_ : -2147483648 ≤ (xpl h 53 0) ∧ (xpl h 53 0) ≤ 2147483647 := f1_
  refine xr_ireturn (S := []) (pc := 4) (hI := d_M_thrown_4) (hr := rfl) ?_
  show xwp G (m_W_law nm9 hq9) (d + 220) 1844 [xR (-108), xR 0, xR 53, xR 91, xR 92, xI x5, xI x6, xI s0, xZ] [xI (xpl h 53 0)] _ _ _
  refine xr_iload (pc := 1844) (i := 6) (hI := d_W_law_1844) (hl := rfl) ?_
  refine xr_icmp_eq (pc := 1846) (tgt := 1851) (hI := d_W_law_1846) (ht := by decide) (fun q9 => ?_) (fun q9 => ?_)
  · replace hyp := hyp.1 q9
    have q2_ := q9
    clear q9
    refine xr_iload (pc := 1851) (i := 6) (hI := d_W_law_1851) (hl := rfl) ?_
    refine xr_if_ne (pc := 1853) (tgt := 1868) (hI := d_W_law_1853) (ht := by decide) (fun q9 => ?_) (fun q9 => ?_)
    · replace hyp := hyp.2 q9
      have q3_ := q9
      clear q9
      refine xr_goto (pc := 1868) (tgt := 2018) (hI := d_W_law_1868) (ht := by decide) ?_
      exact xr_drop (L9 := [xR (-108), xR 0, xR 53, xR 91, xR 92, xI x5, xZ, xZ, xZ]) (xdrs (xdrs (xdrs (xdrs (xdrs (xdrs (xdrz (xdrz (xdrs xdr0))))))))) hyp
    · replace hyp := hyp.1 q9
      have q3_ := q9
      clear q9
      refine xr_aload_n (pc := 1856) (i := 3) (hI := d_W_law_1856) (hi := rfl) (hl := rfl) ?_
      refine xr_iconst (pc := 1857) (hI := d_W_law_1857) (hr := by decide) ?_
      refine xg_laload (pc := 1858) (v := (xpl h 91 0)) (hI := d_W_law_1858) (ft_91 F) (by decide) (xlt_of (fl_91 F) (by decide)) rfl (fun f4_ => ?_)
      replace f4_ : -9223372036854775808 ≤ (xpl h 91 0) ∧ (xpl h 91 0) ≤ 9223372036854775807 := f4_
      refine xr_iload (pc := 1859) (i := 7) (hI := d_W_law_1859) (hl := rfl) ?_
      refine xr_i2l (pc := 1861) (hI := d_W_law_1861) ?_
      refine xr_lcmp (pc := 1862) (hI := d_W_law_1862) ?_
      refine xg_lif_eq (pc := 1863) (tgt := 1868) (hI := d_W_law_1863) (ht := by decide) (fun q9 => ?_) (fun q9 => ?_)
      · replace hyp := hyp.1 q9
        have q5_ := q9
        clear q9
        refine xr_goto (pc := 1868) (tgt := 2018) (hI := d_W_law_1868) (ht := by decide) ?_
        exact xr_drop (L9 := [xR (-108), xR 0, xR 53, xR 91, xR 92, xI x5, xZ, xZ, xZ]) (xdrs (xdrs (xdrs (xdrs (xdrs (xdrs (xdrz (xdrz (xdrs xdr0))))))))) hyp
      · replace hyp := hyp.2 q9
        have q5_ := q9
        clear q9
        refine xr_iconst (pc := 1866) (hI := d_W_law_1866) (hr := by decide) ?_
        refine xr_ireturnT (S := []) (pc := 1867) (hI := d_W_law_1867) (hr := rfl) (xnar_z (by decide)) ?_
        exact hyp
  · replace hyp := hyp.2 q9
    have q2_ := q9
    clear q9
    refine xr_iconst (pc := 1849) (hI := d_W_law_1849) (hr := by decide) ?_
    refine xr_ireturnT (S := []) (pc := 1850) (hI := d_W_law_1850) (hr := rfl) (xnar_z (by decide)) ?_
    exact hyp
theorem d_W_law_1871 : decode code 1871 = .ok (.aload_n 1, 1) := by decide +kernel
theorem d_W_law_1872 : decode code 1872 = .ok (.aload_n 0, 1) := by decide +kernel
theorem d_W_law_1873 : decode code 1873 = .ok (.iload 5, 2) := by decide +kernel
theorem d_W_law_1875 : decode code 1875 = .ok (.iconst 1, 1) := by decide +kernel
theorem d_W_law_1876 : decode code 1876 = .ok (.iadd, 1) := by decide +kernel
theorem d_W_law_1877 : decode code 1877 = .ok (.iaload, 1) := by decide +kernel
theorem d_W_law_1878 : decode code 1878 = .ok (.aload_n 0, 1) := by decide +kernel
theorem d_W_law_1879 : decode code 1879 = .ok (.iload 5, 2) := by decide +kernel
theorem d_W_law_1881 : decode code 1881 = .ok (.iconst 2, 1) := by decide +kernel
theorem d_W_law_1882 : decode code 1882 = .ok (.iadd, 1) := by decide +kernel
theorem d_W_law_1883 : decode code 1883 = .ok (.iaload, 1) := by decide +kernel
theorem d_W_law_1884 : decode code 1884 = .ok (.aload_n 3, 1) := by decide +kernel
theorem d_W_law_1885 : decode code 1885 = .ok (.invokestatic 229, 3) := by decide +kernel
theorem k_W_firstFit : xCalH m_W_firstFit 4 := ⟨List.mem_append_right _ (List.mem_of_getElem? (i := 1515) (by decide +kernel)), w_0, Nat.le_of_ble_eq_true rfl, ⟨by decide +kernel, by decide +kernel⟩, by decide +kernel, by decide +kernel⟩
theorem w_1513 : Cond.methodLink "BeaconIndexLaw" 229 ⟨"BeaconIndexLaw", "firstFit", "(LBeaconIndex;II[J)I"⟩ ∈ lw_tbl := List.mem_append_right _ (List.mem_of_getElem? (i := 1513) (by decide +kernel))
theorem w_1514 : Cond.static ⟨"BeaconIndexLaw", "firstFit", "(LBeaconIndex;II[J)I"⟩ ∈ lw_tbl := List.mem_append_right _ (List.mem_of_getElem? (i := 1514) (by decide +kernel))
theorem v_W_law_1871 {G : XG} {d : Nat} {h : XH} {Q : XV → XH → Prop} {X : Nat → XH → Prop} {x5 : Int} {n9 : Nat} {xs : Nat → Int32} {nm9 : String} {hq9 : List (Nat × Nat × Nat × Nat)} (SC : SCR G n9 xs) (F : xFix h) (hyp : xiR (x5 + 1) ∧ 0 ≤ (x5 + 1) ∧ (x5 + 1) < (n9 : Int) ∧ xiR (x5 + 2) ∧ 0 ≤ (x5 + 2) ∧ (x5 + 2) < (n9 : Int) ∧ (xwp G m_W_firstFit (d + 219) 0 [xR 0, xI (scV xs (x5 + 1)), xI (scV xs (x5 + 2)), xR 91, xZ] [] h (fun v9 h9 => xwp G (m_W_law nm9 hq9) (d + 220) 1888 [xR (-108), xR 0, xR 53, xR 91, xR 92, xI x5, xZ, xZ, xZ] (xpush v9 []) h9 Q X) (fun _ _ => False))) : xwp G (m_W_law nm9 hq9) (d + 220) 1871 [xR (-108), xR 0, xR 53, xR 91, xR 92, xI x5, xZ, xZ, xZ] [] h Q X := by
  have hnx9 : (93 : Int) ≤ xnx h := F.2.2
  refine xr_okL (fun hl9 => ?_)
  have r_x5 : -2147483648 ≤ x5 ∧ x5 ≤ 2147483647 := hl9 (xI x5) (.tail _ (.tail _ (.tail _ (.tail _ (.tail _ (.head _)))))) (Nat.le_of_ble_eq_true rfl)
  refine xr_aload_n (pc := 1871) (i := 1) (hI := d_W_law_1871) (hi := rfl) (hl := rfl) ?_
  refine xr_aload_n (pc := 1872) (i := 0) (hI := d_W_law_1872) (hi := rfl) (hl := rfl) ?_
  refine xr_iload (pc := 1873) (i := 5) (hI := d_W_law_1873) (hl := rfl) ?_
  refine xr_iconst (pc := 1875) (hI := d_W_law_1875) (hr := by decide) ?_
  obtain ⟨c9, hyp⟩ := hyp
  refine xr_iadd (pc := 1876) (hI := d_W_law_1876) (hr := c9) ?_
  obtain ⟨c8, c9, hyp⟩ := hyp
  refine xr_scd (pc := 1877) SC (hI := d_W_law_1877) c8 c9 ?_
  have f1_ : -2147483648 ≤ (scV xs (x5 + 1)) ∧ (scV xs (x5 + 1)) ≤ 2147483647 := xi_toR _
  refine xr_aload_n (pc := 1878) (i := 0) (hI := d_W_law_1878) (hi := rfl) (hl := rfl) ?_
  refine xr_iload (pc := 1879) (i := 5) (hI := d_W_law_1879) (hl := rfl) ?_
  refine xr_iconst (pc := 1881) (hI := d_W_law_1881) (hr := by decide) ?_
  obtain ⟨c9, hyp⟩ := hyp
  refine xr_iadd (pc := 1882) (hI := d_W_law_1882) (hr := c9) ?_
  obtain ⟨c8, c9, hyp⟩ := hyp
  refine xr_scd (pc := 1883) SC (hI := d_W_law_1883) c8 c9 ?_
  have f2_ : -2147483648 ≤ (scV xs (x5 + 2)) ∧ (scV xs (x5 + 2)) ≤ 2147483647 := xi_toR _
  refine xr_aload_n (pc := 1884) (i := 3) (hI := d_W_law_1884) (hi := rfl) (hl := rfl) ?_
  exact xl_callSW (pc := 1885) (index := 229) (K := m_W_firstFit) (As := [xR 0, xI (scV xs (x5 + 1)), xI (scV xs (x5 + 2)), xR 91]) (S := []) (L0 := [xR 0, xI (scV xs (x5 + 1)), xI (scV xs (x5 + 2)), xR 91, xZ]) (hI := d_W_law_1885) (hK := k_W_firstFit) (hlk := w_1513) (hS8 := Nat.le_of_ble_eq_true rfl) (hstat := w_1514) (hlen := Nat.le_of_ble_eq_true rfl) (hst := rfl) (hL0 := rfl)  hyp
theorem d_W_law_1888 : decode code 1888 = .ok (.istore 6, 2) := by decide +kernel
theorem d_W_law_1890 : decode code 1890 = .ok (.aload_n 2, 1) := by decide +kernel
theorem d_W_law_1891 : decode code 1891 = .ok (.aload_n 0, 1) := by decide +kernel
theorem d_W_law_1892 : decode code 1892 = .ok (.iload 5, 2) := by decide +kernel
theorem d_W_law_1894 : decode code 1894 = .ok (.iconst 1, 1) := by decide +kernel
theorem d_W_law_1895 : decode code 1895 = .ok (.iadd, 1) := by decide +kernel
theorem d_W_law_1896 : decode code 1896 = .ok (.iaload, 1) := by decide +kernel
theorem d_W_law_1897 : decode code 1897 = .ok (.aload_n 0, 1) := by decide +kernel
theorem d_W_law_1898 : decode code 1898 = .ok (.iload 5, 2) := by decide +kernel
theorem d_W_law_1900 : decode code 1900 = .ok (.iconst 2, 1) := by decide +kernel
theorem d_W_law_1901 : decode code 1901 = .ok (.iadd, 1) := by decide +kernel
theorem d_W_law_1902 : decode code 1902 = .ok (.iaload, 1) := by decide +kernel
theorem d_W_law_1903 : decode code 1903 = .ok (.invokevirtual 231, 3) := by decide +kernel
theorem k_M_firstFit : xCal m_M_firstFit 2 := ⟨List.mem_append_right _ (List.mem_of_getElem? (i := 2465) (by decide +kernel)), w_15, Nat.le_of_ble_eq_true rfl, ⟨by decide +kernel, by decide +kernel⟩, by decide +kernel, by decide +kernel, rfl⟩
theorem w_2462 : Cond.methodLink "BeaconIndexLaw" 231 ⟨"BeaconIndexModel", "firstFit", "(II)I"⟩ ∈ lw_tbl := List.mem_append_right _ (List.mem_of_getElem? (i := 2462) (by decide +kernel))
theorem w_2463 : Cond.instanceMethod ⟨"BeaconIndexModel", "firstFit", "(II)I"⟩ ∈ lw_tbl := List.mem_append_right _ (List.mem_of_getElem? (i := 2463) (by decide +kernel))
theorem w_2464 : Cond.selects "BeaconIndexModel" ⟨"BeaconIndexModel", "firstFit", "(II)I"⟩ ⟨"BeaconIndexModel", "firstFit", "(II)I"⟩ ∈ lw_tbl := List.mem_append_right _ (List.mem_of_getElem? (i := 2464) (by decide +kernel))
theorem v_W_law_1888 {G : XG} {d : Nat} {h : XH} {Q : XV → XH → Prop} {X : Nat → XH → Prop} {x5 s0 : Int} {n9 : Nat} {xs : Nat → Int32} {nm9 : String} {hq9 : List (Nat × Nat × Nat × Nat)} (SC : SCR G n9 xs) (F : xFix h) (hyp : xiR (x5 + 1) ∧ 0 ≤ (x5 + 1) ∧ (x5 + 1) < (n9 : Int) ∧ xiR (x5 + 2) ∧ 0 ≤ (x5 + 2) ∧ (x5 + 2) < (n9 : Int) ∧ (xwp G m_M_firstFit (d + 219) 0 [xR 53, xI (scV xs (x5 + 1)), xI (scV xs (x5 + 2)), xZ] [] h (fun v9 h9 => xwp G (m_W_law nm9 hq9) (d + 220) 1906 [xR (-108), xR 0, xR 53, xR 91, xR 92, xI x5, xI s0, xZ, xZ] (xpush v9 []) h9 Q X) (fun _ _ => False))) : xwp G (m_W_law nm9 hq9) (d + 220) 1888 [xR (-108), xR 0, xR 53, xR 91, xR 92, xI x5, xZ, xZ, xZ] [xI s0] h Q X := by
  have hnx9 : (93 : Int) ≤ xnx h := F.2.2
  refine xr_okL (fun hl9 => ?_)
  have r_x5 : -2147483648 ≤ x5 ∧ x5 ≤ 2147483647 := hl9 (xI x5) (.tail _ (.tail _ (.tail _ (.tail _ (.tail _ (.head _)))))) (Nat.le_of_ble_eq_true rfl)
  refine xr_okS (fun hs9 => ?_)
  have r_s0 : -2147483648 ≤ s0 ∧ s0 ≤ 2147483647 := hs9 (xI s0) (.head _)
  refine xr_istore (pc := 1888) (i := 6) (L9 := [xR (-108), xR 0, xR 53, xR 91, xR 92, xI x5, xI s0, xZ, xZ]) (hI := d_W_law_1888) (hn := Nat.le_of_ble_eq_true rfl) (hL9 := rfl) ?_
  refine xr_aload_n (pc := 1890) (i := 2) (hI := d_W_law_1890) (hi := rfl) (hl := rfl) ?_
  refine xr_aload_n (pc := 1891) (i := 0) (hI := d_W_law_1891) (hi := rfl) (hl := rfl) ?_
  refine xr_iload (pc := 1892) (i := 5) (hI := d_W_law_1892) (hl := rfl) ?_
  refine xr_iconst (pc := 1894) (hI := d_W_law_1894) (hr := by decide) ?_
  obtain ⟨c9, hyp⟩ := hyp
  refine xr_iadd (pc := 1895) (hI := d_W_law_1895) (hr := c9) ?_
  obtain ⟨c8, c9, hyp⟩ := hyp
  refine xr_scd (pc := 1896) SC (hI := d_W_law_1896) c8 c9 ?_
  have f1_ : -2147483648 ≤ (scV xs (x5 + 1)) ∧ (scV xs (x5 + 1)) ≤ 2147483647 := xi_toR _
  refine xr_aload_n (pc := 1897) (i := 0) (hI := d_W_law_1897) (hi := rfl) (hl := rfl) ?_
  refine xr_iload (pc := 1898) (i := 5) (hI := d_W_law_1898) (hl := rfl) ?_
  refine xr_iconst (pc := 1900) (hI := d_W_law_1900) (hr := by decide) ?_
  obtain ⟨c9, hyp⟩ := hyp
  refine xr_iadd (pc := 1901) (hI := d_W_law_1901) (hr := c9) ?_
  obtain ⟨c8, c9, hyp⟩ := hyp
  refine xr_scd (pc := 1902) SC (hI := d_W_law_1902) c8 c9 ?_
  have f2_ : -2147483648 ≤ (scV xs (x5 + 2)) ∧ (scV xs (x5 + 2)) ≤ 2147483647 := xi_toR _
  exact xl_callV (pc := 1903) (index := 231) (K := m_M_firstFit) (As := [xI (scV xs (x5 + 1)), xI (scV xs (x5 + 2))]) (S := []) (L0 := [xR 53, xI (scV xs (x5 + 1)), xI (scV xs (x5 + 2)), xZ]) (hI := d_W_law_1903) (hK := k_M_firstFit) (hlk := w_2462) (hS8 := Nat.le_of_ble_eq_true rfl) (ci := 11) (N := 38) (C := "BeaconIndexModel") (T := xF11) (hc := rfl) (hci := Nat.le_of_ble_eq_true rfl) (htb := (ft_53 F)) (hinst := w_2463) (hsel := w_2464) (hlen := Nat.le_of_ble_eq_true rfl) (hst := rfl) (hL0 := rfl)  hyp
theorem d_W_law_1906 : decode code 1906 = .ok (.istore 7, 2) := by decide +kernel
theorem d_W_law_1908 : decode code 1908 = .ok (.aload_n 2, 1) := by decide +kernel
theorem d_W_law_1909 : decode code 1909 = .ok (.invokevirtual 114, 3) := by decide +kernel
theorem d_W_law_1912 : decode code 1912 = .ok (.iload 6, 2) := by decide +kernel
theorem d_W_law_1914 : decode code 1914 = .ok (.if_icmp .eq 5, 3) := by decide +kernel
theorem d_W_law_1919 : decode code 1919 = .ok (.iload 6, 2) := by decide +kernel
theorem d_W_law_1921 : decode code 1921 = .ok (.ifCond .ne 15, 3) := by decide +kernel
theorem d_W_law_1936 : decode code 1936 = .ok (.goto 82, 3) := by decide +kernel
theorem d_W_law_1924 : decode code 1924 = .ok (.aload_n 3, 1) := by decide +kernel
theorem d_W_law_1925 : decode code 1925 = .ok (.iconst 0, 1) := by decide +kernel
theorem d_W_law_1926 : decode code 1926 = .ok (.laload, 1) := by decide +kernel
theorem d_W_law_1927 : decode code 1927 = .ok (.iload 7, 2) := by decide +kernel
theorem d_W_law_1929 : decode code 1929 = .ok (.i2l, 1) := by decide +kernel
theorem d_W_law_1930 : decode code 1930 = .ok (.lcmp, 1) := by decide +kernel
theorem d_W_law_1931 : decode code 1931 = .ok (.ifCond .eq 5, 3) := by decide +kernel
theorem d_W_law_1934 : decode code 1934 = .ok (.iconst 0, 1) := by decide +kernel
theorem d_W_law_1935 : decode code 1935 = .ok (.ireturn, 1) := by decide +kernel
theorem d_W_law_1917 : decode code 1917 = .ok (.iconst 0, 1) := by decide +kernel
theorem d_W_law_1918 : decode code 1918 = .ok (.ireturn, 1) := by decide +kernel
theorem v_W_law_1906 {G : XG} {d : Nat} {h : XH} {Q : XV → XH → Prop} {X : Nat → XH → Prop} {x5 x6 s0 : Int} {n9 : Nat} {xs : Nat → Int32} {nm9 : String} {hq9 : List (Nat × Nat × Nat × Nat)} (SC : SCR G n9 xs) (F : xFix h) (hyp : (((xpl h 53 0) = x6 → ((x6 = 0 → (((xpl h 91 0) = s0 → (xwp G (m_W_law nm9 hq9) (d + 220) 2018 [xR (-108), xR 0, xR 53, xR 91, xR 92, xI x5, xZ, xZ, xZ] [] h Q X)) ∧ (¬ (xpl h 91 0) = s0 → (Q (xI 0) h)))) ∧ (¬ x6 = 0 → (xwp G (m_W_law nm9 hq9) (d + 220) 2018 [xR (-108), xR 0, xR 53, xR 91, xR 92, xI x5, xZ, xZ, xZ] [] h Q X)))) ∧ (¬ (xpl h 53 0) = x6 → (Q (xI 0) h)))) : xwp G (m_W_law nm9 hq9) (d + 220) 1906 [xR (-108), xR 0, xR 53, xR 91, xR 92, xI x5, xI x6, xZ, xZ] [xI s0] h Q X := by
  have hnx9 : (93 : Int) ≤ xnx h := F.2.2
  refine xr_okL (fun hl9 => ?_)
  have r_x5 : -2147483648 ≤ x5 ∧ x5 ≤ 2147483647 := hl9 (xI x5) (.tail _ (.tail _ (.tail _ (.tail _ (.tail _ (.head _)))))) (Nat.le_of_ble_eq_true rfl)
  have r_x6 : -2147483648 ≤ x6 ∧ x6 ≤ 2147483647 := hl9 (xI x6) (.tail _ (.tail _ (.tail _ (.tail _ (.tail _ (.tail _ (.head _))))))) (Nat.le_of_ble_eq_true rfl)
  refine xr_okS (fun hs9 => ?_)
  have r_s0 : -2147483648 ≤ s0 ∧ s0 ≤ 2147483647 := hs9 (xI s0) (.head _)
  refine xr_istore (pc := 1906) (i := 7) (L9 := [xR (-108), xR 0, xR 53, xR 91, xR 92, xI x5, xI x6, xI s0, xZ]) (hI := d_W_law_1906) (hn := Nat.le_of_ble_eq_true rfl) (hL9 := rfl) ?_
  refine xr_aload_n (pc := 1908) (i := 2) (hI := d_W_law_1908) (hi := rfl) (hl := rfl) ?_
  refine xl_callV (pc := 1909) (index := 114) (K := m_M_thrown) (As := []) (S := []) (L0 := [xR 53]) (hI := d_W_law_1909) (hK := k_M_thrown) (hlk := w_1702) (hS8 := Nat.le_of_ble_eq_true rfl) (ci := 11) (N := 38) (C := "BeaconIndexModel") (T := xF11) (hc := rfl) (hci := Nat.le_of_ble_eq_true rfl) (htb := (ft_53 F)) (hinst := w_1703) (hsel := w_1704) (hlen := Nat.le_of_ble_eq_true rfl) (hst := rfl) (hL0 := rfl)  ?_
  refine xr_aload_n (pc := 0) (i := 0) (hI := d_M_thrown_0) (hi := rfl) (hl := rfl) ?_
  refine xg_getf (pc := 1) (ci := 11) (k := 0) (N := 38) (v9 := 0) (v := (xpl h 53 0)) (T := xF11) (hI := d_M_thrown_1) (hw := w_1587) rfl xi11 (Or.inl rfl) (Nat.le_of_ble_eq_true rfl) (Nat.le_of_ble_eq_true rfl) rfl (ft_53 F) rfl (fun f1_ => ?_)
  replace f1_ : -2147483648 ≤ (xpl h 53 0) ∧ (xpl h 53 0) ≤ 2147483647 := f1_
  refine xr_ireturn (S := []) (pc := 4) (hI := d_M_thrown_4) (hr := rfl) ?_
  show xwp G (m_W_law nm9 hq9) (d + 220) 1912 [xR (-108), xR 0, xR 53, xR 91, xR 92, xI x5, xI x6, xI s0, xZ] [xI (xpl h 53 0)] _ _ _
  refine xr_iload (pc := 1912) (i := 6) (hI := d_W_law_1912) (hl := rfl) ?_
  refine xr_icmp_eq (pc := 1914) (tgt := 1919) (hI := d_W_law_1914) (ht := by decide) (fun q9 => ?_) (fun q9 => ?_)
  · replace hyp := hyp.1 q9
    have q2_ := q9
    clear q9
    refine xr_iload (pc := 1919) (i := 6) (hI := d_W_law_1919) (hl := rfl) ?_
    refine xr_if_ne (pc := 1921) (tgt := 1936) (hI := d_W_law_1921) (ht := by decide) (fun q9 => ?_) (fun q9 => ?_)
    · replace hyp := hyp.2 q9
      have q3_ := q9
      clear q9
      refine xr_goto (pc := 1936) (tgt := 2018) (hI := d_W_law_1936) (ht := by decide) ?_
      exact xr_drop (L9 := [xR (-108), xR 0, xR 53, xR 91, xR 92, xI x5, xZ, xZ, xZ]) (xdrs (xdrs (xdrs (xdrs (xdrs (xdrs (xdrz (xdrz (xdrs xdr0))))))))) hyp
    · replace hyp := hyp.1 q9
      have q3_ := q9
      clear q9
      refine xr_aload_n (pc := 1924) (i := 3) (hI := d_W_law_1924) (hi := rfl) (hl := rfl) ?_
      refine xr_iconst (pc := 1925) (hI := d_W_law_1925) (hr := by decide) ?_
      refine xg_laload (pc := 1926) (v := (xpl h 91 0)) (hI := d_W_law_1926) (ft_91 F) (by decide) (xlt_of (fl_91 F) (by decide)) rfl (fun f4_ => ?_)
      replace f4_ : -9223372036854775808 ≤ (xpl h 91 0) ∧ (xpl h 91 0) ≤ 9223372036854775807 := f4_
      refine xr_iload (pc := 1927) (i := 7) (hI := d_W_law_1927) (hl := rfl) ?_
      refine xr_i2l (pc := 1929) (hI := d_W_law_1929) ?_
      refine xr_lcmp (pc := 1930) (hI := d_W_law_1930) ?_
      refine xg_lif_eq (pc := 1931) (tgt := 1936) (hI := d_W_law_1931) (ht := by decide) (fun q9 => ?_) (fun q9 => ?_)
      · replace hyp := hyp.1 q9
        have q5_ := q9
        clear q9
        refine xr_goto (pc := 1936) (tgt := 2018) (hI := d_W_law_1936) (ht := by decide) ?_
        exact xr_drop (L9 := [xR (-108), xR 0, xR 53, xR 91, xR 92, xI x5, xZ, xZ, xZ]) (xdrs (xdrs (xdrs (xdrs (xdrs (xdrs (xdrz (xdrz (xdrs xdr0))))))))) hyp
      · replace hyp := hyp.2 q9
        have q5_ := q9
        clear q9
        refine xr_iconst (pc := 1934) (hI := d_W_law_1934) (hr := by decide) ?_
        refine xr_ireturnT (S := []) (pc := 1935) (hI := d_W_law_1935) (hr := rfl) (xnar_z (by decide)) ?_
        exact hyp
  · replace hyp := hyp.2 q9
    have q2_ := q9
    clear q9
    refine xr_iconst (pc := 1917) (hI := d_W_law_1917) (hr := by decide) ?_
    refine xr_ireturnT (S := []) (pc := 1918) (hI := d_W_law_1918) (hr := rfl) (xnar_z (by decide)) ?_
    exact hyp
theorem d_W_law_1939 : decode code 1939 = .ok (.aload_n 1, 1) := by decide +kernel
theorem d_W_law_1940 : decode code 1940 = .ok (.aload 4, 2) := by decide +kernel
theorem d_W_law_1942 : decode code 1942 = .ok (.invokestatic 232, 3) := by decide +kernel
theorem k_W_meanWeight : xCalH m_W_meanWeight 2 := ⟨List.mem_append_right _ (List.mem_of_getElem? (i := 1519) (by decide +kernel)), w_0, Nat.le_of_ble_eq_true rfl, ⟨by decide +kernel, by decide +kernel⟩, by decide +kernel, by decide +kernel⟩
theorem w_1517 : Cond.methodLink "BeaconIndexLaw" 232 ⟨"BeaconIndexLaw", "meanWeight", "(LBeaconIndex;[D)I"⟩ ∈ lw_tbl := List.mem_append_right _ (List.mem_of_getElem? (i := 1517) (by decide +kernel))
theorem w_1518 : Cond.static ⟨"BeaconIndexLaw", "meanWeight", "(LBeaconIndex;[D)I"⟩ ∈ lw_tbl := List.mem_append_right _ (List.mem_of_getElem? (i := 1518) (by decide +kernel))
theorem v_W_law_1939 {G : XG} {d : Nat} {h : XH} {Q : XV → XH → Prop} {X : Nat → XH → Prop} {x5 : Int} {n9 : Nat} {xs : Nat → Int32} {nm9 : String} {hq9 : List (Nat × Nat × Nat × Nat)} (SC : SCR G n9 xs) (F : xFix h) (hyp : (xwp G m_W_meanWeight (d + 219) 0 [xR 0, xR 92, xZ] [] h (fun v9 h9 => xwp G (m_W_law nm9 hq9) (d + 220) 1945 [xR (-108), xR 0, xR 53, xR 91, xR 92, xI x5, xZ, xZ, xZ] (xpush v9 []) h9 Q X) (fun _ _ => False))) : xwp G (m_W_law nm9 hq9) (d + 220) 1939 [xR (-108), xR 0, xR 53, xR 91, xR 92, xI x5, xZ, xZ, xZ] [] h Q X := by
  have hnx9 : (93 : Int) ≤ xnx h := F.2.2
  refine xr_okL (fun hl9 => ?_)
  have r_x5 : -2147483648 ≤ x5 ∧ x5 ≤ 2147483647 := hl9 (xI x5) (.tail _ (.tail _ (.tail _ (.tail _ (.tail _ (.head _)))))) (Nat.le_of_ble_eq_true rfl)
  refine xr_aload_n (pc := 1939) (i := 1) (hI := d_W_law_1939) (hi := rfl) (hl := rfl) ?_
  refine xr_aload (pc := 1940) (i := 4) (hI := d_W_law_1940) (hl := rfl) ?_
  exact xl_callSW (pc := 1942) (index := 232) (K := m_W_meanWeight) (As := [xR 0, xR 92]) (S := []) (L0 := [xR 0, xR 92, xZ]) (hI := d_W_law_1942) (hK := k_W_meanWeight) (hlk := w_1517) (hS8 := Nat.le_of_ble_eq_true rfl) (hstat := w_1518) (hlen := Nat.le_of_ble_eq_true rfl) (hst := rfl) (hL0 := rfl)  hyp
theorem d_W_law_1945 : decode code 1945 = .ok (.istore 6, 2) := by decide +kernel
theorem d_W_law_1947 : decode code 1947 = .ok (.aload_n 2, 1) := by decide +kernel
theorem d_W_law_1948 : decode code 1948 = .ok (.invokevirtual 235, 3) := by decide +kernel
theorem k_M_meanWeight : xCal m_M_meanWeight 0 := ⟨List.mem_append_right _ (List.mem_of_getElem? (i := 2477) (by decide +kernel)), w_15, Nat.le_of_ble_eq_true rfl, ⟨by decide +kernel, by decide +kernel⟩, by decide +kernel, by decide +kernel, rfl⟩
theorem w_2474 : Cond.methodLink "BeaconIndexLaw" 235 ⟨"BeaconIndexModel", "meanWeight", "()D"⟩ ∈ lw_tbl := List.mem_append_right _ (List.mem_of_getElem? (i := 2474) (by decide +kernel))
theorem w_2475 : Cond.instanceMethod ⟨"BeaconIndexModel", "meanWeight", "()D"⟩ ∈ lw_tbl := List.mem_append_right _ (List.mem_of_getElem? (i := 2475) (by decide +kernel))
theorem w_2476 : Cond.selects "BeaconIndexModel" ⟨"BeaconIndexModel", "meanWeight", "()D"⟩ ⟨"BeaconIndexModel", "meanWeight", "()D"⟩ ∈ lw_tbl := List.mem_append_right _ (List.mem_of_getElem? (i := 2476) (by decide +kernel))
theorem v_W_law_1945 {G : XG} {d : Nat} {h : XH} {Q : XV → XH → Prop} {X : Nat → XH → Prop} {x5 s0 : Int} {n9 : Nat} {xs : Nat → Int32} {nm9 : String} {hq9 : List (Nat × Nat × Nat × Nat)} (SC : SCR G n9 xs) (F : xFix h) (hyp : (xwp G m_M_meanWeight (d + 219) 0 [xR 53, xZ, xZ, xZ] [] h (fun v9 h9 => xwp G (m_W_law nm9 hq9) (d + 220) 1951 [xR (-108), xR 0, xR 53, xR 91, xR 92, xI x5, xI s0, xZ, xZ] (xpush v9 []) h9 Q X) (fun _ _ => False))) : xwp G (m_W_law nm9 hq9) (d + 220) 1945 [xR (-108), xR 0, xR 53, xR 91, xR 92, xI x5, xZ, xZ, xZ] [xI s0] h Q X := by
  have hnx9 : (93 : Int) ≤ xnx h := F.2.2
  refine xr_okL (fun hl9 => ?_)
  have r_x5 : -2147483648 ≤ x5 ∧ x5 ≤ 2147483647 := hl9 (xI x5) (.tail _ (.tail _ (.tail _ (.tail _ (.tail _ (.head _)))))) (Nat.le_of_ble_eq_true rfl)
  refine xr_okS (fun hs9 => ?_)
  have r_s0 : -2147483648 ≤ s0 ∧ s0 ≤ 2147483647 := hs9 (xI s0) (.head _)
  refine xr_istore (pc := 1945) (i := 6) (L9 := [xR (-108), xR 0, xR 53, xR 91, xR 92, xI x5, xI s0, xZ, xZ]) (hI := d_W_law_1945) (hn := Nat.le_of_ble_eq_true rfl) (hL9 := rfl) ?_
  refine xr_aload_n (pc := 1947) (i := 2) (hI := d_W_law_1947) (hi := rfl) (hl := rfl) ?_
  exact xl_callV (pc := 1948) (index := 235) (K := m_M_meanWeight) (As := []) (S := []) (L0 := [xR 53, xZ, xZ, xZ]) (hI := d_W_law_1948) (hK := k_M_meanWeight) (hlk := w_2474) (hS8 := Nat.le_of_ble_eq_true rfl) (ci := 11) (N := 38) (C := "BeaconIndexModel") (T := xF11) (hc := rfl) (hci := Nat.le_of_ble_eq_true rfl) (htb := (ft_53 F)) (hinst := w_2475) (hsel := w_2476) (hlen := Nat.le_of_ble_eq_true rfl) (hst := rfl) (hL0 := rfl)  hyp
theorem d_W_law_1951 : decode code 1951 = .ok (.dstore 7, 2) := by decide +kernel
theorem d_W_law_1953 : decode code 1953 = .ok (.aload_n 2, 1) := by decide +kernel
theorem d_W_law_1954 : decode code 1954 = .ok (.invokevirtual 114, 3) := by decide +kernel
theorem d_W_law_1957 : decode code 1957 = .ok (.iload 6, 2) := by decide +kernel
theorem d_W_law_1959 : decode code 1959 = .ok (.if_icmp .eq 5, 3) := by decide +kernel
theorem d_W_law_1964 : decode code 1964 = .ok (.iload 6, 2) := by decide +kernel
theorem d_W_law_1966 : decode code 1966 = .ok (.ifCond .ne 35, 3) := by decide +kernel
theorem d_W_law_2001 : decode code 2001 = .ok (.goto 17, 3) := by decide +kernel
theorem d_W_law_1969 : decode code 1969 = .ok (.aload 4, 2) := by decide +kernel
theorem d_W_law_1971 : decode code 1971 = .ok (.iconst 0, 1) := by decide +kernel
theorem d_W_law_1972 : decode code 1972 = .ok (.daload, 1) := by decide +kernel
theorem d_W_law_1973 : decode code 1973 = .ok (.dload 7, 2) := by decide +kernel
theorem d_W_law_1975 : decode code 1975 = .ok (.dcmp .l, 1) := by decide +kernel
theorem d_W_law_1976 : decode code 1976 = .ok (.ifCond .eq 25, 3) := by decide +kernel
theorem d_W_law_1979 : decode code 1979 = .ok (.aload 4, 2) := by decide +kernel
theorem d_W_law_1981 : decode code 1981 = .ok (.iconst 0, 1) := by decide +kernel
theorem d_W_law_1982 : decode code 1982 = .ok (.daload, 1) := by decide +kernel
theorem d_W_law_1983 : decode code 1983 = .ok (.aload 4, 2) := by decide +kernel
theorem d_W_law_1985 : decode code 1985 = .ok (.iconst 0, 1) := by decide +kernel
theorem d_W_law_1986 : decode code 1986 = .ok (.daload, 1) := by decide +kernel
theorem d_W_law_1987 : decode code 1987 = .ok (.dcmp .l, 1) := by decide +kernel
theorem d_W_law_1988 : decode code 1988 = .ok (.ifCond .eq 11, 3) := by decide +kernel
theorem d_W_law_1999 : decode code 1999 = .ok (.iconst 0, 1) := by decide +kernel
theorem d_W_law_2000 : decode code 2000 = .ok (.ireturn, 1) := by decide +kernel
theorem d_W_law_1991 : decode code 1991 = .ok (.dload 7, 2) := by decide +kernel
theorem d_W_law_1993 : decode code 1993 = .ok (.dload 7, 2) := by decide +kernel
theorem d_W_law_1995 : decode code 1995 = .ok (.dcmp .l, 1) := by decide +kernel
theorem d_W_law_1996 : decode code 1996 = .ok (.ifCond .ne 5, 3) := by decide +kernel
theorem d_W_law_1962 : decode code 1962 = .ok (.iconst 0, 1) := by decide +kernel
theorem d_W_law_1963 : decode code 1963 = .ok (.ireturn, 1) := by decide +kernel
theorem v_W_law_1951 {G : XG} {d : Nat} {h : XH} {Q : XV → XH → Prop} {X : Nat → XH → Prop} {x5 x6 s0 : Int} {n9 : Nat} {xs : Nat → Int32} {nm9 : String} {hq9 : List (Nat × Nat × Nat × Nat)} (SC : SCR G n9 xs) (F : xFix h) (hyp : (((xpl h 53 0) = x6 → ((x6 = 0 → (((xdcmp .l (xpl h 92 0) s0) = 0 → (xwp G (m_W_law nm9 hq9) (d + 220) 2018 [xR (-108), xR 0, xR 53, xR 91, xR 92, xI x5, xZ, xZ, xZ] [] h Q X)) ∧ (¬ (xdcmp .l (xpl h 92 0) s0) = 0 → (((xdcmp .l (xpl h 92 0) (xpl h 92 0)) = 0 → (Q (xI 0) h)) ∧ (¬ (xdcmp .l (xpl h 92 0) (xpl h 92 0)) = 0 → (((xdcmp .l s0 s0) = 0 → (Q (xI 0) h)) ∧ (¬ (xdcmp .l s0 s0) = 0 → (xwp G (m_W_law nm9 hq9) (d + 220) 2018 [xR (-108), xR 0, xR 53, xR 91, xR 92, xI x5, xZ, xZ, xZ] [] h Q X)))))))) ∧ (¬ x6 = 0 → (xwp G (m_W_law nm9 hq9) (d + 220) 2018 [xR (-108), xR 0, xR 53, xR 91, xR 92, xI x5, xZ, xZ, xZ] [] h Q X)))) ∧ (¬ (xpl h 53 0) = x6 → (Q (xI 0) h)))) : xwp G (m_W_law nm9 hq9) (d + 220) 1951 [xR (-108), xR 0, xR 53, xR 91, xR 92, xI x5, xI x6, xZ, xZ] [xD s0] h Q X := by
  have hnx9 : (93 : Int) ≤ xnx h := F.2.2
  refine xr_okL (fun hl9 => ?_)
  have r_x5 : -2147483648 ≤ x5 ∧ x5 ≤ 2147483647 := hl9 (xI x5) (.tail _ (.tail _ (.tail _ (.tail _ (.tail _ (.head _)))))) (Nat.le_of_ble_eq_true rfl)
  have r_x6 : -2147483648 ≤ x6 ∧ x6 ≤ 2147483647 := hl9 (xI x6) (.tail _ (.tail _ (.tail _ (.tail _ (.tail _ (.tail _ (.head _))))))) (Nat.le_of_ble_eq_true rfl)
  refine xr_dstore (pc := 1951) (i := 7) (L9 := [xR (-108), xR 0, xR 53, xR 91, xR 92, xI x5, xI x6, xD s0, xZ]) (hI := d_W_law_1951) (hn := Nat.le_of_ble_eq_true rfl) (hL9 := rfl) ?_
  refine xr_aload_n (pc := 1953) (i := 2) (hI := d_W_law_1953) (hi := rfl) (hl := rfl) ?_
  refine xl_callV (pc := 1954) (index := 114) (K := m_M_thrown) (As := []) (S := []) (L0 := [xR 53]) (hI := d_W_law_1954) (hK := k_M_thrown) (hlk := w_1702) (hS8 := Nat.le_of_ble_eq_true rfl) (ci := 11) (N := 38) (C := "BeaconIndexModel") (T := xF11) (hc := rfl) (hci := Nat.le_of_ble_eq_true rfl) (htb := (ft_53 F)) (hinst := w_1703) (hsel := w_1704) (hlen := Nat.le_of_ble_eq_true rfl) (hst := rfl) (hL0 := rfl)  ?_
  refine xr_aload_n (pc := 0) (i := 0) (hI := d_M_thrown_0) (hi := rfl) (hl := rfl) ?_
  refine xg_getf (pc := 1) (ci := 11) (k := 0) (N := 38) (v9 := 0) (v := (xpl h 53 0)) (T := xF11) (hI := d_M_thrown_1) (hw := w_1587) rfl xi11 (Or.inl rfl) (Nat.le_of_ble_eq_true rfl) (Nat.le_of_ble_eq_true rfl) rfl (ft_53 F) rfl (fun f1_ => ?_)
  replace f1_ : -2147483648 ≤ (xpl h 53 0) ∧ (xpl h 53 0) ≤ 2147483647 := f1_
  refine xr_ireturn (S := []) (pc := 4) (hI := d_M_thrown_4) (hr := rfl) ?_
  show xwp G (m_W_law nm9 hq9) (d + 220) 1957 [xR (-108), xR 0, xR 53, xR 91, xR 92, xI x5, xI x6, xD s0, xZ] [xI (xpl h 53 0)] _ _ _
  refine xr_iload (pc := 1957) (i := 6) (hI := d_W_law_1957) (hl := rfl) ?_
  refine xr_icmp_eq (pc := 1959) (tgt := 1964) (hI := d_W_law_1959) (ht := by decide) (fun q9 => ?_) (fun q9 => ?_)
  · replace hyp := hyp.1 q9
    have q2_ := q9
    clear q9
    refine xr_iload (pc := 1964) (i := 6) (hI := d_W_law_1964) (hl := rfl) ?_
    refine xr_if_ne (pc := 1966) (tgt := 2001) (hI := d_W_law_1966) (ht := by decide) (fun q9 => ?_) (fun q9 => ?_)
    · replace hyp := hyp.2 q9
      have q3_ := q9
      clear q9
      refine xr_goto (pc := 2001) (tgt := 2018) (hI := d_W_law_2001) (ht := by decide) ?_
      exact xr_drop (L9 := [xR (-108), xR 0, xR 53, xR 91, xR 92, xI x5, xZ, xZ, xZ]) (xdrs (xdrs (xdrs (xdrs (xdrs (xdrs (xdrz (xdrz (xdrs xdr0))))))))) hyp
    · replace hyp := hyp.1 q9
      have q3_ := q9
      clear q9
      refine xr_aload (pc := 1969) (i := 4) (hI := d_W_law_1969) (hl := rfl) ?_
      refine xr_iconst (pc := 1971) (hI := d_W_law_1971) (hr := by decide) ?_
      refine xg_daload (pc := 1972) (v := (xpl h 92 0)) (hI := d_W_law_1972) (ft_92 F) (by decide) (xlt_of (fl_92 F) (by decide)) rfl (fun f4_ => ?_)
      clear f4_
      refine xr_dload (pc := 1973) (i := 7) (hI := d_W_law_1973) (hl := rfl) ?_
      refine xr_dcmp (pc := 1975) (hI := d_W_law_1975) ?_
      refine xr_if_eq (pc := 1976) (tgt := 2001) (hI := d_W_law_1976) (ht := by decide) (fun q9 => ?_) (fun q9 => ?_)
      · replace hyp := hyp.1 q9
        have q5_ := q9
        clear q9
        refine xr_goto (pc := 2001) (tgt := 2018) (hI := d_W_law_2001) (ht := by decide) ?_
        exact xr_drop (L9 := [xR (-108), xR 0, xR 53, xR 91, xR 92, xI x5, xZ, xZ, xZ]) (xdrs (xdrs (xdrs (xdrs (xdrs (xdrs (xdrz (xdrz (xdrs xdr0))))))))) hyp
      · replace hyp := hyp.2 q9
        have q5_ := q9
        clear q9
        refine xr_aload (pc := 1979) (i := 4) (hI := d_W_law_1979) (hl := rfl) ?_
        refine xr_iconst (pc := 1981) (hI := d_W_law_1981) (hr := by decide) ?_
        refine xg_daload (pc := 1982) (v := (xpl h 92 0)) (hI := d_W_law_1982) (ft_92 F) (by decide) (xlt_of (fl_92 F) (by decide)) rfl (fun f6_ => ?_)
        clear f6_
        refine xr_aload (pc := 1983) (i := 4) (hI := d_W_law_1983) (hl := rfl) ?_
        refine xr_iconst (pc := 1985) (hI := d_W_law_1985) (hr := by decide) ?_
        refine xg_daload (pc := 1986) (v := (xpl h 92 0)) (hI := d_W_law_1986) (ft_92 F) (by decide) (xlt_of (fl_92 F) (by decide)) rfl (fun f7_ => ?_)
        clear f7_
        refine xr_dcmp (pc := 1987) (hI := d_W_law_1987) ?_
        refine xr_if_eq (pc := 1988) (tgt := 1999) (hI := d_W_law_1988) (ht := by decide) (fun q9 => ?_) (fun q9 => ?_)
        · replace hyp := hyp.1 q9
          have q8_ := q9
          clear q9
          refine xr_iconst (pc := 1999) (hI := d_W_law_1999) (hr := by decide) ?_
          refine xr_ireturnT (S := []) (pc := 2000) (hI := d_W_law_2000) (hr := rfl) (xnar_z (by decide)) ?_
          exact hyp
        · replace hyp := hyp.2 q9
          have q8_ := q9
          clear q9
          refine xr_dload (pc := 1991) (i := 7) (hI := d_W_law_1991) (hl := rfl) ?_
          refine xr_dload (pc := 1993) (i := 7) (hI := d_W_law_1993) (hl := rfl) ?_
          refine xr_dcmp (pc := 1995) (hI := d_W_law_1995) ?_
          refine xr_if_ne (pc := 1996) (tgt := 2001) (hI := d_W_law_1996) (ht := by decide) (fun q9 => ?_) (fun q9 => ?_)
          · replace hyp := hyp.2 q9
            have q9_ := q9
            clear q9
            refine xr_goto (pc := 2001) (tgt := 2018) (hI := d_W_law_2001) (ht := by decide) ?_
            exact xr_drop (L9 := [xR (-108), xR 0, xR 53, xR 91, xR 92, xI x5, xZ, xZ, xZ]) (xdrs (xdrs (xdrs (xdrs (xdrs (xdrs (xdrz (xdrz (xdrs xdr0))))))))) hyp
          · replace hyp := hyp.1 q9
            have q9_ := q9
            clear q9
            refine xr_iconst (pc := 1999) (hI := d_W_law_1999) (hr := by decide) ?_
            refine xr_ireturnT (S := []) (pc := 2000) (hI := d_W_law_2000) (hr := rfl) (xnar_z (by decide)) ?_
            exact hyp
  · replace hyp := hyp.2 q9
    have q2_ := q9
    clear q9
    refine xr_iconst (pc := 1962) (hI := d_W_law_1962) (hr := by decide) ?_
    refine xr_ireturnT (S := []) (pc := 1963) (hI := d_W_law_1963) (hr := rfl) (xnar_z (by decide)) ?_
    exact hyp
theorem d_W_law_2004 : decode code 2004 = .ok (.aload_n 1, 1) := by decide +kernel
theorem d_W_law_2005 : decode code 2005 = .ok (.invokevirtual 236, 3) := by decide +kernel
theorem k_B_digest : xCal m_B_digest 0 := ⟨List.mem_append_right _ (List.mem_of_getElem? (i := 1079) (by decide +kernel)), w_1, Nat.le_of_ble_eq_true rfl, ⟨by decide +kernel, by decide +kernel⟩, by decide +kernel, by decide +kernel, rfl⟩
theorem w_1076 : Cond.methodLink "BeaconIndexLaw" 236 ⟨"BeaconIndex", "digest", "()J"⟩ ∈ lw_tbl := List.mem_append_right _ (List.mem_of_getElem? (i := 1076) (by decide +kernel))
theorem w_1077 : Cond.instanceMethod ⟨"BeaconIndex", "digest", "()J"⟩ ∈ lw_tbl := List.mem_append_right _ (List.mem_of_getElem? (i := 1077) (by decide +kernel))
theorem w_1078 : Cond.selects "BeaconIndex" ⟨"BeaconIndex", "digest", "()J"⟩ ⟨"BeaconIndex", "digest", "()J"⟩ ∈ lw_tbl := List.mem_append_right _ (List.mem_of_getElem? (i := 1078) (by decide +kernel))
theorem v_W_law_2004 {G : XG} {d : Nat} {h : XH} {Q : XV → XH → Prop} {X : Nat → XH → Prop} {x5 : Int} {n9 : Nat} {xs : Nat → Int32} {nm9 : String} {hq9 : List (Nat × Nat × Nat × Nat)} (SC : SCR G n9 xs) (F : xFix h) (hyp : (xwp G m_B_digest (d + 219) 0 [xR 0, xZ, xZ, xZ] [] h (fun v9 h9 => xwp G (m_W_law nm9 hq9) (d + 220) 2008 [xR (-108), xR 0, xR 53, xR 91, xR 92, xI x5, xZ, xZ, xZ] (xpush v9 []) h9 Q X) (fun _ _ => False))) : xwp G (m_W_law nm9 hq9) (d + 220) 2004 [xR (-108), xR 0, xR 53, xR 91, xR 92, xI x5, xZ, xZ, xZ] [] h Q X := by
  have hnx9 : (93 : Int) ≤ xnx h := F.2.2
  refine xr_okL (fun hl9 => ?_)
  have r_x5 : -2147483648 ≤ x5 ∧ x5 ≤ 2147483647 := hl9 (xI x5) (.tail _ (.tail _ (.tail _ (.tail _ (.tail _ (.head _)))))) (Nat.le_of_ble_eq_true rfl)
  refine xr_aload_n (pc := 2004) (i := 1) (hI := d_W_law_2004) (hi := rfl) (hl := rfl) ?_
  exact xl_callV (pc := 2005) (index := 236) (K := m_B_digest) (As := []) (S := []) (L0 := [xR 0, xZ, xZ, xZ]) (hI := d_W_law_2005) (hK := k_B_digest) (hlk := w_1076) (hS8 := Nat.le_of_ble_eq_true rfl) (ci := 0) (N := 7) (C := "BeaconIndex") (T := xF0) (hc := rfl) (hci := Nat.le_of_ble_eq_true rfl) (htb := (ft_0 F)) (hinst := w_1077) (hsel := w_1078) (hlen := Nat.le_of_ble_eq_true rfl) (hst := rfl) (hL0 := rfl)  hyp
theorem d_W_law_2008 : decode code 2008 = .ok (.aload_n 2, 1) := by decide +kernel
theorem d_W_law_2009 : decode code 2009 = .ok (.invokevirtual 240, 3) := by decide +kernel
theorem k_M_digest : xCal m_M_digest 0 := ⟨List.mem_append_right _ (List.mem_of_getElem? (i := 2481) (by decide +kernel)), w_15, Nat.le_of_ble_eq_true rfl, ⟨by decide +kernel, by decide +kernel⟩, by decide +kernel, by decide +kernel, rfl⟩
theorem w_2478 : Cond.methodLink "BeaconIndexLaw" 240 ⟨"BeaconIndexModel", "digest", "()J"⟩ ∈ lw_tbl := List.mem_append_right _ (List.mem_of_getElem? (i := 2478) (by decide +kernel))
theorem w_2479 : Cond.instanceMethod ⟨"BeaconIndexModel", "digest", "()J"⟩ ∈ lw_tbl := List.mem_append_right _ (List.mem_of_getElem? (i := 2479) (by decide +kernel))
theorem w_2480 : Cond.selects "BeaconIndexModel" ⟨"BeaconIndexModel", "digest", "()J"⟩ ⟨"BeaconIndexModel", "digest", "()J"⟩ ∈ lw_tbl := List.mem_append_right _ (List.mem_of_getElem? (i := 2480) (by decide +kernel))
theorem v_W_law_2008 {G : XG} {d : Nat} {h : XH} {Q : XV → XH → Prop} {X : Nat → XH → Prop} {x5 s0 : Int} {n9 : Nat} {xs : Nat → Int32} {nm9 : String} {hq9 : List (Nat × Nat × Nat × Nat)} (SC : SCR G n9 xs) (F : xFix h) (hyp : (xwp G m_M_digest (d + 219) 0 [xR 53, xZ, xZ, xZ, xZ, xZ, xZ, xZ] [] h (fun v9 h9 => xwp G (m_W_law nm9 hq9) (d + 220) 2012 [xR (-108), xR 0, xR 53, xR 91, xR 92, xI x5, xZ, xZ, xZ] (xpush v9 [xL s0]) h9 Q X) (fun _ _ => False))) : xwp G (m_W_law nm9 hq9) (d + 220) 2008 [xR (-108), xR 0, xR 53, xR 91, xR 92, xI x5, xZ, xZ, xZ] [xL s0] h Q X := by
  have hnx9 : (93 : Int) ≤ xnx h := F.2.2
  refine xr_okL (fun hl9 => ?_)
  have r_x5 : -2147483648 ≤ x5 ∧ x5 ≤ 2147483647 := hl9 (xI x5) (.tail _ (.tail _ (.tail _ (.tail _ (.tail _ (.head _)))))) (Nat.le_of_ble_eq_true rfl)
  refine xr_okS (fun hs9 => ?_)
  have r_s0 : -9223372036854775808 ≤ s0 ∧ s0 ≤ 9223372036854775807 := hs9 (xL s0) (.head _)
  refine xr_aload_n (pc := 2008) (i := 2) (hI := d_W_law_2008) (hi := rfl) (hl := rfl) ?_
  exact xl_callV (pc := 2009) (index := 240) (K := m_M_digest) (As := []) (S := [xL s0]) (L0 := [xR 53, xZ, xZ, xZ, xZ, xZ, xZ, xZ]) (hI := d_W_law_2009) (hK := k_M_digest) (hlk := w_2478) (hS8 := Nat.le_of_ble_eq_true rfl) (ci := 11) (N := 38) (C := "BeaconIndexModel") (T := xF11) (hc := rfl) (hci := Nat.le_of_ble_eq_true rfl) (htb := (ft_53 F)) (hinst := w_2479) (hsel := w_2480) (hlen := Nat.le_of_ble_eq_true rfl) (hst := rfl) (hL0 := rfl)  hyp
theorem d_W_law_2012 : decode code 2012 = .ok (.lcmp, 1) := by decide +kernel
theorem d_W_law_2013 : decode code 2013 = .ok (.ifCond .eq 5, 3) := by decide +kernel
theorem d_W_law_2016 : decode code 2016 = .ok (.iconst 0, 1) := by decide +kernel
theorem d_W_law_2017 : decode code 2017 = .ok (.ireturn, 1) := by decide +kernel
theorem v_W_law_2012 {G : XG} {d : Nat} {h : XH} {Q : XV → XH → Prop} {X : Nat → XH → Prop} {x5 s0 s1 : Int} {n9 : Nat} {xs : Nat → Int32} {nm9 : String} {hq9 : List (Nat × Nat × Nat × Nat)} (SC : SCR G n9 xs) (F : xFix h) (hyp : ((s1 = s0 → (xwp G (m_W_law nm9 hq9) (d + 220) 2018 [xR (-108), xR 0, xR 53, xR 91, xR 92, xI x5, xZ, xZ, xZ] [] h Q X)) ∧ (¬ s1 = s0 → (Q (xI 0) h)))) : xwp G (m_W_law nm9 hq9) (d + 220) 2012 [xR (-108), xR 0, xR 53, xR 91, xR 92, xI x5, xZ, xZ, xZ] [xL s0, xL s1] h Q X := by
  have hnx9 : (93 : Int) ≤ xnx h := F.2.2
  refine xr_okL (fun hl9 => ?_)
  have r_x5 : -2147483648 ≤ x5 ∧ x5 ≤ 2147483647 := hl9 (xI x5) (.tail _ (.tail _ (.tail _ (.tail _ (.tail _ (.head _)))))) (Nat.le_of_ble_eq_true rfl)
  refine xr_okS (fun hs9 => ?_)
  have r_s0 : -9223372036854775808 ≤ s0 ∧ s0 ≤ 9223372036854775807 := hs9 (xL s0) (.head _)
  have r_s1 : -9223372036854775808 ≤ s1 ∧ s1 ≤ 9223372036854775807 := hs9 (xL s1) (.tail _ (.head _))
  refine xr_lcmp (pc := 2012) (hI := d_W_law_2012) ?_
  refine xg_lif_eq (pc := 2013) (tgt := 2018) (hI := d_W_law_2013) (ht := by decide) (fun q9 => ?_) (fun q9 => ?_)
  · replace hyp := hyp.1 q9
    have q1_ := q9
    clear q9
    exact hyp
  · replace hyp := hyp.2 q9
    have q1_ := q9
    clear q9
    refine xr_iconst (pc := 2016) (hI := d_W_law_2016) (hr := by decide) ?_
    refine xr_ireturnT (S := []) (pc := 2017) (hI := d_W_law_2017) (hr := rfl) (xnar_z (by decide)) ?_
    exact hyp
theorem d_W_law_2018 : decode code 2018 = .ok (.iinc 5 6, 3) := by decide +kernel
theorem d_W_law_2021 : decode code 2021 = .ok (.goto (-1993), 3) := by decide +kernel
theorem v_W_law_2018 {G : XG} {d : Nat} {h : XH} {Q : XV → XH → Prop} {X : Nat → XH → Prop} {x5 : Int} {n9 : Nat} {xs : Nat → Int32} {nm9 : String} {hq9 : List (Nat × Nat × Nat × Nat)} (SC : SCR G n9 xs) (F : xFix h) (hyp : xiR (x5 + 6) ∧ (xwp G (m_W_law nm9 hq9) (d + 220) 28 [xR (-108), xR 0, xR 53, xR 91, xR 92, xI (x5 + 6), xZ, xZ, xZ] [] h Q X)) : xwp G (m_W_law nm9 hq9) (d + 220) 2018 [xR (-108), xR 0, xR 53, xR 91, xR 92, xI x5, xZ, xZ, xZ] [] h Q X := by
  have hnx9 : (93 : Int) ≤ xnx h := F.2.2
  refine xr_okL (fun hl9 => ?_)
  have r_x5 : -2147483648 ≤ x5 ∧ x5 ≤ 2147483647 := hl9 (xI x5) (.tail _ (.tail _ (.tail _ (.tail _ (.tail _ (.head _)))))) (Nat.le_of_ble_eq_true rfl)
  obtain ⟨c9, hyp⟩ := hyp
  refine xr_iinc (pc := 2018) (i := 5) (L9 := [xR (-108), xR 0, xR 53, xR 91, xR 92, xI (x5 + 6), xZ, xZ, xZ]) (hI := d_W_law_2018) (hl := rfl) (hn := Nat.le_of_ble_eq_true rfl) (hr := c9) (hL9 := rfl) ?_
  refine xr_goto (pc := 2021) (tgt := 28) (hI := d_W_law_2021) (ht := by decide) ?_
  exact hyp
theorem d_W_law_2024 : decode code 2024 = .ok (.iconst 1, 1) := by decide +kernel
theorem d_W_law_2025 : decode code 2025 = .ok (.ireturn, 1) := by decide +kernel
theorem v_W_law_2024 {G : XG} {d : Nat} {h : XH} {Q : XV → XH → Prop} {X : Nat → XH → Prop} {n9 : Nat} {xs : Nat → Int32} {nm9 : String} {hq9 : List (Nat × Nat × Nat × Nat)} (SC : SCR G n9 xs) (F : xFix h) (hyp : (Q (xI 1) h)) : xwp G (m_W_law nm9 hq9) (d + 220) 2024 [xZ, xZ, xZ, xZ, xZ, xZ, xZ, xZ, xZ] [] h Q X := by
  have hnx9 : (93 : Int) ≤ xnx h := F.2.2
  refine xr_iconst (pc := 2024) (hI := d_W_law_2024) (hr := by decide) ?_
  refine xr_ireturnT (S := []) (pc := 2025) (hI := d_W_law_2025) (hr := rfl) (xnar_z (by decide)) ?_
  exact hyp

end
