/-! ===== sortvci ===== -/
section
theorem d_DualPivotQuicksort_sort_SorteraJIII_795 : decode prog_46_method_13_code 795 = .ok (.aload_n 1, 1) := by decide +kernel
theorem d_DualPivotQuicksort_sort_SorteraJIII_796 : decode prog_46_method_13_code 796 = .ok (.iload 10, 2) := by decide +kernel
theorem d_DualPivotQuicksort_sort_SorteraJIII_798 : decode prog_46_method_13_code 798 = .ok (.laload, 1) := by decide +kernel
theorem d_DualPivotQuicksort_sort_SorteraJIII_799 : decode prog_46_method_13_code 799 = .ok (.lstore 17, 2) := by decide +kernel
theorem d_DualPivotQuicksort_sort_SorteraJIII_801 : decode prog_46_method_13_code 801 = .ok (.aload_n 1, 1) := by decide +kernel
theorem d_DualPivotQuicksort_sort_SorteraJIII_802 : decode prog_46_method_13_code 802 = .ok (.iload 10, 2) := by decide +kernel
theorem d_DualPivotQuicksort_sort_SorteraJIII_804 : decode prog_46_method_13_code 804 = .ok (.aload_n 1, 1) := by decide +kernel
theorem d_DualPivotQuicksort_sort_SorteraJIII_805 : decode prog_46_method_13_code 805 = .ok (.iload 15, 2) := by decide +kernel
theorem d_DualPivotQuicksort_sort_SorteraJIII_807 : decode prog_46_method_13_code 807 = .ok (.laload, 1) := by decide +kernel
theorem d_DualPivotQuicksort_sort_SorteraJIII_808 : decode prog_46_method_13_code 808 = .ok (.lastore, 1) := by decide +kernel
theorem d_DualPivotQuicksort_sort_SorteraJIII_809 : decode prog_46_method_13_code 809 = .ok (.iinc 16 1, 3) := by decide +kernel
theorem d_DualPivotQuicksort_sort_SorteraJIII_812 : decode prog_46_method_13_code 812 = .ok (.iload 16, 2) := by decide +kernel
theorem d_DualPivotQuicksort_sort_SorteraJIII_814 : decode prog_46_method_13_code 814 = .ok (.istore 19, 2) := by decide +kernel
theorem v_DualPivotQuicksort_sort_SorteraJIII_795 {G : XG} {d : Nat} {h : XH} {Q : XV → XH → Prop} {X : Nat → XH → Prop} {x2 x3 x4 x6 x10 x15 x16 : Int} (F : xFix h) (hyp : 0 ≤ x10 ∧ x10 < 12000 ∧ 0 ≤ x15 ∧ x15 < 12000 ∧ xiR (x16 + 1) ∧ (xFix (xst h 64 x10 (xpl h 64 x15)) → xwp G m_DualPivotQuicksort_sort_SorteraJIII (d + 141) 816 [xR (-1), xR 64, xI x2, xI x3, xI x4, xZ, xI x6, xZ, xZ, xZ, xZ, xZ, xZ, xZ, xZ, xI x15, xI (x16 + 1), xL (xpl h 64 x10), xZ, xI (x16 + 1), xZ, xZ, xZ, xZ, xZ] [] (xst h 64 x10 (xpl h 64 x15)) Q X)) : xwp G m_DualPivotQuicksort_sort_SorteraJIII (d + 141) 795 [xR (-1), xR 64, xI x2, xI x3, xI x4, xZ, xI x6, xZ, xZ, xZ, xI x10, xZ, xZ, xZ, xZ, xI x15, xI x16, xZ, xZ, xZ, xZ, xZ, xZ, xZ, xZ] [] h Q X := by
  have hnx9 : (93 : Int) ≤ xnx h := F.2.2
  refine xr_okL (fun hl9 => ?_)
  have r_x2 : -2147483648 ≤ x2 ∧ x2 ≤ 2147483647 := hl9 (xI x2) (.tail _ (.tail _ (.head _))) (Nat.le_of_ble_eq_true rfl)
  have r_x3 : -2147483648 ≤ x3 ∧ x3 ≤ 2147483647 := hl9 (xI x3) (.tail _ (.tail _ (.tail _ (.head _)))) (Nat.le_of_ble_eq_true rfl)
  have r_x4 : -2147483648 ≤ x4 ∧ x4 ≤ 2147483647 := hl9 (xI x4) (.tail _ (.tail _ (.tail _ (.tail _ (.head _))))) (Nat.le_of_ble_eq_true rfl)
  have r_x6 : -2147483648 ≤ x6 ∧ x6 ≤ 2147483647 := hl9 (xI x6) (.tail _ (.tail _ (.tail _ (.tail _ (.tail _ (.tail _ (.head _))))))) (Nat.le_of_ble_eq_true rfl)
  have r_x10 : -2147483648 ≤ x10 ∧ x10 ≤ 2147483647 := hl9 (xI x10) (.tail _ (.tail _ (.tail _ (.tail _ (.tail _ (.tail _ (.tail _ (.tail _ (.tail _ (.tail _ (.head _))))))))))) (Nat.le_of_ble_eq_true rfl)
  have r_x15 : -2147483648 ≤ x15 ∧ x15 ≤ 2147483647 := hl9 (xI x15) (.tail _ (.tail _ (.tail _ (.tail _ (.tail _ (.tail _ (.tail _ (.tail _ (.tail _ (.tail _ (.tail _ (.tail _ (.tail _ (.tail _ (.tail _ (.head _)))))))))))))))) (Nat.le_of_ble_eq_true rfl)
  have r_x16 : -2147483648 ≤ x16 ∧ x16 ≤ 2147483647 := hl9 (xI x16) (.tail _ (.tail _ (.tail _ (.tail _ (.tail _ (.tail _ (.tail _ (.tail _ (.tail _ (.tail _ (.tail _ (.tail _ (.tail _ (.tail _ (.tail _ (.tail _ (.head _))))))))))))))))) (Nat.le_of_ble_eq_true rfl)
  refine xr_aload_n (pc := 795) (i := 1) (hI := d_DualPivotQuicksort_sort_SorteraJIII_795) (hi := rfl) (hl := rfl) ?_
  refine xr_iload (pc := 796) (i := 10) (hI := d_DualPivotQuicksort_sort_SorteraJIII_796) (hl := rfl) ?_
  obtain ⟨c1_, hyp⟩ := hyp
  obtain ⟨c2_, hyp⟩ := hyp
  refine xg_laload (pc := 798) (v := (xpl h 64 x10)) (hI := d_DualPivotQuicksort_sort_SorteraJIII_798) (ft_64 F) c1_ (xlt_of (fl_64 F) c2_) rfl (fun f3_ => ?_)
  replace f3_ : -9223372036854775808 ≤ (xpl h 64 x10) ∧ (xpl h 64 x10) ≤ 9223372036854775807 := f3_
  refine xr_lstore (pc := 799) (i := 17) (L9 := [xR (-1), xR 64, xI x2, xI x3, xI x4, xZ, xI x6, xZ, xZ, xZ, xI x10, xZ, xZ, xZ, xZ, xI x15, xI x16, xL (xpl h 64 x10), xZ, xZ, xZ, xZ, xZ, xZ, xZ]) (hI := d_DualPivotQuicksort_sort_SorteraJIII_799) (hn := Nat.le_of_ble_eq_true rfl) (hL9 := rfl) ?_
  refine xr_aload_n (pc := 801) (i := 1) (hI := d_DualPivotQuicksort_sort_SorteraJIII_801) (hi := rfl) (hl := rfl) ?_
  refine xr_iload (pc := 802) (i := 10) (hI := d_DualPivotQuicksort_sort_SorteraJIII_802) (hl := rfl) ?_
  refine xr_aload_n (pc := 804) (i := 1) (hI := d_DualPivotQuicksort_sort_SorteraJIII_804) (hi := rfl) (hl := rfl) ?_
  refine xr_iload (pc := 805) (i := 15) (hI := d_DualPivotQuicksort_sort_SorteraJIII_805) (hl := rfl) ?_
  obtain ⟨c4_, hyp⟩ := hyp
  obtain ⟨c5_, hyp⟩ := hyp
  refine xg_laload (pc := 807) (v := (xpl h 64 x15)) (hI := d_DualPivotQuicksort_sort_SorteraJIII_807) (ft_64 F) c4_ (xlt_of (fl_64 F) c5_) rfl (fun f6_ => ?_)
  replace f6_ : -9223372036854775808 ≤ (xpl h 64 x15) ∧ (xpl h 64 x15) ≤ 9223372036854775807 := f6_
  refine xr_lastore (pc := 808) (hI := d_DualPivotQuicksort_sort_SorteraJIII_808) (ft_64 F) (by decide) (by clear hyp; omega) (xlt_of (fl_64 F) (by clear hyp; omega)) ?_
  have F7_ : xFix (xst h 64 x10 (xpl h 64 x15)) := F.stA xfa_64
  obtain ⟨c9, hyp⟩ := hyp
  refine xr_iinc (pc := 809) (i := 16) (L9 := [xR (-1), xR 64, xI x2, xI x3, xI x4, xZ, xI x6, xZ, xZ, xZ, xI x10, xZ, xZ, xZ, xZ, xI x15, xI (x16 + 1), xL (xpl h 64 x10), xZ, xZ, xZ, xZ, xZ, xZ, xZ]) (hI := d_DualPivotQuicksort_sort_SorteraJIII_809) (hl := rfl) (hn := Nat.le_of_ble_eq_true rfl) (hr := c9) (hL9 := rfl) ?_
  refine xr_iload (pc := 812) (i := 16) (hI := d_DualPivotQuicksort_sort_SorteraJIII_812) (hl := rfl) ?_
  refine xr_istore (pc := 814) (i := 19) (L9 := [xR (-1), xR 64, xI x2, xI x3, xI x4, xZ, xI x6, xZ, xZ, xZ, xI x10, xZ, xZ, xZ, xZ, xI x15, xI (x16 + 1), xL (xpl h 64 x10), xZ, xI (x16 + 1), xZ, xZ, xZ, xZ, xZ]) (hI := d_DualPivotQuicksort_sort_SorteraJIII_814) (hn := Nat.le_of_ble_eq_true rfl) (hL9 := rfl) ?_
  exact xr_drop (L9 := [xR (-1), xR 64, xI x2, xI x3, xI x4, xZ, xI x6, xZ, xZ, xZ, xZ, xZ, xZ, xZ, xZ, xI x15, xI (x16 + 1), xL (xpl h 64 x10), xZ, xI (x16 + 1), xZ, xZ, xZ, xZ, xZ]) (xdrs (xdrs (xdrs (xdrs (xdrs (xdrs (xdrs (xdrs (xdrs (xdrs (xdrz (xdrs (xdrs (xdrs (xdrs (xdrs (xdrs (xdrs (xdrs (xdrs (xdrs (xdrs (xdrs (xdrs (xdrs xdr0))))))))))))))))))))))))) (hyp F7_)
theorem d_DualPivotQuicksort_sort_SorteraJIII_816 : decode prog_46_method_13_code 816 = .ok (.iinc 19 (-1), 3) := by decide +kernel
theorem d_DualPivotQuicksort_sort_SorteraJIII_819 : decode prog_46_method_13_code 819 = .ok (.iload 19, 2) := by decide +kernel
theorem d_DualPivotQuicksort_sort_SorteraJIII_821 : decode prog_46_method_13_code 821 = .ok (.iload 15, 2) := by decide +kernel
theorem d_DualPivotQuicksort_sort_SorteraJIII_823 : decode prog_46_method_13_code 823 = .ok (.if_icmp .le 89, 3) := by decide +kernel
theorem d_DualPivotQuicksort_sort_SorteraJIII_912 : decode prog_46_method_13_code 912 = .ok (.aload_n 1, 1) := by decide +kernel
theorem d_DualPivotQuicksort_sort_SorteraJIII_913 : decode prog_46_method_13_code 913 = .ok (.iload_n 3, 1) := by decide +kernel
theorem d_DualPivotQuicksort_sort_SorteraJIII_914 : decode prog_46_method_13_code 914 = .ok (.aload_n 1, 1) := by decide +kernel
theorem d_DualPivotQuicksort_sort_SorteraJIII_915 : decode prog_46_method_13_code 915 = .ok (.iload 15, 2) := by decide +kernel
theorem d_DualPivotQuicksort_sort_SorteraJIII_917 : decode prog_46_method_13_code 917 = .ok (.laload, 1) := by decide +kernel
theorem d_DualPivotQuicksort_sort_SorteraJIII_918 : decode prog_46_method_13_code 918 = .ok (.lastore, 1) := by decide +kernel
theorem d_DualPivotQuicksort_sort_SorteraJIII_919 : decode prog_46_method_13_code 919 = .ok (.aload_n 1, 1) := by decide +kernel
theorem d_DualPivotQuicksort_sort_SorteraJIII_920 : decode prog_46_method_13_code 920 = .ok (.iload 15, 2) := by decide +kernel
theorem d_DualPivotQuicksort_sort_SorteraJIII_922 : decode prog_46_method_13_code 922 = .ok (.lload 17, 2) := by decide +kernel
theorem d_DualPivotQuicksort_sort_SorteraJIII_924 : decode prog_46_method_13_code 924 = .ok (.lastore, 1) := by decide +kernel
theorem d_DualPivotQuicksort_sort_SorteraJIII_925 : decode prog_46_method_13_code 925 = .ok (.iload 6, 2) := by decide +kernel
theorem d_DualPivotQuicksort_sort_SorteraJIII_927 : decode prog_46_method_13_code 927 = .ok (.sipush 4096, 3) := by decide +kernel
theorem d_DualPivotQuicksort_sort_SorteraJIII_930 : decode prog_46_method_13_code 930 = .ok (.if_icmp .le 21, 3) := by decide +kernel
theorem d_DualPivotQuicksort_sort_SorteraJIII_933 : decode prog_46_method_13_code 933 = .ok (.aload_n 0, 1) := by decide +kernel
theorem d_DualPivotQuicksort_sort_SorteraJIII_934 : decode prog_46_method_13_code 934 = .ok (.ifnull 17, 3) := by decide +kernel
theorem d_DualPivotQuicksort_sort_SorteraJIII_826 : decode prog_46_method_13_code 826 = .ok (.aload_n 1, 1) := by decide +kernel
theorem d_DualPivotQuicksort_sort_SorteraJIII_827 : decode prog_46_method_13_code 827 = .ok (.iload 19, 2) := by decide +kernel
theorem d_DualPivotQuicksort_sort_SorteraJIII_829 : decode prog_46_method_13_code 829 = .ok (.laload, 1) := by decide +kernel
theorem d_DualPivotQuicksort_sort_SorteraJIII_830 : decode prog_46_method_13_code 830 = .ok (.lstore 20, 2) := by decide +kernel
theorem d_DualPivotQuicksort_sort_SorteraJIII_832 : decode prog_46_method_13_code 832 = .ok (.lload 20, 2) := by decide +kernel
theorem d_DualPivotQuicksort_sort_SorteraJIII_834 : decode prog_46_method_13_code 834 = .ok (.lload 17, 2) := by decide +kernel
theorem d_DualPivotQuicksort_sort_SorteraJIII_836 : decode prog_46_method_13_code 836 = .ok (.lcmp, 1) := by decide +kernel
theorem d_DualPivotQuicksort_sort_SorteraJIII_837 : decode prog_46_method_13_code 837 = .ok (.ifCond .eq 72, 3) := by decide +kernel
theorem d_DualPivotQuicksort_sort_SorteraJIII_909 : decode prog_46_method_13_code 909 = .ok (.goto (-93), 3) := by decide +kernel
theorem d_DualPivotQuicksort_sort_SorteraJIII_840 : decode prog_46_method_13_code 840 = .ok (.aload_n 1, 1) := by decide +kernel
theorem d_DualPivotQuicksort_sort_SorteraJIII_841 : decode prog_46_method_13_code 841 = .ok (.iload 19, 2) := by decide +kernel
theorem d_DualPivotQuicksort_sort_SorteraJIII_843 : decode prog_46_method_13_code 843 = .ok (.lload 17, 2) := by decide +kernel
theorem d_DualPivotQuicksort_sort_SorteraJIII_845 : decode prog_46_method_13_code 845 = .ok (.lastore, 1) := by decide +kernel
theorem d_DualPivotQuicksort_sort_SorteraJIII_846 : decode prog_46_method_13_code 846 = .ok (.lload 20, 2) := by decide +kernel
theorem d_DualPivotQuicksort_sort_SorteraJIII_848 : decode prog_46_method_13_code 848 = .ok (.lload 17, 2) := by decide +kernel
theorem d_DualPivotQuicksort_sort_SorteraJIII_850 : decode prog_46_method_13_code 850 = .ok (.lcmp, 1) := by decide +kernel
theorem d_DualPivotQuicksort_sort_SorteraJIII_851 : decode prog_46_method_13_code 851 = .ok (.ifCond .ge 49, 3) := by decide +kernel
theorem d_DualPivotQuicksort_sort_SorteraJIII_900 : decode prog_46_method_13_code 900 = .ok (.aload_n 1, 1) := by decide +kernel
theorem d_DualPivotQuicksort_sort_SorteraJIII_901 : decode prog_46_method_13_code 901 = .ok (.iinc 16 (-1), 3) := by decide +kernel
theorem d_DualPivotQuicksort_sort_SorteraJIII_904 : decode prog_46_method_13_code 904 = .ok (.iload 16, 2) := by decide +kernel
theorem d_DualPivotQuicksort_sort_SorteraJIII_906 : decode prog_46_method_13_code 906 = .ok (.lload 20, 2) := by decide +kernel
theorem d_DualPivotQuicksort_sort_SorteraJIII_908 : decode prog_46_method_13_code 908 = .ok (.lastore, 1) := by decide +kernel
theorem v_DualPivotQuicksort_sort_SorteraJIII_816 {G : XG} {d : Nat} {h : XH} {Q : XV → XH → Prop} {X : Nat → XH → Prop} {x2 x3 x4 x6 x15 x16 x17 x19 : Int} (F : xFix h) (hyp : xiR (x19 + (-1)) ∧ (((x19 + (-1)) ≤ x15 → 0 ≤ x15 ∧ x15 < 12000 ∧ 0 ≤ x3 ∧ x3 < 12000 ∧ ((x6 ≤ 4096 → (xFix (xst (xst h 64 x3 (xpl h 64 x15)) 64 x15 x17) → xwp G m_DualPivotQuicksort_sort_SorteraJIII (d + 141) 951 [xR (-1), xR 64, xI x2, xI x3, xI x4, xZ, xZ, xZ, xZ, xZ, xZ, xZ, xZ, xZ, xZ, xI x15, xI x16, xZ, xZ, xZ, xZ, xZ, xZ, xZ, xZ] [] (xst (xst h 64 x3 (xpl h 64 x15)) 64 x15 x17) Q X)) ∧ (¬ x6 ≤ 4096 → (xFix (xst (xst h 64 x3 (xpl h 64 x15)) 64 x15 x17) → xwp G m_DualPivotQuicksort_sort_SorteraJIII (d + 141) 951 [xR (-1), xR 64, xI x2, xI x3, xI x4, xZ, xZ, xZ, xZ, xZ, xZ, xZ, xZ, xZ, xZ, xI x15, xI x16, xZ, xZ, xZ, xZ, xZ, xZ, xZ, xZ] [] (xst (xst h 64 x3 (xpl h 64 x15)) 64 x15 x17) Q X)))) ∧ (¬ (x19 + (-1)) ≤ x15 → 0 ≤ (x19 + (-1)) ∧ (x19 + (-1)) < 12000 ∧ (((xpl h 64 (x19 + (-1))) = x17 → (xwp G m_DualPivotQuicksort_sort_SorteraJIII (d + 141) 816 [xR (-1), xR 64, xI x2, xI x3, xI x4, xZ, xI x6, xZ, xZ, xZ, xZ, xZ, xZ, xZ, xZ, xI x15, xI x16, xL x17, xZ, xI (x19 + (-1)), xZ, xZ, xZ, xZ, xZ] [] h Q X)) ∧ (¬ (xpl h 64 (x19 + (-1))) = x17 → ((x17 ≤ (xpl h 64 (x19 + (-1))) → xiR (x16 + (-1)) ∧ 0 ≤ (x16 + (-1)) ∧ (x16 + (-1)) < 12000 ∧ (xFix (xst (xst h 64 (x19 + (-1)) x17) 64 (x16 + (-1)) (xpl h 64 (x19 + (-1)))) → xwp G m_DualPivotQuicksort_sort_SorteraJIII (d + 141) 816 [xR (-1), xR 64, xI x2, xI x3, xI x4, xZ, xI x6, xZ, xZ, xZ, xZ, xZ, xZ, xZ, xZ, xI x15, xI (x16 + (-1)), xL x17, xZ, xI (x19 + (-1)), xZ, xZ, xZ, xZ, xZ] [] (xst (xst h 64 (x19 + (-1)) x17) 64 (x16 + (-1)) (xpl h 64 (x19 + (-1)))) Q X)) ∧ (¬ x17 ≤ (xpl h 64 (x19 + (-1))) → (xFix (xst h 64 (x19 + (-1)) x17) → xwp G m_DualPivotQuicksort_sort_SorteraJIII (d + 141) 854 [xR (-1), xR 64, xI x2, xI x3, xI x4, xZ, xI x6, xZ, xZ, xZ, xZ, xZ, xZ, xZ, xZ, xI x15, xI x16, xL x17, xZ, xI (x19 + (-1)), xL (xpl h 64 (x19 + (-1))), xZ, xZ, xZ, xZ] [] (xst h 64 (x19 + (-1)) x17) Q X)))))))) : xwp G m_DualPivotQuicksort_sort_SorteraJIII (d + 141) 816 [xR (-1), xR 64, xI x2, xI x3, xI x4, xZ, xI x6, xZ, xZ, xZ, xZ, xZ, xZ, xZ, xZ, xI x15, xI x16, xL x17, xZ, xI x19, xZ, xZ, xZ, xZ, xZ] [] h Q X := by
  have hnx9 : (93 : Int) ≤ xnx h := F.2.2
  refine xr_okL (fun hl9 => ?_)
  have r_x2 : -2147483648 ≤ x2 ∧ x2 ≤ 2147483647 := hl9 (xI x2) (.tail _ (.tail _ (.head _))) (Nat.le_of_ble_eq_true rfl)
  have r_x3 : -2147483648 ≤ x3 ∧ x3 ≤ 2147483647 := hl9 (xI x3) (.tail _ (.tail _ (.tail _ (.head _)))) (Nat.le_of_ble_eq_true rfl)
  have r_x4 : -2147483648 ≤ x4 ∧ x4 ≤ 2147483647 := hl9 (xI x4) (.tail _ (.tail _ (.tail _ (.tail _ (.head _))))) (Nat.le_of_ble_eq_true rfl)
  have r_x6 : -2147483648 ≤ x6 ∧ x6 ≤ 2147483647 := hl9 (xI x6) (.tail _ (.tail _ (.tail _ (.tail _ (.tail _ (.tail _ (.head _))))))) (Nat.le_of_ble_eq_true rfl)
  have r_x15 : -2147483648 ≤ x15 ∧ x15 ≤ 2147483647 := hl9 (xI x15) (.tail _ (.tail _ (.tail _ (.tail _ (.tail _ (.tail _ (.tail _ (.tail _ (.tail _ (.tail _ (.tail _ (.tail _ (.tail _ (.tail _ (.tail _ (.head _)))))))))))))))) (Nat.le_of_ble_eq_true rfl)
  have r_x16 : -2147483648 ≤ x16 ∧ x16 ≤ 2147483647 := hl9 (xI x16) (.tail _ (.tail _ (.tail _ (.tail _ (.tail _ (.tail _ (.tail _ (.tail _ (.tail _ (.tail _ (.tail _ (.tail _ (.tail _ (.tail _ (.tail _ (.tail _ (.head _))))))))))))))))) (Nat.le_of_ble_eq_true rfl)
  have r_x17 : -9223372036854775808 ≤ x17 ∧ x17 ≤ 9223372036854775807 := hl9 (xL x17) (.tail _ (.tail _ (.tail _ (.tail _ (.tail _ (.tail _ (.tail _ (.tail _ (.tail _ (.tail _ (.tail _ (.tail _ (.tail _ (.tail _ (.tail _ (.tail _ (.tail _ (.head _)))))))))))))))))) (Nat.le_of_ble_eq_true rfl)
  have r_x19 : -2147483648 ≤ x19 ∧ x19 ≤ 2147483647 := hl9 (xI x19) (.tail _ (.tail _ (.tail _ (.tail _ (.tail _ (.tail _ (.tail _ (.tail _ (.tail _ (.tail _ (.tail _ (.tail _ (.tail _ (.tail _ (.tail _ (.tail _ (.tail _ (.tail _ (.tail _ (.head _)))))))))))))))))))) (Nat.le_of_ble_eq_true rfl)
  obtain ⟨c9, hyp⟩ := hyp
  refine xr_iinc (pc := 816) (i := 19) (L9 := [xR (-1), xR 64, xI x2, xI x3, xI x4, xZ, xI x6, xZ, xZ, xZ, xZ, xZ, xZ, xZ, xZ, xI x15, xI x16, xL x17, xZ, xI (x19 + (-1)), xZ, xZ, xZ, xZ, xZ]) (hI := d_DualPivotQuicksort_sort_SorteraJIII_816) (hl := rfl) (hn := Nat.le_of_ble_eq_true rfl) (hr := c9) (hL9 := rfl) ?_
  refine xr_iload (pc := 819) (i := 19) (hI := d_DualPivotQuicksort_sort_SorteraJIII_819) (hl := rfl) ?_
  refine xr_iload (pc := 821) (i := 15) (hI := d_DualPivotQuicksort_sort_SorteraJIII_821) (hl := rfl) ?_
  refine xr_icmp_le (pc := 823) (tgt := 912) (hI := d_DualPivotQuicksort_sort_SorteraJIII_823) (ht := by decide) (fun q9 => ?_) (fun q9 => ?_)
  · replace hyp := hyp.1 q9
    have q1_ := q9
    clear q9
    refine xr_aload_n (pc := 912) (i := 1) (hI := d_DualPivotQuicksort_sort_SorteraJIII_912) (hi := rfl) (hl := rfl) ?_
    refine xr_iload_n (pc := 913) (i := 3) (hI := d_DualPivotQuicksort_sort_SorteraJIII_913) (hi := rfl) (hl := rfl) ?_
    refine xr_aload_n (pc := 914) (i := 1) (hI := d_DualPivotQuicksort_sort_SorteraJIII_914) (hi := rfl) (hl := rfl) ?_
    refine xr_iload (pc := 915) (i := 15) (hI := d_DualPivotQuicksort_sort_SorteraJIII_915) (hl := rfl) ?_
    obtain ⟨c2_, hyp⟩ := hyp
    obtain ⟨c3_, hyp⟩ := hyp
    refine xg_laload (pc := 917) (v := (xpl h 64 x15)) (hI := d_DualPivotQuicksort_sort_SorteraJIII_917) (ft_64 F) c2_ (xlt_of (fl_64 F) c3_) rfl (fun f4_ => ?_)
    replace f4_ : -9223372036854775808 ≤ (xpl h 64 x15) ∧ (xpl h 64 x15) ≤ 9223372036854775807 := f4_
    obtain ⟨c5_, hyp⟩ := hyp
    obtain ⟨c6_, hyp⟩ := hyp
    refine xr_lastore (pc := 918) (hI := d_DualPivotQuicksort_sort_SorteraJIII_918) (ft_64 F) (by decide) c5_ (xlt_of (fl_64 F) c6_) ?_
    have F7_ : xFix (xst h 64 x3 (xpl h 64 x15)) := F.stA xfa_64
    refine xr_aload_n (pc := 919) (i := 1) (hI := d_DualPivotQuicksort_sort_SorteraJIII_919) (hi := rfl) (hl := rfl) ?_
    refine xr_iload (pc := 920) (i := 15) (hI := d_DualPivotQuicksort_sort_SorteraJIII_920) (hl := rfl) ?_
    refine xr_lload (pc := 922) (i := 17) (hI := d_DualPivotQuicksort_sort_SorteraJIII_922) (hl := rfl) ?_
    refine xr_lastore (pc := 924) (hI := d_DualPivotQuicksort_sort_SorteraJIII_924) (ft_64 F7_) (by decide) (by clear hyp; omega) (xlt_of (fl_64 F7_) (by clear hyp; omega)) ?_
    have F8_ : xFix (xst (xst h 64 x3 (xpl h 64 x15)) 64 x15 x17) := F7_.stA xfa_64
    refine xr_iload (pc := 925) (i := 6) (hI := d_DualPivotQuicksort_sort_SorteraJIII_925) (hl := rfl) ?_
    refine xr_sipush (pc := 927) (hI := d_DualPivotQuicksort_sort_SorteraJIII_927) (hr := by decide) (hv := by decide) ?_
    refine xr_icmp_le (pc := 930) (tgt := 951) (hI := d_DualPivotQuicksort_sort_SorteraJIII_930) (ht := by decide) (fun q9 => ?_) (fun q9 => ?_)
    · replace hyp := hyp.1 q9
      have q9_ := q9
      clear q9
      exact xr_drop (L9 := [xR (-1), xR 64, xI x2, xI x3, xI x4, xZ, xZ, xZ, xZ, xZ, xZ, xZ, xZ, xZ, xZ, xI x15, xI x16, xZ, xZ, xZ, xZ, xZ, xZ, xZ, xZ]) (xdrs (xdrs (xdrs (xdrs (xdrs (xdrs (xdrz (xdrs (xdrs (xdrs (xdrs (xdrs (xdrs (xdrs (xdrs (xdrs (xdrs (xdrz (xdrs (xdrz (xdrs (xdrs (xdrs (xdrs (xdrs xdr0))))))))))))))))))))))))) (hyp F8_)
    · replace hyp := hyp.2 q9
      have q9_ := q9
      clear q9
      refine xr_aload_n (pc := 933) (i := 0) (hI := d_DualPivotQuicksort_sort_SorteraJIII_933) (hi := rfl) (hl := rfl) ?_
      refine xr_ifnull (pc := 934) (tgt := 951) (hI := d_DualPivotQuicksort_sort_SorteraJIII_934) (ht := by decide) (fun q9 => ?_) (fun q9 => ?_)
      · clear q9
        exact xr_drop (L9 := [xR (-1), xR 64, xI x2, xI x3, xI x4, xZ, xZ, xZ, xZ, xZ, xZ, xZ, xZ, xZ, xZ, xI x15, xI x16, xZ, xZ, xZ, xZ, xZ, xZ, xZ, xZ]) (xdrs (xdrs (xdrs (xdrs (xdrs (xdrs (xdrz (xdrs (xdrs (xdrs (xdrs (xdrs (xdrs (xdrs (xdrs (xdrs (xdrs (xdrz (xdrs (xdrz (xdrs (xdrs (xdrs (xdrs (xdrs xdr0))))))))))))))))))))))))) (hyp F8_)
      · exact absurd q9 (by decide)
  · replace hyp := hyp.2 q9
    have q1_ := q9
    clear q9
    refine xr_aload_n (pc := 826) (i := 1) (hI := d_DualPivotQuicksort_sort_SorteraJIII_826) (hi := rfl) (hl := rfl) ?_
    refine xr_iload (pc := 827) (i := 19) (hI := d_DualPivotQuicksort_sort_SorteraJIII_827) (hl := rfl) ?_
    obtain ⟨c10_, hyp⟩ := hyp
    obtain ⟨c11_, hyp⟩ := hyp
    refine xg_laload (pc := 829) (v := (xpl h 64 (x19 + (-1)))) (hI := d_DualPivotQuicksort_sort_SorteraJIII_829) (ft_64 F) c10_ (xlt_of (fl_64 F) c11_) rfl (fun f12_ => ?_)
    replace f12_ : -9223372036854775808 ≤ (xpl h 64 (x19 + (-1))) ∧ (xpl h 64 (x19 + (-1))) ≤ 9223372036854775807 := f12_
    refine xr_lstore (pc := 830) (i := 20) (L9 := [xR (-1), xR 64, xI x2, xI x3, xI x4, xZ, xI x6, xZ, xZ, xZ, xZ, xZ, xZ, xZ, xZ, xI x15, xI x16, xL x17, xZ, xI (x19 + (-1)), xL (xpl h 64 (x19 + (-1))), xZ, xZ, xZ, xZ]) (hI := d_DualPivotQuicksort_sort_SorteraJIII_830) (hn := Nat.le_of_ble_eq_true rfl) (hL9 := rfl) ?_
    refine xr_lload (pc := 832) (i := 20) (hI := d_DualPivotQuicksort_sort_SorteraJIII_832) (hl := rfl) ?_
    refine xr_lload (pc := 834) (i := 17) (hI := d_DualPivotQuicksort_sort_SorteraJIII_834) (hl := rfl) ?_
    refine xr_lcmp (pc := 836) (hI := d_DualPivotQuicksort_sort_SorteraJIII_836) ?_
    refine xg_lif_eq (pc := 837) (tgt := 909) (hI := d_DualPivotQuicksort_sort_SorteraJIII_837) (ht := by decide) (fun q9 => ?_) (fun q9 => ?_)
    · replace hyp := hyp.1 q9
      have q13_ := q9
      clear q9
      refine xr_goto (pc := 909) (tgt := 816) (hI := d_DualPivotQuicksort_sort_SorteraJIII_909) (ht := by decide) ?_
      exact xr_drop (L9 := [xR (-1), xR 64, xI x2, xI x3, xI x4, xZ, xI x6, xZ, xZ, xZ, xZ, xZ, xZ, xZ, xZ, xI x15, xI x16, xL x17, xZ, xI (x19 + (-1)), xZ, xZ, xZ, xZ, xZ]) (xdrs (xdrs (xdrs (xdrs (xdrs (xdrs (xdrs (xdrs (xdrs (xdrs (xdrs (xdrs (xdrs (xdrs (xdrs (xdrs (xdrs (xdrs (xdrs (xdrs (xdrz (xdrs (xdrs (xdrs (xdrs xdr0))))))))))))))))))))))))) hyp
    · replace hyp := hyp.2 q9
      have q13_ := q9
      clear q9
      refine xr_aload_n (pc := 840) (i := 1) (hI := d_DualPivotQuicksort_sort_SorteraJIII_840) (hi := rfl) (hl := rfl) ?_
      refine xr_iload (pc := 841) (i := 19) (hI := d_DualPivotQuicksort_sort_SorteraJIII_841) (hl := rfl) ?_
      refine xr_lload (pc := 843) (i := 17) (hI := d_DualPivotQuicksort_sort_SorteraJIII_843) (hl := rfl) ?_
      refine xr_lastore (pc := 845) (hI := d_DualPivotQuicksort_sort_SorteraJIII_845) (ft_64 F) (by decide) (by clear hyp; omega) (xlt_of (fl_64 F) (by clear hyp; omega)) ?_
      have F14_ : xFix (xst h 64 (x19 + (-1)) x17) := F.stA xfa_64
      refine xr_lload (pc := 846) (i := 20) (hI := d_DualPivotQuicksort_sort_SorteraJIII_846) (hl := rfl) ?_
      refine xr_lload (pc := 848) (i := 17) (hI := d_DualPivotQuicksort_sort_SorteraJIII_848) (hl := rfl) ?_
      refine xr_lcmp (pc := 850) (hI := d_DualPivotQuicksort_sort_SorteraJIII_850) ?_
      refine xg_lif_ge (pc := 851) (tgt := 900) (hI := d_DualPivotQuicksort_sort_SorteraJIII_851) (ht := by decide) (fun q9 => ?_) (fun q9 => ?_)
      · replace hyp := hyp.1 q9
        have q15_ := q9
        clear q9
        refine xr_aload_n (pc := 900) (i := 1) (hI := d_DualPivotQuicksort_sort_SorteraJIII_900) (hi := rfl) (hl := rfl) ?_
        obtain ⟨c9, hyp⟩ := hyp
        refine xr_iinc (pc := 901) (i := 16) (L9 := [xR (-1), xR 64, xI x2, xI x3, xI x4, xZ, xI x6, xZ, xZ, xZ, xZ, xZ, xZ, xZ, xZ, xI x15, xI (x16 + (-1)), xL x17, xZ, xI (x19 + (-1)), xL (xpl h 64 (x19 + (-1))), xZ, xZ, xZ, xZ]) (hI := d_DualPivotQuicksort_sort_SorteraJIII_901) (hl := rfl) (hn := Nat.le_of_ble_eq_true rfl) (hr := c9) (hL9 := rfl) ?_
        refine xr_iload (pc := 904) (i := 16) (hI := d_DualPivotQuicksort_sort_SorteraJIII_904) (hl := rfl) ?_
        refine xr_lload (pc := 906) (i := 20) (hI := d_DualPivotQuicksort_sort_SorteraJIII_906) (hl := rfl) ?_
        obtain ⟨c16_, hyp⟩ := hyp
        obtain ⟨c17_, hyp⟩ := hyp
        refine xr_lastore (pc := 908) (hI := d_DualPivotQuicksort_sort_SorteraJIII_908) (ft_64 F14_) (by decide) c16_ (xlt_of (fl_64 F14_) c17_) ?_
        have F18_ : xFix (xst (xst h 64 (x19 + (-1)) x17) 64 (x16 + (-1)) (xpl h 64 (x19 + (-1)))) := F14_.stA xfa_64
        refine xr_goto (pc := 909) (tgt := 816) (hI := d_DualPivotQuicksort_sort_SorteraJIII_909) (ht := by decide) ?_
        exact xr_drop (L9 := [xR (-1), xR 64, xI x2, xI x3, xI x4, xZ, xI x6, xZ, xZ, xZ, xZ, xZ, xZ, xZ, xZ, xI x15, xI (x16 + (-1)), xL x17, xZ, xI (x19 + (-1)), xZ, xZ, xZ, xZ, xZ]) (xdrs (xdrs (xdrs (xdrs (xdrs (xdrs (xdrs (xdrs (xdrs (xdrs (xdrs (xdrs (xdrs (xdrs (xdrs (xdrs (xdrs (xdrs (xdrs (xdrs (xdrz (xdrs (xdrs (xdrs (xdrs xdr0))))))))))))))))))))))))) (hyp F18_)
      · replace hyp := hyp.2 q9
        have q15_ := q9
        clear q9
        exact (hyp F14_)
theorem d_DualPivotQuicksort_sort_SorteraJIII_854 : decode prog_46_method_13_code 854 = .ok (.aload_n 1, 1) := by decide +kernel
theorem d_DualPivotQuicksort_sort_SorteraJIII_855 : decode prog_46_method_13_code 855 = .ok (.iinc 15 1, 3) := by decide +kernel
theorem d_DualPivotQuicksort_sort_SorteraJIII_858 : decode prog_46_method_13_code 858 = .ok (.iload 15, 2) := by decide +kernel
theorem d_DualPivotQuicksort_sort_SorteraJIII_860 : decode prog_46_method_13_code 860 = .ok (.laload, 1) := by decide +kernel
theorem d_DualPivotQuicksort_sort_SorteraJIII_861 : decode prog_46_method_13_code 861 = .ok (.lload 17, 2) := by decide +kernel
theorem d_DualPivotQuicksort_sort_SorteraJIII_863 : decode prog_46_method_13_code 863 = .ok (.lcmp, 1) := by decide +kernel
theorem d_DualPivotQuicksort_sort_SorteraJIII_864 : decode prog_46_method_13_code 864 = .ok (.ifCond .ge 6, 3) := by decide +kernel
theorem d_DualPivotQuicksort_sort_SorteraJIII_870 : decode prog_46_method_13_code 870 = .ok (.aload_n 1, 1) := by decide +kernel
theorem d_DualPivotQuicksort_sort_SorteraJIII_871 : decode prog_46_method_13_code 871 = .ok (.iload 15, 2) := by decide +kernel
theorem d_DualPivotQuicksort_sort_SorteraJIII_873 : decode prog_46_method_13_code 873 = .ok (.laload, 1) := by decide +kernel
theorem d_DualPivotQuicksort_sort_SorteraJIII_874 : decode prog_46_method_13_code 874 = .ok (.lload 17, 2) := by decide +kernel
theorem d_DualPivotQuicksort_sort_SorteraJIII_876 : decode prog_46_method_13_code 876 = .ok (.lcmp, 1) := by decide +kernel
theorem d_DualPivotQuicksort_sort_SorteraJIII_877 : decode prog_46_method_13_code 877 = .ok (.ifCond .le 14, 3) := by decide +kernel
theorem d_DualPivotQuicksort_sort_SorteraJIII_891 : decode prog_46_method_13_code 891 = .ok (.aload_n 1, 1) := by decide +kernel
theorem d_DualPivotQuicksort_sort_SorteraJIII_892 : decode prog_46_method_13_code 892 = .ok (.iload 15, 2) := by decide +kernel
theorem d_DualPivotQuicksort_sort_SorteraJIII_894 : decode prog_46_method_13_code 894 = .ok (.lload 20, 2) := by decide +kernel
theorem d_DualPivotQuicksort_sort_SorteraJIII_896 : decode prog_46_method_13_code 896 = .ok (.lastore, 1) := by decide +kernel
theorem d_DualPivotQuicksort_sort_SorteraJIII_897 : decode prog_46_method_13_code 897 = .ok (.goto 12, 3) := by decide +kernel
theorem d_DualPivotQuicksort_sort_SorteraJIII_880 : decode prog_46_method_13_code 880 = .ok (.aload_n 1, 1) := by decide +kernel
theorem d_DualPivotQuicksort_sort_SorteraJIII_881 : decode prog_46_method_13_code 881 = .ok (.iinc 16 (-1), 3) := by decide +kernel
theorem d_DualPivotQuicksort_sort_SorteraJIII_884 : decode prog_46_method_13_code 884 = .ok (.iload 16, 2) := by decide +kernel
theorem d_DualPivotQuicksort_sort_SorteraJIII_886 : decode prog_46_method_13_code 886 = .ok (.aload_n 1, 1) := by decide +kernel
theorem d_DualPivotQuicksort_sort_SorteraJIII_887 : decode prog_46_method_13_code 887 = .ok (.iload 15, 2) := by decide +kernel
theorem d_DualPivotQuicksort_sort_SorteraJIII_889 : decode prog_46_method_13_code 889 = .ok (.laload, 1) := by decide +kernel
theorem d_DualPivotQuicksort_sort_SorteraJIII_890 : decode prog_46_method_13_code 890 = .ok (.lastore, 1) := by decide +kernel
theorem d_DualPivotQuicksort_sort_SorteraJIII_867 : decode prog_46_method_13_code 867 = .ok (.goto (-13), 3) := by decide +kernel
theorem v_DualPivotQuicksort_sort_SorteraJIII_854 {G : XG} {d : Nat} {h : XH} {Q : XV → XH → Prop} {X : Nat → XH → Prop} {x2 x3 x4 x6 x15 x16 x17 x19 x20 : Int} (F : xFix h) (hyp : xiR (x15 + 1) ∧ 0 ≤ (x15 + 1) ∧ (x15 + 1) < 12000 ∧ ((x17 ≤ (xpl h 64 (x15 + 1)) → (((xpl h 64 (x15 + 1)) ≤ x17 → (xFix (xst h 64 (x15 + 1) x20) → xwp G m_DualPivotQuicksort_sort_SorteraJIII (d + 141) 816 [xR (-1), xR 64, xI x2, xI x3, xI x4, xZ, xI x6, xZ, xZ, xZ, xZ, xZ, xZ, xZ, xZ, xI (x15 + 1), xI x16, xL x17, xZ, xI x19, xZ, xZ, xZ, xZ, xZ] [] (xst h 64 (x15 + 1) x20) Q X)) ∧ (¬ (xpl h 64 (x15 + 1)) ≤ x17 → xiR (x16 + (-1)) ∧ 0 ≤ (x16 + (-1)) ∧ (x16 + (-1)) < 12000 ∧ (xFix (xst (xst h 64 (x16 + (-1)) (xpl h 64 (x15 + 1))) 64 (x15 + 1) x20) → xwp G m_DualPivotQuicksort_sort_SorteraJIII (d + 141) 816 [xR (-1), xR 64, xI x2, xI x3, xI x4, xZ, xI x6, xZ, xZ, xZ, xZ, xZ, xZ, xZ, xZ, xI (x15 + 1), xI (x16 + (-1)), xL x17, xZ, xI x19, xZ, xZ, xZ, xZ, xZ] [] (xst (xst h 64 (x16 + (-1)) (xpl h 64 (x15 + 1))) 64 (x15 + 1) x20) Q X)))) ∧ (¬ x17 ≤ (xpl h 64 (x15 + 1)) → (xwp G m_DualPivotQuicksort_sort_SorteraJIII (d + 141) 854 [xR (-1), xR 64, xI x2, xI x3, xI x4, xZ, xI x6, xZ, xZ, xZ, xZ, xZ, xZ, xZ, xZ, xI (x15 + 1), xI x16, xL x17, xZ, xI x19, xL x20, xZ, xZ, xZ, xZ] [] h Q X)))) : xwp G m_DualPivotQuicksort_sort_SorteraJIII (d + 141) 854 [xR (-1), xR 64, xI x2, xI x3, xI x4, xZ, xI x6, xZ, xZ, xZ, xZ, xZ, xZ, xZ, xZ, xI x15, xI x16, xL x17, xZ, xI x19, xL x20, xZ, xZ, xZ, xZ] [] h Q X := by
  have hnx9 : (93 : Int) ≤ xnx h := F.2.2
  refine xr_okL (fun hl9 => ?_)
  have r_x2 : -2147483648 ≤ x2 ∧ x2 ≤ 2147483647 := hl9 (xI x2) (.tail _ (.tail _ (.head _))) (Nat.le_of_ble_eq_true rfl)
  have r_x3 : -2147483648 ≤ x3 ∧ x3 ≤ 2147483647 := hl9 (xI x3) (.tail _ (.tail _ (.tail _ (.head _)))) (Nat.le_of_ble_eq_true rfl)
  have r_x4 : -2147483648 ≤ x4 ∧ x4 ≤ 2147483647 := hl9 (xI x4) (.tail _ (.tail _ (.tail _ (.tail _ (.head _))))) (Nat.le_of_ble_eq_true rfl)
  have r_x6 : -2147483648 ≤ x6 ∧ x6 ≤ 2147483647 := hl9 (xI x6) (.tail _ (.tail _ (.tail _ (.tail _ (.tail _ (.tail _ (.head _))))))) (Nat.le_of_ble_eq_true rfl)
  have r_x15 : -2147483648 ≤ x15 ∧ x15 ≤ 2147483647 := hl9 (xI x15) (.tail _ (.tail _ (.tail _ (.tail _ (.tail _ (.tail _ (.tail _ (.tail _ (.tail _ (.tail _ (.tail _ (.tail _ (.tail _ (.tail _ (.tail _ (.head _)))))))))))))))) (Nat.le_of_ble_eq_true rfl)
  have r_x16 : -2147483648 ≤ x16 ∧ x16 ≤ 2147483647 := hl9 (xI x16) (.tail _ (.tail _ (.tail _ (.tail _ (.tail _ (.tail _ (.tail _ (.tail _ (.tail _ (.tail _ (.tail _ (.tail _ (.tail _ (.tail _ (.tail _ (.tail _ (.head _))))))))))))))))) (Nat.le_of_ble_eq_true rfl)
  have r_x17 : -9223372036854775808 ≤ x17 ∧ x17 ≤ 9223372036854775807 := hl9 (xL x17) (.tail _ (.tail _ (.tail _ (.tail _ (.tail _ (.tail _ (.tail _ (.tail _ (.tail _ (.tail _ (.tail _ (.tail _ (.tail _ (.tail _ (.tail _ (.tail _ (.tail _ (.head _)))))))))))))))))) (Nat.le_of_ble_eq_true rfl)
  have r_x19 : -2147483648 ≤ x19 ∧ x19 ≤ 2147483647 := hl9 (xI x19) (.tail _ (.tail _ (.tail _ (.tail _ (.tail _ (.tail _ (.tail _ (.tail _ (.tail _ (.tail _ (.tail _ (.tail _ (.tail _ (.tail _ (.tail _ (.tail _ (.tail _ (.tail _ (.tail _ (.head _)))))))))))))))))))) (Nat.le_of_ble_eq_true rfl)
  have r_x20 : -9223372036854775808 ≤ x20 ∧ x20 ≤ 9223372036854775807 := hl9 (xL x20) (.tail _ (.tail _ (.tail _ (.tail _ (.tail _ (.tail _ (.tail _ (.tail _ (.tail _ (.tail _ (.tail _ (.tail _ (.tail _ (.tail _ (.tail _ (.tail _ (.tail _ (.tail _ (.tail _ (.tail _ (.head _))))))))))))))))))))) (Nat.le_of_ble_eq_true rfl)
  refine xr_aload_n (pc := 854) (i := 1) (hI := d_DualPivotQuicksort_sort_SorteraJIII_854) (hi := rfl) (hl := rfl) ?_
  obtain ⟨c9, hyp⟩ := hyp
  refine xr_iinc (pc := 855) (i := 15) (L9 := [xR (-1), xR 64, xI x2, xI x3, xI x4, xZ, xI x6, xZ, xZ, xZ, xZ, xZ, xZ, xZ, xZ, xI (x15 + 1), xI x16, xL x17, xZ, xI x19, xL x20, xZ, xZ, xZ, xZ]) (hI := d_DualPivotQuicksort_sort_SorteraJIII_855) (hl := rfl) (hn := Nat.le_of_ble_eq_true rfl) (hr := c9) (hL9 := rfl) ?_
  refine xr_iload (pc := 858) (i := 15) (hI := d_DualPivotQuicksort_sort_SorteraJIII_858) (hl := rfl) ?_
  obtain ⟨c1_, hyp⟩ := hyp
  obtain ⟨c2_, hyp⟩ := hyp
  refine xg_laload (pc := 860) (v := (xpl h 64 (x15 + 1))) (hI := d_DualPivotQuicksort_sort_SorteraJIII_860) (ft_64 F) c1_ (xlt_of (fl_64 F) c2_) rfl (fun f3_ => ?_)
  replace f3_ : -9223372036854775808 ≤ (xpl h 64 (x15 + 1)) ∧ (xpl h 64 (x15 + 1)) ≤ 9223372036854775807 := f3_
  refine xr_lload (pc := 861) (i := 17) (hI := d_DualPivotQuicksort_sort_SorteraJIII_861) (hl := rfl) ?_
  refine xr_lcmp (pc := 863) (hI := d_DualPivotQuicksort_sort_SorteraJIII_863) ?_
  refine xg_lif_ge (pc := 864) (tgt := 870) (hI := d_DualPivotQuicksort_sort_SorteraJIII_864) (ht := by decide) (fun q9 => ?_) (fun q9 => ?_)
  · replace hyp := hyp.1 q9
    have q4_ := q9
    clear q9
    refine xr_aload_n (pc := 870) (i := 1) (hI := d_DualPivotQuicksort_sort_SorteraJIII_870) (hi := rfl) (hl := rfl) ?_
    refine xr_iload (pc := 871) (i := 15) (hI := d_DualPivotQuicksort_sort_SorteraJIII_871) (hl := rfl) ?_
    refine xg_laload (pc := 873) (v := (xpl h 64 (x15 + 1))) (hI := d_DualPivotQuicksort_sort_SorteraJIII_873) (ft_64 F) (by clear hyp; omega) (xlt_of (fl_64 F) (by clear hyp; omega)) rfl (fun f5_ => ?_)
    replace f5_ : -9223372036854775808 ≤ (xpl h 64 (x15 + 1)) ∧ (xpl h 64 (x15 + 1)) ≤ 9223372036854775807 := f5_
    refine xr_lload (pc := 874) (i := 17) (hI := d_DualPivotQuicksort_sort_SorteraJIII_874) (hl := rfl) ?_
    refine xr_lcmp (pc := 876) (hI := d_DualPivotQuicksort_sort_SorteraJIII_876) ?_
    refine xg_lif_le (pc := 877) (tgt := 891) (hI := d_DualPivotQuicksort_sort_SorteraJIII_877) (ht := by decide) (fun q9 => ?_) (fun q9 => ?_)
    · replace hyp := hyp.1 q9
      have q6_ := q9
      clear q9
      refine xr_aload_n (pc := 891) (i := 1) (hI := d_DualPivotQuicksort_sort_SorteraJIII_891) (hi := rfl) (hl := rfl) ?_
      refine xr_iload (pc := 892) (i := 15) (hI := d_DualPivotQuicksort_sort_SorteraJIII_892) (hl := rfl) ?_
      refine xr_lload (pc := 894) (i := 20) (hI := d_DualPivotQuicksort_sort_SorteraJIII_894) (hl := rfl) ?_
      refine xr_lastore (pc := 896) (hI := d_DualPivotQuicksort_sort_SorteraJIII_896) (ft_64 F) (by decide) (by clear hyp; omega) (xlt_of (fl_64 F) (by clear hyp; omega)) ?_
      have F7_ : xFix (xst h 64 (x15 + 1) x20) := F.stA xfa_64
      refine xr_goto (pc := 897) (tgt := 909) (hI := d_DualPivotQuicksort_sort_SorteraJIII_897) (ht := by decide) ?_
      refine xr_goto (pc := 909) (tgt := 816) (hI := d_DualPivotQuicksort_sort_SorteraJIII_909) (ht := by decide) ?_
      exact xr_drop (L9 := [xR (-1), xR 64, xI x2, xI x3, xI x4, xZ, xI x6, xZ, xZ, xZ, xZ, xZ, xZ, xZ, xZ, xI (x15 + 1), xI x16, xL x17, xZ, xI x19, xZ, xZ, xZ, xZ, xZ]) (xdrs (xdrs (xdrs (xdrs (xdrs (xdrs (xdrs (xdrs (xdrs (xdrs (xdrs (xdrs (xdrs (xdrs (xdrs (xdrs (xdrs (xdrs (xdrs (xdrs (xdrz (xdrs (xdrs (xdrs (xdrs xdr0))))))))))))))))))))))))) (hyp F7_)
    · replace hyp := hyp.2 q9
      have q6_ := q9
      clear q9
      refine xr_aload_n (pc := 880) (i := 1) (hI := d_DualPivotQuicksort_sort_SorteraJIII_880) (hi := rfl) (hl := rfl) ?_
      obtain ⟨c9, hyp⟩ := hyp
      refine xr_iinc (pc := 881) (i := 16) (L9 := [xR (-1), xR 64, xI x2, xI x3, xI x4, xZ, xI x6, xZ, xZ, xZ, xZ, xZ, xZ, xZ, xZ, xI (x15 + 1), xI (x16 + (-1)), xL x17, xZ, xI x19, xL x20, xZ, xZ, xZ, xZ]) (hI := d_DualPivotQuicksort_sort_SorteraJIII_881) (hl := rfl) (hn := Nat.le_of_ble_eq_true rfl) (hr := c9) (hL9 := rfl) ?_
      refine xr_iload (pc := 884) (i := 16) (hI := d_DualPivotQuicksort_sort_SorteraJIII_884) (hl := rfl) ?_
      refine xr_aload_n (pc := 886) (i := 1) (hI := d_DualPivotQuicksort_sort_SorteraJIII_886) (hi := rfl) (hl := rfl) ?_
      refine xr_iload (pc := 887) (i := 15) (hI := d_DualPivotQuicksort_sort_SorteraJIII_887) (hl := rfl) ?_
      refine xg_laload (pc := 889) (v := (xpl h 64 (x15 + 1))) (hI := d_DualPivotQuicksort_sort_SorteraJIII_889) (ft_64 F) (by clear hyp; omega) (xlt_of (fl_64 F) (by clear hyp; omega)) rfl (fun f8_ => ?_)
      replace f8_ : -9223372036854775808 ≤ (xpl h 64 (x15 + 1)) ∧ (xpl h 64 (x15 + 1)) ≤ 9223372036854775807 := f8_
      obtain ⟨c9_, hyp⟩ := hyp
      obtain ⟨c10_, hyp⟩ := hyp
      refine xr_lastore (pc := 890) (hI := d_DualPivotQuicksort_sort_SorteraJIII_890) (ft_64 F) (by decide) c9_ (xlt_of (fl_64 F) c10_) ?_
      have F11_ : xFix (xst h 64 (x16 + (-1)) (xpl h 64 (x15 + 1))) := F.stA xfa_64
      refine xr_aload_n (pc := 891) (i := 1) (hI := d_DualPivotQuicksort_sort_SorteraJIII_891) (hi := rfl) (hl := rfl) ?_
      refine xr_iload (pc := 892) (i := 15) (hI := d_DualPivotQuicksort_sort_SorteraJIII_892) (hl := rfl) ?_
      refine xr_lload (pc := 894) (i := 20) (hI := d_DualPivotQuicksort_sort_SorteraJIII_894) (hl := rfl) ?_
      refine xr_lastore (pc := 896) (hI := d_DualPivotQuicksort_sort_SorteraJIII_896) (ft_64 F11_) (by decide) (by clear hyp; omega) (xlt_of (fl_64 F11_) (by clear hyp; omega)) ?_
      have F12_ : xFix (xst (xst h 64 (x16 + (-1)) (xpl h 64 (x15 + 1))) 64 (x15 + 1) x20) := F11_.stA xfa_64
      refine xr_goto (pc := 897) (tgt := 909) (hI := d_DualPivotQuicksort_sort_SorteraJIII_897) (ht := by decide) ?_
      refine xr_goto (pc := 909) (tgt := 816) (hI := d_DualPivotQuicksort_sort_SorteraJIII_909) (ht := by decide) ?_
      exact xr_drop (L9 := [xR (-1), xR 64, xI x2, xI x3, xI x4, xZ, xI x6, xZ, xZ, xZ, xZ, xZ, xZ, xZ, xZ, xI (x15 + 1), xI (x16 + (-1)), xL x17, xZ, xI x19, xZ, xZ, xZ, xZ, xZ]) (xdrs (xdrs (xdrs (xdrs (xdrs (xdrs (xdrs (xdrs (xdrs (xdrs (xdrs (xdrs (xdrs (xdrs (xdrs (xdrs (xdrs (xdrs (xdrs (xdrs (xdrz (xdrs (xdrs (xdrs (xdrs xdr0))))))))))))))))))))))))) (hyp F12_)
  · replace hyp := hyp.2 q9
    have q4_ := q9
    clear q9
    refine xr_goto (pc := 867) (tgt := 854) (hI := d_DualPivotQuicksort_sort_SorteraJIII_867) (ht := by decide) ?_
    exact hyp
theorem d_DualPivotQuicksort_sort_SorteraJIII_951 : decode prog_46_method_13_code 951 = .ok (.aload_n 0, 1) := by decide +kernel
theorem d_DualPivotQuicksort_sort_SorteraJIII_952 : decode prog_46_method_13_code 952 = .ok (.aload_n 1, 1) := by decide +kernel
theorem d_DualPivotQuicksort_sort_SorteraJIII_953 : decode prog_46_method_13_code 953 = .ok (.iload_n 2, 1) := by decide +kernel
theorem d_DualPivotQuicksort_sort_SorteraJIII_954 : decode prog_46_method_13_code 954 = .ok (.iconst 1, 1) := by decide +kernel
theorem d_DualPivotQuicksort_sort_SorteraJIII_955 : decode prog_46_method_13_code 955 = .ok (.ior, 1) := by decide +kernel
theorem d_DualPivotQuicksort_sort_SorteraJIII_956 : decode prog_46_method_13_code 956 = .ok (.iload 16, 2) := by decide +kernel
theorem d_DualPivotQuicksort_sort_SorteraJIII_958 : decode prog_46_method_13_code 958 = .ok (.iload 4, 2) := by decide +kernel
theorem d_DualPivotQuicksort_sort_SorteraJIII_960 : decode prog_46_method_13_code 960 = .ok (.invokestatic 99, 3) := by decide +kernel
theorem v_DualPivotQuicksort_sort_SorteraJIII_951 {G : XG} {d : Nat} {h : XH} {Q : XV → XH → Prop} {X : Nat → XH → Prop} {x2 x3 x4 x15 x16 : Int} (F : xFix h) (hyp : (xwp G m_DualPivotQuicksort_sort_SorteraJIII (d + 140) 0 [xR (-1), xR 64, xI (xior x2 1), xI x16, xI x4, xZ, xZ, xZ, xZ, xZ, xZ, xZ, xZ, xZ, xZ, xZ, xZ, xZ, xZ, xZ, xZ, xZ, xZ, xZ, xZ] [] h (fun v9 h9 => xwp G m_DualPivotQuicksort_sort_SorteraJIII (d + 141) 963 [xR (-1), xR 64, xI x2, xI x3, xZ, xZ, xZ, xZ, xZ, xZ, xZ, xZ, xZ, xZ, xZ, xI x15, xZ, xZ, xZ, xZ, xZ, xZ, xZ, xZ, xZ] (xpush v9 []) h9 Q X) X)) : xwp G m_DualPivotQuicksort_sort_SorteraJIII (d + 141) 951 [xR (-1), xR 64, xI x2, xI x3, xI x4, xZ, xZ, xZ, xZ, xZ, xZ, xZ, xZ, xZ, xZ, xI x15, xI x16, xZ, xZ, xZ, xZ, xZ, xZ, xZ, xZ] [] h Q X := by
  have hnx9 : (93 : Int) ≤ xnx h := F.2.2
  refine xr_okL (fun hl9 => ?_)
  have r_x2 : -2147483648 ≤ x2 ∧ x2 ≤ 2147483647 := hl9 (xI x2) (.tail _ (.tail _ (.head _))) (Nat.le_of_ble_eq_true rfl)
  have r_x3 : -2147483648 ≤ x3 ∧ x3 ≤ 2147483647 := hl9 (xI x3) (.tail _ (.tail _ (.tail _ (.head _)))) (Nat.le_of_ble_eq_true rfl)
  have r_x4 : -2147483648 ≤ x4 ∧ x4 ≤ 2147483647 := hl9 (xI x4) (.tail _ (.tail _ (.tail _ (.tail _ (.head _))))) (Nat.le_of_ble_eq_true rfl)
  have r_x15 : -2147483648 ≤ x15 ∧ x15 ≤ 2147483647 := hl9 (xI x15) (.tail _ (.tail _ (.tail _ (.tail _ (.tail _ (.tail _ (.tail _ (.tail _ (.tail _ (.tail _ (.tail _ (.tail _ (.tail _ (.tail _ (.tail _ (.head _)))))))))))))))) (Nat.le_of_ble_eq_true rfl)
  have r_x16 : -2147483648 ≤ x16 ∧ x16 ≤ 2147483647 := hl9 (xI x16) (.tail _ (.tail _ (.tail _ (.tail _ (.tail _ (.tail _ (.tail _ (.tail _ (.tail _ (.tail _ (.tail _ (.tail _ (.tail _ (.tail _ (.tail _ (.tail _ (.head _))))))))))))))))) (Nat.le_of_ble_eq_true rfl)
  refine xr_aload_n (pc := 951) (i := 0) (hI := d_DualPivotQuicksort_sort_SorteraJIII_951) (hi := rfl) (hl := rfl) ?_
  refine xr_aload_n (pc := 952) (i := 1) (hI := d_DualPivotQuicksort_sort_SorteraJIII_952) (hi := rfl) (hl := rfl) ?_
  refine xr_iload_n (pc := 953) (i := 2) (hI := d_DualPivotQuicksort_sort_SorteraJIII_953) (hi := rfl) (hl := rfl) ?_
  refine xr_iconst (pc := 954) (hI := d_DualPivotQuicksort_sort_SorteraJIII_954) (hr := by decide) ?_
  refine xr_ior (pc := 955) (hI := d_DualPivotQuicksort_sort_SorteraJIII_955) ?_
  have f1_ : -2147483648 ≤ (xior x2 1) ∧ (xior x2 1) ≤ 2147483647 := xi_toR _
  refine xr_iload (pc := 956) (i := 16) (hI := d_DualPivotQuicksort_sort_SorteraJIII_956) (hl := rfl) ?_
  refine xr_iload (pc := 958) (i := 4) (hI := d_DualPivotQuicksort_sort_SorteraJIII_958) (hl := rfl) ?_
  exact xq_callS (pc := 960) (index := 99) (K := m_DualPivotQuicksort_sort_SorteraJIII) (As := [xR (-1), xR 64, xI (xior x2 1), xI x16, xI x4]) (S := []) (L0 := [xR (-1), xR 64, xI (xior x2 1), xI x16, xI x4, xZ, xZ, xZ, xZ, xZ, xZ, xZ, xZ, xZ, xZ, xZ, xZ, xZ, xZ, xZ, xZ, xZ, xZ, xZ, xZ]) (hI := d_DualPivotQuicksort_sort_SorteraJIII_960) (hK := k_DualPivotQuicksort_sort_SorteraJIII) (hlk := w_2145) (hnoM := rfl) (hS8 := Nat.le_of_ble_eq_true rfl) (hstat := w_2146) (hlen := Nat.le_of_ble_eq_true rfl) (hst := rfl) (hL0 := rfl)  (xwp_mono hyp (fun v9 h9 q9 => xr_drop (L9 := [xR (-1), xR 64, xI x2, xI x3, xZ, xZ, xZ, xZ, xZ, xZ, xZ, xZ, xZ, xZ, xZ, xI x15, xZ, xZ, xZ, xZ, xZ, xZ, xZ, xZ, xZ]) (xdrs (xdrs (xdrs (xdrs (xdrz (xdrs (xdrs (xdrs (xdrs (xdrs (xdrs (xdrs (xdrs (xdrs (xdrs (xdrs (xdrz (xdrs (xdrs (xdrs (xdrs (xdrs (xdrs (xdrs (xdrs xdr0))))))))))))))))))))))))) q9) (fun _ _ z9 => z9))
theorem d_DualPivotQuicksort_sort_SorteraJIII_963 : decode prog_46_method_13_code 963 = .ok (.iload 15, 2) := by decide +kernel
theorem d_DualPivotQuicksort_sort_SorteraJIII_965 : decode prog_46_method_13_code 965 = .ok (.istore 4, 2) := by decide +kernel
theorem d_DualPivotQuicksort_sort_SorteraJIII_967 : decode prog_46_method_13_code 967 = .ok (.goto (-967), 3) := by decide +kernel
theorem v_DualPivotQuicksort_sort_SorteraJIII_963 {G : XG} {d : Nat} {h : XH} {Q : XV → XH → Prop} {X : Nat → XH → Prop} {x2 x3 x15 : Int} (F : xFix h) (hyp : (xwp G m_DualPivotQuicksort_sort_SorteraJIII (d + 141) 0 [xR (-1), xR 64, xI x2, xI x3, xI x15, xZ, xZ, xZ, xZ, xZ, xZ, xZ, xZ, xZ, xZ, xZ, xZ, xZ, xZ, xZ, xZ, xZ, xZ, xZ, xZ] [] h Q X)) : xwp G m_DualPivotQuicksort_sort_SorteraJIII (d + 141) 963 [xR (-1), xR 64, xI x2, xI x3, xZ, xZ, xZ, xZ, xZ, xZ, xZ, xZ, xZ, xZ, xZ, xI x15, xZ, xZ, xZ, xZ, xZ, xZ, xZ, xZ, xZ] [] h Q X := by
  have hnx9 : (93 : Int) ≤ xnx h := F.2.2
  refine xr_okL (fun hl9 => ?_)
  have r_x2 : -2147483648 ≤ x2 ∧ x2 ≤ 2147483647 := hl9 (xI x2) (.tail _ (.tail _ (.head _))) (Nat.le_of_ble_eq_true rfl)
  have r_x3 : -2147483648 ≤ x3 ∧ x3 ≤ 2147483647 := hl9 (xI x3) (.tail _ (.tail _ (.tail _ (.head _)))) (Nat.le_of_ble_eq_true rfl)
  have r_x15 : -2147483648 ≤ x15 ∧ x15 ≤ 2147483647 := hl9 (xI x15) (.tail _ (.tail _ (.tail _ (.tail _ (.tail _ (.tail _ (.tail _ (.tail _ (.tail _ (.tail _ (.tail _ (.tail _ (.tail _ (.tail _ (.tail _ (.head _)))))))))))))))) (Nat.le_of_ble_eq_true rfl)
  refine xr_iload (pc := 963) (i := 15) (hI := d_DualPivotQuicksort_sort_SorteraJIII_963) (hl := rfl) ?_
  refine xr_istore (pc := 965) (i := 4) (L9 := [xR (-1), xR 64, xI x2, xI x3, xI x15, xZ, xZ, xZ, xZ, xZ, xZ, xZ, xZ, xZ, xZ, xI x15, xZ, xZ, xZ, xZ, xZ, xZ, xZ, xZ, xZ]) (hI := d_DualPivotQuicksort_sort_SorteraJIII_965) (hn := Nat.le_of_ble_eq_true rfl) (hL9 := rfl) ?_
  refine xr_goto (pc := 967) (tgt := 0) (hI := d_DualPivotQuicksort_sort_SorteraJIII_967) (ht := by decide) ?_
  exact xr_drop (L9 := [xR (-1), xR 64, xI x2, xI x3, xI x15, xZ, xZ, xZ, xZ, xZ, xZ, xZ, xZ, xZ, xZ, xZ, xZ, xZ, xZ, xZ, xZ, xZ, xZ, xZ, xZ]) (xdrs (xdrs (xdrs (xdrs (xdrs (xdrs (xdrs (xdrs (xdrs (xdrs (xdrs (xdrs (xdrs (xdrs (xdrs (xdrz (xdrs (xdrs (xdrs (xdrs (xdrs (xdrs (xdrs (xdrs (xdrs xdr0))))))))))))))))))))))))) hyp

end
