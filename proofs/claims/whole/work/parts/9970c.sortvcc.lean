/-! ===== sortvcc ===== -/
section
theorem d_DualPivotQuicksort_sort_SorteraJIII_91 : decode prog_46_method_13_code 91 = .ok (.iinc 2 6, 3) := by decide +kernel
theorem d_DualPivotQuicksort_sort_SorteraJIII_94 : decode prog_46_method_13_code 94 = .ok (.iload_n 2, 1) := by decide +kernel
theorem d_DualPivotQuicksort_sort_SorteraJIII_95 : decode prog_46_method_13_code 95 = .ok (.sipush 384, 3) := by decide +kernel
theorem d_DualPivotQuicksort_sort_SorteraJIII_98 : decode prog_46_method_13_code 98 = .ok (.if_icmp .le 11, 3) := by decide +kernel
theorem d_DualPivotQuicksort_sort_SorteraJIII_109 : decode prog_46_method_13_code 109 = .ok (.iload 6, 2) := by decide +kernel
theorem d_DualPivotQuicksort_sort_SorteraJIII_111 : decode prog_46_method_13_code 111 = .ok (.iconst 3, 1) := by decide +kernel
theorem d_DualPivotQuicksort_sort_SorteraJIII_112 : decode prog_46_method_13_code 112 = .ok (.ishr, 1) := by decide +kernel
theorem d_DualPivotQuicksort_sort_SorteraJIII_113 : decode prog_46_method_13_code 113 = .ok (.iconst 3, 1) := by decide +kernel
theorem d_DualPivotQuicksort_sort_SorteraJIII_114 : decode prog_46_method_13_code 114 = .ok (.imul, 1) := by decide +kernel
theorem d_DualPivotQuicksort_sort_SorteraJIII_115 : decode prog_46_method_13_code 115 = .ok (.iconst 3, 1) := by decide +kernel
theorem d_DualPivotQuicksort_sort_SorteraJIII_116 : decode prog_46_method_13_code 116 = .ok (.iadd, 1) := by decide +kernel
theorem d_DualPivotQuicksort_sort_SorteraJIII_117 : decode prog_46_method_13_code 117 = .ok (.istore 7, 2) := by decide +kernel
theorem d_DualPivotQuicksort_sort_SorteraJIII_119 : decode prog_46_method_13_code 119 = .ok (.iload_n 3, 1) := by decide +kernel
theorem d_DualPivotQuicksort_sort_SorteraJIII_120 : decode prog_46_method_13_code 120 = .ok (.iload 7, 2) := by decide +kernel
theorem d_DualPivotQuicksort_sort_SorteraJIII_122 : decode prog_46_method_13_code 122 = .ok (.iadd, 1) := by decide +kernel
theorem d_DualPivotQuicksort_sort_SorteraJIII_123 : decode prog_46_method_13_code 123 = .ok (.istore 8, 2) := by decide +kernel
theorem d_DualPivotQuicksort_sort_SorteraJIII_125 : decode prog_46_method_13_code 125 = .ok (.iload 5, 2) := by decide +kernel
theorem d_DualPivotQuicksort_sort_SorteraJIII_127 : decode prog_46_method_13_code 127 = .ok (.iload 7, 2) := by decide +kernel
theorem d_DualPivotQuicksort_sort_SorteraJIII_129 : decode prog_46_method_13_code 129 = .ok (.isub, 1) := by decide +kernel
theorem d_DualPivotQuicksort_sort_SorteraJIII_130 : decode prog_46_method_13_code 130 = .ok (.istore 9, 2) := by decide +kernel
theorem d_DualPivotQuicksort_sort_SorteraJIII_132 : decode prog_46_method_13_code 132 = .ok (.iload 8, 2) := by decide +kernel
theorem d_DualPivotQuicksort_sort_SorteraJIII_134 : decode prog_46_method_13_code 134 = .ok (.iload 9, 2) := by decide +kernel
theorem d_DualPivotQuicksort_sort_SorteraJIII_136 : decode prog_46_method_13_code 136 = .ok (.iadd, 1) := by decide +kernel
theorem d_DualPivotQuicksort_sort_SorteraJIII_137 : decode prog_46_method_13_code 137 = .ok (.iconst 1, 1) := by decide +kernel
theorem d_DualPivotQuicksort_sort_SorteraJIII_138 : decode prog_46_method_13_code 138 = .ok (.iushr, 1) := by decide +kernel
theorem d_DualPivotQuicksort_sort_SorteraJIII_139 : decode prog_46_method_13_code 139 = .ok (.istore 10, 2) := by decide +kernel
theorem d_DualPivotQuicksort_sort_SorteraJIII_141 : decode prog_46_method_13_code 141 = .ok (.iload 8, 2) := by decide +kernel
theorem d_DualPivotQuicksort_sort_SorteraJIII_143 : decode prog_46_method_13_code 143 = .ok (.iload 10, 2) := by decide +kernel
theorem d_DualPivotQuicksort_sort_SorteraJIII_145 : decode prog_46_method_13_code 145 = .ok (.iadd, 1) := by decide +kernel
theorem d_DualPivotQuicksort_sort_SorteraJIII_146 : decode prog_46_method_13_code 146 = .ok (.iconst 1, 1) := by decide +kernel
theorem d_DualPivotQuicksort_sort_SorteraJIII_147 : decode prog_46_method_13_code 147 = .ok (.iushr, 1) := by decide +kernel
theorem d_DualPivotQuicksort_sort_SorteraJIII_148 : decode prog_46_method_13_code 148 = .ok (.istore 11, 2) := by decide +kernel
theorem d_DualPivotQuicksort_sort_SorteraJIII_150 : decode prog_46_method_13_code 150 = .ok (.iload 10, 2) := by decide +kernel
theorem d_DualPivotQuicksort_sort_SorteraJIII_152 : decode prog_46_method_13_code 152 = .ok (.iload 9, 2) := by decide +kernel
theorem d_DualPivotQuicksort_sort_SorteraJIII_154 : decode prog_46_method_13_code 154 = .ok (.iadd, 1) := by decide +kernel
theorem d_DualPivotQuicksort_sort_SorteraJIII_155 : decode prog_46_method_13_code 155 = .ok (.iconst 1, 1) := by decide +kernel
theorem d_DualPivotQuicksort_sort_SorteraJIII_156 : decode prog_46_method_13_code 156 = .ok (.iushr, 1) := by decide +kernel
theorem d_DualPivotQuicksort_sort_SorteraJIII_157 : decode prog_46_method_13_code 157 = .ok (.istore 12, 2) := by decide +kernel
theorem d_DualPivotQuicksort_sort_SorteraJIII_159 : decode prog_46_method_13_code 159 = .ok (.aload_n 1, 1) := by decide +kernel
theorem d_DualPivotQuicksort_sort_SorteraJIII_160 : decode prog_46_method_13_code 160 = .ok (.iload 10, 2) := by decide +kernel
theorem d_DualPivotQuicksort_sort_SorteraJIII_162 : decode prog_46_method_13_code 162 = .ok (.laload, 1) := by decide +kernel
theorem d_DualPivotQuicksort_sort_SorteraJIII_163 : decode prog_46_method_13_code 163 = .ok (.lstore 13, 2) := by decide +kernel
theorem d_DualPivotQuicksort_sort_SorteraJIII_165 : decode prog_46_method_13_code 165 = .ok (.aload_n 1, 1) := by decide +kernel
theorem d_DualPivotQuicksort_sort_SorteraJIII_166 : decode prog_46_method_13_code 166 = .ok (.iload 9, 2) := by decide +kernel
theorem d_DualPivotQuicksort_sort_SorteraJIII_168 : decode prog_46_method_13_code 168 = .ok (.laload, 1) := by decide +kernel
theorem d_DualPivotQuicksort_sort_SorteraJIII_169 : decode prog_46_method_13_code 169 = .ok (.aload_n 1, 1) := by decide +kernel
theorem d_DualPivotQuicksort_sort_SorteraJIII_170 : decode prog_46_method_13_code 170 = .ok (.iload 11, 2) := by decide +kernel
theorem d_DualPivotQuicksort_sort_SorteraJIII_172 : decode prog_46_method_13_code 172 = .ok (.laload, 1) := by decide +kernel
theorem d_DualPivotQuicksort_sort_SorteraJIII_173 : decode prog_46_method_13_code 173 = .ok (.lcmp, 1) := by decide +kernel
theorem d_DualPivotQuicksort_sort_SorteraJIII_174 : decode prog_46_method_13_code 174 = .ok (.ifCond .ge 23, 3) := by decide +kernel
theorem d_DualPivotQuicksort_sort_SorteraJIII_177 : decode prog_46_method_13_code 177 = .ok (.aload_n 1, 1) := by decide +kernel
theorem d_DualPivotQuicksort_sort_SorteraJIII_178 : decode prog_46_method_13_code 178 = .ok (.iload 9, 2) := by decide +kernel
theorem d_DualPivotQuicksort_sort_SorteraJIII_180 : decode prog_46_method_13_code 180 = .ok (.laload, 1) := by decide +kernel
theorem d_DualPivotQuicksort_sort_SorteraJIII_181 : decode prog_46_method_13_code 181 = .ok (.lstore 15, 2) := by decide +kernel
theorem d_DualPivotQuicksort_sort_SorteraJIII_183 : decode prog_46_method_13_code 183 = .ok (.aload_n 1, 1) := by decide +kernel
theorem d_DualPivotQuicksort_sort_SorteraJIII_184 : decode prog_46_method_13_code 184 = .ok (.iload 9, 2) := by decide +kernel
theorem d_DualPivotQuicksort_sort_SorteraJIII_186 : decode prog_46_method_13_code 186 = .ok (.aload_n 1, 1) := by decide +kernel
theorem d_DualPivotQuicksort_sort_SorteraJIII_187 : decode prog_46_method_13_code 187 = .ok (.iload 11, 2) := by decide +kernel
theorem d_DualPivotQuicksort_sort_SorteraJIII_189 : decode prog_46_method_13_code 189 = .ok (.laload, 1) := by decide +kernel
theorem d_DualPivotQuicksort_sort_SorteraJIII_190 : decode prog_46_method_13_code 190 = .ok (.lastore, 1) := by decide +kernel
theorem d_DualPivotQuicksort_sort_SorteraJIII_191 : decode prog_46_method_13_code 191 = .ok (.aload_n 1, 1) := by decide +kernel
theorem d_DualPivotQuicksort_sort_SorteraJIII_192 : decode prog_46_method_13_code 192 = .ok (.iload 11, 2) := by decide +kernel
theorem d_DualPivotQuicksort_sort_SorteraJIII_194 : decode prog_46_method_13_code 194 = .ok (.lload 15, 2) := by decide +kernel
theorem d_DualPivotQuicksort_sort_SorteraJIII_196 : decode prog_46_method_13_code 196 = .ok (.lastore, 1) := by decide +kernel
theorem d_DualPivotQuicksort_sort_SorteraJIII_101 : decode prog_46_method_13_code 101 = .ok (.aload_n 1, 1) := by decide +kernel
theorem d_DualPivotQuicksort_sort_SorteraJIII_102 : decode prog_46_method_13_code 102 = .ok (.iload_n 3, 1) := by decide +kernel
theorem d_DualPivotQuicksort_sort_SorteraJIII_103 : decode prog_46_method_13_code 103 = .ok (.iload 4, 2) := by decide +kernel
theorem d_DualPivotQuicksort_sort_SorteraJIII_105 : decode prog_46_method_13_code 105 = .ok (.invokestatic 111, 3) := by decide +kernel
theorem k_DualPivotQuicksort_heapSort : xCal m_DualPivotQuicksort_heapSort 3 := ⟨List.mem_append_right _ (List.mem_of_getElem? (i := 2167) (by decide +kernel)), w_38, Nat.le_of_ble_eq_true rfl, ⟨by decide +kernel, by decide +kernel⟩, by decide +kernel, by decide +kernel, rfl⟩
theorem w_2165 : Cond.methodLink "java/util/DualPivotQuicksort" 111 ⟨"java/util/DualPivotQuicksort", "heapSort", "([JII)V"⟩ ∈ lw_tbl := List.mem_append_right _ (List.mem_of_getElem? (i := 2165) (by decide +kernel))
theorem w_2166 : Cond.static ⟨"java/util/DualPivotQuicksort", "heapSort", "([JII)V"⟩ ∈ lw_tbl := List.mem_append_right _ (List.mem_of_getElem? (i := 2166) (by decide +kernel))
theorem v_DualPivotQuicksort_sort_SorteraJIII_91 {G : XG} {d : Nat} {h : XH} {Q : XV → XH → Prop} {X : Nat → XH → Prop} {x2 x3 x4 x5 x6 : Int} (F : xFix h) (hyp : xiR (x2 + 6) ∧ (((x2 + 6) ≤ 384 → xiR ((xshr x6 3) * 3) ∧ xiR (((xshr x6 3) * 3) + 3) ∧ xiR (x3 + (((xshr x6 3) * 3) + 3)) ∧ xiR (x5 - (((xshr x6 3) * 3) + 3)) ∧ xiR ((x3 + (((xshr x6 3) * 3) + 3)) + (x5 - (((xshr x6 3) * 3) + 3))) ∧ xiR ((x3 + (((xshr x6 3) * 3) + 3)) + (xushr ((x3 + (((xshr x6 3) * 3) + 3)) + (x5 - (((xshr x6 3) * 3) + 3))) 1)) ∧ xiR ((xushr ((x3 + (((xshr x6 3) * 3) + 3)) + (x5 - (((xshr x6 3) * 3) + 3))) 1) + (x5 - (((xshr x6 3) * 3) + 3))) ∧ 0 ≤ (xushr ((x3 + (((xshr x6 3) * 3) + 3)) + (x5 - (((xshr x6 3) * 3) + 3))) 1) ∧ (xushr ((x3 + (((xshr x6 3) * 3) + 3)) + (x5 - (((xshr x6 3) * 3) + 3))) 1) < 12000 ∧ 0 ≤ (x5 - (((xshr x6 3) * 3) + 3)) ∧ (x5 - (((xshr x6 3) * 3) + 3)) < 12000 ∧ 0 ≤ (xushr ((x3 + (((xshr x6 3) * 3) + 3)) + (xushr ((x3 + (((xshr x6 3) * 3) + 3)) + (x5 - (((xshr x6 3) * 3) + 3))) 1)) 1) ∧ (xushr ((x3 + (((xshr x6 3) * 3) + 3)) + (xushr ((x3 + (((xshr x6 3) * 3) + 3)) + (x5 - (((xshr x6 3) * 3) + 3))) 1)) 1) < 12000 ∧ (((xpl h 64 (xushr ((x3 + (((xshr x6 3) * 3) + 3)) + (xushr ((x3 + (((xshr x6 3) * 3) + 3)) + (x5 - (((xshr x6 3) * 3) + 3))) 1)) 1)) ≤ (xpl h 64 (x5 - (((xshr x6 3) * 3) + 3))) → (xwp G m_DualPivotQuicksort_sort_SorteraJIII (d + 141) 197 [xR (-1), xR 64, xI (x2 + 6), xI x3, xI x4, xI x5, xI x6, xZ, xI (x3 + (((xshr x6 3) * 3) + 3)), xI (x5 - (((xshr x6 3) * 3) + 3)), xI (xushr ((x3 + (((xshr x6 3) * 3) + 3)) + (x5 - (((xshr x6 3) * 3) + 3))) 1), xI (xushr ((x3 + (((xshr x6 3) * 3) + 3)) + (xushr ((x3 + (((xshr x6 3) * 3) + 3)) + (x5 - (((xshr x6 3) * 3) + 3))) 1)) 1), xI (xushr ((xushr ((x3 + (((xshr x6 3) * 3) + 3)) + (x5 - (((xshr x6 3) * 3) + 3))) 1) + (x5 - (((xshr x6 3) * 3) + 3))) 1), xL (xpl h 64 (xushr ((x3 + (((xshr x6 3) * 3) + 3)) + (x5 - (((xshr x6 3) * 3) + 3))) 1)), xZ, xZ, xZ, xZ, xZ, xZ, xZ, xZ, xZ, xZ, xZ] [] h Q X)) ∧ (¬ (xpl h 64 (xushr ((x3 + (((xshr x6 3) * 3) + 3)) + (xushr ((x3 + (((xshr x6 3) * 3) + 3)) + (x5 - (((xshr x6 3) * 3) + 3))) 1)) 1)) ≤ (xpl h 64 (x5 - (((xshr x6 3) * 3) + 3))) → (xFix (xst (xst h 64 (x5 - (((xshr x6 3) * 3) + 3)) (xpl h 64 (xushr ((x3 + (((xshr x6 3) * 3) + 3)) + (xushr ((x3 + (((xshr x6 3) * 3) + 3)) + (x5 - (((xshr x6 3) * 3) + 3))) 1)) 1))) 64 (xushr ((x3 + (((xshr x6 3) * 3) + 3)) + (xushr ((x3 + (((xshr x6 3) * 3) + 3)) + (x5 - (((xshr x6 3) * 3) + 3))) 1)) 1) (xpl h 64 (x5 - (((xshr x6 3) * 3) + 3)))) → xwp G m_DualPivotQuicksort_sort_SorteraJIII (d + 141) 197 [xR (-1), xR 64, xI (x2 + 6), xI x3, xI x4, xI x5, xI x6, xZ, xI (x3 + (((xshr x6 3) * 3) + 3)), xI (x5 - (((xshr x6 3) * 3) + 3)), xI (xushr ((x3 + (((xshr x6 3) * 3) + 3)) + (x5 - (((xshr x6 3) * 3) + 3))) 1), xI (xushr ((x3 + (((xshr x6 3) * 3) + 3)) + (xushr ((x3 + (((xshr x6 3) * 3) + 3)) + (x5 - (((xshr x6 3) * 3) + 3))) 1)) 1), xI (xushr ((xushr ((x3 + (((xshr x6 3) * 3) + 3)) + (x5 - (((xshr x6 3) * 3) + 3))) 1) + (x5 - (((xshr x6 3) * 3) + 3))) 1), xL (xpl h 64 (xushr ((x3 + (((xshr x6 3) * 3) + 3)) + (x5 - (((xshr x6 3) * 3) + 3))) 1)), xZ, xZ, xZ, xZ, xZ, xZ, xZ, xZ, xZ, xZ, xZ] [] (xst (xst h 64 (x5 - (((xshr x6 3) * 3) + 3)) (xpl h 64 (xushr ((x3 + (((xshr x6 3) * 3) + 3)) + (xushr ((x3 + (((xshr x6 3) * 3) + 3)) + (x5 - (((xshr x6 3) * 3) + 3))) 1)) 1))) 64 (xushr ((x3 + (((xshr x6 3) * 3) + 3)) + (xushr ((x3 + (((xshr x6 3) * 3) + 3)) + (x5 - (((xshr x6 3) * 3) + 3))) 1)) 1) (xpl h 64 (x5 - (((xshr x6 3) * 3) + 3)))) Q X)))) ∧ (¬ (x2 + 6) ≤ 384 → (xwp G m_DualPivotQuicksort_heapSort (d + 140) 0 [xR 64, xI x3, xI x4, xZ, xZ] [] h (fun v9 h9 => xwp G m_DualPivotQuicksort_sort_SorteraJIII (d + 141) 108 [xZ, xZ, xZ, xZ, xZ, xZ, xZ, xZ, xZ, xZ, xZ, xZ, xZ, xZ, xZ, xZ, xZ, xZ, xZ, xZ, xZ, xZ, xZ, xZ, xZ] (xpush v9 []) h9 Q X) X)))) : xwp G m_DualPivotQuicksort_sort_SorteraJIII (d + 141) 91 [xR (-1), xR 64, xI x2, xI x3, xI x4, xI x5, xI x6, xZ, xZ, xZ, xZ, xZ, xZ, xZ, xZ, xZ, xZ, xZ, xZ, xZ, xZ, xZ, xZ, xZ, xZ] [] h Q X := by
  have hnx9 : (93 : Int) ≤ xnx h := F.2.2
  refine xr_okL (fun hl9 => ?_)
  have r_x2 : -2147483648 ≤ x2 ∧ x2 ≤ 2147483647 := hl9 (xI x2) (.tail _ (.tail _ (.head _))) (Nat.le_of_ble_eq_true rfl)
  have r_x3 : -2147483648 ≤ x3 ∧ x3 ≤ 2147483647 := hl9 (xI x3) (.tail _ (.tail _ (.tail _ (.head _)))) (Nat.le_of_ble_eq_true rfl)
  have r_x4 : -2147483648 ≤ x4 ∧ x4 ≤ 2147483647 := hl9 (xI x4) (.tail _ (.tail _ (.tail _ (.tail _ (.head _))))) (Nat.le_of_ble_eq_true rfl)
  have r_x5 : -2147483648 ≤ x5 ∧ x5 ≤ 2147483647 := hl9 (xI x5) (.tail _ (.tail _ (.tail _ (.tail _ (.tail _ (.head _)))))) (Nat.le_of_ble_eq_true rfl)
  have r_x6 : -2147483648 ≤ x6 ∧ x6 ≤ 2147483647 := hl9 (xI x6) (.tail _ (.tail _ (.tail _ (.tail _ (.tail _ (.tail _ (.head _))))))) (Nat.le_of_ble_eq_true rfl)
  obtain ⟨c9, hyp⟩ := hyp
  refine xr_iinc (pc := 91) (i := 2) (L9 := [xR (-1), xR 64, xI (x2 + 6), xI x3, xI x4, xI x5, xI x6, xZ, xZ, xZ, xZ, xZ, xZ, xZ, xZ, xZ, xZ, xZ, xZ, xZ, xZ, xZ, xZ, xZ, xZ]) (hI := d_DualPivotQuicksort_sort_SorteraJIII_91) (hl := rfl) (hn := Nat.le_of_ble_eq_true rfl) (hr := c9) (hL9 := rfl) ?_
  refine xr_iload_n (pc := 94) (i := 2) (hI := d_DualPivotQuicksort_sort_SorteraJIII_94) (hi := rfl) (hl := rfl) ?_
  refine xr_sipush (pc := 95) (hI := d_DualPivotQuicksort_sort_SorteraJIII_95) (hr := by decide) (hv := by decide) ?_
  refine xr_icmp_le (pc := 98) (tgt := 109) (hI := d_DualPivotQuicksort_sort_SorteraJIII_98) (ht := by decide) (fun q9 => ?_) (fun q9 => ?_)
  · replace hyp := hyp.1 q9
    have q1_ := q9
    clear q9
    refine xr_iload (pc := 109) (i := 6) (hI := d_DualPivotQuicksort_sort_SorteraJIII_109) (hl := rfl) ?_
    refine xr_iconst (pc := 111) (hI := d_DualPivotQuicksort_sort_SorteraJIII_111) (hr := by decide) ?_
    refine xr_ishr (pc := 112) (hI := d_DualPivotQuicksort_sort_SorteraJIII_112) ?_
    have f2_ : -2147483648 ≤ (xshr x6 3) ∧ (xshr x6 3) ≤ 2147483647 := xi_toR _
    refine xr_iconst (pc := 113) (hI := d_DualPivotQuicksort_sort_SorteraJIII_113) (hr := by decide) ?_
    obtain ⟨c9, hyp⟩ := hyp
    refine xr_imul (pc := 114) (hI := d_DualPivotQuicksort_sort_SorteraJIII_114) (hr := c9) ?_
    refine xr_iconst (pc := 115) (hI := d_DualPivotQuicksort_sort_SorteraJIII_115) (hr := by decide) ?_
    obtain ⟨c9, hyp⟩ := hyp
    refine xr_iadd (pc := 116) (hI := d_DualPivotQuicksort_sort_SorteraJIII_116) (hr := c9) ?_
    refine xr_istore (pc := 117) (i := 7) (L9 := [xR (-1), xR 64, xI (x2 + 6), xI x3, xI x4, xI x5, xI x6, xI (((xshr x6 3) * 3) + 3), xZ, xZ, xZ, xZ, xZ, xZ, xZ, xZ, xZ, xZ, xZ, xZ, xZ, xZ, xZ, xZ, xZ]) (hI := d_DualPivotQuicksort_sort_SorteraJIII_117) (hn := Nat.le_of_ble_eq_true rfl) (hL9 := rfl) ?_
    refine xr_iload_n (pc := 119) (i := 3) (hI := d_DualPivotQuicksort_sort_SorteraJIII_119) (hi := rfl) (hl := rfl) ?_
    refine xr_iload (pc := 120) (i := 7) (hI := d_DualPivotQuicksort_sort_SorteraJIII_120) (hl := rfl) ?_
    obtain ⟨c9, hyp⟩ := hyp
    refine xr_iadd (pc := 122) (hI := d_DualPivotQuicksort_sort_SorteraJIII_122) (hr := c9) ?_
    refine xr_istore (pc := 123) (i := 8) (L9 := [xR (-1), xR 64, xI (x2 + 6), xI x3, xI x4, xI x5, xI x6, xI (((xshr x6 3) * 3) + 3), xI (x3 + (((xshr x6 3) * 3) + 3)), xZ, xZ, xZ, xZ, xZ, xZ, xZ, xZ, xZ, xZ, xZ, xZ, xZ, xZ, xZ, xZ]) (hI := d_DualPivotQuicksort_sort_SorteraJIII_123) (hn := Nat.le_of_ble_eq_true rfl) (hL9 := rfl) ?_
    refine xr_iload (pc := 125) (i := 5) (hI := d_DualPivotQuicksort_sort_SorteraJIII_125) (hl := rfl) ?_
    refine xr_iload (pc := 127) (i := 7) (hI := d_DualPivotQuicksort_sort_SorteraJIII_127) (hl := rfl) ?_
    obtain ⟨c9, hyp⟩ := hyp
    refine xr_isub (pc := 129) (hI := d_DualPivotQuicksort_sort_SorteraJIII_129) (hr := c9) ?_
    refine xr_istore (pc := 130) (i := 9) (L9 := [xR (-1), xR 64, xI (x2 + 6), xI x3, xI x4, xI x5, xI x6, xI (((xshr x6 3) * 3) + 3), xI (x3 + (((xshr x6 3) * 3) + 3)), xI (x5 - (((xshr x6 3) * 3) + 3)), xZ, xZ, xZ, xZ, xZ, xZ, xZ, xZ, xZ, xZ, xZ, xZ, xZ, xZ, xZ]) (hI := d_DualPivotQuicksort_sort_SorteraJIII_130) (hn := Nat.le_of_ble_eq_true rfl) (hL9 := rfl) ?_
    refine xr_iload (pc := 132) (i := 8) (hI := d_DualPivotQuicksort_sort_SorteraJIII_132) (hl := rfl) ?_
    refine xr_iload (pc := 134) (i := 9) (hI := d_DualPivotQuicksort_sort_SorteraJIII_134) (hl := rfl) ?_
    obtain ⟨c9, hyp⟩ := hyp
    refine xr_iadd (pc := 136) (hI := d_DualPivotQuicksort_sort_SorteraJIII_136) (hr := c9) ?_
    refine xr_iconst (pc := 137) (hI := d_DualPivotQuicksort_sort_SorteraJIII_137) (hr := by decide) ?_
    refine xr_iushr (pc := 138) (hI := d_DualPivotQuicksort_sort_SorteraJIII_138) ?_
    have f3_ : -2147483648 ≤ (xushr ((x3 + (((xshr x6 3) * 3) + 3)) + (x5 - (((xshr x6 3) * 3) + 3))) 1) ∧ (xushr ((x3 + (((xshr x6 3) * 3) + 3)) + (x5 - (((xshr x6 3) * 3) + 3))) 1) ≤ 2147483647 := xi_toR _
    refine xr_istore (pc := 139) (i := 10) (L9 := [xR (-1), xR 64, xI (x2 + 6), xI x3, xI x4, xI x5, xI x6, xI (((xshr x6 3) * 3) + 3), xI (x3 + (((xshr x6 3) * 3) + 3)), xI (x5 - (((xshr x6 3) * 3) + 3)), xI (xushr ((x3 + (((xshr x6 3) * 3) + 3)) + (x5 - (((xshr x6 3) * 3) + 3))) 1), xZ, xZ, xZ, xZ, xZ, xZ, xZ, xZ, xZ, xZ, xZ, xZ, xZ, xZ]) (hI := d_DualPivotQuicksort_sort_SorteraJIII_139) (hn := Nat.le_of_ble_eq_true rfl) (hL9 := rfl) ?_
    refine xr_iload (pc := 141) (i := 8) (hI := d_DualPivotQuicksort_sort_SorteraJIII_141) (hl := rfl) ?_
    refine xr_iload (pc := 143) (i := 10) (hI := d_DualPivotQuicksort_sort_SorteraJIII_143) (hl := rfl) ?_
    obtain ⟨c9, hyp⟩ := hyp
    refine xr_iadd (pc := 145) (hI := d_DualPivotQuicksort_sort_SorteraJIII_145) (hr := c9) ?_
    refine xr_iconst (pc := 146) (hI := d_DualPivotQuicksort_sort_SorteraJIII_146) (hr := by decide) ?_
    refine xr_iushr (pc := 147) (hI := d_DualPivotQuicksort_sort_SorteraJIII_147) ?_
    have f4_ : -2147483648 ≤ (xushr ((x3 + (((xshr x6 3) * 3) + 3)) + (xushr ((x3 + (((xshr x6 3) * 3) + 3)) + (x5 - (((xshr x6 3) * 3) + 3))) 1)) 1) ∧ (xushr ((x3 + (((xshr x6 3) * 3) + 3)) + (xushr ((x3 + (((xshr x6 3) * 3) + 3)) + (x5 - (((xshr x6 3) * 3) + 3))) 1)) 1) ≤ 2147483647 := xi_toR _
    refine xr_istore (pc := 148) (i := 11) (L9 := [xR (-1), xR 64, xI (x2 + 6), xI x3, xI x4, xI x5, xI x6, xI (((xshr x6 3) * 3) + 3), xI (x3 + (((xshr x6 3) * 3) + 3)), xI (x5 - (((xshr x6 3) * 3) + 3)), xI (xushr ((x3 + (((xshr x6 3) * 3) + 3)) + (x5 - (((xshr x6 3) * 3) + 3))) 1), xI (xushr ((x3 + (((xshr x6 3) * 3) + 3)) + (xushr ((x3 + (((xshr x6 3) * 3) + 3)) + (x5 - (((xshr x6 3) * 3) + 3))) 1)) 1), xZ, xZ, xZ, xZ, xZ, xZ, xZ, xZ, xZ, xZ, xZ, xZ, xZ]) (hI := d_DualPivotQuicksort_sort_SorteraJIII_148) (hn := Nat.le_of_ble_eq_true rfl) (hL9 := rfl) ?_
    refine xr_iload (pc := 150) (i := 10) (hI := d_DualPivotQuicksort_sort_SorteraJIII_150) (hl := rfl) ?_
    refine xr_iload (pc := 152) (i := 9) (hI := d_DualPivotQuicksort_sort_SorteraJIII_152) (hl := rfl) ?_
    obtain ⟨c9, hyp⟩ := hyp
    refine xr_iadd (pc := 154) (hI := d_DualPivotQuicksort_sort_SorteraJIII_154) (hr := c9) ?_
    refine xr_iconst (pc := 155) (hI := d_DualPivotQuicksort_sort_SorteraJIII_155) (hr := by decide) ?_
    refine xr_iushr (pc := 156) (hI := d_DualPivotQuicksort_sort_SorteraJIII_156) ?_
    have f5_ : -2147483648 ≤ (xushr ((xushr ((x3 + (((xshr x6 3) * 3) + 3)) + (x5 - (((xshr x6 3) * 3) + 3))) 1) + (x5 - (((xshr x6 3) * 3) + 3))) 1) ∧ (xushr ((xushr ((x3 + (((xshr x6 3) * 3) + 3)) + (x5 - (((xshr x6 3) * 3) + 3))) 1) + (x5 - (((xshr x6 3) * 3) + 3))) 1) ≤ 2147483647 := xi_toR _
    refine xr_istore (pc := 157) (i := 12) (L9 := [xR (-1), xR 64, xI (x2 + 6), xI x3, xI x4, xI x5, xI x6, xI (((xshr x6 3) * 3) + 3), xI (x3 + (((xshr x6 3) * 3) + 3)), xI (x5 - (((xshr x6 3) * 3) + 3)), xI (xushr ((x3 + (((xshr x6 3) * 3) + 3)) + (x5 - (((xshr x6 3) * 3) + 3))) 1), xI (xushr ((x3 + (((xshr x6 3) * 3) + 3)) + (xushr ((x3 + (((xshr x6 3) * 3) + 3)) + (x5 - (((xshr x6 3) * 3) + 3))) 1)) 1), xI (xushr ((xushr ((x3 + (((xshr x6 3) * 3) + 3)) + (x5 - (((xshr x6 3) * 3) + 3))) 1) + (x5 - (((xshr x6 3) * 3) + 3))) 1), xZ, xZ, xZ, xZ, xZ, xZ, xZ, xZ, xZ, xZ, xZ, xZ]) (hI := d_DualPivotQuicksort_sort_SorteraJIII_157) (hn := Nat.le_of_ble_eq_true rfl) (hL9 := rfl) ?_
    refine xr_aload_n (pc := 159) (i := 1) (hI := d_DualPivotQuicksort_sort_SorteraJIII_159) (hi := rfl) (hl := rfl) ?_
    refine xr_iload (pc := 160) (i := 10) (hI := d_DualPivotQuicksort_sort_SorteraJIII_160) (hl := rfl) ?_
    obtain ⟨c6_, hyp⟩ := hyp
    obtain ⟨c7_, hyp⟩ := hyp
    refine xg_laload (pc := 162) (v := (xpl h 64 (xushr ((x3 + (((xshr x6 3) * 3) + 3)) + (x5 - (((xshr x6 3) * 3) + 3))) 1))) (hI := d_DualPivotQuicksort_sort_SorteraJIII_162) (ft_64 F) c6_ (xlt_of (fl_64 F) c7_) rfl (fun f8_ => ?_)
    replace f8_ : -9223372036854775808 ≤ (xpl h 64 (xushr ((x3 + (((xshr x6 3) * 3) + 3)) + (x5 - (((xshr x6 3) * 3) + 3))) 1)) ∧ (xpl h 64 (xushr ((x3 + (((xshr x6 3) * 3) + 3)) + (x5 - (((xshr x6 3) * 3) + 3))) 1)) ≤ 9223372036854775807 := f8_
    refine xr_lstore (pc := 163) (i := 13) (L9 := [xR (-1), xR 64, xI (x2 + 6), xI x3, xI x4, xI x5, xI x6, xI (((xshr x6 3) * 3) + 3), xI (x3 + (((xshr x6 3) * 3) + 3)), xI (x5 - (((xshr x6 3) * 3) + 3)), xI (xushr ((x3 + (((xshr x6 3) * 3) + 3)) + (x5 - (((xshr x6 3) * 3) + 3))) 1), xI (xushr ((x3 + (((xshr x6 3) * 3) + 3)) + (xushr ((x3 + (((xshr x6 3) * 3) + 3)) + (x5 - (((xshr x6 3) * 3) + 3))) 1)) 1), xI (xushr ((xushr ((x3 + (((xshr x6 3) * 3) + 3)) + (x5 - (((xshr x6 3) * 3) + 3))) 1) + (x5 - (((xshr x6 3) * 3) + 3))) 1), xL (xpl h 64 (xushr ((x3 + (((xshr x6 3) * 3) + 3)) + (x5 - (((xshr x6 3) * 3) + 3))) 1)), xZ, xZ, xZ, xZ, xZ, xZ, xZ, xZ, xZ, xZ, xZ]) (hI := d_DualPivotQuicksort_sort_SorteraJIII_163) (hn := Nat.le_of_ble_eq_true rfl) (hL9 := rfl) ?_
    refine xr_aload_n (pc := 165) (i := 1) (hI := d_DualPivotQuicksort_sort_SorteraJIII_165) (hi := rfl) (hl := rfl) ?_
    refine xr_iload (pc := 166) (i := 9) (hI := d_DualPivotQuicksort_sort_SorteraJIII_166) (hl := rfl) ?_
    obtain ⟨c9_, hyp⟩ := hyp
    obtain ⟨c10_, hyp⟩ := hyp
    refine xg_laload (pc := 168) (v := (xpl h 64 (x5 - (((xshr x6 3) * 3) + 3)))) (hI := d_DualPivotQuicksort_sort_SorteraJIII_168) (ft_64 F) c9_ (xlt_of (fl_64 F) c10_) rfl (fun f11_ => ?_)
    replace f11_ : -9223372036854775808 ≤ (xpl h 64 (x5 - (((xshr x6 3) * 3) + 3))) ∧ (xpl h 64 (x5 - (((xshr x6 3) * 3) + 3))) ≤ 9223372036854775807 := f11_
    refine xr_aload_n (pc := 169) (i := 1) (hI := d_DualPivotQuicksort_sort_SorteraJIII_169) (hi := rfl) (hl := rfl) ?_
    refine xr_iload (pc := 170) (i := 11) (hI := d_DualPivotQuicksort_sort_SorteraJIII_170) (hl := rfl) ?_
    obtain ⟨c12_, hyp⟩ := hyp
    obtain ⟨c13_, hyp⟩ := hyp
    refine xg_laload (pc := 172) (v := (xpl h 64 (xushr ((x3 + (((xshr x6 3) * 3) + 3)) + (xushr ((x3 + (((xshr x6 3) * 3) + 3)) + (x5 - (((xshr x6 3) * 3) + 3))) 1)) 1))) (hI := d_DualPivotQuicksort_sort_SorteraJIII_172) (ft_64 F) c12_ (xlt_of (fl_64 F) c13_) rfl (fun f14_ => ?_)
    replace f14_ : -9223372036854775808 ≤ (xpl h 64 (xushr ((x3 + (((xshr x6 3) * 3) + 3)) + (xushr ((x3 + (((xshr x6 3) * 3) + 3)) + (x5 - (((xshr x6 3) * 3) + 3))) 1)) 1)) ∧ (xpl h 64 (xushr ((x3 + (((xshr x6 3) * 3) + 3)) + (xushr ((x3 + (((xshr x6 3) * 3) + 3)) + (x5 - (((xshr x6 3) * 3) + 3))) 1)) 1)) ≤ 9223372036854775807 := f14_
    refine xr_lcmp (pc := 173) (hI := d_DualPivotQuicksort_sort_SorteraJIII_173) ?_
    refine xg_lif_ge (pc := 174) (tgt := 197) (hI := d_DualPivotQuicksort_sort_SorteraJIII_174) (ht := by decide) (fun q9 => ?_) (fun q9 => ?_)
    · replace hyp := hyp.1 q9
      have q15_ := q9
      clear q9
      exact xr_drop (L9 := [xR (-1), xR 64, xI (x2 + 6), xI x3, xI x4, xI x5, xI x6, xZ, xI (x3 + (((xshr x6 3) * 3) + 3)), xI (x5 - (((xshr x6 3) * 3) + 3)), xI (xushr ((x3 + (((xshr x6 3) * 3) + 3)) + (x5 - (((xshr x6 3) * 3) + 3))) 1), xI (xushr ((x3 + (((xshr x6 3) * 3) + 3)) + (xushr ((x3 + (((xshr x6 3) * 3) + 3)) + (x5 - (((xshr x6 3) * 3) + 3))) 1)) 1), xI (xushr ((xushr ((x3 + (((xshr x6 3) * 3) + 3)) + (x5 - (((xshr x6 3) * 3) + 3))) 1) + (x5 - (((xshr x6 3) * 3) + 3))) 1), xL (xpl h 64 (xushr ((x3 + (((xshr x6 3) * 3) + 3)) + (x5 - (((xshr x6 3) * 3) + 3))) 1)), xZ, xZ, xZ, xZ, xZ, xZ, xZ, xZ, xZ, xZ, xZ]) (xdrs (xdrs (xdrs (xdrs (xdrs (xdrs (xdrs (xdrz (xdrs (xdrs (xdrs (xdrs (xdrs (xdrs (xdrs (xdrs (xdrs (xdrs (xdrs (xdrs (xdrs (xdrs (xdrs (xdrs (xdrs xdr0))))))))))))))))))))))))) hyp
    · replace hyp := hyp.2 q9
      have q15_ := q9
      clear q9
      refine xr_aload_n (pc := 177) (i := 1) (hI := d_DualPivotQuicksort_sort_SorteraJIII_177) (hi := rfl) (hl := rfl) ?_
      refine xr_iload (pc := 178) (i := 9) (hI := d_DualPivotQuicksort_sort_SorteraJIII_178) (hl := rfl) ?_
      refine xg_laload (pc := 180) (v := (xpl h 64 (x5 - (((xshr x6 3) * 3) + 3)))) (hI := d_DualPivotQuicksort_sort_SorteraJIII_180) (ft_64 F) (by clear hyp; omega) (xlt_of (fl_64 F) (by clear hyp; omega)) rfl (fun f16_ => ?_)
      replace f16_ : -9223372036854775808 ≤ (xpl h 64 (x5 - (((xshr x6 3) * 3) + 3))) ∧ (xpl h 64 (x5 - (((xshr x6 3) * 3) + 3))) ≤ 9223372036854775807 := f16_
      refine xr_lstore (pc := 181) (i := 15) (L9 := [xR (-1), xR 64, xI (x2 + 6), xI x3, xI x4, xI x5, xI x6, xI (((xshr x6 3) * 3) + 3), xI (x3 + (((xshr x6 3) * 3) + 3)), xI (x5 - (((xshr x6 3) * 3) + 3)), xI (xushr ((x3 + (((xshr x6 3) * 3) + 3)) + (x5 - (((xshr x6 3) * 3) + 3))) 1), xI (xushr ((x3 + (((xshr x6 3) * 3) + 3)) + (xushr ((x3 + (((xshr x6 3) * 3) + 3)) + (x5 - (((xshr x6 3) * 3) + 3))) 1)) 1), xI (xushr ((xushr ((x3 + (((xshr x6 3) * 3) + 3)) + (x5 - (((xshr x6 3) * 3) + 3))) 1) + (x5 - (((xshr x6 3) * 3) + 3))) 1), xL (xpl h 64 (xushr ((x3 + (((xshr x6 3) * 3) + 3)) + (x5 - (((xshr x6 3) * 3) + 3))) 1)), xZ, xL (xpl h 64 (x5 - (((xshr x6 3) * 3) + 3))), xZ, xZ, xZ, xZ, xZ, xZ, xZ, xZ, xZ]) (hI := d_DualPivotQuicksort_sort_SorteraJIII_181) (hn := Nat.le_of_ble_eq_true rfl) (hL9 := rfl) ?_
      refine xr_aload_n (pc := 183) (i := 1) (hI := d_DualPivotQuicksort_sort_SorteraJIII_183) (hi := rfl) (hl := rfl) ?_
      refine xr_iload (pc := 184) (i := 9) (hI := d_DualPivotQuicksort_sort_SorteraJIII_184) (hl := rfl) ?_
      refine xr_aload_n (pc := 186) (i := 1) (hI := d_DualPivotQuicksort_sort_SorteraJIII_186) (hi := rfl) (hl := rfl) ?_
      refine xr_iload (pc := 187) (i := 11) (hI := d_DualPivotQuicksort_sort_SorteraJIII_187) (hl := rfl) ?_
      refine xg_laload (pc := 189) (v := (xpl h 64 (xushr ((x3 + (((xshr x6 3) * 3) + 3)) + (xushr ((x3 + (((xshr x6 3) * 3) + 3)) + (x5 - (((xshr x6 3) * 3) + 3))) 1)) 1))) (hI := d_DualPivotQuicksort_sort_SorteraJIII_189) (ft_64 F) (by clear hyp; omega) (xlt_of (fl_64 F) (by clear hyp; omega)) rfl (fun f17_ => ?_)
      replace f17_ : -9223372036854775808 ≤ (xpl h 64 (xushr ((x3 + (((xshr x6 3) * 3) + 3)) + (xushr ((x3 + (((xshr x6 3) * 3) + 3)) + (x5 - (((xshr x6 3) * 3) + 3))) 1)) 1)) ∧ (xpl h 64 (xushr ((x3 + (((xshr x6 3) * 3) + 3)) + (xushr ((x3 + (((xshr x6 3) * 3) + 3)) + (x5 - (((xshr x6 3) * 3) + 3))) 1)) 1)) ≤ 9223372036854775807 := f17_
      refine xr_lastore (pc := 190) (hI := d_DualPivotQuicksort_sort_SorteraJIII_190) (ft_64 F) (by decide) (by clear hyp; omega) (xlt_of (fl_64 F) (by clear hyp; omega)) ?_
      have F18_ : xFix (xst h 64 (x5 - (((xshr x6 3) * 3) + 3)) (xpl h 64 (xushr ((x3 + (((xshr x6 3) * 3) + 3)) + (xushr ((x3 + (((xshr x6 3) * 3) + 3)) + (x5 - (((xshr x6 3) * 3) + 3))) 1)) 1))) := F.stA xfa_64
      refine xr_aload_n (pc := 191) (i := 1) (hI := d_DualPivotQuicksort_sort_SorteraJIII_191) (hi := rfl) (hl := rfl) ?_
      refine xr_iload (pc := 192) (i := 11) (hI := d_DualPivotQuicksort_sort_SorteraJIII_192) (hl := rfl) ?_
      refine xr_lload (pc := 194) (i := 15) (hI := d_DualPivotQuicksort_sort_SorteraJIII_194) (hl := rfl) ?_
      refine xr_lastore (pc := 196) (hI := d_DualPivotQuicksort_sort_SorteraJIII_196) (ft_64 F18_) (by decide) (by clear hyp; omega) (xlt_of (fl_64 F18_) (by clear hyp; omega)) ?_
      have F19_ : xFix (xst (xst h 64 (x5 - (((xshr x6 3) * 3) + 3)) (xpl h 64 (xushr ((x3 + (((xshr x6 3) * 3) + 3)) + (xushr ((x3 + (((xshr x6 3) * 3) + 3)) + (x5 - (((xshr x6 3) * 3) + 3))) 1)) 1))) 64 (xushr ((x3 + (((xshr x6 3) * 3) + 3)) + (xushr ((x3 + (((xshr x6 3) * 3) + 3)) + (x5 - (((xshr x6 3) * 3) + 3))) 1)) 1) (xpl h 64 (x5 - (((xshr x6 3) * 3) + 3)))) := F18_.stA xfa_64
      exact xr_drop (L9 := [xR (-1), xR 64, xI (x2 + 6), xI x3, xI x4, xI x5, xI x6, xZ, xI (x3 + (((xshr x6 3) * 3) + 3)), xI (x5 - (((xshr x6 3) * 3) + 3)), xI (xushr ((x3 + (((xshr x6 3) * 3) + 3)) + (x5 - (((xshr x6 3) * 3) + 3))) 1), xI (xushr ((x3 + (((xshr x6 3) * 3) + 3)) + (xushr ((x3 + (((xshr x6 3) * 3) + 3)) + (x5 - (((xshr x6 3) * 3) + 3))) 1)) 1), xI (xushr ((xushr ((x3 + (((xshr x6 3) * 3) + 3)) + (x5 - (((xshr x6 3) * 3) + 3))) 1) + (x5 - (((xshr x6 3) * 3) + 3))) 1), xL (xpl h 64 (xushr ((x3 + (((xshr x6 3) * 3) + 3)) + (x5 - (((xshr x6 3) * 3) + 3))) 1)), xZ, xZ, xZ, xZ, xZ, xZ, xZ, xZ, xZ, xZ, xZ]) (xdrs (xdrs (xdrs (xdrs (xdrs (xdrs (xdrs (xdrz (xdrs (xdrs (xdrs (xdrs (xdrs (xdrs (xdrs (xdrz (xdrs (xdrs (xdrs (xdrs (xdrs (xdrs (xdrs (xdrs (xdrs xdr0))))))))))))))))))))))))) (hyp F19_)
  · replace hyp := hyp.2 q9
    have q1_ := q9
    clear q9
    refine xr_aload_n (pc := 101) (i := 1) (hI := d_DualPivotQuicksort_sort_SorteraJIII_101) (hi := rfl) (hl := rfl) ?_
    refine xr_iload_n (pc := 102) (i := 3) (hI := d_DualPivotQuicksort_sort_SorteraJIII_102) (hi := rfl) (hl := rfl) ?_
    refine xr_iload (pc := 103) (i := 4) (hI := d_DualPivotQuicksort_sort_SorteraJIII_103) (hl := rfl) ?_
    exact xq_callS (pc := 105) (index := 111) (K := m_DualPivotQuicksort_heapSort) (As := [xR 64, xI x3, xI x4]) (S := []) (L0 := [xR 64, xI x3, xI x4, xZ, xZ]) (hI := d_DualPivotQuicksort_sort_SorteraJIII_105) (hK := k_DualPivotQuicksort_heapSort) (hlk := w_2165) (hnoM := rfl) (hS8 := Nat.le_of_ble_eq_true rfl) (hstat := w_2166) (hlen := Nat.le_of_ble_eq_true rfl) (hst := rfl) (hL0 := rfl)  (xwp_mono hyp (fun v9 h9 q9 => xr_drop (L9 := [xZ, xZ, xZ, xZ, xZ, xZ, xZ, xZ, xZ, xZ, xZ, xZ, xZ, xZ, xZ, xZ, xZ, xZ, xZ, xZ, xZ, xZ, xZ, xZ, xZ]) (xdrz (xdrz (xdrz (xdrz (xdrz (xdrz (xdrz (xdrs (xdrs (xdrs (xdrs (xdrs (xdrs (xdrs (xdrs (xdrs (xdrs (xdrs (xdrs (xdrs (xdrs (xdrs (xdrs (xdrs (xdrs xdr0))))))))))))))))))))))))) q9) (fun _ _ z9 => z9))
theorem d_DualPivotQuicksort_sort_SorteraJIII_108 : decode prog_46_method_13_code 108 = .ok (.return_, 1) := by decide +kernel
theorem v_DualPivotQuicksort_sort_SorteraJIII_108 {G : XG} {d : Nat} {h : XH} {Q : XV → XH → Prop} {X : Nat → XH → Prop} (F : xFix h) (hyp : (Q xN h)) : xwp G m_DualPivotQuicksort_sort_SorteraJIII (d + 141) 108 [xZ, xZ, xZ, xZ, xZ, xZ, xZ, xZ, xZ, xZ, xZ, xZ, xZ, xZ, xZ, xZ, xZ, xZ, xZ, xZ, xZ, xZ, xZ, xZ, xZ] [] h Q X := by
  have hnx9 : (93 : Int) ≤ xnx h := F.2.2
  refine xr_return (S := []) (pc := 108) (hI := d_DualPivotQuicksort_sort_SorteraJIII_108) (hr := rfl) ?_
  exact hyp

end
