/-! ===== sortvcd ===== -/
section
theorem d_DualPivotQuicksort_sort_SorteraJIII_197 : decode prog_46_method_13_code 197 = .ok (.aload_n 1, 1) := by decide +kernel
theorem d_DualPivotQuicksort_sort_SorteraJIII_198 : decode prog_46_method_13_code 198 = .ok (.iload 12, 2) := by decide +kernel
theorem d_DualPivotQuicksort_sort_SorteraJIII_200 : decode prog_46_method_13_code 200 = .ok (.laload, 1) := by decide +kernel
theorem d_DualPivotQuicksort_sort_SorteraJIII_201 : decode prog_46_method_13_code 201 = .ok (.aload_n 1, 1) := by decide +kernel
theorem d_DualPivotQuicksort_sort_SorteraJIII_202 : decode prog_46_method_13_code 202 = .ok (.iload 8, 2) := by decide +kernel
theorem d_DualPivotQuicksort_sort_SorteraJIII_204 : decode prog_46_method_13_code 204 = .ok (.laload, 1) := by decide +kernel
theorem d_DualPivotQuicksort_sort_SorteraJIII_205 : decode prog_46_method_13_code 205 = .ok (.lcmp, 1) := by decide +kernel
theorem d_DualPivotQuicksort_sort_SorteraJIII_206 : decode prog_46_method_13_code 206 = .ok (.ifCond .ge 23, 3) := by decide +kernel
theorem d_DualPivotQuicksort_sort_SorteraJIII_209 : decode prog_46_method_13_code 209 = .ok (.aload_n 1, 1) := by decide +kernel
theorem d_DualPivotQuicksort_sort_SorteraJIII_210 : decode prog_46_method_13_code 210 = .ok (.iload 12, 2) := by decide +kernel
theorem d_DualPivotQuicksort_sort_SorteraJIII_212 : decode prog_46_method_13_code 212 = .ok (.laload, 1) := by decide +kernel
theorem d_DualPivotQuicksort_sort_SorteraJIII_213 : decode prog_46_method_13_code 213 = .ok (.lstore 15, 2) := by decide +kernel
theorem d_DualPivotQuicksort_sort_SorteraJIII_215 : decode prog_46_method_13_code 215 = .ok (.aload_n 1, 1) := by decide +kernel
theorem d_DualPivotQuicksort_sort_SorteraJIII_216 : decode prog_46_method_13_code 216 = .ok (.iload 12, 2) := by decide +kernel
theorem d_DualPivotQuicksort_sort_SorteraJIII_218 : decode prog_46_method_13_code 218 = .ok (.aload_n 1, 1) := by decide +kernel
theorem d_DualPivotQuicksort_sort_SorteraJIII_219 : decode prog_46_method_13_code 219 = .ok (.iload 8, 2) := by decide +kernel
theorem d_DualPivotQuicksort_sort_SorteraJIII_221 : decode prog_46_method_13_code 221 = .ok (.laload, 1) := by decide +kernel
theorem d_DualPivotQuicksort_sort_SorteraJIII_222 : decode prog_46_method_13_code 222 = .ok (.lastore, 1) := by decide +kernel
theorem d_DualPivotQuicksort_sort_SorteraJIII_223 : decode prog_46_method_13_code 223 = .ok (.aload_n 1, 1) := by decide +kernel
theorem d_DualPivotQuicksort_sort_SorteraJIII_224 : decode prog_46_method_13_code 224 = .ok (.iload 8, 2) := by decide +kernel
theorem d_DualPivotQuicksort_sort_SorteraJIII_226 : decode prog_46_method_13_code 226 = .ok (.lload 15, 2) := by decide +kernel
theorem d_DualPivotQuicksort_sort_SorteraJIII_228 : decode prog_46_method_13_code 228 = .ok (.lastore, 1) := by decide +kernel
theorem v_DualPivotQuicksort_sort_SorteraJIII_197 {G : XG} {d : Nat} {h : XH} {Q : XV → XH → Prop} {X : Nat → XH → Prop} {x2 x3 x4 x5 x6 x8 x9 x10 x11 x12 x13 : Int} (F : xFix h) (hyp : 0 ≤ x12 ∧ x12 < 12000 ∧ 0 ≤ x8 ∧ x8 < 12000 ∧ (((xpl h 64 x8) ≤ (xpl h 64 x12) → (xwp G m_DualPivotQuicksort_sort_SorteraJIII (d + 141) 229 [xR (-1), xR 64, xI x2, xI x3, xI x4, xI x5, xI x6, xZ, xI x8, xI x9, xI x10, xI x11, xI x12, xL x13, xZ, xZ, xZ, xZ, xZ, xZ, xZ, xZ, xZ, xZ, xZ] [] h Q X)) ∧ (¬ (xpl h 64 x8) ≤ (xpl h 64 x12) → (xFix (xst (xst h 64 x12 (xpl h 64 x8)) 64 x8 (xpl h 64 x12)) → xwp G m_DualPivotQuicksort_sort_SorteraJIII (d + 141) 229 [xR (-1), xR 64, xI x2, xI x3, xI x4, xI x5, xI x6, xZ, xI x8, xI x9, xI x10, xI x11, xI x12, xL x13, xZ, xZ, xZ, xZ, xZ, xZ, xZ, xZ, xZ, xZ, xZ] [] (xst (xst h 64 x12 (xpl h 64 x8)) 64 x8 (xpl h 64 x12)) Q X)))) : xwp G m_DualPivotQuicksort_sort_SorteraJIII (d + 141) 197 [xR (-1), xR 64, xI x2, xI x3, xI x4, xI x5, xI x6, xZ, xI x8, xI x9, xI x10, xI x11, xI x12, xL x13, xZ, xZ, xZ, xZ, xZ, xZ, xZ, xZ, xZ, xZ, xZ] [] h Q X := by
  have hnx9 : (93 : Int) ≤ xnx h := F.2.2
  refine xr_okL (fun hl9 => ?_)
  have r_x2 : -2147483648 ≤ x2 ∧ x2 ≤ 2147483647 := hl9 (xI x2) (.tail _ (.tail _ (.head _))) (Nat.le_of_ble_eq_true rfl)
  have r_x3 : -2147483648 ≤ x3 ∧ x3 ≤ 2147483647 := hl9 (xI x3) (.tail _ (.tail _ (.tail _ (.head _)))) (Nat.le_of_ble_eq_true rfl)
  have r_x4 : -2147483648 ≤ x4 ∧ x4 ≤ 2147483647 := hl9 (xI x4) (.tail _ (.tail _ (.tail _ (.tail _ (.head _))))) (Nat.le_of_ble_eq_true rfl)
  have r_x5 : -2147483648 ≤ x5 ∧ x5 ≤ 2147483647 := hl9 (xI x5) (.tail _ (.tail _ (.tail _ (.tail _ (.tail _ (.head _)))))) (Nat.le_of_ble_eq_true rfl)
  have r_x6 : -2147483648 ≤ x6 ∧ x6 ≤ 2147483647 := hl9 (xI x6) (.tail _ (.tail _ (.tail _ (.tail _ (.tail _ (.tail _ (.head _))))))) (Nat.le_of_ble_eq_true rfl)
  have r_x8 : -2147483648 ≤ x8 ∧ x8 ≤ 2147483647 := hl9 (xI x8) (.tail _ (.tail _ (.tail _ (.tail _ (.tail _ (.tail _ (.tail _ (.tail _ (.head _))))))))) (Nat.le_of_ble_eq_true rfl)
  have r_x9 : -2147483648 ≤ x9 ∧ x9 ≤ 2147483647 := hl9 (xI x9) (.tail _ (.tail _ (.tail _ (.tail _ (.tail _ (.tail _ (.tail _ (.tail _ (.tail _ (.head _)))))))))) (Nat.le_of_ble_eq_true rfl)
  have r_x10 : -2147483648 ≤ x10 ∧ x10 ≤ 2147483647 := hl9 (xI x10) (.tail _ (.tail _ (.tail _ (.tail _ (.tail _ (.tail _ (.tail _ (.tail _ (.tail _ (.tail _ (.head _))))))))))) (Nat.le_of_ble_eq_true rfl)
  have r_x11 : -2147483648 ≤ x11 ∧ x11 ≤ 2147483647 := hl9 (xI x11) (.tail _ (.tail _ (.tail _ (.tail _ (.tail _ (.tail _ (.tail _ (.tail _ (.tail _ (.tail _ (.tail _ (.head _)))))))))))) (Nat.le_of_ble_eq_true rfl)
  have r_x12 : -2147483648 ≤ x12 ∧ x12 ≤ 2147483647 := hl9 (xI x12) (.tail _ (.tail _ (.tail _ (.tail _ (.tail _ (.tail _ (.tail _ (.tail _ (.tail _ (.tail _ (.tail _ (.tail _ (.head _))))))))))))) (Nat.le_of_ble_eq_true rfl)
  have r_x13 : -9223372036854775808 ≤ x13 ∧ x13 ≤ 9223372036854775807 := hl9 (xL x13) (.tail _ (.tail _ (.tail _ (.tail _ (.tail _ (.tail _ (.tail _ (.tail _ (.tail _ (.tail _ (.tail _ (.tail _ (.tail _ (.head _)))))))))))))) (Nat.le_of_ble_eq_true rfl)
  refine xr_aload_n (pc := 197) (i := 1) (hI := d_DualPivotQuicksort_sort_SorteraJIII_197) (hi := rfl) (hl := rfl) ?_
  refine xr_iload (pc := 198) (i := 12) (hI := d_DualPivotQuicksort_sort_SorteraJIII_198) (hl := rfl) ?_
  obtain ⟨c1_, hyp⟩ := hyp
  obtain ⟨c2_, hyp⟩ := hyp
  refine xg_laload (pc := 200) (v := (xpl h 64 x12)) (hI := d_DualPivotQuicksort_sort_SorteraJIII_200) (ft_64 F) c1_ (xlt_of (fl_64 F) c2_) rfl (fun f3_ => ?_)
  replace f3_ : -9223372036854775808 ≤ (xpl h 64 x12) ∧ (xpl h 64 x12) ≤ 9223372036854775807 := f3_
  refine xr_aload_n (pc := 201) (i := 1) (hI := d_DualPivotQuicksort_sort_SorteraJIII_201) (hi := rfl) (hl := rfl) ?_
  refine xr_iload (pc := 202) (i := 8) (hI := d_DualPivotQuicksort_sort_SorteraJIII_202) (hl := rfl) ?_
  obtain ⟨c4_, hyp⟩ := hyp
  obtain ⟨c5_, hyp⟩ := hyp
  refine xg_laload (pc := 204) (v := (xpl h 64 x8)) (hI := d_DualPivotQuicksort_sort_SorteraJIII_204) (ft_64 F) c4_ (xlt_of (fl_64 F) c5_) rfl (fun f6_ => ?_)
  replace f6_ : -9223372036854775808 ≤ (xpl h 64 x8) ∧ (xpl h 64 x8) ≤ 9223372036854775807 := f6_
  refine xr_lcmp (pc := 205) (hI := d_DualPivotQuicksort_sort_SorteraJIII_205) ?_
  refine xg_lif_ge (pc := 206) (tgt := 229) (hI := d_DualPivotQuicksort_sort_SorteraJIII_206) (ht := by decide) (fun q9 => ?_) (fun q9 => ?_)
  · replace hyp := hyp.1 q9
    have q7_ := q9
    clear q9
    exact hyp
  · replace hyp := hyp.2 q9
    have q7_ := q9
    clear q9
    refine xr_aload_n (pc := 209) (i := 1) (hI := d_DualPivotQuicksort_sort_SorteraJIII_209) (hi := rfl) (hl := rfl) ?_
    refine xr_iload (pc := 210) (i := 12) (hI := d_DualPivotQuicksort_sort_SorteraJIII_210) (hl := rfl) ?_
    refine xg_laload (pc := 212) (v := (xpl h 64 x12)) (hI := d_DualPivotQuicksort_sort_SorteraJIII_212) (ft_64 F) (by clear hyp; omega) (xlt_of (fl_64 F) (by clear hyp; omega)) rfl (fun f8_ => ?_)
    replace f8_ : -9223372036854775808 ≤ (xpl h 64 x12) ∧ (xpl h 64 x12) ≤ 9223372036854775807 := f8_
    refine xr_lstore (pc := 213) (i := 15) (L9 := [xR (-1), xR 64, xI x2, xI x3, xI x4, xI x5, xI x6, xZ, xI x8, xI x9, xI x10, xI x11, xI x12, xL x13, xZ, xL (xpl h 64 x12), xZ, xZ, xZ, xZ, xZ, xZ, xZ, xZ, xZ]) (hI := d_DualPivotQuicksort_sort_SorteraJIII_213) (hn := Nat.le_of_ble_eq_true rfl) (hL9 := rfl) ?_
    refine xr_aload_n (pc := 215) (i := 1) (hI := d_DualPivotQuicksort_sort_SorteraJIII_215) (hi := rfl) (hl := rfl) ?_
    refine xr_iload (pc := 216) (i := 12) (hI := d_DualPivotQuicksort_sort_SorteraJIII_216) (hl := rfl) ?_
    refine xr_aload_n (pc := 218) (i := 1) (hI := d_DualPivotQuicksort_sort_SorteraJIII_218) (hi := rfl) (hl := rfl) ?_
    refine xr_iload (pc := 219) (i := 8) (hI := d_DualPivotQuicksort_sort_SorteraJIII_219) (hl := rfl) ?_
    refine xg_laload (pc := 221) (v := (xpl h 64 x8)) (hI := d_DualPivotQuicksort_sort_SorteraJIII_221) (ft_64 F) (by clear hyp; omega) (xlt_of (fl_64 F) (by clear hyp; omega)) rfl (fun f9_ => ?_)
    replace f9_ : -9223372036854775808 ≤ (xpl h 64 x8) ∧ (xpl h 64 x8) ≤ 9223372036854775807 := f9_
    refine xr_lastore (pc := 222) (hI := d_DualPivotQuicksort_sort_SorteraJIII_222) (ft_64 F) (by decide) (by clear hyp; omega) (xlt_of (fl_64 F) (by clear hyp; omega)) ?_
    have F10_ : xFix (xst h 64 x12 (xpl h 64 x8)) := F.stA xfa_64
    refine xr_aload_n (pc := 223) (i := 1) (hI := d_DualPivotQuicksort_sort_SorteraJIII_223) (hi := rfl) (hl := rfl) ?_
    refine xr_iload (pc := 224) (i := 8) (hI := d_DualPivotQuicksort_sort_SorteraJIII_224) (hl := rfl) ?_
    refine xr_lload (pc := 226) (i := 15) (hI := d_DualPivotQuicksort_sort_SorteraJIII_226) (hl := rfl) ?_
    refine xr_lastore (pc := 228) (hI := d_DualPivotQuicksort_sort_SorteraJIII_228) (ft_64 F10_) (by decide) (by clear hyp; omega) (xlt_of (fl_64 F10_) (by clear hyp; omega)) ?_
    have F11_ : xFix (xst (xst h 64 x12 (xpl h 64 x8)) 64 x8 (xpl h 64 x12)) := F10_.stA xfa_64
    exact xr_drop (L9 := [xR (-1), xR 64, xI x2, xI x3, xI x4, xI x5, xI x6, xZ, xI x8, xI x9, xI x10, xI x11, xI x12, xL x13, xZ, xZ, xZ, xZ, xZ, xZ, xZ, xZ, xZ, xZ, xZ]) (xdrs (xdrs (xdrs (xdrs (xdrs (xdrs (xdrs (xdrs (xdrs (xdrs (xdrs (xdrs (xdrs (xdrs (xdrs (xdrz (xdrs (xdrs (xdrs (xdrs (xdrs (xdrs (xdrs (xdrs (xdrs xdr0))))))))))))))))))))))))) (hyp F11_)
theorem d_DualPivotQuicksort_sort_SorteraJIII_229 : decode prog_46_method_13_code 229 = .ok (.aload_n 1, 1) := by decide +kernel
theorem d_DualPivotQuicksort_sort_SorteraJIII_230 : decode prog_46_method_13_code 230 = .ok (.iload 9, 2) := by decide +kernel
theorem d_DualPivotQuicksort_sort_SorteraJIII_232 : decode prog_46_method_13_code 232 = .ok (.laload, 1) := by decide +kernel
theorem d_DualPivotQuicksort_sort_SorteraJIII_233 : decode prog_46_method_13_code 233 = .ok (.aload_n 1, 1) := by decide +kernel
theorem d_DualPivotQuicksort_sort_SorteraJIII_234 : decode prog_46_method_13_code 234 = .ok (.iload 12, 2) := by decide +kernel
theorem d_DualPivotQuicksort_sort_SorteraJIII_236 : decode prog_46_method_13_code 236 = .ok (.laload, 1) := by decide +kernel
theorem d_DualPivotQuicksort_sort_SorteraJIII_237 : decode prog_46_method_13_code 237 = .ok (.lcmp, 1) := by decide +kernel
theorem d_DualPivotQuicksort_sort_SorteraJIII_238 : decode prog_46_method_13_code 238 = .ok (.ifCond .ge 23, 3) := by decide +kernel
theorem d_DualPivotQuicksort_sort_SorteraJIII_241 : decode prog_46_method_13_code 241 = .ok (.aload_n 1, 1) := by decide +kernel
theorem d_DualPivotQuicksort_sort_SorteraJIII_242 : decode prog_46_method_13_code 242 = .ok (.iload 9, 2) := by decide +kernel
theorem d_DualPivotQuicksort_sort_SorteraJIII_244 : decode prog_46_method_13_code 244 = .ok (.laload, 1) := by decide +kernel
theorem d_DualPivotQuicksort_sort_SorteraJIII_245 : decode prog_46_method_13_code 245 = .ok (.lstore 15, 2) := by decide +kernel
theorem d_DualPivotQuicksort_sort_SorteraJIII_247 : decode prog_46_method_13_code 247 = .ok (.aload_n 1, 1) := by decide +kernel
theorem d_DualPivotQuicksort_sort_SorteraJIII_248 : decode prog_46_method_13_code 248 = .ok (.iload 9, 2) := by decide +kernel
theorem d_DualPivotQuicksort_sort_SorteraJIII_250 : decode prog_46_method_13_code 250 = .ok (.aload_n 1, 1) := by decide +kernel
theorem d_DualPivotQuicksort_sort_SorteraJIII_251 : decode prog_46_method_13_code 251 = .ok (.iload 12, 2) := by decide +kernel
theorem d_DualPivotQuicksort_sort_SorteraJIII_253 : decode prog_46_method_13_code 253 = .ok (.laload, 1) := by decide +kernel
theorem d_DualPivotQuicksort_sort_SorteraJIII_254 : decode prog_46_method_13_code 254 = .ok (.lastore, 1) := by decide +kernel
theorem d_DualPivotQuicksort_sort_SorteraJIII_255 : decode prog_46_method_13_code 255 = .ok (.aload_n 1, 1) := by decide +kernel
theorem d_DualPivotQuicksort_sort_SorteraJIII_256 : decode prog_46_method_13_code 256 = .ok (.iload 12, 2) := by decide +kernel
theorem d_DualPivotQuicksort_sort_SorteraJIII_258 : decode prog_46_method_13_code 258 = .ok (.lload 15, 2) := by decide +kernel
theorem d_DualPivotQuicksort_sort_SorteraJIII_260 : decode prog_46_method_13_code 260 = .ok (.lastore, 1) := by decide +kernel
theorem v_DualPivotQuicksort_sort_SorteraJIII_229 {G : XG} {d : Nat} {h : XH} {Q : XV → XH → Prop} {X : Nat → XH → Prop} {x2 x3 x4 x5 x6 x8 x9 x10 x11 x12 x13 : Int} (F : xFix h) (hyp : 0 ≤ x9 ∧ x9 < 12000 ∧ 0 ≤ x12 ∧ x12 < 12000 ∧ (((xpl h 64 x12) ≤ (xpl h 64 x9) → (xwp G m_DualPivotQuicksort_sort_SorteraJIII (d + 141) 261 [xR (-1), xR 64, xI x2, xI x3, xI x4, xI x5, xI x6, xZ, xI x8, xI x9, xI x10, xI x11, xI x12, xL x13, xZ, xZ, xZ, xZ, xZ, xZ, xZ, xZ, xZ, xZ, xZ] [] h Q X)) ∧ (¬ (xpl h 64 x12) ≤ (xpl h 64 x9) → (xFix (xst (xst h 64 x9 (xpl h 64 x12)) 64 x12 (xpl h 64 x9)) → xwp G m_DualPivotQuicksort_sort_SorteraJIII (d + 141) 261 [xR (-1), xR 64, xI x2, xI x3, xI x4, xI x5, xI x6, xZ, xI x8, xI x9, xI x10, xI x11, xI x12, xL x13, xZ, xZ, xZ, xZ, xZ, xZ, xZ, xZ, xZ, xZ, xZ] [] (xst (xst h 64 x9 (xpl h 64 x12)) 64 x12 (xpl h 64 x9)) Q X)))) : xwp G m_DualPivotQuicksort_sort_SorteraJIII (d + 141) 229 [xR (-1), xR 64, xI x2, xI x3, xI x4, xI x5, xI x6, xZ, xI x8, xI x9, xI x10, xI x11, xI x12, xL x13, xZ, xZ, xZ, xZ, xZ, xZ, xZ, xZ, xZ, xZ, xZ] [] h Q X := by
  have hnx9 : (93 : Int) ≤ xnx h := F.2.2
  refine xr_okL (fun hl9 => ?_)
  have r_x2 : -2147483648 ≤ x2 ∧ x2 ≤ 2147483647 := hl9 (xI x2) (.tail _ (.tail _ (.head _))) (Nat.le_of_ble_eq_true rfl)
  have r_x3 : -2147483648 ≤ x3 ∧ x3 ≤ 2147483647 := hl9 (xI x3) (.tail _ (.tail _ (.tail _ (.head _)))) (Nat.le_of_ble_eq_true rfl)
  have r_x4 : -2147483648 ≤ x4 ∧ x4 ≤ 2147483647 := hl9 (xI x4) (.tail _ (.tail _ (.tail _ (.tail _ (.head _))))) (Nat.le_of_ble_eq_true rfl)
  have r_x5 : -2147483648 ≤ x5 ∧ x5 ≤ 2147483647 := hl9 (xI x5) (.tail _ (.tail _ (.tail _ (.tail _ (.tail _ (.head _)))))) (Nat.le_of_ble_eq_true rfl)
  have r_x6 : -2147483648 ≤ x6 ∧ x6 ≤ 2147483647 := hl9 (xI x6) (.tail _ (.tail _ (.tail _ (.tail _ (.tail _ (.tail _ (.head _))))))) (Nat.le_of_ble_eq_true rfl)
  have r_x8 : -2147483648 ≤ x8 ∧ x8 ≤ 2147483647 := hl9 (xI x8) (.tail _ (.tail _ (.tail _ (.tail _ (.tail _ (.tail _ (.tail _ (.tail _ (.head _))))))))) (Nat.le_of_ble_eq_true rfl)
  have r_x9 : -2147483648 ≤ x9 ∧ x9 ≤ 2147483647 := hl9 (xI x9) (.tail _ (.tail _ (.tail _ (.tail _ (.tail _ (.tail _ (.tail _ (.tail _ (.tail _ (.head _)))))))))) (Nat.le_of_ble_eq_true rfl)
  have r_x10 : -2147483648 ≤ x10 ∧ x10 ≤ 2147483647 := hl9 (xI x10) (.tail _ (.tail _ (.tail _ (.tail _ (.tail _ (.tail _ (.tail _ (.tail _ (.tail _ (.tail _ (.head _))))))))))) (Nat.le_of_ble_eq_true rfl)
  have r_x11 : -2147483648 ≤ x11 ∧ x11 ≤ 2147483647 := hl9 (xI x11) (.tail _ (.tail _ (.tail _ (.tail _ (.tail _ (.tail _ (.tail _ (.tail _ (.tail _ (.tail _ (.tail _ (.head _)))))))))))) (Nat.le_of_ble_eq_true rfl)
  have r_x12 : -2147483648 ≤ x12 ∧ x12 ≤ 2147483647 := hl9 (xI x12) (.tail _ (.tail _ (.tail _ (.tail _ (.tail _ (.tail _ (.tail _ (.tail _ (.tail _ (.tail _ (.tail _ (.tail _ (.head _))))))))))))) (Nat.le_of_ble_eq_true rfl)
  have r_x13 : -9223372036854775808 ≤ x13 ∧ x13 ≤ 9223372036854775807 := hl9 (xL x13) (.tail _ (.tail _ (.tail _ (.tail _ (.tail _ (.tail _ (.tail _ (.tail _ (.tail _ (.tail _ (.tail _ (.tail _ (.tail _ (.head _)))))))))))))) (Nat.le_of_ble_eq_true rfl)
  refine xr_aload_n (pc := 229) (i := 1) (hI := d_DualPivotQuicksort_sort_SorteraJIII_229) (hi := rfl) (hl := rfl) ?_
  refine xr_iload (pc := 230) (i := 9) (hI := d_DualPivotQuicksort_sort_SorteraJIII_230) (hl := rfl) ?_
  obtain ⟨c1_, hyp⟩ := hyp
  obtain ⟨c2_, hyp⟩ := hyp
  refine xg_laload (pc := 232) (v := (xpl h 64 x9)) (hI := d_DualPivotQuicksort_sort_SorteraJIII_232) (ft_64 F) c1_ (xlt_of (fl_64 F) c2_) rfl (fun f3_ => ?_)
  replace f3_ : -9223372036854775808 ≤ (xpl h 64 x9) ∧ (xpl h 64 x9) ≤ 9223372036854775807 := f3_
  refine xr_aload_n (pc := 233) (i := 1) (hI := d_DualPivotQuicksort_sort_SorteraJIII_233) (hi := rfl) (hl := rfl) ?_
  refine xr_iload (pc := 234) (i := 12) (hI := d_DualPivotQuicksort_sort_SorteraJIII_234) (hl := rfl) ?_
  obtain ⟨c4_, hyp⟩ := hyp
  obtain ⟨c5_, hyp⟩ := hyp
  refine xg_laload (pc := 236) (v := (xpl h 64 x12)) (hI := d_DualPivotQuicksort_sort_SorteraJIII_236) (ft_64 F) c4_ (xlt_of (fl_64 F) c5_) rfl (fun f6_ => ?_)
  replace f6_ : -9223372036854775808 ≤ (xpl h 64 x12) ∧ (xpl h 64 x12) ≤ 9223372036854775807 := f6_
  refine xr_lcmp (pc := 237) (hI := d_DualPivotQuicksort_sort_SorteraJIII_237) ?_
  refine xg_lif_ge (pc := 238) (tgt := 261) (hI := d_DualPivotQuicksort_sort_SorteraJIII_238) (ht := by decide) (fun q9 => ?_) (fun q9 => ?_)
  · replace hyp := hyp.1 q9
    have q7_ := q9
    clear q9
    exact hyp
  · replace hyp := hyp.2 q9
    have q7_ := q9
    clear q9
    refine xr_aload_n (pc := 241) (i := 1) (hI := d_DualPivotQuicksort_sort_SorteraJIII_241) (hi := rfl) (hl := rfl) ?_
    refine xr_iload (pc := 242) (i := 9) (hI := d_DualPivotQuicksort_sort_SorteraJIII_242) (hl := rfl) ?_
    refine xg_laload (pc := 244) (v := (xpl h 64 x9)) (hI := d_DualPivotQuicksort_sort_SorteraJIII_244) (ft_64 F) (by clear hyp; omega) (xlt_of (fl_64 F) (by clear hyp; omega)) rfl (fun f8_ => ?_)
    replace f8_ : -9223372036854775808 ≤ (xpl h 64 x9) ∧ (xpl h 64 x9) ≤ 9223372036854775807 := f8_
    refine xr_lstore (pc := 245) (i := 15) (L9 := [xR (-1), xR 64, xI x2, xI x3, xI x4, xI x5, xI x6, xZ, xI x8, xI x9, xI x10, xI x11, xI x12, xL x13, xZ, xL (xpl h 64 x9), xZ, xZ, xZ, xZ, xZ, xZ, xZ, xZ, xZ]) (hI := d_DualPivotQuicksort_sort_SorteraJIII_245) (hn := Nat.le_of_ble_eq_true rfl) (hL9 := rfl) ?_
    refine xr_aload_n (pc := 247) (i := 1) (hI := d_DualPivotQuicksort_sort_SorteraJIII_247) (hi := rfl) (hl := rfl) ?_
    refine xr_iload (pc := 248) (i := 9) (hI := d_DualPivotQuicksort_sort_SorteraJIII_248) (hl := rfl) ?_
    refine xr_aload_n (pc := 250) (i := 1) (hI := d_DualPivotQuicksort_sort_SorteraJIII_250) (hi := rfl) (hl := rfl) ?_
    refine xr_iload (pc := 251) (i := 12) (hI := d_DualPivotQuicksort_sort_SorteraJIII_251) (hl := rfl) ?_
    refine xg_laload (pc := 253) (v := (xpl h 64 x12)) (hI := d_DualPivotQuicksort_sort_SorteraJIII_253) (ft_64 F) (by clear hyp; omega) (xlt_of (fl_64 F) (by clear hyp; omega)) rfl (fun f9_ => ?_)
    replace f9_ : -9223372036854775808 ≤ (xpl h 64 x12) ∧ (xpl h 64 x12) ≤ 9223372036854775807 := f9_
    refine xr_lastore (pc := 254) (hI := d_DualPivotQuicksort_sort_SorteraJIII_254) (ft_64 F) (by decide) (by clear hyp; omega) (xlt_of (fl_64 F) (by clear hyp; omega)) ?_
    have F10_ : xFix (xst h 64 x9 (xpl h 64 x12)) := F.stA xfa_64
    refine xr_aload_n (pc := 255) (i := 1) (hI := d_DualPivotQuicksort_sort_SorteraJIII_255) (hi := rfl) (hl := rfl) ?_
    refine xr_iload (pc := 256) (i := 12) (hI := d_DualPivotQuicksort_sort_SorteraJIII_256) (hl := rfl) ?_
    refine xr_lload (pc := 258) (i := 15) (hI := d_DualPivotQuicksort_sort_SorteraJIII_258) (hl := rfl) ?_
    refine xr_lastore (pc := 260) (hI := d_DualPivotQuicksort_sort_SorteraJIII_260) (ft_64 F10_) (by decide) (by clear hyp; omega) (xlt_of (fl_64 F10_) (by clear hyp; omega)) ?_
    have F11_ : xFix (xst (xst h 64 x9 (xpl h 64 x12)) 64 x12 (xpl h 64 x9)) := F10_.stA xfa_64
    exact xr_drop (L9 := [xR (-1), xR 64, xI x2, xI x3, xI x4, xI x5, xI x6, xZ, xI x8, xI x9, xI x10, xI x11, xI x12, xL x13, xZ, xZ, xZ, xZ, xZ, xZ, xZ, xZ, xZ, xZ, xZ]) (xdrs (xdrs (xdrs (xdrs (xdrs (xdrs (xdrs (xdrs (xdrs (xdrs (xdrs (xdrs (xdrs (xdrs (xdrs (xdrz (xdrs (xdrs (xdrs (xdrs (xdrs (xdrs (xdrs (xdrs (xdrs xdr0))))))))))))))))))))))))) (hyp F11_)
theorem d_DualPivotQuicksort_sort_SorteraJIII_261 : decode prog_46_method_13_code 261 = .ok (.aload_n 1, 1) := by decide +kernel
theorem d_DualPivotQuicksort_sort_SorteraJIII_262 : decode prog_46_method_13_code 262 = .ok (.iload 11, 2) := by decide +kernel
theorem d_DualPivotQuicksort_sort_SorteraJIII_264 : decode prog_46_method_13_code 264 = .ok (.laload, 1) := by decide +kernel
theorem d_DualPivotQuicksort_sort_SorteraJIII_265 : decode prog_46_method_13_code 265 = .ok (.aload_n 1, 1) := by decide +kernel
theorem d_DualPivotQuicksort_sort_SorteraJIII_266 : decode prog_46_method_13_code 266 = .ok (.iload 8, 2) := by decide +kernel
theorem d_DualPivotQuicksort_sort_SorteraJIII_268 : decode prog_46_method_13_code 268 = .ok (.laload, 1) := by decide +kernel
theorem d_DualPivotQuicksort_sort_SorteraJIII_269 : decode prog_46_method_13_code 269 = .ok (.lcmp, 1) := by decide +kernel
theorem d_DualPivotQuicksort_sort_SorteraJIII_270 : decode prog_46_method_13_code 270 = .ok (.ifCond .ge 23, 3) := by decide +kernel
theorem d_DualPivotQuicksort_sort_SorteraJIII_273 : decode prog_46_method_13_code 273 = .ok (.aload_n 1, 1) := by decide +kernel
theorem d_DualPivotQuicksort_sort_SorteraJIII_274 : decode prog_46_method_13_code 274 = .ok (.iload 11, 2) := by decide +kernel
theorem d_DualPivotQuicksort_sort_SorteraJIII_276 : decode prog_46_method_13_code 276 = .ok (.laload, 1) := by decide +kernel
theorem d_DualPivotQuicksort_sort_SorteraJIII_277 : decode prog_46_method_13_code 277 = .ok (.lstore 15, 2) := by decide +kernel
theorem d_DualPivotQuicksort_sort_SorteraJIII_279 : decode prog_46_method_13_code 279 = .ok (.aload_n 1, 1) := by decide +kernel
theorem d_DualPivotQuicksort_sort_SorteraJIII_280 : decode prog_46_method_13_code 280 = .ok (.iload 11, 2) := by decide +kernel
theorem d_DualPivotQuicksort_sort_SorteraJIII_282 : decode prog_46_method_13_code 282 = .ok (.aload_n 1, 1) := by decide +kernel
theorem d_DualPivotQuicksort_sort_SorteraJIII_283 : decode prog_46_method_13_code 283 = .ok (.iload 8, 2) := by decide +kernel
theorem d_DualPivotQuicksort_sort_SorteraJIII_285 : decode prog_46_method_13_code 285 = .ok (.laload, 1) := by decide +kernel
theorem d_DualPivotQuicksort_sort_SorteraJIII_286 : decode prog_46_method_13_code 286 = .ok (.lastore, 1) := by decide +kernel
theorem d_DualPivotQuicksort_sort_SorteraJIII_287 : decode prog_46_method_13_code 287 = .ok (.aload_n 1, 1) := by decide +kernel
theorem d_DualPivotQuicksort_sort_SorteraJIII_288 : decode prog_46_method_13_code 288 = .ok (.iload 8, 2) := by decide +kernel
theorem d_DualPivotQuicksort_sort_SorteraJIII_290 : decode prog_46_method_13_code 290 = .ok (.lload 15, 2) := by decide +kernel
theorem d_DualPivotQuicksort_sort_SorteraJIII_292 : decode prog_46_method_13_code 292 = .ok (.lastore, 1) := by decide +kernel
theorem v_DualPivotQuicksort_sort_SorteraJIII_261 {G : XG} {d : Nat} {h : XH} {Q : XV → XH → Prop} {X : Nat → XH → Prop} {x2 x3 x4 x5 x6 x8 x9 x10 x11 x12 x13 : Int} (F : xFix h) (hyp : 0 ≤ x11 ∧ x11 < 12000 ∧ 0 ≤ x8 ∧ x8 < 12000 ∧ (((xpl h 64 x8) ≤ (xpl h 64 x11) → (xwp G m_DualPivotQuicksort_sort_SorteraJIII (d + 141) 293 [xR (-1), xR 64, xI x2, xI x3, xI x4, xI x5, xI x6, xZ, xI x8, xI x9, xI x10, xI x11, xI x12, xL x13, xZ, xZ, xZ, xZ, xZ, xZ, xZ, xZ, xZ, xZ, xZ] [] h Q X)) ∧ (¬ (xpl h 64 x8) ≤ (xpl h 64 x11) → (xFix (xst (xst h 64 x11 (xpl h 64 x8)) 64 x8 (xpl h 64 x11)) → xwp G m_DualPivotQuicksort_sort_SorteraJIII (d + 141) 293 [xR (-1), xR 64, xI x2, xI x3, xI x4, xI x5, xI x6, xZ, xI x8, xI x9, xI x10, xI x11, xI x12, xL x13, xZ, xZ, xZ, xZ, xZ, xZ, xZ, xZ, xZ, xZ, xZ] [] (xst (xst h 64 x11 (xpl h 64 x8)) 64 x8 (xpl h 64 x11)) Q X)))) : xwp G m_DualPivotQuicksort_sort_SorteraJIII (d + 141) 261 [xR (-1), xR 64, xI x2, xI x3, xI x4, xI x5, xI x6, xZ, xI x8, xI x9, xI x10, xI x11, xI x12, xL x13, xZ, xZ, xZ, xZ, xZ, xZ, xZ, xZ, xZ, xZ, xZ] [] h Q X := by
  have hnx9 : (93 : Int) ≤ xnx h := F.2.2
  refine xr_okL (fun hl9 => ?_)
  have r_x2 : -2147483648 ≤ x2 ∧ x2 ≤ 2147483647 := hl9 (xI x2) (.tail _ (.tail _ (.head _))) (Nat.le_of_ble_eq_true rfl)
  have r_x3 : -2147483648 ≤ x3 ∧ x3 ≤ 2147483647 := hl9 (xI x3) (.tail _ (.tail _ (.tail _ (.head _)))) (Nat.le_of_ble_eq_true rfl)
  have r_x4 : -2147483648 ≤ x4 ∧ x4 ≤ 2147483647 := hl9 (xI x4) (.tail _ (.tail _ (.tail _ (.tail _ (.head _))))) (Nat.le_of_ble_eq_true rfl)
  have r_x5 : -2147483648 ≤ x5 ∧ x5 ≤ 2147483647 := hl9 (xI x5) (.tail _ (.tail _ (.tail _ (.tail _ (.tail _ (.head _)))))) (Nat.le_of_ble_eq_true rfl)
  have r_x6 : -2147483648 ≤ x6 ∧ x6 ≤ 2147483647 := hl9 (xI x6) (.tail _ (.tail _ (.tail _ (.tail _ (.tail _ (.tail _ (.head _))))))) (Nat.le_of_ble_eq_true rfl)
  have r_x8 : -2147483648 ≤ x8 ∧ x8 ≤ 2147483647 := hl9 (xI x8) (.tail _ (.tail _ (.tail _ (.tail _ (.tail _ (.tail _ (.tail _ (.tail _ (.head _))))))))) (Nat.le_of_ble_eq_true rfl)
  have r_x9 : -2147483648 ≤ x9 ∧ x9 ≤ 2147483647 := hl9 (xI x9) (.tail _ (.tail _ (.tail _ (.tail _ (.tail _ (.tail _ (.tail _ (.tail _ (.tail _ (.head _)))))))))) (Nat.le_of_ble_eq_true rfl)
  have r_x10 : -2147483648 ≤ x10 ∧ x10 ≤ 2147483647 := hl9 (xI x10) (.tail _ (.tail _ (.tail _ (.tail _ (.tail _ (.tail _ (.tail _ (.tail _ (.tail _ (.tail _ (.head _))))))))))) (Nat.le_of_ble_eq_true rfl)
  have r_x11 : -2147483648 ≤ x11 ∧ x11 ≤ 2147483647 := hl9 (xI x11) (.tail _ (.tail _ (.tail _ (.tail _ (.tail _ (.tail _ (.tail _ (.tail _ (.tail _ (.tail _ (.tail _ (.head _)))))))))))) (Nat.le_of_ble_eq_true rfl)
  have r_x12 : -2147483648 ≤ x12 ∧ x12 ≤ 2147483647 := hl9 (xI x12) (.tail _ (.tail _ (.tail _ (.tail _ (.tail _ (.tail _ (.tail _ (.tail _ (.tail _ (.tail _ (.tail _ (.tail _ (.head _))))))))))))) (Nat.le_of_ble_eq_true rfl)
  have r_x13 : -9223372036854775808 ≤ x13 ∧ x13 ≤ 9223372036854775807 := hl9 (xL x13) (.tail _ (.tail _ (.tail _ (.tail _ (.tail _ (.tail _ (.tail _ (.tail _ (.tail _ (.tail _ (.tail _ (.tail _ (.tail _ (.head _)))))))))))))) (Nat.le_of_ble_eq_true rfl)
  refine xr_aload_n (pc := 261) (i := 1) (hI := d_DualPivotQuicksort_sort_SorteraJIII_261) (hi := rfl) (hl := rfl) ?_
  refine xr_iload (pc := 262) (i := 11) (hI := d_DualPivotQuicksort_sort_SorteraJIII_262) (hl := rfl) ?_
  obtain ⟨c1_, hyp⟩ := hyp
  obtain ⟨c2_, hyp⟩ := hyp
  refine xg_laload (pc := 264) (v := (xpl h 64 x11)) (hI := d_DualPivotQuicksort_sort_SorteraJIII_264) (ft_64 F) c1_ (xlt_of (fl_64 F) c2_) rfl (fun f3_ => ?_)
  replace f3_ : -9223372036854775808 ≤ (xpl h 64 x11) ∧ (xpl h 64 x11) ≤ 9223372036854775807 := f3_
  refine xr_aload_n (pc := 265) (i := 1) (hI := d_DualPivotQuicksort_sort_SorteraJIII_265) (hi := rfl) (hl := rfl) ?_
  refine xr_iload (pc := 266) (i := 8) (hI := d_DualPivotQuicksort_sort_SorteraJIII_266) (hl := rfl) ?_
  obtain ⟨c4_, hyp⟩ := hyp
  obtain ⟨c5_, hyp⟩ := hyp
  refine xg_laload (pc := 268) (v := (xpl h 64 x8)) (hI := d_DualPivotQuicksort_sort_SorteraJIII_268) (ft_64 F) c4_ (xlt_of (fl_64 F) c5_) rfl (fun f6_ => ?_)
  replace f6_ : -9223372036854775808 ≤ (xpl h 64 x8) ∧ (xpl h 64 x8) ≤ 9223372036854775807 := f6_
  refine xr_lcmp (pc := 269) (hI := d_DualPivotQuicksort_sort_SorteraJIII_269) ?_
  refine xg_lif_ge (pc := 270) (tgt := 293) (hI := d_DualPivotQuicksort_sort_SorteraJIII_270) (ht := by decide) (fun q9 => ?_) (fun q9 => ?_)
  · replace hyp := hyp.1 q9
    have q7_ := q9
    clear q9
    exact hyp
  · replace hyp := hyp.2 q9
    have q7_ := q9
    clear q9
    refine xr_aload_n (pc := 273) (i := 1) (hI := d_DualPivotQuicksort_sort_SorteraJIII_273) (hi := rfl) (hl := rfl) ?_
    refine xr_iload (pc := 274) (i := 11) (hI := d_DualPivotQuicksort_sort_SorteraJIII_274) (hl := rfl) ?_
    refine xg_laload (pc := 276) (v := (xpl h 64 x11)) (hI := d_DualPivotQuicksort_sort_SorteraJIII_276) (ft_64 F) (by clear hyp; omega) (xlt_of (fl_64 F) (by clear hyp; omega)) rfl (fun f8_ => ?_)
    replace f8_ : -9223372036854775808 ≤ (xpl h 64 x11) ∧ (xpl h 64 x11) ≤ 9223372036854775807 := f8_
    refine xr_lstore (pc := 277) (i := 15) (L9 := [xR (-1), xR 64, xI x2, xI x3, xI x4, xI x5, xI x6, xZ, xI x8, xI x9, xI x10, xI x11, xI x12, xL x13, xZ, xL (xpl h 64 x11), xZ, xZ, xZ, xZ, xZ, xZ, xZ, xZ, xZ]) (hI := d_DualPivotQuicksort_sort_SorteraJIII_277) (hn := Nat.le_of_ble_eq_true rfl) (hL9 := rfl) ?_
    refine xr_aload_n (pc := 279) (i := 1) (hI := d_DualPivotQuicksort_sort_SorteraJIII_279) (hi := rfl) (hl := rfl) ?_
    refine xr_iload (pc := 280) (i := 11) (hI := d_DualPivotQuicksort_sort_SorteraJIII_280) (hl := rfl) ?_
    refine xr_aload_n (pc := 282) (i := 1) (hI := d_DualPivotQuicksort_sort_SorteraJIII_282) (hi := rfl) (hl := rfl) ?_
    refine xr_iload (pc := 283) (i := 8) (hI := d_DualPivotQuicksort_sort_SorteraJIII_283) (hl := rfl) ?_
    refine xg_laload (pc := 285) (v := (xpl h 64 x8)) (hI := d_DualPivotQuicksort_sort_SorteraJIII_285) (ft_64 F) (by clear hyp; omega) (xlt_of (fl_64 F) (by clear hyp; omega)) rfl (fun f9_ => ?_)
    replace f9_ : -9223372036854775808 ≤ (xpl h 64 x8) ∧ (xpl h 64 x8) ≤ 9223372036854775807 := f9_
    refine xr_lastore (pc := 286) (hI := d_DualPivotQuicksort_sort_SorteraJIII_286) (ft_64 F) (by decide) (by clear hyp; omega) (xlt_of (fl_64 F) (by clear hyp; omega)) ?_
    have F10_ : xFix (xst h 64 x11 (xpl h 64 x8)) := F.stA xfa_64
    refine xr_aload_n (pc := 287) (i := 1) (hI := d_DualPivotQuicksort_sort_SorteraJIII_287) (hi := rfl) (hl := rfl) ?_
    refine xr_iload (pc := 288) (i := 8) (hI := d_DualPivotQuicksort_sort_SorteraJIII_288) (hl := rfl) ?_
    refine xr_lload (pc := 290) (i := 15) (hI := d_DualPivotQuicksort_sort_SorteraJIII_290) (hl := rfl) ?_
    refine xr_lastore (pc := 292) (hI := d_DualPivotQuicksort_sort_SorteraJIII_292) (ft_64 F10_) (by decide) (by clear hyp; omega) (xlt_of (fl_64 F10_) (by clear hyp; omega)) ?_
    have F11_ : xFix (xst (xst h 64 x11 (xpl h 64 x8)) 64 x8 (xpl h 64 x11)) := F10_.stA xfa_64
    exact xr_drop (L9 := [xR (-1), xR 64, xI x2, xI x3, xI x4, xI x5, xI x6, xZ, xI x8, xI x9, xI x10, xI x11, xI x12, xL x13, xZ, xZ, xZ, xZ, xZ, xZ, xZ, xZ, xZ, xZ, xZ]) (xdrs (xdrs (xdrs (xdrs (xdrs (xdrs (xdrs (xdrs (xdrs (xdrs (xdrs (xdrs (xdrs (xdrs (xdrs (xdrz (xdrs (xdrs (xdrs (xdrs (xdrs (xdrs (xdrs (xdrs (xdrs xdr0))))))))))))))))))))))))) (hyp F11_)
theorem d_DualPivotQuicksort_sort_SorteraJIII_293 : decode prog_46_method_13_code 293 = .ok (.aload_n 1, 1) := by decide +kernel
theorem d_DualPivotQuicksort_sort_SorteraJIII_294 : decode prog_46_method_13_code 294 = .ok (.iload 12, 2) := by decide +kernel
theorem d_DualPivotQuicksort_sort_SorteraJIII_296 : decode prog_46_method_13_code 296 = .ok (.laload, 1) := by decide +kernel
theorem d_DualPivotQuicksort_sort_SorteraJIII_297 : decode prog_46_method_13_code 297 = .ok (.aload_n 1, 1) := by decide +kernel
theorem d_DualPivotQuicksort_sort_SorteraJIII_298 : decode prog_46_method_13_code 298 = .ok (.iload 11, 2) := by decide +kernel
theorem d_DualPivotQuicksort_sort_SorteraJIII_300 : decode prog_46_method_13_code 300 = .ok (.laload, 1) := by decide +kernel
theorem d_DualPivotQuicksort_sort_SorteraJIII_301 : decode prog_46_method_13_code 301 = .ok (.lcmp, 1) := by decide +kernel
theorem d_DualPivotQuicksort_sort_SorteraJIII_302 : decode prog_46_method_13_code 302 = .ok (.ifCond .ge 23, 3) := by decide +kernel
theorem d_DualPivotQuicksort_sort_SorteraJIII_305 : decode prog_46_method_13_code 305 = .ok (.aload_n 1, 1) := by decide +kernel
theorem d_DualPivotQuicksort_sort_SorteraJIII_306 : decode prog_46_method_13_code 306 = .ok (.iload 12, 2) := by decide +kernel
theorem d_DualPivotQuicksort_sort_SorteraJIII_308 : decode prog_46_method_13_code 308 = .ok (.laload, 1) := by decide +kernel
theorem d_DualPivotQuicksort_sort_SorteraJIII_309 : decode prog_46_method_13_code 309 = .ok (.lstore 15, 2) := by decide +kernel
theorem d_DualPivotQuicksort_sort_SorteraJIII_311 : decode prog_46_method_13_code 311 = .ok (.aload_n 1, 1) := by decide +kernel
theorem d_DualPivotQuicksort_sort_SorteraJIII_312 : decode prog_46_method_13_code 312 = .ok (.iload 12, 2) := by decide +kernel
theorem d_DualPivotQuicksort_sort_SorteraJIII_314 : decode prog_46_method_13_code 314 = .ok (.aload_n 1, 1) := by decide +kernel
theorem d_DualPivotQuicksort_sort_SorteraJIII_315 : decode prog_46_method_13_code 315 = .ok (.iload 11, 2) := by decide +kernel
theorem d_DualPivotQuicksort_sort_SorteraJIII_317 : decode prog_46_method_13_code 317 = .ok (.laload, 1) := by decide +kernel
theorem d_DualPivotQuicksort_sort_SorteraJIII_318 : decode prog_46_method_13_code 318 = .ok (.lastore, 1) := by decide +kernel
theorem d_DualPivotQuicksort_sort_SorteraJIII_319 : decode prog_46_method_13_code 319 = .ok (.aload_n 1, 1) := by decide +kernel
theorem d_DualPivotQuicksort_sort_SorteraJIII_320 : decode prog_46_method_13_code 320 = .ok (.iload 11, 2) := by decide +kernel
theorem d_DualPivotQuicksort_sort_SorteraJIII_322 : decode prog_46_method_13_code 322 = .ok (.lload 15, 2) := by decide +kernel
theorem d_DualPivotQuicksort_sort_SorteraJIII_324 : decode prog_46_method_13_code 324 = .ok (.lastore, 1) := by decide +kernel
theorem v_DualPivotQuicksort_sort_SorteraJIII_293 {G : XG} {d : Nat} {h : XH} {Q : XV → XH → Prop} {X : Nat → XH → Prop} {x2 x3 x4 x5 x6 x8 x9 x10 x11 x12 x13 : Int} (F : xFix h) (hyp : 0 ≤ x12 ∧ x12 < 12000 ∧ 0 ≤ x11 ∧ x11 < 12000 ∧ (((xpl h 64 x11) ≤ (xpl h 64 x12) → (xwp G m_DualPivotQuicksort_sort_SorteraJIII (d + 141) 325 [xR (-1), xR 64, xI x2, xI x3, xI x4, xI x5, xI x6, xZ, xI x8, xI x9, xI x10, xI x11, xI x12, xL x13, xZ, xZ, xZ, xZ, xZ, xZ, xZ, xZ, xZ, xZ, xZ] [] h Q X)) ∧ (¬ (xpl h 64 x11) ≤ (xpl h 64 x12) → (xFix (xst (xst h 64 x12 (xpl h 64 x11)) 64 x11 (xpl h 64 x12)) → xwp G m_DualPivotQuicksort_sort_SorteraJIII (d + 141) 325 [xR (-1), xR 64, xI x2, xI x3, xI x4, xI x5, xI x6, xZ, xI x8, xI x9, xI x10, xI x11, xI x12, xL x13, xZ, xZ, xZ, xZ, xZ, xZ, xZ, xZ, xZ, xZ, xZ] [] (xst (xst h 64 x12 (xpl h 64 x11)) 64 x11 (xpl h 64 x12)) Q X)))) : xwp G m_DualPivotQuicksort_sort_SorteraJIII (d + 141) 293 [xR (-1), xR 64, xI x2, xI x3, xI x4, xI x5, xI x6, xZ, xI x8, xI x9, xI x10, xI x11, xI x12, xL x13, xZ, xZ, xZ, xZ, xZ, xZ, xZ, xZ, xZ, xZ, xZ] [] h Q X := by
  have hnx9 : (93 : Int) ≤ xnx h := F.2.2
  refine xr_okL (fun hl9 => ?_)
  have r_x2 : -2147483648 ≤ x2 ∧ x2 ≤ 2147483647 := hl9 (xI x2) (.tail _ (.tail _ (.head _))) (Nat.le_of_ble_eq_true rfl)
  have r_x3 : -2147483648 ≤ x3 ∧ x3 ≤ 2147483647 := hl9 (xI x3) (.tail _ (.tail _ (.tail _ (.head _)))) (Nat.le_of_ble_eq_true rfl)
  have r_x4 : -2147483648 ≤ x4 ∧ x4 ≤ 2147483647 := hl9 (xI x4) (.tail _ (.tail _ (.tail _ (.tail _ (.head _))))) (Nat.le_of_ble_eq_true rfl)
  have r_x5 : -2147483648 ≤ x5 ∧ x5 ≤ 2147483647 := hl9 (xI x5) (.tail _ (.tail _ (.tail _ (.tail _ (.tail _ (.head _)))))) (Nat.le_of_ble_eq_true rfl)
  have r_x6 : -2147483648 ≤ x6 ∧ x6 ≤ 2147483647 := hl9 (xI x6) (.tail _ (.tail _ (.tail _ (.tail _ (.tail _ (.tail _ (.head _))))))) (Nat.le_of_ble_eq_true rfl)
  have r_x8 : -2147483648 ≤ x8 ∧ x8 ≤ 2147483647 := hl9 (xI x8) (.tail _ (.tail _ (.tail _ (.tail _ (.tail _ (.tail _ (.tail _ (.tail _ (.head _))))))))) (Nat.le_of_ble_eq_true rfl)
  have r_x9 : -2147483648 ≤ x9 ∧ x9 ≤ 2147483647 := hl9 (xI x9) (.tail _ (.tail _ (.tail _ (.tail _ (.tail _ (.tail _ (.tail _ (.tail _ (.tail _ (.head _)))))))))) (Nat.le_of_ble_eq_true rfl)
  have r_x10 : -2147483648 ≤ x10 ∧ x10 ≤ 2147483647 := hl9 (xI x10) (.tail _ (.tail _ (.tail _ (.tail _ (.tail _ (.tail _ (.tail _ (.tail _ (.tail _ (.tail _ (.head _))))))))))) (Nat.le_of_ble_eq_true rfl)
  have r_x11 : -2147483648 ≤ x11 ∧ x11 ≤ 2147483647 := hl9 (xI x11) (.tail _ (.tail _ (.tail _ (.tail _ (.tail _ (.tail _ (.tail _ (.tail _ (.tail _ (.tail _ (.tail _ (.head _)))))))))))) (Nat.le_of_ble_eq_true rfl)
  have r_x12 : -2147483648 ≤ x12 ∧ x12 ≤ 2147483647 := hl9 (xI x12) (.tail _ (.tail _ (.tail _ (.tail _ (.tail _ (.tail _ (.tail _ (.tail _ (.tail _ (.tail _ (.tail _ (.tail _ (.head _))))))))))))) (Nat.le_of_ble_eq_true rfl)
  have r_x13 : -9223372036854775808 ≤ x13 ∧ x13 ≤ 9223372036854775807 := hl9 (xL x13) (.tail _ (.tail _ (.tail _ (.tail _ (.tail _ (.tail _ (.tail _ (.tail _ (.tail _ (.tail _ (.tail _ (.tail _ (.tail _ (.head _)))))))))))))) (Nat.le_of_ble_eq_true rfl)
  refine xr_aload_n (pc := 293) (i := 1) (hI := d_DualPivotQuicksort_sort_SorteraJIII_293) (hi := rfl) (hl := rfl) ?_
  refine xr_iload (pc := 294) (i := 12) (hI := d_DualPivotQuicksort_sort_SorteraJIII_294) (hl := rfl) ?_
  obtain ⟨c1_, hyp⟩ := hyp
  obtain ⟨c2_, hyp⟩ := hyp
  refine xg_laload (pc := 296) (v := (xpl h 64 x12)) (hI := d_DualPivotQuicksort_sort_SorteraJIII_296) (ft_64 F) c1_ (xlt_of (fl_64 F) c2_) rfl (fun f3_ => ?_)
  replace f3_ : -9223372036854775808 ≤ (xpl h 64 x12) ∧ (xpl h 64 x12) ≤ 9223372036854775807 := f3_
  refine xr_aload_n (pc := 297) (i := 1) (hI := d_DualPivotQuicksort_sort_SorteraJIII_297) (hi := rfl) (hl := rfl) ?_
  refine xr_iload (pc := 298) (i := 11) (hI := d_DualPivotQuicksort_sort_SorteraJIII_298) (hl := rfl) ?_
  obtain ⟨c4_, hyp⟩ := hyp
  obtain ⟨c5_, hyp⟩ := hyp
  refine xg_laload (pc := 300) (v := (xpl h 64 x11)) (hI := d_DualPivotQuicksort_sort_SorteraJIII_300) (ft_64 F) c4_ (xlt_of (fl_64 F) c5_) rfl (fun f6_ => ?_)
  replace f6_ : -9223372036854775808 ≤ (xpl h 64 x11) ∧ (xpl h 64 x11) ≤ 9223372036854775807 := f6_
  refine xr_lcmp (pc := 301) (hI := d_DualPivotQuicksort_sort_SorteraJIII_301) ?_
  refine xg_lif_ge (pc := 302) (tgt := 325) (hI := d_DualPivotQuicksort_sort_SorteraJIII_302) (ht := by decide) (fun q9 => ?_) (fun q9 => ?_)
  · replace hyp := hyp.1 q9
    have q7_ := q9
    clear q9
    exact hyp
  · replace hyp := hyp.2 q9
    have q7_ := q9
    clear q9
    refine xr_aload_n (pc := 305) (i := 1) (hI := d_DualPivotQuicksort_sort_SorteraJIII_305) (hi := rfl) (hl := rfl) ?_
    refine xr_iload (pc := 306) (i := 12) (hI := d_DualPivotQuicksort_sort_SorteraJIII_306) (hl := rfl) ?_
    refine xg_laload (pc := 308) (v := (xpl h 64 x12)) (hI := d_DualPivotQuicksort_sort_SorteraJIII_308) (ft_64 F) (by clear hyp; omega) (xlt_of (fl_64 F) (by clear hyp; omega)) rfl (fun f8_ => ?_)
    replace f8_ : -9223372036854775808 ≤ (xpl h 64 x12) ∧ (xpl h 64 x12) ≤ 9223372036854775807 := f8_
    refine xr_lstore (pc := 309) (i := 15) (L9 := [xR (-1), xR 64, xI x2, xI x3, xI x4, xI x5, xI x6, xZ, xI x8, xI x9, xI x10, xI x11, xI x12, xL x13, xZ, xL (xpl h 64 x12), xZ, xZ, xZ, xZ, xZ, xZ, xZ, xZ, xZ]) (hI := d_DualPivotQuicksort_sort_SorteraJIII_309) (hn := Nat.le_of_ble_eq_true rfl) (hL9 := rfl) ?_
    refine xr_aload_n (pc := 311) (i := 1) (hI := d_DualPivotQuicksort_sort_SorteraJIII_311) (hi := rfl) (hl := rfl) ?_
    refine xr_iload (pc := 312) (i := 12) (hI := d_DualPivotQuicksort_sort_SorteraJIII_312) (hl := rfl) ?_
    refine xr_aload_n (pc := 314) (i := 1) (hI := d_DualPivotQuicksort_sort_SorteraJIII_314) (hi := rfl) (hl := rfl) ?_
    refine xr_iload (pc := 315) (i := 11) (hI := d_DualPivotQuicksort_sort_SorteraJIII_315) (hl := rfl) ?_
    refine xg_laload (pc := 317) (v := (xpl h 64 x11)) (hI := d_DualPivotQuicksort_sort_SorteraJIII_317) (ft_64 F) (by clear hyp; omega) (xlt_of (fl_64 F) (by clear hyp; omega)) rfl (fun f9_ => ?_)
    replace f9_ : -9223372036854775808 ≤ (xpl h 64 x11) ∧ (xpl h 64 x11) ≤ 9223372036854775807 := f9_
    refine xr_lastore (pc := 318) (hI := d_DualPivotQuicksort_sort_SorteraJIII_318) (ft_64 F) (by decide) (by clear hyp; omega) (xlt_of (fl_64 F) (by clear hyp; omega)) ?_
    have F10_ : xFix (xst h 64 x12 (xpl h 64 x11)) := F.stA xfa_64
    refine xr_aload_n (pc := 319) (i := 1) (hI := d_DualPivotQuicksort_sort_SorteraJIII_319) (hi := rfl) (hl := rfl) ?_
    refine xr_iload (pc := 320) (i := 11) (hI := d_DualPivotQuicksort_sort_SorteraJIII_320) (hl := rfl) ?_
    refine xr_lload (pc := 322) (i := 15) (hI := d_DualPivotQuicksort_sort_SorteraJIII_322) (hl := rfl) ?_
    refine xr_lastore (pc := 324) (hI := d_DualPivotQuicksort_sort_SorteraJIII_324) (ft_64 F10_) (by decide) (by clear hyp; omega) (xlt_of (fl_64 F10_) (by clear hyp; omega)) ?_
    have F11_ : xFix (xst (xst h 64 x12 (xpl h 64 x11)) 64 x11 (xpl h 64 x12)) := F10_.stA xfa_64
    exact xr_drop (L9 := [xR (-1), xR 64, xI x2, xI x3, xI x4, xI x5, xI x6, xZ, xI x8, xI x9, xI x10, xI x11, xI x12, xL x13, xZ, xZ, xZ, xZ, xZ, xZ, xZ, xZ, xZ, xZ, xZ]) (xdrs (xdrs (xdrs (xdrs (xdrs (xdrs (xdrs (xdrs (xdrs (xdrs (xdrs (xdrs (xdrs (xdrs (xdrs (xdrz (xdrs (xdrs (xdrs (xdrs (xdrs (xdrs (xdrs (xdrs (xdrs xdr0))))))))))))))))))))))))) (hyp F11_)

end
