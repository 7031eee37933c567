/-! ===== voc4 ===== -/
section
abbrev m_Vocabulary_costAt : XM := (⟨"BeaconIndex$Vocabulary", "costAt", "(II)I"⟩, prog_11_method_11_code, 4, (some .int), [])
theorem d_Vocabulary_costAt_0 : decode prog_11_method_11_code 0 = .ok (.iload_n 1, 1) := by decide +kernel
theorem d_Vocabulary_costAt_1 : decode prog_11_method_11_code 1 = .ok (.ifCond .eq 7, 3) := by decide +kernel
theorem d_Vocabulary_costAt_8 : decode prog_11_method_11_code 8 = .ok (.iload_n 1, 1) := by decide +kernel
theorem d_Vocabulary_costAt_9 : decode prog_11_method_11_code 9 = .ok (.iload_n 2, 1) := by decide +kernel
theorem d_Vocabulary_costAt_10 : decode prog_11_method_11_code 10 = .ok (.iadd, 1) := by decide +kernel
theorem d_Vocabulary_costAt_11 : decode prog_11_method_11_code 11 = .ok (.ireturn, 1) := by decide +kernel
theorem d_Vocabulary_costAt_4 : decode prog_11_method_11_code 4 = .ok (.iload_n 2, 1) := by decide +kernel
theorem d_Vocabulary_costAt_5 : decode prog_11_method_11_code 5 = .ok (.ifCond .ne 7, 3) := by decide +kernel
theorem d_Vocabulary_costAt_12 : decode prog_11_method_11_code 12 = .ok (.aload_n 0, 1) := by decide +kernel
theorem d_Vocabulary_costAt_13 : decode prog_11_method_11_code 13 = .ok (.getfield 28, 3) := by decide +kernel
theorem w_184 : Cond.fieldLink "BeaconIndex$Vocabulary" 28 "BeaconIndex$Vocabulary" "costs" "[[I" ∈ lw_tbl := List.mem_append_right _ (List.mem_of_getElem? (i := 184) (by decide +kernel))
theorem d_Vocabulary_costAt_16 : decode prog_11_method_11_code 16 = .ok (.iload_n 1, 1) := by decide +kernel
theorem d_Vocabulary_costAt_17 : decode prog_11_method_11_code 17 = .ok (.iconst 1, 1) := by decide +kernel
theorem d_Vocabulary_costAt_18 : decode prog_11_method_11_code 18 = .ok (.isub, 1) := by decide +kernel
theorem d_Vocabulary_costAt_19 : decode prog_11_method_11_code 19 = .ok (.aaload, 1) := by decide +kernel
theorem d_Vocabulary_costAt_20 : decode prog_11_method_11_code 20 = .ok (.iload_n 2, 1) := by decide +kernel
theorem d_Vocabulary_costAt_21 : decode prog_11_method_11_code 21 = .ok (.iconst 1, 1) := by decide +kernel
theorem d_Vocabulary_costAt_22 : decode prog_11_method_11_code 22 = .ok (.isub, 1) := by decide +kernel
theorem d_Vocabulary_costAt_23 : decode prog_11_method_11_code 23 = .ok (.iaload, 1) := by decide +kernel
theorem d_Vocabulary_costAt_24 : decode prog_11_method_11_code 24 = .ok (.aload_n 0, 1) := by decide +kernel
theorem d_Vocabulary_costAt_25 : decode prog_11_method_11_code 25 = .ok (.getfield 31, 3) := by decide +kernel
theorem w_185 : Cond.fieldLink "BeaconIndex$Vocabulary" 31 "BeaconIndex$Vocabulary" "from" "[I" ∈ lw_tbl := List.mem_append_right _ (List.mem_of_getElem? (i := 185) (by decide +kernel))
theorem d_Vocabulary_costAt_28 : decode prog_11_method_11_code 28 = .ok (.iload_n 1, 1) := by decide +kernel
theorem d_Vocabulary_costAt_29 : decode prog_11_method_11_code 29 = .ok (.iconst 1, 1) := by decide +kernel
theorem d_Vocabulary_costAt_30 : decode prog_11_method_11_code 30 = .ok (.isub, 1) := by decide +kernel
theorem d_Vocabulary_costAt_31 : decode prog_11_method_11_code 31 = .ok (.iaload, 1) := by decide +kernel
theorem d_Vocabulary_costAt_32 : decode prog_11_method_11_code 32 = .ok (.aload_n 0, 1) := by decide +kernel
theorem d_Vocabulary_costAt_33 : decode prog_11_method_11_code 33 = .ok (.getfield 34, 3) := by decide +kernel
theorem w_186 : Cond.fieldLink "BeaconIndex$Vocabulary" 34 "BeaconIndex$Vocabulary" "to" "[I" ∈ lw_tbl := List.mem_append_right _ (List.mem_of_getElem? (i := 186) (by decide +kernel))
theorem d_Vocabulary_costAt_36 : decode prog_11_method_11_code 36 = .ok (.iload_n 2, 1) := by decide +kernel
theorem d_Vocabulary_costAt_37 : decode prog_11_method_11_code 37 = .ok (.iconst 1, 1) := by decide +kernel
theorem d_Vocabulary_costAt_38 : decode prog_11_method_11_code 38 = .ok (.isub, 1) := by decide +kernel
theorem d_Vocabulary_costAt_39 : decode prog_11_method_11_code 39 = .ok (.iaload, 1) := by decide +kernel
theorem d_Vocabulary_costAt_40 : decode prog_11_method_11_code 40 = .ok (.if_icmp .ne 7, 3) := by decide +kernel
theorem d_Vocabulary_costAt_47 : decode prog_11_method_11_code 47 = .ok (.iconst 1, 1) := by decide +kernel
theorem d_Vocabulary_costAt_48 : decode prog_11_method_11_code 48 = .ok (.iadd, 1) := by decide +kernel
theorem d_Vocabulary_costAt_49 : decode prog_11_method_11_code 49 = .ok (.istore_n 3, 1) := by decide +kernel
theorem d_Vocabulary_costAt_50 : decode prog_11_method_11_code 50 = .ok (.iload_n 3, 1) := by decide +kernel
theorem d_Vocabulary_costAt_51 : decode prog_11_method_11_code 51 = .ok (.aload_n 0, 1) := by decide +kernel
theorem d_Vocabulary_costAt_52 : decode prog_11_method_11_code 52 = .ok (.getfield 28, 3) := by decide +kernel
theorem d_Vocabulary_costAt_55 : decode prog_11_method_11_code 55 = .ok (.iload_n 1, 1) := by decide +kernel
theorem d_Vocabulary_costAt_56 : decode prog_11_method_11_code 56 = .ok (.iconst 1, 1) := by decide +kernel
theorem d_Vocabulary_costAt_57 : decode prog_11_method_11_code 57 = .ok (.isub, 1) := by decide +kernel
theorem d_Vocabulary_costAt_58 : decode prog_11_method_11_code 58 = .ok (.aaload, 1) := by decide +kernel
theorem d_Vocabulary_costAt_59 : decode prog_11_method_11_code 59 = .ok (.iload_n 2, 1) := by decide +kernel
theorem d_Vocabulary_costAt_60 : decode prog_11_method_11_code 60 = .ok (.iaload, 1) := by decide +kernel
theorem d_Vocabulary_costAt_61 : decode prog_11_method_11_code 61 = .ok (.iconst 1, 1) := by decide +kernel
theorem d_Vocabulary_costAt_62 : decode prog_11_method_11_code 62 = .ok (.iadd, 1) := by decide +kernel
theorem d_Vocabulary_costAt_63 : decode prog_11_method_11_code 63 = .ok (.invokestatic 91, 3) := by decide +kernel
theorem w_936 : Cond.methodLink "BeaconIndex$Vocabulary" 91 ⟨"java/lang/Math", "min", "(II)I"⟩ ∈ lw_tbl := List.mem_append_right _ (List.mem_of_getElem? (i := 936) (by decide +kernel))
theorem d_Vocabulary_costAt_66 : decode prog_11_method_11_code 66 = .ok (.istore_n 3, 1) := by decide +kernel
theorem d_Vocabulary_costAt_67 : decode prog_11_method_11_code 67 = .ok (.iload_n 3, 1) := by decide +kernel
theorem d_Vocabulary_costAt_68 : decode prog_11_method_11_code 68 = .ok (.aload_n 0, 1) := by decide +kernel
theorem d_Vocabulary_costAt_69 : decode prog_11_method_11_code 69 = .ok (.getfield 28, 3) := by decide +kernel
theorem d_Vocabulary_costAt_72 : decode prog_11_method_11_code 72 = .ok (.iload_n 1, 1) := by decide +kernel
theorem d_Vocabulary_costAt_73 : decode prog_11_method_11_code 73 = .ok (.aaload, 1) := by decide +kernel
theorem d_Vocabulary_costAt_74 : decode prog_11_method_11_code 74 = .ok (.iload_n 2, 1) := by decide +kernel
theorem d_Vocabulary_costAt_75 : decode prog_11_method_11_code 75 = .ok (.iconst 1, 1) := by decide +kernel
theorem d_Vocabulary_costAt_76 : decode prog_11_method_11_code 76 = .ok (.isub, 1) := by decide +kernel
theorem d_Vocabulary_costAt_77 : decode prog_11_method_11_code 77 = .ok (.iaload, 1) := by decide +kernel
theorem d_Vocabulary_costAt_78 : decode prog_11_method_11_code 78 = .ok (.iconst 1, 1) := by decide +kernel
theorem d_Vocabulary_costAt_79 : decode prog_11_method_11_code 79 = .ok (.iadd, 1) := by decide +kernel
theorem d_Vocabulary_costAt_80 : decode prog_11_method_11_code 80 = .ok (.invokestatic 91, 3) := by decide +kernel
theorem d_Vocabulary_costAt_83 : decode prog_11_method_11_code 83 = .ok (.istore_n 3, 1) := by decide +kernel
theorem d_Vocabulary_costAt_84 : decode prog_11_method_11_code 84 = .ok (.iload_n 1, 1) := by decide +kernel
theorem d_Vocabulary_costAt_85 : decode prog_11_method_11_code 85 = .ok (.iconst 1, 1) := by decide +kernel
theorem d_Vocabulary_costAt_86 : decode prog_11_method_11_code 86 = .ok (.if_icmp .le 65, 3) := by decide +kernel
theorem d_Vocabulary_costAt_151 : decode prog_11_method_11_code 151 = .ok (.iload_n 3, 1) := by decide +kernel
theorem d_Vocabulary_costAt_152 : decode prog_11_method_11_code 152 = .ok (.ireturn, 1) := by decide +kernel
theorem d_Vocabulary_costAt_89 : decode prog_11_method_11_code 89 = .ok (.iload_n 2, 1) := by decide +kernel
theorem d_Vocabulary_costAt_90 : decode prog_11_method_11_code 90 = .ok (.iconst 1, 1) := by decide +kernel
theorem d_Vocabulary_costAt_91 : decode prog_11_method_11_code 91 = .ok (.if_icmp .le 60, 3) := by decide +kernel
theorem d_Vocabulary_costAt_94 : decode prog_11_method_11_code 94 = .ok (.aload_n 0, 1) := by decide +kernel
theorem d_Vocabulary_costAt_95 : decode prog_11_method_11_code 95 = .ok (.getfield 31, 3) := by decide +kernel
theorem d_Vocabulary_costAt_98 : decode prog_11_method_11_code 98 = .ok (.iload_n 1, 1) := by decide +kernel
theorem d_Vocabulary_costAt_99 : decode prog_11_method_11_code 99 = .ok (.iconst 1, 1) := by decide +kernel
theorem d_Vocabulary_costAt_100 : decode prog_11_method_11_code 100 = .ok (.isub, 1) := by decide +kernel
theorem d_Vocabulary_costAt_101 : decode prog_11_method_11_code 101 = .ok (.iaload, 1) := by decide +kernel
theorem d_Vocabulary_costAt_102 : decode prog_11_method_11_code 102 = .ok (.aload_n 0, 1) := by decide +kernel
theorem d_Vocabulary_costAt_103 : decode prog_11_method_11_code 103 = .ok (.getfield 34, 3) := by decide +kernel
theorem d_Vocabulary_costAt_106 : decode prog_11_method_11_code 106 = .ok (.iload_n 2, 1) := by decide +kernel
theorem d_Vocabulary_costAt_107 : decode prog_11_method_11_code 107 = .ok (.iconst 2, 1) := by decide +kernel
theorem d_Vocabulary_costAt_108 : decode prog_11_method_11_code 108 = .ok (.isub, 1) := by decide +kernel
theorem d_Vocabulary_costAt_109 : decode prog_11_method_11_code 109 = .ok (.iaload, 1) := by decide +kernel
theorem d_Vocabulary_costAt_110 : decode prog_11_method_11_code 110 = .ok (.if_icmp .ne 41, 3) := by decide +kernel
theorem d_Vocabulary_costAt_113 : decode prog_11_method_11_code 113 = .ok (.aload_n 0, 1) := by decide +kernel
theorem d_Vocabulary_costAt_114 : decode prog_11_method_11_code 114 = .ok (.getfield 31, 3) := by decide +kernel
theorem d_Vocabulary_costAt_117 : decode prog_11_method_11_code 117 = .ok (.iload_n 1, 1) := by decide +kernel
theorem d_Vocabulary_costAt_118 : decode prog_11_method_11_code 118 = .ok (.iconst 2, 1) := by decide +kernel
theorem d_Vocabulary_costAt_119 : decode prog_11_method_11_code 119 = .ok (.isub, 1) := by decide +kernel
theorem d_Vocabulary_costAt_120 : decode prog_11_method_11_code 120 = .ok (.iaload, 1) := by decide +kernel
theorem d_Vocabulary_costAt_121 : decode prog_11_method_11_code 121 = .ok (.aload_n 0, 1) := by decide +kernel
theorem d_Vocabulary_costAt_122 : decode prog_11_method_11_code 122 = .ok (.getfield 34, 3) := by decide +kernel
theorem d_Vocabulary_costAt_125 : decode prog_11_method_11_code 125 = .ok (.iload_n 2, 1) := by decide +kernel
theorem d_Vocabulary_costAt_126 : decode prog_11_method_11_code 126 = .ok (.iconst 1, 1) := by decide +kernel
theorem d_Vocabulary_costAt_127 : decode prog_11_method_11_code 127 = .ok (.isub, 1) := by decide +kernel
theorem d_Vocabulary_costAt_128 : decode prog_11_method_11_code 128 = .ok (.iaload, 1) := by decide +kernel
theorem d_Vocabulary_costAt_129 : decode prog_11_method_11_code 129 = .ok (.if_icmp .ne 22, 3) := by decide +kernel
theorem d_Vocabulary_costAt_132 : decode prog_11_method_11_code 132 = .ok (.iload_n 3, 1) := by decide +kernel
theorem d_Vocabulary_costAt_133 : decode prog_11_method_11_code 133 = .ok (.aload_n 0, 1) := by decide +kernel
theorem d_Vocabulary_costAt_134 : decode prog_11_method_11_code 134 = .ok (.getfield 28, 3) := by decide +kernel
theorem d_Vocabulary_costAt_137 : decode prog_11_method_11_code 137 = .ok (.iload_n 1, 1) := by decide +kernel
theorem d_Vocabulary_costAt_138 : decode prog_11_method_11_code 138 = .ok (.iconst 2, 1) := by decide +kernel
theorem d_Vocabulary_costAt_139 : decode prog_11_method_11_code 139 = .ok (.isub, 1) := by decide +kernel
theorem d_Vocabulary_costAt_140 : decode prog_11_method_11_code 140 = .ok (.aaload, 1) := by decide +kernel
theorem d_Vocabulary_costAt_141 : decode prog_11_method_11_code 141 = .ok (.iload_n 2, 1) := by decide +kernel
theorem d_Vocabulary_costAt_142 : decode prog_11_method_11_code 142 = .ok (.iconst 2, 1) := by decide +kernel
theorem d_Vocabulary_costAt_143 : decode prog_11_method_11_code 143 = .ok (.isub, 1) := by decide +kernel
theorem d_Vocabulary_costAt_144 : decode prog_11_method_11_code 144 = .ok (.iaload, 1) := by decide +kernel
theorem d_Vocabulary_costAt_145 : decode prog_11_method_11_code 145 = .ok (.iconst 1, 1) := by decide +kernel
theorem d_Vocabulary_costAt_146 : decode prog_11_method_11_code 146 = .ok (.iadd, 1) := by decide +kernel
theorem d_Vocabulary_costAt_147 : decode prog_11_method_11_code 147 = .ok (.invokestatic 91, 3) := by decide +kernel
theorem d_Vocabulary_costAt_150 : decode prog_11_method_11_code 150 = .ok (.istore_n 3, 1) := by decide +kernel
theorem d_Vocabulary_costAt_43 : decode prog_11_method_11_code 43 = .ok (.iconst 0, 1) := by decide +kernel
theorem d_Vocabulary_costAt_44 : decode prog_11_method_11_code 44 = .ok (.goto 4, 3) := by decide +kernel
theorem v_Vocabulary_costAt_0 {G : XG} {d : Nat} {h : XH} {Q : XV → XH → Prop} {X : Nat → XH → Prop} {x1 x2 : Int} (F : xFix h) (hyp : ((x1 = 0 → (Q (xI (x1 + x2)) h)) ∧ (¬ x1 = 0 → ((x2 = 0 → (Q (xI (x1 + x2)) h)) ∧ (¬ x2 = 0 → xiR (x1 - 1) ∧ 0 ≤ (x1 - 1) ∧ (x1 - 1) < 13 ∧ xiR (x2 - 1) ∧ xtg h (xpl h 16 (x1 - 1)) = 100 ∧ 0 ≤ (x2 - 1) ∧ (x2 - 1) < (xln h (xpl h 16 (x1 - 1))) ∧ (x1 - 1) < 12 ∧ (x2 - 1) < 12 ∧ (((xpl h 30 (x1 - 1)) = (xpl h 31 (x2 - 1)) → x2 < (xln h (xpl h 16 (x1 - 1))) ∧ xiR ((xpl h (xpl h 16 (x1 - 1)) x2) + 1) ∧ xtg h (xpl h 16 x1) = 100 ∧ (x2 - 1) < (xln h (xpl h 16 x1)) ∧ xiR ((xpl h (xpl h 16 x1) (x2 - 1)) + 1) ∧ ((x1 ≤ 1 → (Q (xI (min (min ((xpl h (xpl h 16 (x1 - 1)) (x2 - 1)) + 0) ((xpl h (xpl h 16 (x1 - 1)) x2) + 1)) ((xpl h (xpl h 16 x1) (x2 - 1)) + 1))) h)) ∧ (¬ x1 ≤ 1 → ((x2 ≤ 1 → (Q (xI (min (min ((xpl h (xpl h 16 (x1 - 1)) (x2 - 1)) + 0) ((xpl h (xpl h 16 (x1 - 1)) x2) + 1)) ((xpl h (xpl h 16 x1) (x2 - 1)) + 1))) h)) ∧ (¬ x2 ≤ 1 → (((xpl h 30 (x1 - 1)) = (xpl h 31 (x2 - 2)) → (((xpl h 30 (x1 - 2)) = (xpl h 31 (x2 - 1)) → xtg h (xpl h 16 (x1 - 2)) = 100 ∧ (x2 - 2) < (xln h (xpl h 16 (x1 - 2))) ∧ xiR ((xpl h (xpl h 16 (x1 - 2)) (x2 - 2)) + 1) ∧ (Q (xI (min (min (min ((xpl h (xpl h 16 (x1 - 1)) (x2 - 1)) + 0) ((xpl h (xpl h 16 (x1 - 1)) x2) + 1)) ((xpl h (xpl h 16 x1) (x2 - 1)) + 1)) ((xpl h (xpl h 16 (x1 - 2)) (x2 - 2)) + 1))) h)) ∧ (¬ (xpl h 30 (x1 - 2)) = (xpl h 31 (x2 - 1)) → (Q (xI (min (min ((xpl h (xpl h 16 (x1 - 1)) (x2 - 1)) + 0) ((xpl h (xpl h 16 (x1 - 1)) x2) + 1)) ((xpl h (xpl h 16 x1) (x2 - 1)) + 1))) h)))) ∧ (¬ (xpl h 30 (x1 - 1)) = (xpl h 31 (x2 - 2)) → (Q (xI (min (min ((xpl h (xpl h 16 (x1 - 1)) (x2 - 1)) + 0) ((xpl h (xpl h 16 (x1 - 1)) x2) + 1)) ((xpl h (xpl h 16 x1) (x2 - 1)) + 1))) h)))))))) ∧ (¬ (xpl h 30 (x1 - 1)) = (xpl h 31 (x2 - 1)) → xiR ((xpl h (xpl h 16 (x1 - 1)) (x2 - 1)) + 1) ∧ x2 < (xln h (xpl h 16 (x1 - 1))) ∧ xiR ((xpl h (xpl h 16 (x1 - 1)) x2) + 1) ∧ xtg h (xpl h 16 x1) = 100 ∧ (x2 - 1) < (xln h (xpl h 16 x1)) ∧ xiR ((xpl h (xpl h 16 x1) (x2 - 1)) + 1) ∧ ((x1 ≤ 1 → (Q (xI (min (min ((xpl h (xpl h 16 (x1 - 1)) (x2 - 1)) + 1) ((xpl h (xpl h 16 (x1 - 1)) x2) + 1)) ((xpl h (xpl h 16 x1) (x2 - 1)) + 1))) h)) ∧ (¬ x1 ≤ 1 → ((x2 ≤ 1 → (Q (xI (min (min ((xpl h (xpl h 16 (x1 - 1)) (x2 - 1)) + 1) ((xpl h (xpl h 16 (x1 - 1)) x2) + 1)) ((xpl h (xpl h 16 x1) (x2 - 1)) + 1))) h)) ∧ (¬ x2 ≤ 1 → (((xpl h 30 (x1 - 1)) = (xpl h 31 (x2 - 2)) → (((xpl h 30 (x1 - 2)) = (xpl h 31 (x2 - 1)) → xtg h (xpl h 16 (x1 - 2)) = 100 ∧ (x2 - 2) < (xln h (xpl h 16 (x1 - 2))) ∧ xiR ((xpl h (xpl h 16 (x1 - 2)) (x2 - 2)) + 1) ∧ (Q (xI (min (min (min ((xpl h (xpl h 16 (x1 - 1)) (x2 - 1)) + 1) ((xpl h (xpl h 16 (x1 - 1)) x2) + 1)) ((xpl h (xpl h 16 x1) (x2 - 1)) + 1)) ((xpl h (xpl h 16 (x1 - 2)) (x2 - 2)) + 1))) h)) ∧ (¬ (xpl h 30 (x1 - 2)) = (xpl h 31 (x2 - 1)) → (Q (xI (min (min ((xpl h (xpl h 16 (x1 - 1)) (x2 - 1)) + 1) ((xpl h (xpl h 16 (x1 - 1)) x2) + 1)) ((xpl h (xpl h 16 x1) (x2 - 1)) + 1))) h)))) ∧ (¬ (xpl h 30 (x1 - 1)) = (xpl h 31 (x2 - 2)) → (Q (xI (min (min ((xpl h (xpl h 16 (x1 - 1)) (x2 - 1)) + 1) ((xpl h (xpl h 16 (x1 - 1)) x2) + 1)) ((xpl h (xpl h 16 x1) (x2 - 1)) + 1))) h)))))))))))))) : xwp G m_Vocabulary_costAt (d + 2) 0 [xR 12, xI x1, xI x2, xZ] [] h Q X := by
  have hnx9 : (93 : Int) ≤ xnx h := F.2.2
  refine xr_okL (fun hl9 => ?_)
  have r_x1 : -2147483648 ≤ x1 ∧ x1 ≤ 2147483647 := hl9 (xI x1) (.tail _ (.head _)) (Nat.le_of_ble_eq_true rfl)
  have r_x2 : -2147483648 ≤ x2 ∧ x2 ≤ 2147483647 := hl9 (xI x2) (.tail _ (.tail _ (.head _))) (Nat.le_of_ble_eq_true rfl)
  refine xr_iload_n (pc := 0) (i := 1) (hI := d_Vocabulary_costAt_0) (hi := rfl) (hl := rfl) ?_
  refine xr_if_eq (pc := 1) (tgt := 8) (hI := d_Vocabulary_costAt_1) (ht := by decide) (fun q9 => ?_) (fun q9 => ?_)
  · replace hyp := hyp.1 q9
    have q1_ := q9
    clear q9
    refine xr_iload_n (pc := 8) (i := 1) (hI := d_Vocabulary_costAt_8) (hi := rfl) (hl := rfl) ?_
    refine xr_iload_n (pc := 9) (i := 2) (hI := d_Vocabulary_costAt_9) (hi := rfl) (hl := rfl) ?_
    refine xr_iadd (pc := 10) (hI := d_Vocabulary_costAt_10) (hr := ⟨by clear hyp; omega, by clear hyp; omega⟩) ?_
    refine xr_ireturn (S := []) (pc := 11) (hI := d_Vocabulary_costAt_11) (hr := rfl) ?_
    exact hyp
  · replace hyp := hyp.2 q9
    have q1_ := q9
    clear q9
    refine xr_iload_n (pc := 4) (i := 2) (hI := d_Vocabulary_costAt_4) (hi := rfl) (hl := rfl) ?_
    refine xr_if_ne (pc := 5) (tgt := 12) (hI := d_Vocabulary_costAt_5) (ht := by decide) (fun q9 => ?_) (fun q9 => ?_)
    · replace hyp := hyp.2 q9
      have q2_ := q9
      clear q9
      refine xr_aload_n (pc := 12) (i := 0) (hI := d_Vocabulary_costAt_12) (hi := rfl) (hl := rfl) ?_
      refine xg_getf (pc := 13) (ci := 10) (k := 4) (N := 7) (v9 := 2) (v := 16) (T := xF10) (hI := d_Vocabulary_costAt_13) (hw := w_184) rfl xi10 (Or.inl rfl) (Nat.le_of_ble_eq_true rfl) (Nat.le_of_ble_eq_true rfl) rfl (ft_12 F) (fp_12_4 F) (fun f3_ => ?_)
      clear f3_
      refine xr_iload_n (pc := 16) (i := 1) (hI := d_Vocabulary_costAt_16) (hi := rfl) (hl := rfl) ?_
      refine xr_iconst (pc := 17) (hI := d_Vocabulary_costAt_17) (hr := by decide) ?_
      obtain ⟨c9, hyp⟩ := hyp
      refine xr_isub (pc := 18) (hI := d_Vocabulary_costAt_18) (hr := c9) ?_
      obtain ⟨c4_, hyp⟩ := hyp
      obtain ⟨c5_, hyp⟩ := hyp
      refine xg_aaload (pc := 19) (t := 111) (v := (xpl h 16 (x1 - 1))) (hI := d_Vocabulary_costAt_19) (ft_16 F) (Nat.le_of_ble_eq_true rfl) rfl (Nat.le_of_ble_eq_true rfl) c4_ (xlt_of (fl_16 F) c5_) rfl ?_
      refine xr_iload_n (pc := 20) (i := 2) (hI := d_Vocabulary_costAt_20) (hi := rfl) (hl := rfl) ?_
      refine xr_iconst (pc := 21) (hI := d_Vocabulary_costAt_21) (hr := by decide) ?_
      obtain ⟨c9, hyp⟩ := hyp
      refine xr_isub (pc := 22) (hI := d_Vocabulary_costAt_22) (hr := c9) ?_
      obtain ⟨c9, hyp⟩ := hyp
      have t6_ := c9
      clear c9
      obtain ⟨c7_, hyp⟩ := hyp
      obtain ⟨c8_, hyp⟩ := hyp
      refine xg_iaload (pc := 23) (v := (xpl h (xpl h 16 (x1 - 1)) (x2 - 1))) (hI := d_Vocabulary_costAt_23) t6_ c7_ (xlt_of rfl c8_) rfl (fun f9_ => ?_)
      replace f9_ : -2147483648 ≤ (xpl h (xpl h 16 (x1 - 1)) (x2 - 1)) ∧ (xpl h (xpl h 16 (x1 - 1)) (x2 - 1)) ≤ 2147483647 := f9_
      refine xr_aload_n (pc := 24) (i := 0) (hI := d_Vocabulary_costAt_24) (hi := rfl) (hl := rfl) ?_
      refine xg_getf (pc := 25) (ci := 10) (k := 5) (N := 7) (v9 := 2) (v := 30) (T := xF10) (hI := d_Vocabulary_costAt_25) (hw := w_185) rfl xi10 (Or.inl rfl) (Nat.le_of_ble_eq_true rfl) (Nat.le_of_ble_eq_true rfl) rfl (ft_12 F) (fp_12_5 F) (fun f10_ => ?_)
      clear f10_
      refine xr_iload_n (pc := 28) (i := 1) (hI := d_Vocabulary_costAt_28) (hi := rfl) (hl := rfl) ?_
      refine xr_iconst (pc := 29) (hI := d_Vocabulary_costAt_29) (hr := by decide) ?_
      refine xr_isub (pc := 30) (hI := d_Vocabulary_costAt_30) (hr := ⟨by clear hyp; omega, by clear hyp; omega⟩) ?_
      obtain ⟨c11_, hyp⟩ := hyp
      refine xg_iaload (pc := 31) (v := (xpl h 30 (x1 - 1))) (hI := d_Vocabulary_costAt_31) (ft_30 F) (by clear hyp; omega) (xlt_of (fl_30 F) c11_) rfl (fun f12_ => ?_)
      replace f12_ : -2147483648 ≤ (xpl h 30 (x1 - 1)) ∧ (xpl h 30 (x1 - 1)) ≤ 2147483647 := f12_
      refine xr_aload_n (pc := 32) (i := 0) (hI := d_Vocabulary_costAt_32) (hi := rfl) (hl := rfl) ?_
      refine xg_getf (pc := 33) (ci := 10) (k := 6) (N := 7) (v9 := 2) (v := 31) (T := xF10) (hI := d_Vocabulary_costAt_33) (hw := w_186) rfl xi10 (Or.inl rfl) (Nat.le_of_ble_eq_true rfl) (Nat.le_of_ble_eq_true rfl) rfl (ft_12 F) (fp_12_6 F) (fun f13_ => ?_)
      clear f13_
      refine xr_iload_n (pc := 36) (i := 2) (hI := d_Vocabulary_costAt_36) (hi := rfl) (hl := rfl) ?_
      refine xr_iconst (pc := 37) (hI := d_Vocabulary_costAt_37) (hr := by decide) ?_
      refine xr_isub (pc := 38) (hI := d_Vocabulary_costAt_38) (hr := ⟨by clear hyp; omega, by clear hyp; omega⟩) ?_
      obtain ⟨c14_, hyp⟩ := hyp
      refine xg_iaload (pc := 39) (v := (xpl h 31 (x2 - 1))) (hI := d_Vocabulary_costAt_39) (ft_31 F) (by clear hyp; omega) (xlt_of (fl_31 F) c14_) rfl (fun f15_ => ?_)
      replace f15_ : -2147483648 ≤ (xpl h 31 (x2 - 1)) ∧ (xpl h 31 (x2 - 1)) ≤ 2147483647 := f15_
      refine xr_icmp_ne (pc := 40) (tgt := 47) (hI := d_Vocabulary_costAt_40) (ht := by decide) (fun q9 => ?_) (fun q9 => ?_)
      · replace hyp := hyp.2 q9
        have q16_ := q9
        clear q9
        refine xr_iconst (pc := 47) (hI := d_Vocabulary_costAt_47) (hr := by decide) ?_
        obtain ⟨c9, hyp⟩ := hyp
        refine xr_iadd (pc := 48) (hI := d_Vocabulary_costAt_48) (hr := c9) ?_
        refine xr_istore_n (pc := 49) (i := 3) (L9 := [xR 12, xI x1, xI x2, xI ((xpl h (xpl h 16 (x1 - 1)) (x2 - 1)) + 1)]) (hI := d_Vocabulary_costAt_49) (hi := rfl) (hn := Nat.le_of_ble_eq_true rfl) (hL9 := rfl) ?_
        refine xr_iload_n (pc := 50) (i := 3) (hI := d_Vocabulary_costAt_50) (hi := rfl) (hl := rfl) ?_
        refine xr_aload_n (pc := 51) (i := 0) (hI := d_Vocabulary_costAt_51) (hi := rfl) (hl := rfl) ?_
        refine xg_getf (pc := 52) (ci := 10) (k := 4) (N := 7) (v9 := 2) (v := 16) (T := xF10) (hI := d_Vocabulary_costAt_52) (hw := w_184) rfl xi10 (Or.inl rfl) (Nat.le_of_ble_eq_true rfl) (Nat.le_of_ble_eq_true rfl) rfl (ft_12 F) (fp_12_4 F) (fun f17_ => ?_)
        clear f17_
        refine xr_iload_n (pc := 55) (i := 1) (hI := d_Vocabulary_costAt_55) (hi := rfl) (hl := rfl) ?_
        refine xr_iconst (pc := 56) (hI := d_Vocabulary_costAt_56) (hr := by decide) ?_
        refine xr_isub (pc := 57) (hI := d_Vocabulary_costAt_57) (hr := ⟨by clear hyp; omega, by clear hyp; omega⟩) ?_
        refine xg_aaload (pc := 58) (t := 111) (v := (xpl h 16 (x1 - 1))) (hI := d_Vocabulary_costAt_58) (ft_16 F) (Nat.le_of_ble_eq_true rfl) rfl (Nat.le_of_ble_eq_true rfl) (by clear hyp; omega) (xlt_of (fl_16 F) (by clear hyp; omega)) rfl ?_
        refine xr_iload_n (pc := 59) (i := 2) (hI := d_Vocabulary_costAt_59) (hi := rfl) (hl := rfl) ?_
        obtain ⟨c18_, hyp⟩ := hyp
        refine xg_iaload (pc := 60) (v := (xpl h (xpl h 16 (x1 - 1)) x2)) (hI := d_Vocabulary_costAt_60) t6_ (by clear hyp; omega) (xlt_of rfl c18_) rfl (fun f19_ => ?_)
        replace f19_ : -2147483648 ≤ (xpl h (xpl h 16 (x1 - 1)) x2) ∧ (xpl h (xpl h 16 (x1 - 1)) x2) ≤ 2147483647 := f19_
        refine xr_iconst (pc := 61) (hI := d_Vocabulary_costAt_61) (hr := by decide) ?_
        obtain ⟨c9, hyp⟩ := hyp
        refine xr_iadd (pc := 62) (hI := d_Vocabulary_costAt_62) (hr := c9) ?_
        refine xr_mmin (pc := 63) (index := 91) (hI := d_Vocabulary_costAt_63) w_936 w_542 w_25 w_mmin (Nat.le_add_left_of_le (by decide)) (Nat.le_of_ble_eq_true rfl) ?_
        have f20_ : (min ((xpl h (xpl h 16 (x1 - 1)) (x2 - 1)) + 1) ((xpl h (xpl h 16 (x1 - 1)) x2) + 1)) ≤ ((xpl h (xpl h 16 (x1 - 1)) (x2 - 1)) + 1) := (by clear hyp; omega)
        have f21_ : (min ((xpl h (xpl h 16 (x1 - 1)) (x2 - 1)) + 1) ((xpl h (xpl h 16 (x1 - 1)) x2) + 1)) ≤ ((xpl h (xpl h 16 (x1 - 1)) x2) + 1) := (by clear hyp; omega)
        have f22_ : (-2147483648) ≤ (min ((xpl h (xpl h 16 (x1 - 1)) (x2 - 1)) + 1) ((xpl h (xpl h 16 (x1 - 1)) x2) + 1)) := (by clear hyp; omega)
        refine xr_istore_n (pc := 66) (i := 3) (L9 := [xR 12, xI x1, xI x2, xI (min ((xpl h (xpl h 16 (x1 - 1)) (x2 - 1)) + 1) ((xpl h (xpl h 16 (x1 - 1)) x2) + 1))]) (hI := d_Vocabulary_costAt_66) (hi := rfl) (hn := Nat.le_of_ble_eq_true rfl) (hL9 := rfl) ?_
        refine xr_iload_n (pc := 67) (i := 3) (hI := d_Vocabulary_costAt_67) (hi := rfl) (hl := rfl) ?_
        refine xr_aload_n (pc := 68) (i := 0) (hI := d_Vocabulary_costAt_68) (hi := rfl) (hl := rfl) ?_
        refine xg_getf (pc := 69) (ci := 10) (k := 4) (N := 7) (v9 := 2) (v := 16) (T := xF10) (hI := d_Vocabulary_costAt_69) (hw := w_184) rfl xi10 (Or.inl rfl) (Nat.le_of_ble_eq_true rfl) (Nat.le_of_ble_eq_true rfl) rfl (ft_12 F) (fp_12_4 F) (fun f23_ => ?_)
        clear f23_
        refine xr_iload_n (pc := 72) (i := 1) (hI := d_Vocabulary_costAt_72) (hi := rfl) (hl := rfl) ?_
        refine xg_aaload (pc := 73) (t := 111) (v := (xpl h 16 x1)) (hI := d_Vocabulary_costAt_73) (ft_16 F) (Nat.le_of_ble_eq_true rfl) rfl (Nat.le_of_ble_eq_true rfl) (by clear hyp; omega) (xlt_of (fl_16 F) (by clear hyp; omega)) rfl ?_
        refine xr_iload_n (pc := 74) (i := 2) (hI := d_Vocabulary_costAt_74) (hi := rfl) (hl := rfl) ?_
        refine xr_iconst (pc := 75) (hI := d_Vocabulary_costAt_75) (hr := by decide) ?_
        refine xr_isub (pc := 76) (hI := d_Vocabulary_costAt_76) (hr := ⟨by clear hyp; omega, by clear hyp; omega⟩) ?_
        obtain ⟨c9, hyp⟩ := hyp
        have t24_ := c9
        clear c9
        obtain ⟨c25_, hyp⟩ := hyp
        refine xg_iaload (pc := 77) (v := (xpl h (xpl h 16 x1) (x2 - 1))) (hI := d_Vocabulary_costAt_77) t24_ (by clear hyp; omega) (xlt_of rfl c25_) rfl (fun f26_ => ?_)
        replace f26_ : -2147483648 ≤ (xpl h (xpl h 16 x1) (x2 - 1)) ∧ (xpl h (xpl h 16 x1) (x2 - 1)) ≤ 2147483647 := f26_
        refine xr_iconst (pc := 78) (hI := d_Vocabulary_costAt_78) (hr := by decide) ?_
        obtain ⟨c9, hyp⟩ := hyp
        refine xr_iadd (pc := 79) (hI := d_Vocabulary_costAt_79) (hr := c9) ?_
        refine xr_mmin (pc := 80) (index := 91) (hI := d_Vocabulary_costAt_80) w_936 w_542 w_25 w_mmin (Nat.le_add_left_of_le (by decide)) (Nat.le_of_ble_eq_true rfl) ?_
        have f27_ : (min (min ((xpl h (xpl h 16 (x1 - 1)) (x2 - 1)) + 1) ((xpl h (xpl h 16 (x1 - 1)) x2) + 1)) ((xpl h (xpl h 16 x1) (x2 - 1)) + 1)) ≤ (min ((xpl h (xpl h 16 (x1 - 1)) (x2 - 1)) + 1) ((xpl h (xpl h 16 (x1 - 1)) x2) + 1)) := (by clear hyp; omega)
        have f28_ : (min (min ((xpl h (xpl h 16 (x1 - 1)) (x2 - 1)) + 1) ((xpl h (xpl h 16 (x1 - 1)) x2) + 1)) ((xpl h (xpl h 16 x1) (x2 - 1)) + 1)) ≤ ((xpl h (xpl h 16 x1) (x2 - 1)) + 1) := (by clear hyp; omega)
        have f29_ : (-2147483648) ≤ (min (min ((xpl h (xpl h 16 (x1 - 1)) (x2 - 1)) + 1) ((xpl h (xpl h 16 (x1 - 1)) x2) + 1)) ((xpl h (xpl h 16 x1) (x2 - 1)) + 1)) := (by clear hyp; omega)
        refine xr_istore_n (pc := 83) (i := 3) (L9 := [xR 12, xI x1, xI x2, xI (min (min ((xpl h (xpl h 16 (x1 - 1)) (x2 - 1)) + 1) ((xpl h (xpl h 16 (x1 - 1)) x2) + 1)) ((xpl h (xpl h 16 x1) (x2 - 1)) + 1))]) (hI := d_Vocabulary_costAt_83) (hi := rfl) (hn := Nat.le_of_ble_eq_true rfl) (hL9 := rfl) ?_
        refine xr_iload_n (pc := 84) (i := 1) (hI := d_Vocabulary_costAt_84) (hi := rfl) (hl := rfl) ?_
        refine xr_iconst (pc := 85) (hI := d_Vocabulary_costAt_85) (hr := by decide) ?_
        refine xr_icmp_le (pc := 86) (tgt := 151) (hI := d_Vocabulary_costAt_86) (ht := by decide) (fun q9 => ?_) (fun q9 => ?_)
        · replace hyp := hyp.1 q9
          have q30_ := q9
          clear q9
          refine xr_iload_n (pc := 151) (i := 3) (hI := d_Vocabulary_costAt_151) (hi := rfl) (hl := rfl) ?_
          refine xr_ireturn (S := []) (pc := 152) (hI := d_Vocabulary_costAt_152) (hr := rfl) ?_
          exact hyp
        · replace hyp := hyp.2 q9
          have q30_ := q9
          clear q9
          refine xr_iload_n (pc := 89) (i := 2) (hI := d_Vocabulary_costAt_89) (hi := rfl) (hl := rfl) ?_
          refine xr_iconst (pc := 90) (hI := d_Vocabulary_costAt_90) (hr := by decide) ?_
          refine xr_icmp_le (pc := 91) (tgt := 151) (hI := d_Vocabulary_costAt_91) (ht := by decide) (fun q9 => ?_) (fun q9 => ?_)
          · replace hyp := hyp.1 q9
            have q31_ := q9
            clear q9
            refine xr_iload_n (pc := 151) (i := 3) (hI := d_Vocabulary_costAt_151) (hi := rfl) (hl := rfl) ?_
            refine xr_ireturn (S := []) (pc := 152) (hI := d_Vocabulary_costAt_152) (hr := rfl) ?_
            exact hyp
          · replace hyp := hyp.2 q9
            have q31_ := q9
            clear q9
            refine xr_aload_n (pc := 94) (i := 0) (hI := d_Vocabulary_costAt_94) (hi := rfl) (hl := rfl) ?_
            refine xg_getf (pc := 95) (ci := 10) (k := 5) (N := 7) (v9 := 2) (v := 30) (T := xF10) (hI := d_Vocabulary_costAt_95) (hw := w_185) rfl xi10 (Or.inl rfl) (Nat.le_of_ble_eq_true rfl) (Nat.le_of_ble_eq_true rfl) rfl (ft_12 F) (fp_12_5 F) (fun f32_ => ?_)
            clear f32_
            refine xr_iload_n (pc := 98) (i := 1) (hI := d_Vocabulary_costAt_98) (hi := rfl) (hl := rfl) ?_
            refine xr_iconst (pc := 99) (hI := d_Vocabulary_costAt_99) (hr := by decide) ?_
            refine xr_isub (pc := 100) (hI := d_Vocabulary_costAt_100) (hr := ⟨by clear hyp; omega, by clear hyp; omega⟩) ?_
            refine xg_iaload (pc := 101) (v := (xpl h 30 (x1 - 1))) (hI := d_Vocabulary_costAt_101) (ft_30 F) (by clear hyp; omega) (xlt_of (fl_30 F) (by clear hyp; omega)) rfl (fun f33_ => ?_)
            replace f33_ : -2147483648 ≤ (xpl h 30 (x1 - 1)) ∧ (xpl h 30 (x1 - 1)) ≤ 2147483647 := f33_
            refine xr_aload_n (pc := 102) (i := 0) (hI := d_Vocabulary_costAt_102) (hi := rfl) (hl := rfl) ?_
            refine xg_getf (pc := 103) (ci := 10) (k := 6) (N := 7) (v9 := 2) (v := 31) (T := xF10) (hI := d_Vocabulary_costAt_103) (hw := w_186) rfl xi10 (Or.inl rfl) (Nat.le_of_ble_eq_true rfl) (Nat.le_of_ble_eq_true rfl) rfl (ft_12 F) (fp_12_6 F) (fun f34_ => ?_)
            clear f34_
            refine xr_iload_n (pc := 106) (i := 2) (hI := d_Vocabulary_costAt_106) (hi := rfl) (hl := rfl) ?_
            refine xr_iconst (pc := 107) (hI := d_Vocabulary_costAt_107) (hr := by decide) ?_
            refine xr_isub (pc := 108) (hI := d_Vocabulary_costAt_108) (hr := ⟨by clear hyp; omega, by clear hyp; omega⟩) ?_
            refine xg_iaload (pc := 109) (v := (xpl h 31 (x2 - 2))) (hI := d_Vocabulary_costAt_109) (ft_31 F) (by clear hyp; omega) (xlt_of (fl_31 F) (by clear hyp; omega)) rfl (fun f35_ => ?_)
            replace f35_ : -2147483648 ≤ (xpl h 31 (x2 - 2)) ∧ (xpl h 31 (x2 - 2)) ≤ 2147483647 := f35_
            refine xr_icmp_ne (pc := 110) (tgt := 151) (hI := d_Vocabulary_costAt_110) (ht := by decide) (fun q9 => ?_) (fun q9 => ?_)
            · replace hyp := hyp.2 q9
              have q36_ := q9
              clear q9
              refine xr_iload_n (pc := 151) (i := 3) (hI := d_Vocabulary_costAt_151) (hi := rfl) (hl := rfl) ?_
              refine xr_ireturn (S := []) (pc := 152) (hI := d_Vocabulary_costAt_152) (hr := rfl) ?_
              exact hyp
            · replace hyp := hyp.1 q9
              have q36_ := q9
              clear q9
              refine xr_aload_n (pc := 113) (i := 0) (hI := d_Vocabulary_costAt_113) (hi := rfl) (hl := rfl) ?_
              refine xg_getf (pc := 114) (ci := 10) (k := 5) (N := 7) (v9 := 2) (v := 30) (T := xF10) (hI := d_Vocabulary_costAt_114) (hw := w_185) rfl xi10 (Or.inl rfl) (Nat.le_of_ble_eq_true rfl) (Nat.le_of_ble_eq_true rfl) rfl (ft_12 F) (fp_12_5 F) (fun f37_ => ?_)
              clear f37_
              refine xr_iload_n (pc := 117) (i := 1) (hI := d_Vocabulary_costAt_117) (hi := rfl) (hl := rfl) ?_
              refine xr_iconst (pc := 118) (hI := d_Vocabulary_costAt_118) (hr := by decide) ?_
              refine xr_isub (pc := 119) (hI := d_Vocabulary_costAt_119) (hr := ⟨by clear hyp; omega, by clear hyp; omega⟩) ?_
              refine xg_iaload (pc := 120) (v := (xpl h 30 (x1 - 2))) (hI := d_Vocabulary_costAt_120) (ft_30 F) (by clear hyp; omega) (xlt_of (fl_30 F) (by clear hyp; omega)) rfl (fun f38_ => ?_)
              replace f38_ : -2147483648 ≤ (xpl h 30 (x1 - 2)) ∧ (xpl h 30 (x1 - 2)) ≤ 2147483647 := f38_
              refine xr_aload_n (pc := 121) (i := 0) (hI := d_Vocabulary_costAt_121) (hi := rfl) (hl := rfl) ?_
              refine xg_getf (pc := 122) (ci := 10) (k := 6) (N := 7) (v9 := 2) (v := 31) (T := xF10) (hI := d_Vocabulary_costAt_122) (hw := w_186) rfl xi10 (Or.inl rfl) (Nat.le_of_ble_eq_true rfl) (Nat.le_of_ble_eq_true rfl) rfl (ft_12 F) (fp_12_6 F) (fun f39_ => ?_)
              clear f39_
              refine xr_iload_n (pc := 125) (i := 2) (hI := d_Vocabulary_costAt_125) (hi := rfl) (hl := rfl) ?_
              refine xr_iconst (pc := 126) (hI := d_Vocabulary_costAt_126) (hr := by decide) ?_
              refine xr_isub (pc := 127) (hI := d_Vocabulary_costAt_127) (hr := ⟨by clear hyp; omega, by clear hyp; omega⟩) ?_
              refine xg_iaload (pc := 128) (v := (xpl h 31 (x2 - 1))) (hI := d_Vocabulary_costAt_128) (ft_31 F) (by clear hyp; omega) (xlt_of (fl_31 F) (by clear hyp; omega)) rfl (fun f40_ => ?_)
              replace f40_ : -2147483648 ≤ (xpl h 31 (x2 - 1)) ∧ (xpl h 31 (x2 - 1)) ≤ 2147483647 := f40_
              refine xr_icmp_ne (pc := 129) (tgt := 151) (hI := d_Vocabulary_costAt_129) (ht := by decide) (fun q9 => ?_) (fun q9 => ?_)
              · replace hyp := hyp.2 q9
                have q41_ := q9
                clear q9
                refine xr_iload_n (pc := 151) (i := 3) (hI := d_Vocabulary_costAt_151) (hi := rfl) (hl := rfl) ?_
                refine xr_ireturn (S := []) (pc := 152) (hI := d_Vocabulary_costAt_152) (hr := rfl) ?_
                exact hyp
              · replace hyp := hyp.1 q9
                have q41_ := q9
                clear q9
                refine xr_iload_n (pc := 132) (i := 3) (hI := d_Vocabulary_costAt_132) (hi := rfl) (hl := rfl) ?_
                refine xr_aload_n (pc := 133) (i := 0) (hI := d_Vocabulary_costAt_133) (hi := rfl) (hl := rfl) ?_
                refine xg_getf (pc := 134) (ci := 10) (k := 4) (N := 7) (v9 := 2) (v := 16) (T := xF10) (hI := d_Vocabulary_costAt_134) (hw := w_184) rfl xi10 (Or.inl rfl) (Nat.le_of_ble_eq_true rfl) (Nat.le_of_ble_eq_true rfl) rfl (ft_12 F) (fp_12_4 F) (fun f42_ => ?_)
                clear f42_
                refine xr_iload_n (pc := 137) (i := 1) (hI := d_Vocabulary_costAt_137) (hi := rfl) (hl := rfl) ?_
                refine xr_iconst (pc := 138) (hI := d_Vocabulary_costAt_138) (hr := by decide) ?_
                refine xr_isub (pc := 139) (hI := d_Vocabulary_costAt_139) (hr := ⟨by clear hyp; omega, by clear hyp; omega⟩) ?_
                refine xg_aaload (pc := 140) (t := 111) (v := (xpl h 16 (x1 - 2))) (hI := d_Vocabulary_costAt_140) (ft_16 F) (Nat.le_of_ble_eq_true rfl) rfl (Nat.le_of_ble_eq_true rfl) (by clear hyp; omega) (xlt_of (fl_16 F) (by clear hyp; omega)) rfl ?_
                refine xr_iload_n (pc := 141) (i := 2) (hI := d_Vocabulary_costAt_141) (hi := rfl) (hl := rfl) ?_
                refine xr_iconst (pc := 142) (hI := d_Vocabulary_costAt_142) (hr := by decide) ?_
                refine xr_isub (pc := 143) (hI := d_Vocabulary_costAt_143) (hr := ⟨by clear hyp; omega, by clear hyp; omega⟩) ?_
                obtain ⟨c9, hyp⟩ := hyp
                have t43_ := c9
                clear c9
                obtain ⟨c44_, hyp⟩ := hyp
                refine xg_iaload (pc := 144) (v := (xpl h (xpl h 16 (x1 - 2)) (x2 - 2))) (hI := d_Vocabulary_costAt_144) t43_ (by clear hyp; omega) (xlt_of rfl c44_) rfl (fun f45_ => ?_)
                replace f45_ : -2147483648 ≤ (xpl h (xpl h 16 (x1 - 2)) (x2 - 2)) ∧ (xpl h (xpl h 16 (x1 - 2)) (x2 - 2)) ≤ 2147483647 := f45_
                refine xr_iconst (pc := 145) (hI := d_Vocabulary_costAt_145) (hr := by decide) ?_
                obtain ⟨c9, hyp⟩ := hyp
                refine xr_iadd (pc := 146) (hI := d_Vocabulary_costAt_146) (hr := c9) ?_
                refine xr_mmin (pc := 147) (index := 91) (hI := d_Vocabulary_costAt_147) w_936 w_542 w_25 w_mmin (Nat.le_add_left_of_le (by decide)) (Nat.le_of_ble_eq_true rfl) ?_
                have f46_ : (min (min (min ((xpl h (xpl h 16 (x1 - 1)) (x2 - 1)) + 1) ((xpl h (xpl h 16 (x1 - 1)) x2) + 1)) ((xpl h (xpl h 16 x1) (x2 - 1)) + 1)) ((xpl h (xpl h 16 (x1 - 2)) (x2 - 2)) + 1)) ≤ (min (min ((xpl h (xpl h 16 (x1 - 1)) (x2 - 1)) + 1) ((xpl h (xpl h 16 (x1 - 1)) x2) + 1)) ((xpl h (xpl h 16 x1) (x2 - 1)) + 1)) := (by clear hyp; omega)
                have f47_ : (min (min (min ((xpl h (xpl h 16 (x1 - 1)) (x2 - 1)) + 1) ((xpl h (xpl h 16 (x1 - 1)) x2) + 1)) ((xpl h (xpl h 16 x1) (x2 - 1)) + 1)) ((xpl h (xpl h 16 (x1 - 2)) (x2 - 2)) + 1)) ≤ ((xpl h (xpl h 16 (x1 - 2)) (x2 - 2)) + 1) := (by clear hyp; omega)
                have f48_ : (-2147483648) ≤ (min (min (min ((xpl h (xpl h 16 (x1 - 1)) (x2 - 1)) + 1) ((xpl h (xpl h 16 (x1 - 1)) x2) + 1)) ((xpl h (xpl h 16 x1) (x2 - 1)) + 1)) ((xpl h (xpl h 16 (x1 - 2)) (x2 - 2)) + 1)) := (by clear hyp; omega)
                refine xr_istore_n (pc := 150) (i := 3) (L9 := [xR 12, xI x1, xI x2, xI (min (min (min ((xpl h (xpl h 16 (x1 - 1)) (x2 - 1)) + 1) ((xpl h (xpl h 16 (x1 - 1)) x2) + 1)) ((xpl h (xpl h 16 x1) (x2 - 1)) + 1)) ((xpl h (xpl h 16 (x1 - 2)) (x2 - 2)) + 1))]) (hI := d_Vocabulary_costAt_150) (hi := rfl) (hn := Nat.le_of_ble_eq_true rfl) (hL9 := rfl) ?_
                refine xr_iload_n (pc := 151) (i := 3) (hI := d_Vocabulary_costAt_151) (hi := rfl) (hl := rfl) ?_
                refine xr_ireturn (S := []) (pc := 152) (hI := d_Vocabulary_costAt_152) (hr := rfl) ?_
                exact hyp
      · replace hyp := hyp.1 q9
        have q16_ := q9
        clear q9
        refine xr_iconst (pc := 43) (hI := d_Vocabulary_costAt_43) (hr := by decide) ?_
        refine xr_goto (pc := 44) (tgt := 48) (hI := d_Vocabulary_costAt_44) (ht := by decide) ?_
        refine xr_iadd (pc := 48) (hI := d_Vocabulary_costAt_48) (hr := ⟨by clear hyp; omega, by clear hyp; omega⟩) ?_
        refine xr_istore_n (pc := 49) (i := 3) (L9 := [xR 12, xI x1, xI x2, xI ((xpl h (xpl h 16 (x1 - 1)) (x2 - 1)) + 0)]) (hI := d_Vocabulary_costAt_49) (hi := rfl) (hn := Nat.le_of_ble_eq_true rfl) (hL9 := rfl) ?_
        refine xr_iload_n (pc := 50) (i := 3) (hI := d_Vocabulary_costAt_50) (hi := rfl) (hl := rfl) ?_
        refine xr_aload_n (pc := 51) (i := 0) (hI := d_Vocabulary_costAt_51) (hi := rfl) (hl := rfl) ?_
        refine xg_getf (pc := 52) (ci := 10) (k := 4) (N := 7) (v9 := 2) (v := 16) (T := xF10) (hI := d_Vocabulary_costAt_52) (hw := w_184) rfl xi10 (Or.inl rfl) (Nat.le_of_ble_eq_true rfl) (Nat.le_of_ble_eq_true rfl) rfl (ft_12 F) (fp_12_4 F) (fun f49_ => ?_)
        clear f49_
        refine xr_iload_n (pc := 55) (i := 1) (hI := d_Vocabulary_costAt_55) (hi := rfl) (hl := rfl) ?_
        refine xr_iconst (pc := 56) (hI := d_Vocabulary_costAt_56) (hr := by decide) ?_
        refine xr_isub (pc := 57) (hI := d_Vocabulary_costAt_57) (hr := ⟨by clear hyp; omega, by clear hyp; omega⟩) ?_
        refine xg_aaload (pc := 58) (t := 111) (v := (xpl h 16 (x1 - 1))) (hI := d_Vocabulary_costAt_58) (ft_16 F) (Nat.le_of_ble_eq_true rfl) rfl (Nat.le_of_ble_eq_true rfl) (by clear hyp; omega) (xlt_of (fl_16 F) (by clear hyp; omega)) rfl ?_
        refine xr_iload_n (pc := 59) (i := 2) (hI := d_Vocabulary_costAt_59) (hi := rfl) (hl := rfl) ?_
        obtain ⟨c50_, hyp⟩ := hyp
        refine xg_iaload (pc := 60) (v := (xpl h (xpl h 16 (x1 - 1)) x2)) (hI := d_Vocabulary_costAt_60) t6_ (by clear hyp; omega) (xlt_of rfl c50_) rfl (fun f51_ => ?_)
        replace f51_ : -2147483648 ≤ (xpl h (xpl h 16 (x1 - 1)) x2) ∧ (xpl h (xpl h 16 (x1 - 1)) x2) ≤ 2147483647 := f51_
        refine xr_iconst (pc := 61) (hI := d_Vocabulary_costAt_61) (hr := by decide) ?_
        obtain ⟨c9, hyp⟩ := hyp
        refine xr_iadd (pc := 62) (hI := d_Vocabulary_costAt_62) (hr := c9) ?_
        refine xr_mmin (pc := 63) (index := 91) (hI := d_Vocabulary_costAt_63) w_936 w_542 w_25 w_mmin (Nat.le_add_left_of_le (by decide)) (Nat.le_of_ble_eq_true rfl) ?_
        have f52_ : (min ((xpl h (xpl h 16 (x1 - 1)) (x2 - 1)) + 0) ((xpl h (xpl h 16 (x1 - 1)) x2) + 1)) ≤ ((xpl h (xpl h 16 (x1 - 1)) (x2 - 1)) + 0) := (by clear hyp; omega)
        have f53_ : (min ((xpl h (xpl h 16 (x1 - 1)) (x2 - 1)) + 0) ((xpl h (xpl h 16 (x1 - 1)) x2) + 1)) ≤ ((xpl h (xpl h 16 (x1 - 1)) x2) + 1) := (by clear hyp; omega)
        have f54_ : (-2147483648) ≤ (min ((xpl h (xpl h 16 (x1 - 1)) (x2 - 1)) + 0) ((xpl h (xpl h 16 (x1 - 1)) x2) + 1)) := (by clear hyp; omega)
        refine xr_istore_n (pc := 66) (i := 3) (L9 := [xR 12, xI x1, xI x2, xI (min ((xpl h (xpl h 16 (x1 - 1)) (x2 - 1)) + 0) ((xpl h (xpl h 16 (x1 - 1)) x2) + 1))]) (hI := d_Vocabulary_costAt_66) (hi := rfl) (hn := Nat.le_of_ble_eq_true rfl) (hL9 := rfl) ?_
        refine xr_iload_n (pc := 67) (i := 3) (hI := d_Vocabulary_costAt_67) (hi := rfl) (hl := rfl) ?_
        refine xr_aload_n (pc := 68) (i := 0) (hI := d_Vocabulary_costAt_68) (hi := rfl) (hl := rfl) ?_
        refine xg_getf (pc := 69) (ci := 10) (k := 4) (N := 7) (v9 := 2) (v := 16) (T := xF10) (hI := d_Vocabulary_costAt_69) (hw := w_184) rfl xi10 (Or.inl rfl) (Nat.le_of_ble_eq_true rfl) (Nat.le_of_ble_eq_true rfl) rfl (ft_12 F) (fp_12_4 F) (fun f55_ => ?_)
        clear f55_
        refine xr_iload_n (pc := 72) (i := 1) (hI := d_Vocabulary_costAt_72) (hi := rfl) (hl := rfl) ?_
        refine xg_aaload (pc := 73) (t := 111) (v := (xpl h 16 x1)) (hI := d_Vocabulary_costAt_73) (ft_16 F) (Nat.le_of_ble_eq_true rfl) rfl (Nat.le_of_ble_eq_true rfl) (by clear hyp; omega) (xlt_of (fl_16 F) (by clear hyp; omega)) rfl ?_
        refine xr_iload_n (pc := 74) (i := 2) (hI := d_Vocabulary_costAt_74) (hi := rfl) (hl := rfl) ?_
        refine xr_iconst (pc := 75) (hI := d_Vocabulary_costAt_75) (hr := by decide) ?_
        refine xr_isub (pc := 76) (hI := d_Vocabulary_costAt_76) (hr := ⟨by clear hyp; omega, by clear hyp; omega⟩) ?_
        obtain ⟨c9, hyp⟩ := hyp
        have t56_ := c9
        clear c9
        obtain ⟨c57_, hyp⟩ := hyp
        refine xg_iaload (pc := 77) (v := (xpl h (xpl h 16 x1) (x2 - 1))) (hI := d_Vocabulary_costAt_77) t56_ (by clear hyp; omega) (xlt_of rfl c57_) rfl (fun f58_ => ?_)
        replace f58_ : -2147483648 ≤ (xpl h (xpl h 16 x1) (x2 - 1)) ∧ (xpl h (xpl h 16 x1) (x2 - 1)) ≤ 2147483647 := f58_
        refine xr_iconst (pc := 78) (hI := d_Vocabulary_costAt_78) (hr := by decide) ?_
        obtain ⟨c9, hyp⟩ := hyp
        refine xr_iadd (pc := 79) (hI := d_Vocabulary_costAt_79) (hr := c9) ?_
        refine xr_mmin (pc := 80) (index := 91) (hI := d_Vocabulary_costAt_80) w_936 w_542 w_25 w_mmin (Nat.le_add_left_of_le (by decide)) (Nat.le_of_ble_eq_true rfl) ?_
        have f59_ : (min (min ((xpl h (xpl h 16 (x1 - 1)) (x2 - 1)) + 0) ((xpl h (xpl h 16 (x1 - 1)) x2) + 1)) ((xpl h (xpl h 16 x1) (x2 - 1)) + 1)) ≤ (min ((xpl h (xpl h 16 (x1 - 1)) (x2 - 1)) + 0) ((xpl h (xpl h 16 (x1 - 1)) x2) + 1)) := (by clear hyp; omega)
        have f60_ : (min (min ((xpl h (xpl h 16 (x1 - 1)) (x2 - 1)) + 0) ((xpl h (xpl h 16 (x1 - 1)) x2) + 1)) ((xpl h (xpl h 16 x1) (x2 - 1)) + 1)) ≤ ((xpl h (xpl h 16 x1) (x2 - 1)) + 1) := (by clear hyp; omega)
        have f61_ : (-2147483648) ≤ (min (min ((xpl h (xpl h 16 (x1 - 1)) (x2 - 1)) + 0) ((xpl h (xpl h 16 (x1 - 1)) x2) + 1)) ((xpl h (xpl h 16 x1) (x2 - 1)) + 1)) := (by clear hyp; omega)
        refine xr_istore_n (pc := 83) (i := 3) (L9 := [xR 12, xI x1, xI x2, xI (min (min ((xpl h (xpl h 16 (x1 - 1)) (x2 - 1)) + 0) ((xpl h (xpl h 16 (x1 - 1)) x2) + 1)) ((xpl h (xpl h 16 x1) (x2 - 1)) + 1))]) (hI := d_Vocabulary_costAt_83) (hi := rfl) (hn := Nat.le_of_ble_eq_true rfl) (hL9 := rfl) ?_
        refine xr_iload_n (pc := 84) (i := 1) (hI := d_Vocabulary_costAt_84) (hi := rfl) (hl := rfl) ?_
        refine xr_iconst (pc := 85) (hI := d_Vocabulary_costAt_85) (hr := by decide) ?_
        refine xr_icmp_le (pc := 86) (tgt := 151) (hI := d_Vocabulary_costAt_86) (ht := by decide) (fun q9 => ?_) (fun q9 => ?_)
        · replace hyp := hyp.1 q9
          have q62_ := q9
          clear q9
          refine xr_iload_n (pc := 151) (i := 3) (hI := d_Vocabulary_costAt_151) (hi := rfl) (hl := rfl) ?_
          refine xr_ireturn (S := []) (pc := 152) (hI := d_Vocabulary_costAt_152) (hr := rfl) ?_
          exact hyp
        · replace hyp := hyp.2 q9
          have q62_ := q9
          clear q9
          refine xr_iload_n (pc := 89) (i := 2) (hI := d_Vocabulary_costAt_89) (hi := rfl) (hl := rfl) ?_
          refine xr_iconst (pc := 90) (hI := d_Vocabulary_costAt_90) (hr := by decide) ?_
          refine xr_icmp_le (pc := 91) (tgt := 151) (hI := d_Vocabulary_costAt_91) (ht := by decide) (fun q9 => ?_) (fun q9 => ?_)
          · replace hyp := hyp.1 q9
            have q63_ := q9
            clear q9
            refine xr_iload_n (pc := 151) (i := 3) (hI := d_Vocabulary_costAt_151) (hi := rfl) (hl := rfl) ?_
            refine xr_ireturn (S := []) (pc := 152) (hI := d_Vocabulary_costAt_152) (hr := rfl) ?_
            exact hyp
          · replace hyp := hyp.2 q9
            have q63_ := q9
            clear q9
            refine xr_aload_n (pc := 94) (i := 0) (hI := d_Vocabulary_costAt_94) (hi := rfl) (hl := rfl) ?_
            refine xg_getf (pc := 95) (ci := 10) (k := 5) (N := 7) (v9 := 2) (v := 30) (T := xF10) (hI := d_Vocabulary_costAt_95) (hw := w_185) rfl xi10 (Or.inl rfl) (Nat.le_of_ble_eq_true rfl) (Nat.le_of_ble_eq_true rfl) rfl (ft_12 F) (fp_12_5 F) (fun f64_ => ?_)
            clear f64_
            refine xr_iload_n (pc := 98) (i := 1) (hI := d_Vocabulary_costAt_98) (hi := rfl) (hl := rfl) ?_
            refine xr_iconst (pc := 99) (hI := d_Vocabulary_costAt_99) (hr := by decide) ?_
            refine xr_isub (pc := 100) (hI := d_Vocabulary_costAt_100) (hr := ⟨by clear hyp; omega, by clear hyp; omega⟩) ?_
            refine xg_iaload (pc := 101) (v := (xpl h 30 (x1 - 1))) (hI := d_Vocabulary_costAt_101) (ft_30 F) (by clear hyp; omega) (xlt_of (fl_30 F) (by clear hyp; omega)) rfl (fun f65_ => ?_)
            replace f65_ : -2147483648 ≤ (xpl h 30 (x1 - 1)) ∧ (xpl h 30 (x1 - 1)) ≤ 2147483647 := f65_
            refine xr_aload_n (pc := 102) (i := 0) (hI := d_Vocabulary_costAt_102) (hi := rfl) (hl := rfl) ?_
            refine xg_getf (pc := 103) (ci := 10) (k := 6) (N := 7) (v9 := 2) (v := 31) (T := xF10) (hI := d_Vocabulary_costAt_103) (hw := w_186) rfl xi10 (Or.inl rfl) (Nat.le_of_ble_eq_true rfl) (Nat.le_of_ble_eq_true rfl) rfl (ft_12 F) (fp_12_6 F) (fun f66_ => ?_)
            clear f66_
            refine xr_iload_n (pc := 106) (i := 2) (hI := d_Vocabulary_costAt_106) (hi := rfl) (hl := rfl) ?_
            refine xr_iconst (pc := 107) (hI := d_Vocabulary_costAt_107) (hr := by decide) ?_
            refine xr_isub (pc := 108) (hI := d_Vocabulary_costAt_108) (hr := ⟨by clear hyp; omega, by clear hyp; omega⟩) ?_
            refine xg_iaload (pc := 109) (v := (xpl h 31 (x2 - 2))) (hI := d_Vocabulary_costAt_109) (ft_31 F) (by clear hyp; omega) (xlt_of (fl_31 F) (by clear hyp; omega)) rfl (fun f67_ => ?_)
            replace f67_ : -2147483648 ≤ (xpl h 31 (x2 - 2)) ∧ (xpl h 31 (x2 - 2)) ≤ 2147483647 := f67_
            refine xr_icmp_ne (pc := 110) (tgt := 151) (hI := d_Vocabulary_costAt_110) (ht := by decide) (fun q9 => ?_) (fun q9 => ?_)
            · replace hyp := hyp.2 q9
              have q68_ := q9
              clear q9
              refine xr_iload_n (pc := 151) (i := 3) (hI := d_Vocabulary_costAt_151) (hi := rfl) (hl := rfl) ?_
              refine xr_ireturn (S := []) (pc := 152) (hI := d_Vocabulary_costAt_152) (hr := rfl) ?_
              exact hyp
            · replace hyp := hyp.1 q9
              have q68_ := q9
              clear q9
              refine xr_aload_n (pc := 113) (i := 0) (hI := d_Vocabulary_costAt_113) (hi := rfl) (hl := rfl) ?_
              refine xg_getf (pc := 114) (ci := 10) (k := 5) (N := 7) (v9 := 2) (v := 30) (T := xF10) (hI := d_Vocabulary_costAt_114) (hw := w_185) rfl xi10 (Or.inl rfl) (Nat.le_of_ble_eq_true rfl) (Nat.le_of_ble_eq_true rfl) rfl (ft_12 F) (fp_12_5 F) (fun f69_ => ?_)
              clear f69_
              refine xr_iload_n (pc := 117) (i := 1) (hI := d_Vocabulary_costAt_117) (hi := rfl) (hl := rfl) ?_
              refine xr_iconst (pc := 118) (hI := d_Vocabulary_costAt_118) (hr := by decide) ?_
              refine xr_isub (pc := 119) (hI := d_Vocabulary_costAt_119) (hr := ⟨by clear hyp; omega, by clear hyp; omega⟩) ?_
              refine xg_iaload (pc := 120) (v := (xpl h 30 (x1 - 2))) (hI := d_Vocabulary_costAt_120) (ft_30 F) (by clear hyp; omega) (xlt_of (fl_30 F) (by clear hyp; omega)) rfl (fun f70_ => ?_)
              replace f70_ : -2147483648 ≤ (xpl h 30 (x1 - 2)) ∧ (xpl h 30 (x1 - 2)) ≤ 2147483647 := f70_
              refine xr_aload_n (pc := 121) (i := 0) (hI := d_Vocabulary_costAt_121) (hi := rfl) (hl := rfl) ?_
              refine xg_getf (pc := 122) (ci := 10) (k := 6) (N := 7) (v9 := 2) (v := 31) (T := xF10) (hI := d_Vocabulary_costAt_122) (hw := w_186) rfl xi10 (Or.inl rfl) (Nat.le_of_ble_eq_true rfl) (Nat.le_of_ble_eq_true rfl) rfl (ft_12 F) (fp_12_6 F) (fun f71_ => ?_)
              clear f71_
              refine xr_iload_n (pc := 125) (i := 2) (hI := d_Vocabulary_costAt_125) (hi := rfl) (hl := rfl) ?_
              refine xr_iconst (pc := 126) (hI := d_Vocabulary_costAt_126) (hr := by decide) ?_
              refine xr_isub (pc := 127) (hI := d_Vocabulary_costAt_127) (hr := ⟨by clear hyp; omega, by clear hyp; omega⟩) ?_
              refine xg_iaload (pc := 128) (v := (xpl h 31 (x2 - 1))) (hI := d_Vocabulary_costAt_128) (ft_31 F) (by clear hyp; omega) (xlt_of (fl_31 F) (by clear hyp; omega)) rfl (fun f72_ => ?_)
              replace f72_ : -2147483648 ≤ (xpl h 31 (x2 - 1)) ∧ (xpl h 31 (x2 - 1)) ≤ 2147483647 := f72_
              refine xr_icmp_ne (pc := 129) (tgt := 151) (hI := d_Vocabulary_costAt_129) (ht := by decide) (fun q9 => ?_) (fun q9 => ?_)
              · replace hyp := hyp.2 q9
                have q73_ := q9
                clear q9
                refine xr_iload_n (pc := 151) (i := 3) (hI := d_Vocabulary_costAt_151) (hi := rfl) (hl := rfl) ?_
                refine xr_ireturn (S := []) (pc := 152) (hI := d_Vocabulary_costAt_152) (hr := rfl) ?_
                exact hyp
              · replace hyp := hyp.1 q9
                have q73_ := q9
                clear q9
                refine xr_iload_n (pc := 132) (i := 3) (hI := d_Vocabulary_costAt_132) (hi := rfl) (hl := rfl) ?_
                refine xr_aload_n (pc := 133) (i := 0) (hI := d_Vocabulary_costAt_133) (hi := rfl) (hl := rfl) ?_
                refine xg_getf (pc := 134) (ci := 10) (k := 4) (N := 7) (v9 := 2) (v := 16) (T := xF10) (hI := d_Vocabulary_costAt_134) (hw := w_184) rfl xi10 (Or.inl rfl) (Nat.le_of_ble_eq_true rfl) (Nat.le_of_ble_eq_true rfl) rfl (ft_12 F) (fp_12_4 F) (fun f74_ => ?_)
                clear f74_
                refine xr_iload_n (pc := 137) (i := 1) (hI := d_Vocabulary_costAt_137) (hi := rfl) (hl := rfl) ?_
                refine xr_iconst (pc := 138) (hI := d_Vocabulary_costAt_138) (hr := by decide) ?_
                refine xr_isub (pc := 139) (hI := d_Vocabulary_costAt_139) (hr := ⟨by clear hyp; omega, by clear hyp; omega⟩) ?_
                refine xg_aaload (pc := 140) (t := 111) (v := (xpl h 16 (x1 - 2))) (hI := d_Vocabulary_costAt_140) (ft_16 F) (Nat.le_of_ble_eq_true rfl) rfl (Nat.le_of_ble_eq_true rfl) (by clear hyp; omega) (xlt_of (fl_16 F) (by clear hyp; omega)) rfl ?_
                refine xr_iload_n (pc := 141) (i := 2) (hI := d_Vocabulary_costAt_141) (hi := rfl) (hl := rfl) ?_
                refine xr_iconst (pc := 142) (hI := d_Vocabulary_costAt_142) (hr := by decide) ?_
                refine xr_isub (pc := 143) (hI := d_Vocabulary_costAt_143) (hr := ⟨by clear hyp; omega, by clear hyp; omega⟩) ?_
                obtain ⟨c9, hyp⟩ := hyp
                have t75_ := c9
                clear c9
                obtain ⟨c76_, hyp⟩ := hyp
                refine xg_iaload (pc := 144) (v := (xpl h (xpl h 16 (x1 - 2)) (x2 - 2))) (hI := d_Vocabulary_costAt_144) t75_ (by clear hyp; omega) (xlt_of rfl c76_) rfl (fun f77_ => ?_)
                replace f77_ : -2147483648 ≤ (xpl h (xpl h 16 (x1 - 2)) (x2 - 2)) ∧ (xpl h (xpl h 16 (x1 - 2)) (x2 - 2)) ≤ 2147483647 := f77_
                refine xr_iconst (pc := 145) (hI := d_Vocabulary_costAt_145) (hr := by decide) ?_
                obtain ⟨c9, hyp⟩ := hyp
                refine xr_iadd (pc := 146) (hI := d_Vocabulary_costAt_146) (hr := c9) ?_
                refine xr_mmin (pc := 147) (index := 91) (hI := d_Vocabulary_costAt_147) w_936 w_542 w_25 w_mmin (Nat.le_add_left_of_le (by decide)) (Nat.le_of_ble_eq_true rfl) ?_
                have f78_ : (min (min (min ((xpl h (xpl h 16 (x1 - 1)) (x2 - 1)) + 0) ((xpl h (xpl h 16 (x1 - 1)) x2) + 1)) ((xpl h (xpl h 16 x1) (x2 - 1)) + 1)) ((xpl h (xpl h 16 (x1 - 2)) (x2 - 2)) + 1)) ≤ (min (min ((xpl h (xpl h 16 (x1 - 1)) (x2 - 1)) + 0) ((xpl h (xpl h 16 (x1 - 1)) x2) + 1)) ((xpl h (xpl h 16 x1) (x2 - 1)) + 1)) := (by clear hyp; omega)
                have f79_ : (min (min (min ((xpl h (xpl h 16 (x1 - 1)) (x2 - 1)) + 0) ((xpl h (xpl h 16 (x1 - 1)) x2) + 1)) ((xpl h (xpl h 16 x1) (x2 - 1)) + 1)) ((xpl h (xpl h 16 (x1 - 2)) (x2 - 2)) + 1)) ≤ ((xpl h (xpl h 16 (x1 - 2)) (x2 - 2)) + 1) := (by clear hyp; omega)
                have f80_ : (-2147483648) ≤ (min (min (min ((xpl h (xpl h 16 (x1 - 1)) (x2 - 1)) + 0) ((xpl h (xpl h 16 (x1 - 1)) x2) + 1)) ((xpl h (xpl h 16 x1) (x2 - 1)) + 1)) ((xpl h (xpl h 16 (x1 - 2)) (x2 - 2)) + 1)) := (by clear hyp; omega)
                refine xr_istore_n (pc := 150) (i := 3) (L9 := [xR 12, xI x1, xI x2, xI (min (min (min ((xpl h (xpl h 16 (x1 - 1)) (x2 - 1)) + 0) ((xpl h (xpl h 16 (x1 - 1)) x2) + 1)) ((xpl h (xpl h 16 x1) (x2 - 1)) + 1)) ((xpl h (xpl h 16 (x1 - 2)) (x2 - 2)) + 1))]) (hI := d_Vocabulary_costAt_150) (hi := rfl) (hn := Nat.le_of_ble_eq_true rfl) (hL9 := rfl) ?_
                refine xr_iload_n (pc := 151) (i := 3) (hI := d_Vocabulary_costAt_151) (hi := rfl) (hl := rfl) ?_
                refine xr_ireturn (S := []) (pc := 152) (hI := d_Vocabulary_costAt_152) (hr := rfl) ?_
                exact hyp
    · replace hyp := hyp.1 q9
      have q2_ := q9
      clear q9
      refine xr_iload_n (pc := 8) (i := 1) (hI := d_Vocabulary_costAt_8) (hi := rfl) (hl := rfl) ?_
      refine xr_iload_n (pc := 9) (i := 2) (hI := d_Vocabulary_costAt_9) (hi := rfl) (hl := rfl) ?_
      refine xr_iadd (pc := 10) (hI := d_Vocabulary_costAt_10) (hr := ⟨by clear hyp; omega, by clear hyp; omega⟩) ?_
      refine xr_ireturn (S := []) (pc := 11) (hI := d_Vocabulary_costAt_11) (hr := rfl) ?_
      exact hyp
abbrev m_Vocabulary_spread : XM := (⟨"BeaconIndex$Vocabulary", "spread", "(J[I)I"⟩, prog_11_method_10_code, 5, (some .int), [])
theorem d_Vocabulary_spread_0 : decode prog_11_method_10_code 0 = .ok (.lload_n 0, 1) := by decide +kernel
theorem d_Vocabulary_spread_1 : decode prog_11_method_10_code 1 = .ok (.invokestatic 86, 3) := by decide +kernel
theorem k_Words_sizeOf : xCal m_Words_sizeOf 1 := ⟨List.mem_append_right _ (List.mem_of_getElem? (i := 872) (by decide +kernel)), w_24, Nat.le_of_ble_eq_true rfl, ⟨by decide +kernel, by decide +kernel⟩, by decide +kernel, by decide +kernel, rfl⟩
theorem w_935 : Cond.methodLink "BeaconIndex$Vocabulary" 86 ⟨"BeaconIndex$Words", "sizeOf", "(J)I"⟩ ∈ lw_tbl := List.mem_append_right _ (List.mem_of_getElem? (i := 935) (by decide +kernel))
theorem w_871 : Cond.static ⟨"BeaconIndex$Words", "sizeOf", "(J)I"⟩ ∈ lw_tbl := List.mem_append_right _ (List.mem_of_getElem? (i := 871) (by decide +kernel))
theorem d_Vocabulary_spread_4 : decode prog_11_method_10_code 4 = .ok (.aload_n 2, 1) := by decide +kernel
theorem d_Vocabulary_spread_5 : decode prog_11_method_10_code 5 = .ok (.arraylength, 1) := by decide +kernel
theorem d_Vocabulary_spread_6 : decode prog_11_method_10_code 6 = .ok (.invokestatic 91, 3) := by decide +kernel
theorem d_Vocabulary_spread_9 : decode prog_11_method_10_code 9 = .ok (.istore_n 3, 1) := by decide +kernel
theorem d_Vocabulary_spread_10 : decode prog_11_method_10_code 10 = .ok (.iconst 0, 1) := by decide +kernel
theorem d_Vocabulary_spread_11 : decode prog_11_method_10_code 11 = .ok (.istore 4, 2) := by decide +kernel
theorem v_Vocabulary_spread_0 {G : XG} {d : Nat} {h : XH} {Q : XV → XH → Prop} {X : Nat → XH → Prop} {x0 x2 : Int} (F : xFix h) (hyp : xtg h x2 = 100 ∧ (xwp G m_Vocabulary_spread (d + 4) 13 [xL x0, xZ, xR x2, xI (min (wsz x0) (xln h x2)), xI 0] [] h Q X)) : xwp G m_Vocabulary_spread (d + 4) 0 [xL x0, xZ, xR x2, xZ, xZ] [] h Q X := by
  have hnx9 : (93 : Int) ≤ xnx h := F.2.2
  refine xr_okL (fun hl9 => ?_)
  have r_x0 : -9223372036854775808 ≤ x0 ∧ x0 ≤ 9223372036854775807 := hl9 (xL x0) (.head _) (Nat.le_of_ble_eq_true rfl)
  refine xr_lload_n (pc := 0) (i := 0) (hI := d_Vocabulary_spread_0) (hi := rfl) (hl := rfl) ?_
  refine xq_callS (pc := 1) (index := 86) (K := m_Words_sizeOf) (As := [xL x0]) (S := []) (L0 := [xL x0, xZ, xZ]) (hI := d_Vocabulary_spread_1) (hK := k_Words_sizeOf) (hlk := w_935) (hnoM := rfl) (hS8 := Nat.le_of_ble_eq_true rfl) (hstat := w_871) (hlen := Nat.le_of_ble_eq_true rfl) (hst := rfl) (hL0 := rfl)  (p_Words_sizeOf F  ?_)
  show xwp G m_Vocabulary_spread (d + 4) 4 [xL x0, xZ, xR x2, xZ, xZ] [xI (wsz x0)] _ _ _
  have f1_ : 0 ≤ (wsz x0) ∧ (wsz x0) ≤ 12 := wsz_rng _
  refine xr_aload_n (pc := 4) (i := 2) (hI := d_Vocabulary_spread_4) (hi := rfl) (hl := rfl) ?_
  obtain ⟨c9, hyp⟩ := hyp
  have t2_ := c9
  clear c9
  refine xg_alen (pc := 5) (t := 100) (v := (xln h x2)) (hI := d_Vocabulary_spread_5) t2_ (Nat.le_of_ble_eq_true rfl) (Nat.le_of_ble_eq_true rfl) rfl rfl (fun f3_ f4_ => ?_)
  refine xr_mmin (pc := 6) (index := 91) (hI := d_Vocabulary_spread_6) w_936 w_542 w_25 w_mmin (Nat.le_add_left_of_le (by decide)) (Nat.le_of_ble_eq_true rfl) ?_
  have f5_ : (min (wsz x0) (xln h x2)) ≤ (wsz x0) := (by clear hyp; omega)
  have f6_ : (min (wsz x0) (xln h x2)) ≤ (xln h x2) := (by clear hyp; omega)
  have f7_ : 0 ≤ (min (wsz x0) (xln h x2)) := (by clear hyp; omega)
  refine xr_istore_n (pc := 9) (i := 3) (L9 := [xL x0, xZ, xR x2, xI (min (wsz x0) (xln h x2)), xZ]) (hI := d_Vocabulary_spread_9) (hi := rfl) (hn := Nat.le_of_ble_eq_true rfl) (hL9 := rfl) ?_
  refine xr_iconst (pc := 10) (hI := d_Vocabulary_spread_10) (hr := by decide) ?_
  refine xr_istore (pc := 11) (i := 4) (L9 := [xL x0, xZ, xR x2, xI (min (wsz x0) (xln h x2)), xI 0]) (hI := d_Vocabulary_spread_11) (hn := Nat.le_of_ble_eq_true rfl) (hL9 := rfl) ?_
  exact hyp
theorem d_Vocabulary_spread_13 : decode prog_11_method_10_code 13 = .ok (.iload 4, 2) := by decide +kernel
theorem d_Vocabulary_spread_15 : decode prog_11_method_10_code 15 = .ok (.iload_n 3, 1) := by decide +kernel
theorem d_Vocabulary_spread_16 : decode prog_11_method_10_code 16 = .ok (.if_icmp .ge 19, 3) := by decide +kernel
theorem d_Vocabulary_spread_35 : decode prog_11_method_10_code 35 = .ok (.iload_n 3, 1) := by decide +kernel
theorem d_Vocabulary_spread_36 : decode prog_11_method_10_code 36 = .ok (.ireturn, 1) := by decide +kernel
theorem d_Vocabulary_spread_19 : decode prog_11_method_10_code 19 = .ok (.aload_n 2, 1) := by decide +kernel
theorem d_Vocabulary_spread_20 : decode prog_11_method_10_code 20 = .ok (.iload 4, 2) := by decide +kernel
theorem d_Vocabulary_spread_22 : decode prog_11_method_10_code 22 = .ok (.lload_n 0, 1) := by decide +kernel
theorem d_Vocabulary_spread_23 : decode prog_11_method_10_code 23 = .ok (.iload 4, 2) := by decide +kernel
theorem d_Vocabulary_spread_25 : decode prog_11_method_10_code 25 = .ok (.invokestatic 96, 3) := by decide +kernel
theorem w_937 : Cond.methodLink "BeaconIndex$Vocabulary" 96 ⟨"BeaconIndex$Words", "signAt", "(JI)I"⟩ ∈ lw_tbl := List.mem_append_right _ (List.mem_of_getElem? (i := 937) (by decide +kernel))
theorem d_Vocabulary_spread_28 : decode prog_11_method_10_code 28 = .ok (.iastore, 1) := by decide +kernel
theorem d_Vocabulary_spread_29 : decode prog_11_method_10_code 29 = .ok (.iinc 4 1, 3) := by decide +kernel
theorem d_Vocabulary_spread_32 : decode prog_11_method_10_code 32 = .ok (.goto (-19), 3) := by decide +kernel
theorem v_Vocabulary_spread_13 {G : XG} {d : Nat} {h : XH} {Q : XV → XH → Prop} {X : Nat → XH → Prop} {x0 x2 x3 x4 : Int} (F : xFix h) (hyp : ((x3 ≤ x4 → (Q (xI x3) h)) ∧ (¬ x3 ≤ x4 → -1000 ≤ x4 ∧ x4 ≤ 1000 ∧ xtg h x2 = 100 ∧ 0 ≤ x2 ∧ 0 ≤ x4 ∧ x4 < (xln h x2) ∧ (xFix (xst h x2 x4 (sat x0 x4)) → xwp G m_Vocabulary_spread (d + 4) 13 [xL x0, xZ, xR x2, xI x3, xI (x4 + 1)] [] (xst h x2 x4 (sat x0 x4)) Q X)))) : xwp G m_Vocabulary_spread (d + 4) 13 [xL x0, xZ, xR x2, xI x3, xI x4] [] h Q X := by
  have hnx9 : (93 : Int) ≤ xnx h := F.2.2
  refine xr_okL (fun hl9 => ?_)
  have r_x0 : -9223372036854775808 ≤ x0 ∧ x0 ≤ 9223372036854775807 := hl9 (xL x0) (.head _) (Nat.le_of_ble_eq_true rfl)
  have r_x3 : -2147483648 ≤ x3 ∧ x3 ≤ 2147483647 := hl9 (xI x3) (.tail _ (.tail _ (.tail _ (.head _)))) (Nat.le_of_ble_eq_true rfl)
  have r_x4 : -2147483648 ≤ x4 ∧ x4 ≤ 2147483647 := hl9 (xI x4) (.tail _ (.tail _ (.tail _ (.tail _ (.head _))))) (Nat.le_of_ble_eq_true rfl)
  refine xr_iload (pc := 13) (i := 4) (hI := d_Vocabulary_spread_13) (hl := rfl) ?_
  refine xr_iload_n (pc := 15) (i := 3) (hI := d_Vocabulary_spread_15) (hi := rfl) (hl := rfl) ?_
  refine xr_icmp_ge (pc := 16) (tgt := 35) (hI := d_Vocabulary_spread_16) (ht := by decide) (fun q9 => ?_) (fun q9 => ?_)
  · replace hyp := hyp.1 q9
    have q1_ := q9
    clear q9
    refine xr_iload_n (pc := 35) (i := 3) (hI := d_Vocabulary_spread_35) (hi := rfl) (hl := rfl) ?_
    refine xr_ireturn (S := []) (pc := 36) (hI := d_Vocabulary_spread_36) (hr := rfl) ?_
    exact hyp
  · replace hyp := hyp.2 q9
    have q1_ := q9
    clear q9
    refine xr_aload_n (pc := 19) (i := 2) (hI := d_Vocabulary_spread_19) (hi := rfl) (hl := rfl) ?_
    refine xr_iload (pc := 20) (i := 4) (hI := d_Vocabulary_spread_20) (hl := rfl) ?_
    refine xr_lload_n (pc := 22) (i := 0) (hI := d_Vocabulary_spread_22) (hi := rfl) (hl := rfl) ?_
    refine xr_iload (pc := 23) (i := 4) (hI := d_Vocabulary_spread_23) (hl := rfl) ?_
    obtain ⟨c2_, hyp⟩ := hyp
    obtain ⟨c3_, hyp⟩ := hyp
    refine xq_callS (pc := 25) (index := 96) (K := m_Words_signAt) (As := [xL x0, xI x4]) (S := [xI x4, xR x2]) (L0 := [xL x0, xZ, xI x4]) (hI := d_Vocabulary_spread_25) (hK := k_Words_signAt) (hlk := w_937) (hnoM := rfl) (hS8 := Nat.le_of_ble_eq_true rfl) (hstat := w_874) (hlen := Nat.le_of_ble_eq_true rfl) (hst := rfl) (hL0 := rfl)  (p_Words_signAt F c2_ c3_ ?_)
    show xwp G m_Vocabulary_spread (d + 4) 28 [xL x0, xZ, xR x2, xI x3, xI x4] [xI (sat x0 x4), xI x4, xR x2] _ _ _
    have f4_ : (-36) ≤ (sat x0 x4) ∧ (sat x0 x4) ≤ 36 := sat_rng _ _
    obtain ⟨c9, hyp⟩ := hyp
    have t5_ := c9
    clear c9
    obtain ⟨c6_, hyp⟩ := hyp
    obtain ⟨c7_, hyp⟩ := hyp
    obtain ⟨c8_, hyp⟩ := hyp
    refine xr_iastore (pc := 28) (hI := d_Vocabulary_spread_28) t5_ c6_ c7_ (xlt_of rfl c8_) ?_
    have F9_ : xFix (xst h x2 x4 (sat x0 x4)) := F.stTA (t := 100) c6_ t5_ xta_100
    refine xr_iinc (pc := 29) (i := 4) (L9 := [xL x0, xZ, xR x2, xI x3, xI (x4 + 1)]) (hI := d_Vocabulary_spread_29) (hl := rfl) (hn := Nat.le_of_ble_eq_true rfl) (hr := ⟨by clear hyp; omega, by clear hyp; omega⟩) (hL9 := rfl) ?_
    refine xr_goto (pc := 32) (tgt := 13) (hI := d_Vocabulary_spread_32) (ht := by decide) ?_
    exact (hyp F9_)
/-- how many changes between the first i signs of the one and the first j of the other -/
def osa (f g : Nat → Int) (i j : Nat) : Int :=
  if i = 0 then j else if j = 0 then i else
    (if 2 ≤ i ∧ 2 ≤ j ∧ f (i - 1) = g (j - 2) ∧ f (i - 2) = g (j - 1) then (fun c => min c (osa f g (i - 2) (j - 2) + 1)) else (fun c => c))
      (min (min (osa f g (i - 1) (j - 1) + (if f (i - 1) = g (j - 1) then 0 else 1)) (osa f g (i - 1) j + 1)) (osa f g i (j - 1) + 1))
termination_by i + j
decreasing_by all_goals omega
theorem osa_0 (f g : Nat → Int) {i j : Nat} (h : i = 0 ∨ j = 0) : osa f g i j = i + j := by
  rw [osa]
  by_cases z : i = 0
  · rw [if_pos z]; omega
  · rw [if_neg z, if_pos (by omega)]; omega
theorem osa_s (f g : Nat → Int) {i j : Nat} (h1 : i ≠ 0) (h2 : j ≠ 0) (c : Int) (hc : c = min (min (osa f g (i - 1) (j - 1) + (if f (i - 1) = g (j - 1) then 0 else 1)) (osa f g (i - 1) j + 1)) (osa f g i (j - 1) + 1)) :
    ((2 ≤ i ∧ 2 ≤ j ∧ f (i - 1) = g (j - 2) ∧ f (i - 2) = g (j - 1)) → osa f g i j = min c (osa f g (i - 2) (j - 2) + 1)) ∧ (¬ (2 ≤ i ∧ 2 ≤ j ∧ f (i - 1) = g (j - 2) ∧ f (i - 2) = g (j - 1)) → osa f g i j = c) := by
  rw [osa, if_neg h1, if_neg h2, ← hc]
  exact ⟨fun z => by rw [if_pos z], fun z => by rw [if_neg z]⟩
theorem osa_rng (f g : Nat → Int) : ∀ (n i j : Nat), i + j ≤ n → 0 ≤ osa f g i j ∧ osa f g i j ≤ i + j := by
  intro n
  induction n with
  | zero =>
    intro i j h
    rw [osa_0 f g (by omega)]; omega
  | succ n ih =>
    intro i j h
    by_cases z : i = 0 ∨ j = 0
    · rw [osa_0 f g z]; omega
    · have a1 := ih (i - 1) (j - 1) (by omega)
      have a2 := ih (i - 1) j (by omega)
      have a3 := ih i (j - 1) (by omega)
      have a4 := ih (i - 2) (j - 2) (by omega)
      obtain ⟨c, hc⟩ : ∃ c, c = min (min (osa f g (i - 1) (j - 1) + (if f (i - 1) = g (j - 1) then 0 else 1)) (osa f g (i - 1) j + 1)) (osa f g i (j - 1) + 1) := ⟨_, rfl⟩
      obtain ⟨e1, e2⟩ := osa_s f g (i := i) (j := j) (by omega) (by omega) c hc
      by_cases y : 2 ≤ i ∧ 2 ≤ j ∧ f (i - 1) = g (j - 2) ∧ f (i - 2) = g (j - 1)
      · rw [e1 y]
        have : 0 ≤ (if f (i - 1) = g (j - 1) then (0 : Int) else 1) ∧ (if f (i - 1) = g (j - 1) then (0 : Int) else 1) ≤ 1 := by split <;> omega
        omega
      · rw [e2 y]
        have : 0 ≤ (if f (i - 1) = g (j - 1) then (0 : Int) else 1) ∧ (if f (i - 1) = g (j - 1) then (0 : Int) else 1) ≤ 1 := by split <;> omega
        omega
theorem x16_at {h : XH} (F : xFix h) {k : Int} (h0 : 0 ≤ k) (h1 : k ≤ 12) : xpl h 16 k = 17 + k := by
  obtain ⟨n, rfl⟩ : ∃ n : Nat, k = n := ⟨k.toNat, by omega⟩
  have : n = 0 ∨ n = 1 ∨ n = 2 ∨ n = 3 ∨ n = 4 ∨ n = 5 ∨ n = 6 ∨ n = 7 ∨ n = 8 ∨ n = 9 ∨ n = 10 ∨ n = 11 ∨ n = 12 := by omega
  rcases this with e | e | e | e | e | e | e | e | e | e | e | e | e <;> subst e
  · exact fp_16_0 F
  · exact fp_16_1 F
  · exact fp_16_2 F
  · exact fp_16_3 F
  · exact fp_16_4 F
  · exact fp_16_5 F
  · exact fp_16_6 F
  · exact fp_16_7 F
  · exact fp_16_8 F
  · exact fp_16_9 F
  · exact fp_16_10 F
  · exact fp_16_11 F
  · exact fp_16_12 F
theorem x16_row {h : XH} (F : xFix h) {k : Int} (h0 : 0 ≤ k) (h1 : k ≤ 12) : xtg h (xpl h 16 k) = 100 ∧ xln h (xpl h 16 k) = 13 := by
  rw [x16_at F h0 h1]
  obtain ⟨n, rfl⟩ : ∃ n : Nat, k = n := ⟨k.toNat, by omega⟩
  have : n = 0 ∨ n = 1 ∨ n = 2 ∨ n = 3 ∨ n = 4 ∨ n = 5 ∨ n = 6 ∨ n = 7 ∨ n = 8 ∨ n = 9 ∨ n = 10 ∨ n = 11 ∨ n = 12 := by omega
  rcases this with e | e | e | e | e | e | e | e | e | e | e | e | e <;> subst e
  · exact ⟨ft_17 F, fl_17 F⟩
  · exact ⟨ft_18 F, fl_18 F⟩
  · exact ⟨ft_19 F, fl_19 F⟩
  · exact ⟨ft_20 F, fl_20 F⟩
  · exact ⟨ft_21 F, fl_21 F⟩
  · exact ⟨ft_22 F, fl_22 F⟩
  · exact ⟨ft_23 F, fl_23 F⟩
  · exact ⟨ft_24 F, fl_24 F⟩
  · exact ⟨ft_25 F, fl_25 F⟩
  · exact ⟨ft_26 F, fl_26 F⟩
  · exact ⟨ft_27 F, fl_27 F⟩
  · exact ⟨ft_28 F, fl_28 F⟩
  · exact ⟨ft_29 F, fl_29 F⟩
theorem p_Voc_costAt {G : XG} {d : Nat} {h : XH} {Q : XV → XH → Prop} {X : Nat → XH → Prop} {f g : Nat → Int} {i j : Nat} (F : xFix h) (hi : i ≤ 12) (hj : j ≤ 12) (hf : ∀ k : Nat, k < i → xpl h 30 k = f k) (hg : ∀ k : Nat, k < j → xpl h 31 k = g k)
    (hc : ∀ a b : Nat, a ≤ i → b ≤ j → a < i ∨ b < j → xpl h (xpl h 16 a) b = osa f g a b) (hq : Q (xI (osa f g i j)) h) : xwp G m_Vocabulary_costAt (d + 2) 0 [xR 12, xI i, xI j, xZ] [] h Q X := by
  by_cases z : i = 0 ∨ j = 0
  · rw [osa_0 f g z] at hq
    refine v_Vocabulary_costAt_0 F ?_
    refine ⟨fun q1 => ?_, fun q1 => ?_⟩
    · exact hq
    · refine ⟨fun q2 => ?_, fun q2 => ?_⟩
      · exact hq
      · refine ⟨?_, ?_⟩
        · omega
        · refine ⟨?_, ?_⟩
          · omega
          · refine ⟨?_, ?_⟩
            · omega
            · refine ⟨?_, ?_⟩
              · omega
              · refine ⟨?_, ?_⟩
                · omega
                · refine ⟨?_, ?_⟩
                  · omega
                  · refine ⟨?_, ?_⟩
                    · omega
                    · refine ⟨?_, ?_⟩
                      · omega
                      · refine ⟨?_, ?_⟩
                        · omega
                        · refine ⟨fun q3 => ?_, fun q3 => ?_⟩
                          · refine ⟨?_, ?_⟩
                            · omega
                            · refine ⟨?_, ?_⟩
                              · omega
                              · refine ⟨?_, ?_⟩
                                · omega
                                · refine ⟨?_, ?_⟩
                                  · omega
                                  · refine ⟨?_, ?_⟩
                                    · omega
                                    · refine ⟨fun q4 => ?_, fun q4 => ?_⟩
                                      · omega
                                      · refine ⟨fun q5 => ?_, fun q5 => ?_⟩
                                        · omega
                                        · refine ⟨fun q6 => ?_, fun q6 => ?_⟩
                                          · refine ⟨fun q7 => ?_, fun q7 => ?_⟩
                                            · refine ⟨?_, ?_⟩
                                              · omega
                                              · refine ⟨?_, ?_⟩
                                                · omega
                                                · refine ⟨?_, ?_⟩
                                                  · omega
                                                  · omega
                                            · omega
                                          · omega
                          · refine ⟨?_, ?_⟩
                            · omega
                            · refine ⟨?_, ?_⟩
                              · omega
                              · refine ⟨?_, ?_⟩
                                · omega
                                · refine ⟨?_, ?_⟩
                                  · omega
                                  · refine ⟨?_, ?_⟩
                                    · omega
                                    · refine ⟨?_, ?_⟩
                                      · omega
                                      · refine ⟨fun q4 => ?_, fun q4 => ?_⟩
                                        · omega
                                        · refine ⟨fun q5 => ?_, fun q5 => ?_⟩
                                          · omega
                                          · refine ⟨fun q6 => ?_, fun q6 => ?_⟩
                                            · refine ⟨fun q7 => ?_, fun q7 => ?_⟩
                                              · refine ⟨?_, ?_⟩
                                                · omega
                                                · refine ⟨?_, ?_⟩
                                                  · omega
                                                  · refine ⟨?_, ?_⟩
                                                    · omega
                                                    · omega
                                              · omega
                                            · omega
  · have i1 : (i : Int) - 1 = ((i - 1 : Nat) : Int) := by omega
    have j1 : (j : Int) - 1 = ((j - 1 : Nat) : Int) := by omega
    have f1 := hf (i - 1) (by omega)
    have g1 := hg (j - 1) (by omega)
    have c1 := hc (i - 1) (j - 1) (by omega) (by omega) (by omega)
    have c2 := hc (i - 1) j (by omega) (by omega) (by omega)
    have c3 := hc i (j - 1) (by omega) (by omega) (by omega)
    rw [← i1] at f1 c1 c2
    rw [← j1] at g1 c1 c3
    have f2 : ∀ _ : Nat, 2 ≤ i → xpl h 30 ((i : Int) - 2) = f (i - 2) := fun _ y => by rw [show (i : Int) - 2 = ((i - 2 : Nat) : Int) by omega]; exact hf _ (by omega)
    have g2 : ∀ _ : Nat, 2 ≤ j → xpl h 31 ((j : Int) - 2) = g (j - 2) := fun _ y => by rw [show (j : Int) - 2 = ((j - 2 : Nat) : Int) by omega]; exact hg _ (by omega)
    have c4 : ∀ _ : Nat, 2 ≤ i → 2 ≤ j → xpl h (xpl h 16 ((i : Int) - 2)) ((j : Int) - 2) = osa f g (i - 2) (j - 2) := fun _ y y2 => by
      rw [show (i : Int) - 2 = ((i - 2 : Nat) : Int) by omega, show (j : Int) - 2 = ((j - 2 : Nat) : Int) by omega]; exact hc _ _ (by omega) (by omega) (by omega)
    obtain ⟨t1, l1⟩ := x16_row F (k := (i : Int) - 1) (by omega) (by omega)
    obtain ⟨t2, l2⟩ := x16_row F (k := (i : Int)) (by omega) (by omega)
    have r1 := osa_rng f g 24 (i - 1) (j - 1) (by omega)
    have r2 := osa_rng f g 24 (i - 1) j (by omega)
    have r3 := osa_rng f g 24 i (j - 1) (by omega)
    have r4 := osa_rng f g 24 (i - 2) (j - 2) (by omega)
    obtain ⟨c, hcc⟩ : ∃ c, c = min (min (osa f g (i - 1) (j - 1) + (if f (i - 1) = g (j - 1) then 0 else 1)) (osa f g (i - 1) j + 1)) (osa f g i (j - 1) + 1) := ⟨_, rfl⟩
    have hs : ∀ _ : Nat, _ := fun _ => osa_s f g (i := i) (j := j) (by omega) (by omega) c hcc
    have hi2 : 0 < i ∧ 0 < j := by omega
    clear z hf hg hc
    obtain ⟨c5, hc5⟩ : ∃ c5 : Int, c5 = if f (i - 1) = g (j - 1) then 0 else 1 := ⟨_, rfl⟩
    have hc6 : ∀ _ : Nat, f (i - 1) = g (j - 1) → c5 = 0 := fun _ y => by rw [hc5, if_pos y]
    have hc7 : ∀ _ : Nat, ¬ f (i - 1) = g (j - 1) → c5 = 1 := fun _ y => by rw [hc5, if_neg y]
    rw [← hc5] at hcc
    clear hc5
    refine v_Vocabulary_costAt_0 F ?_
    refine ⟨fun q1 => ?_, fun q1 => ?_⟩
    · omega
    · refine ⟨fun q2 => ?_, fun q2 => ?_⟩
      · omega
      · refine ⟨?_, ?_⟩
        · first | exact t1 | exact t2 | (exact ⟨by omega, by omega⟩) | omega | (have y4 := c4 0 (by omega) (by omega); exact ⟨by omega, by omega⟩) | exact (x16_row F (by omega) (by omega)).1 | (have y5 := (x16_row F (k := (i : Int) - 2) (by omega) (by omega)).2; omega)
        · refine ⟨?_, ?_⟩
          · first | exact t1 | exact t2 | (exact ⟨by omega, by omega⟩) | omega | (have y4 := c4 0 (by omega) (by omega); exact ⟨by omega, by omega⟩) | exact (x16_row F (by omega) (by omega)).1 | (have y5 := (x16_row F (k := (i : Int) - 2) (by omega) (by omega)).2; omega)
          · refine ⟨?_, ?_⟩
            · first | exact t1 | exact t2 | (exact ⟨by omega, by omega⟩) | omega | (have y4 := c4 0 (by omega) (by omega); exact ⟨by omega, by omega⟩) | exact (x16_row F (by omega) (by omega)).1 | (have y5 := (x16_row F (k := (i : Int) - 2) (by omega) (by omega)).2; omega)
            · refine ⟨?_, ?_⟩
              · first | exact t1 | exact t2 | (exact ⟨by omega, by omega⟩) | omega | (have y4 := c4 0 (by omega) (by omega); exact ⟨by omega, by omega⟩) | exact (x16_row F (by omega) (by omega)).1 | (have y5 := (x16_row F (k := (i : Int) - 2) (by omega) (by omega)).2; omega)
              · refine ⟨?_, ?_⟩
                · first | exact t1 | exact t2 | (exact ⟨by omega, by omega⟩) | omega | (have y4 := c4 0 (by omega) (by omega); exact ⟨by omega, by omega⟩) | exact (x16_row F (by omega) (by omega)).1 | (have y5 := (x16_row F (k := (i : Int) - 2) (by omega) (by omega)).2; omega)
                · refine ⟨?_, ?_⟩
                  · first | exact t1 | exact t2 | (exact ⟨by omega, by omega⟩) | omega | (have y4 := c4 0 (by omega) (by omega); exact ⟨by omega, by omega⟩) | exact (x16_row F (by omega) (by omega)).1 | (have y5 := (x16_row F (k := (i : Int) - 2) (by omega) (by omega)).2; omega)
                  · refine ⟨?_, ?_⟩
                    · first | exact t1 | exact t2 | (exact ⟨by omega, by omega⟩) | omega | (have y4 := c4 0 (by omega) (by omega); exact ⟨by omega, by omega⟩) | exact (x16_row F (by omega) (by omega)).1 | (have y5 := (x16_row F (k := (i : Int) - 2) (by omega) (by omega)).2; omega)
                    · refine ⟨?_, ?_⟩
                      · first | exact t1 | exact t2 | (exact ⟨by omega, by omega⟩) | omega | (have y4 := c4 0 (by omega) (by omega); exact ⟨by omega, by omega⟩) | exact (x16_row F (by omega) (by omega)).1 | (have y5 := (x16_row F (k := (i : Int) - 2) (by omega) (by omega)).2; omega)
                      · refine ⟨?_, ?_⟩
                        · first | exact t1 | exact t2 | (exact ⟨by omega, by omega⟩) | omega | (have y4 := c4 0 (by omega) (by omega); exact ⟨by omega, by omega⟩) | exact (x16_row F (by omega) (by omega)).1 | (have y5 := (x16_row F (k := (i : Int) - 2) (by omega) (by omega)).2; omega)
                        · refine ⟨fun q3 => ?_, fun q3 => ?_⟩
                          · refine ⟨?_, ?_⟩
                            · first | exact t1 | exact t2 | (exact ⟨by omega, by omega⟩) | omega | (have y4 := c4 0 (by omega) (by omega); exact ⟨by omega, by omega⟩) | exact (x16_row F (by omega) (by omega)).1 | (have y5 := (x16_row F (k := (i : Int) - 2) (by omega) (by omega)).2; omega)
                            · refine ⟨?_, ?_⟩
                              · first | exact t1 | exact t2 | (exact ⟨by omega, by omega⟩) | omega | (have y4 := c4 0 (by omega) (by omega); exact ⟨by omega, by omega⟩) | exact (x16_row F (by omega) (by omega)).1 | (have y5 := (x16_row F (k := (i : Int) - 2) (by omega) (by omega)).2; omega)
                              · refine ⟨?_, ?_⟩
                                · first | exact t1 | exact t2 | (exact ⟨by omega, by omega⟩) | omega | (have y4 := c4 0 (by omega) (by omega); exact ⟨by omega, by omega⟩) | exact (x16_row F (by omega) (by omega)).1 | (have y5 := (x16_row F (k := (i : Int) - 2) (by omega) (by omega)).2; omega)
                                · refine ⟨?_, ?_⟩
                                  · first | exact t1 | exact t2 | (exact ⟨by omega, by omega⟩) | omega | (have y4 := c4 0 (by omega) (by omega); exact ⟨by omega, by omega⟩) | exact (x16_row F (by omega) (by omega)).1 | (have y5 := (x16_row F (k := (i : Int) - 2) (by omega) (by omega)).2; omega)
                                  · refine ⟨?_, ?_⟩
                                    · first | exact t1 | exact t2 | (exact ⟨by omega, by omega⟩) | omega | (have y4 := c4 0 (by omega) (by omega); exact ⟨by omega, by omega⟩) | exact (x16_row F (by omega) (by omega)).1 | (have y5 := (x16_row F (k := (i : Int) - 2) (by omega) (by omega)).2; omega)
                                    · refine ⟨fun q4 => ?_, fun q4 => ?_⟩
                                      · refine cast (congrArg (fun v => Q (xI v) h) ?_) hq
                                        first | (have y1 := hc6 0 (by omega); clear hc6 hc7) | (have y1 := hc7 0 (by omega); clear hc6 hc7)
                                        have e2 := (hs 0).2 (fun y => by first | omega | (have y6 := f2 0 y.1; have y7 := g2 0 y.2.1; omega))
                                        rw [e2]
                                        omega
                                      · refine ⟨fun q5 => ?_, fun q5 => ?_⟩
                                        · refine cast (congrArg (fun v => Q (xI v) h) ?_) hq
                                          first | (have y1 := hc6 0 (by omega); clear hc6 hc7) | (have y1 := hc7 0 (by omega); clear hc6 hc7)
                                          have e2 := (hs 0).2 (fun y => by first | omega | (have y6 := f2 0 y.1; have y7 := g2 0 y.2.1; omega))
                                          rw [e2]
                                          omega
                                        · refine ⟨fun q6 => ?_, fun q6 => ?_⟩
                                          · refine ⟨fun q7 => ?_, fun q7 => ?_⟩
                                            · refine ⟨?_, ?_⟩
                                              · first | exact t1 | exact t2 | (exact ⟨by omega, by omega⟩) | omega | (have y4 := c4 0 (by omega) (by omega); exact ⟨by omega, by omega⟩) | exact (x16_row F (by omega) (by omega)).1 | (have y5 := (x16_row F (k := (i : Int) - 2) (by omega) (by omega)).2; omega)
                                              · refine ⟨?_, ?_⟩
                                                · first | exact t1 | exact t2 | (exact ⟨by omega, by omega⟩) | omega | (have y4 := c4 0 (by omega) (by omega); exact ⟨by omega, by omega⟩) | exact (x16_row F (by omega) (by omega)).1 | (have y5 := (x16_row F (k := (i : Int) - 2) (by omega) (by omega)).2; omega)
                                                · refine ⟨?_, ?_⟩
                                                  · first | exact t1 | exact t2 | (exact ⟨by omega, by omega⟩) | omega | (have y4 := c4 0 (by omega) (by omega); exact ⟨by omega, by omega⟩) | exact (x16_row F (by omega) (by omega)).1 | (have y5 := (x16_row F (k := (i : Int) - 2) (by omega) (by omega)).2; omega)
                                                  · refine cast (congrArg (fun v => Q (xI v) h) ?_) hq
                                                    first | (have y1 := hc6 0 (by omega); clear hc6 hc7) | (have y1 := hc7 0 (by omega); clear hc6 hc7)
                                                    have y4 := c4 0 (by omega) (by omega)
                                                    have y6 := f2 0 (by omega)
                                                    have y7 := g2 0 (by omega)
                                                    rw [(hs 0).1 (by omega)]
                                                    omega
                                            · refine cast (congrArg (fun v => Q (xI v) h) ?_) hq
                                              first | (have y1 := hc6 0 (by omega); clear hc6 hc7) | (have y1 := hc7 0 (by omega); clear hc6 hc7)
                                              have e2 := (hs 0).2 (fun y => by first | omega | (have y6 := f2 0 y.1; have y7 := g2 0 y.2.1; omega))
                                              rw [e2]
                                              omega
                                          · refine cast (congrArg (fun v => Q (xI v) h) ?_) hq
                                            first | (have y1 := hc6 0 (by omega); clear hc6 hc7) | (have y1 := hc7 0 (by omega); clear hc6 hc7)
                                            have e2 := (hs 0).2 (fun y => by first | omega | (have y6 := f2 0 y.1; have y7 := g2 0 y.2.1; omega))
                                            rw [e2]
                                            omega
                          · refine ⟨?_, ?_⟩
                            · first | exact t1 | exact t2 | (exact ⟨by omega, by omega⟩) | omega | (have y4 := c4 0 (by omega) (by omega); exact ⟨by omega, by omega⟩) | exact (x16_row F (by omega) (by omega)).1 | (have y5 := (x16_row F (k := (i : Int) - 2) (by omega) (by omega)).2; omega)
                            · refine ⟨?_, ?_⟩
                              · first | exact t1 | exact t2 | (exact ⟨by omega, by omega⟩) | omega | (have y4 := c4 0 (by omega) (by omega); exact ⟨by omega, by omega⟩) | exact (x16_row F (by omega) (by omega)).1 | (have y5 := (x16_row F (k := (i : Int) - 2) (by omega) (by omega)).2; omega)
                              · refine ⟨?_, ?_⟩
                                · first | exact t1 | exact t2 | (exact ⟨by omega, by omega⟩) | omega | (have y4 := c4 0 (by omega) (by omega); exact ⟨by omega, by omega⟩) | exact (x16_row F (by omega) (by omega)).1 | (have y5 := (x16_row F (k := (i : Int) - 2) (by omega) (by omega)).2; omega)
                                · refine ⟨?_, ?_⟩
                                  · first | exact t1 | exact t2 | (exact ⟨by omega, by omega⟩) | omega | (have y4 := c4 0 (by omega) (by omega); exact ⟨by omega, by omega⟩) | exact (x16_row F (by omega) (by omega)).1 | (have y5 := (x16_row F (k := (i : Int) - 2) (by omega) (by omega)).2; omega)
                                  · refine ⟨?_, ?_⟩
                                    · first | exact t1 | exact t2 | (exact ⟨by omega, by omega⟩) | omega | (have y4 := c4 0 (by omega) (by omega); exact ⟨by omega, by omega⟩) | exact (x16_row F (by omega) (by omega)).1 | (have y5 := (x16_row F (k := (i : Int) - 2) (by omega) (by omega)).2; omega)
                                    · refine ⟨?_, ?_⟩
                                      · first | exact t1 | exact t2 | (exact ⟨by omega, by omega⟩) | omega | (have y4 := c4 0 (by omega) (by omega); exact ⟨by omega, by omega⟩) | exact (x16_row F (by omega) (by omega)).1 | (have y5 := (x16_row F (k := (i : Int) - 2) (by omega) (by omega)).2; omega)
                                      · refine ⟨fun q4 => ?_, fun q4 => ?_⟩
                                        · refine cast (congrArg (fun v => Q (xI v) h) ?_) hq
                                          first | (have y1 := hc6 0 (by omega); clear hc6 hc7) | (have y1 := hc7 0 (by omega); clear hc6 hc7)
                                          have e2 := (hs 0).2 (fun y => by first | omega | (have y6 := f2 0 y.1; have y7 := g2 0 y.2.1; omega))
                                          rw [e2]
                                          omega
                                        · refine ⟨fun q5 => ?_, fun q5 => ?_⟩
                                          · refine cast (congrArg (fun v => Q (xI v) h) ?_) hq
                                            first | (have y1 := hc6 0 (by omega); clear hc6 hc7) | (have y1 := hc7 0 (by omega); clear hc6 hc7)
                                            have e2 := (hs 0).2 (fun y => by first | omega | (have y6 := f2 0 y.1; have y7 := g2 0 y.2.1; omega))
                                            rw [e2]
                                            omega
                                          · refine ⟨fun q6 => ?_, fun q6 => ?_⟩
                                            · refine ⟨fun q7 => ?_, fun q7 => ?_⟩
                                              · refine ⟨?_, ?_⟩
                                                · first | exact t1 | exact t2 | (exact ⟨by omega, by omega⟩) | omega | (have y4 := c4 0 (by omega) (by omega); exact ⟨by omega, by omega⟩) | exact (x16_row F (by omega) (by omega)).1 | (have y5 := (x16_row F (k := (i : Int) - 2) (by omega) (by omega)).2; omega)
                                                · refine ⟨?_, ?_⟩
                                                  · first | exact t1 | exact t2 | (exact ⟨by omega, by omega⟩) | omega | (have y4 := c4 0 (by omega) (by omega); exact ⟨by omega, by omega⟩) | exact (x16_row F (by omega) (by omega)).1 | (have y5 := (x16_row F (k := (i : Int) - 2) (by omega) (by omega)).2; omega)
                                                  · refine ⟨?_, ?_⟩
                                                    · first | exact t1 | exact t2 | (exact ⟨by omega, by omega⟩) | omega | (have y4 := c4 0 (by omega) (by omega); exact ⟨by omega, by omega⟩) | exact (x16_row F (by omega) (by omega)).1 | (have y5 := (x16_row F (k := (i : Int) - 2) (by omega) (by omega)).2; omega)
                                                    · refine cast (congrArg (fun v => Q (xI v) h) ?_) hq
                                                      first | (have y1 := hc6 0 (by omega); clear hc6 hc7) | (have y1 := hc7 0 (by omega); clear hc6 hc7)
                                                      have y4 := c4 0 (by omega) (by omega)
                                                      have y6 := f2 0 (by omega)
                                                      have y7 := g2 0 (by omega)
                                                      rw [(hs 0).1 (by omega)]
                                                      omega
                                              · refine cast (congrArg (fun v => Q (xI v) h) ?_) hq
                                                first | (have y1 := hc6 0 (by omega); clear hc6 hc7) | (have y1 := hc7 0 (by omega); clear hc6 hc7)
                                                have e2 := (hs 0).2 (fun y => by first | omega | (have y6 := f2 0 y.1; have y7 := g2 0 y.2.1; omega))
                                                rw [e2]
                                                omega
                                            · refine cast (congrArg (fun v => Q (xI v) h) ?_) hq
                                              first | (have y1 := hc6 0 (by omega); clear hc6 hc7) | (have y1 := hc7 0 (by omega); clear hc6 hc7)
                                              have e2 := (hs 0).2 (fun y => by first | omega | (have y6 := f2 0 y.1; have y7 := g2 0 y.2.1; omega))
                                              rw [e2]
                                              omega
theorem s_Voc_spread {G : XG} {d : Nat} {h : XH} {Q : XV → XH → Prop} {X : Nat → XH → Prop} {w a : Int} (F : xFix h) (ha : a = 30 ∨ a = 31)
    (hq : ∀ h', xFix h' → xsm (fun c => c = a) h h' → (∀ k : Nat, (k : Int) < wsz w → xpl h' a k = sat w k) → xnx h' = xnx h → xsl h' = xsl h → Q (xI (wsz w)) h') : xwp G m_Vocabulary_spread (d + 4) 0 [xL w, xZ, xR a, xZ, xZ] [] h Q X := by
  have ht : ∀ h2, xFix h2 → xtg h2 a = 100 ∧ xln h2 a = 12 := fun h2 F2 => by
    rcases ha with e | e
    · rw [e]; exact ⟨ft_30 F2, fl_30 F2⟩
    · rw [e]; exact ⟨ft_31 F2, fl_31 F2⟩
  have hr := wsz_rng w
  have loop : ∀ (m k : Nat) (h2 : XH), (k : Int) + m = wsz w → xFix h2 → xsm (fun c => c = a) h h2 → (∀ x : Nat, x < k → xpl h2 a x = sat w x) → xnx h2 = xnx h → xsl h2 = xsl h → xwp G m_Vocabulary_spread (d + 4) 13 [xL w, xZ, xR a, xI (wsz w), xI k] [] h2 Q X := by
    intro m
    induction m with
    | zero =>
      intro k h2 e F2 S2 hx n2 l2
      refine v_Vocabulary_spread_13 F2 ?_
      refine ⟨fun q1 => ?_, fun q1 => ?_⟩
      · exact hq h2 F2 S2 (fun x hx2 => hx x (by omega)) n2 l2
      · refine ⟨?_, ?_⟩
        · first | omega | exact (ht h2 F2).1 | (have := (ht h2 F2).2; omega)
        · refine ⟨?_, ?_⟩
          · first | omega | exact (ht h2 F2).1 | (have := (ht h2 F2).2; omega)
          · refine ⟨?_, ?_⟩
            · first | omega | exact (ht h2 F2).1 | (have := (ht h2 F2).2; omega)
            · refine ⟨?_, ?_⟩
              · first | omega | exact (ht h2 F2).1 | (have := (ht h2 F2).2; omega)
              · refine ⟨?_, ?_⟩
                · first | omega | exact (ht h2 F2).1 | (have := (ht h2 F2).2; omega)
                · refine ⟨?_, ?_⟩
                  · first | omega | exact (ht h2 F2).1 | (have := (ht h2 F2).2; omega)
                  · intro F9
                    omega
    | succ m ih =>
      intro k h2 e F2 S2 hx n2 l2
      refine v_Vocabulary_spread_13 F2 ?_
      refine ⟨fun q1 => ?_, fun q1 => ?_⟩
      · omega
      · refine ⟨?_, ?_⟩
        · first | omega | exact (ht h2 F2).1 | (have := (ht h2 F2).2; omega)
        · refine ⟨?_, ?_⟩
          · first | omega | exact (ht h2 F2).1 | (have := (ht h2 F2).2; omega)
          · refine ⟨?_, ?_⟩
            · first | omega | exact (ht h2 F2).1 | (have := (ht h2 F2).2; omega)
            · refine ⟨?_, ?_⟩
              · first | omega | exact (ht h2 F2).1 | (have := (ht h2 F2).2; omega)
              · refine ⟨?_, ?_⟩
                · first | omega | exact (ht h2 F2).1 | (have := (ht h2 F2).2; omega)
                · refine ⟨?_, ?_⟩
                  · first | omega | exact (ht h2 F2).1 | (have := (ht h2 F2).2; omega)
                  · intro F9
                    exact ih (k + 1) _ (by omega) F9 (S2.st (by omega) (Or.inl rfl)) (fun x hx2 => by
                      by_cases y : x = k
                      · subst y; rw [xpl_st, if_pos ⟨rfl, rfl⟩]
                      · rw [xpl_st, if_neg (by omega)]; exact hx x (by omega)) n2 l2
  refine v_Vocabulary_spread_0 F ?_
  refine ⟨?_, ?_⟩
  · exact (ht h F).1
  · have hl := (ht h F).2
    rw [hl, Int.min_eq_left (by omega)]
    exact loop (wsz w).toNat 0 h (by omega) F (xsm.refl h) (fun x hx => absurd hx (Nat.not_lt_zero x)) rfl rfl

end
