/-! ===== tape2 ===== -/
section
/-- a text constant and its characters -/
def StrR (h : XH) (s : Int) (cs : List Int) : Prop := strOK h s ∧ stl h s = cs.length ∧ ∀ k : Nat, k < cs.length → cs[k]? = some (stc h s k)
theorem strR_of {h : XH} {s v : Int} {cs : List Int} (t0 : xtg h s = 14) (e0 : xpl h s 0 = v) (t1 : xtg h v = 103) (l1 : xln h v = cs.length) (e1 : xpl h s 1 = 0) (hl : cs.length ≤ 1000) (hc : ∀ c ∈ cs, 0 ≤ c ∧ c ≤ 255) (hk : ∀ k : Nat, k < cs.length → cs[k]? = some (xpl h v k)) : StrR h s cs := by
  subst e0
  have key : ∀ i, 0 ≤ i → i < xln h (xpl h s 0) → 0 ≤ xpl h (xpl h s 0) i ∧ xpl h (xpl h s 0) i ≤ 255 := by
    intro i i0 i1
    have := hk i.toNat (by omega)
    rw [show ((i.toNat : Nat) : Int) = i by omega] at this
    exact hc _ (List.mem_of_getElem? this)
  exact ⟨⟨⟨t0, t1, e1, fun i i0 i1 => (key i i0 i1).1⟩, by unfold stl; omega, by unfold stl; omega, key⟩, l1, hk⟩
theorem str_2 {h : XH} (F : xFix h) : StrR h (-2) [105, 101, 115] := strR_of (ft_m2 F) (fp_m2_0 F) (ft_m3 F) (fl_m3 F) (fp_m2_1 F) (by decide) (by decide) (fun k hk => by
  match k, hk with
  | 0, _ => exact congrArg some (fp_m3_0 F).symm
  | 1, _ => exact congrArg some (fp_m3_1 F).symm
  | 2, _ => exact congrArg some (fp_m3_2 F).symm
  | n + 3, hk => exact absurd hk (by simp))
theorem str_4 {h : XH} (F : xFix h) : StrR h (-4) [115, 115, 101, 115] := strR_of (ft_m4 F) (fp_m4_0 F) (ft_m5 F) (fl_m5 F) (fp_m4_1 F) (by decide) (by decide) (fun k hk => by
  match k, hk with
  | 0, _ => exact congrArg some (fp_m5_0 F).symm
  | 1, _ => exact congrArg some (fp_m5_1 F).symm
  | 2, _ => exact congrArg some (fp_m5_2 F).symm
  | 3, _ => exact congrArg some (fp_m5_3 F).symm
  | n + 4, hk => exact absurd hk (by simp))
theorem str_6 {h : XH} (F : xFix h) : StrR h (-6) [115] := strR_of (ft_m6 F) (fp_m6_0 F) (ft_m7 F) (fl_m7 F) (fp_m6_1 F) (by decide) (by decide) (fun k hk => by
  match k, hk with
  | 0, _ => exact congrArg some (fp_m7_0 F).symm
  | n + 1, hk => exact absurd hk (by simp))
theorem str_8 {h : XH} (F : xFix h) : StrR h (-8) [115, 115] := strR_of (ft_m8 F) (fp_m8_0 F) (ft_m9 F) (fl_m9 F) (fp_m8_1 F) (by decide) (by decide) (fun k hk => by
  match k, hk with
  | 0, _ => exact congrArg some (fp_m9_0 F).symm
  | 1, _ => exact congrArg some (fp_m9_1 F).symm
  | n + 2, hk => exact absurd hk (by simp))
theorem str_10 {h : XH} (F : xFix h) : StrR h (-10) [117, 115] := strR_of (ft_m10 F) (fp_m10_0 F) (ft_m11 F) (fl_m11 F) (fp_m10_1 F) (by decide) (by decide) (fun k hk => by
  match k, hk with
  | 0, _ => exact congrArg some (fp_m11_0 F).symm
  | 1, _ => exact congrArg some (fp_m11_1 F).symm
  | n + 2, hk => exact absurd hk (by simp))
theorem str_12 {h : XH} (F : xFix h) : StrR h (-12) [105, 110, 103] := strR_of (ft_m12 F) (fp_m12_0 F) (ft_m13 F) (fl_m13 F) (fp_m12_1 F) (by decide) (by decide) (fun k hk => by
  match k, hk with
  | 0, _ => exact congrArg some (fp_m13_0 F).symm
  | 1, _ => exact congrArg some (fp_m13_1 F).symm
  | 2, _ => exact congrArg some (fp_m13_2 F).symm
  | n + 3, hk => exact absurd hk (by simp))
theorem str_14 {h : XH} (F : xFix h) : StrR h (-14) [101, 100] := strR_of (ft_m14 F) (fp_m14_0 F) (ft_m15 F) (fl_m15 F) (fp_m14_1 F) (by decide) (by decide) (fun k hk => by
  match k, hk with
  | 0, _ => exact congrArg some (fp_m15_0 F).symm
  | 1, _ => exact congrArg some (fp_m15_1 F).symm
  | n + 2, hk => exact absurd hk (by simp))
theorem str_16 {h : XH} (F : xFix h) : StrR h (-16) [116, 104, 101] := strR_of (ft_m16 F) (fp_m16_0 F) (ft_m17 F) (fl_m17 F) (fp_m16_1 F) (by decide) (by decide) (fun k hk => by
  match k, hk with
  | 0, _ => exact congrArg some (fp_m17_0 F).symm
  | 1, _ => exact congrArg some (fp_m17_1 F).symm
  | 2, _ => exact congrArg some (fp_m17_2 F).symm
  | n + 3, hk => exact absurd hk (by simp))
theorem str_18 {h : XH} (F : xFix h) : StrR h (-18) [97] := strR_of (ft_m18 F) (fp_m18_0 F) (ft_m19 F) (fl_m19 F) (fp_m18_1 F) (by decide) (by decide) (fun k hk => by
  match k, hk with
  | 0, _ => exact congrArg some (fp_m19_0 F).symm
  | n + 1, hk => exact absurd hk (by simp))
theorem str_20 {h : XH} (F : xFix h) : StrR h (-20) [97, 110] := strR_of (ft_m20 F) (fp_m20_0 F) (ft_m21 F) (fl_m21 F) (fp_m20_1 F) (by decide) (by decide) (fun k hk => by
  match k, hk with
  | 0, _ => exact congrArg some (fp_m21_0 F).symm
  | 1, _ => exact congrArg some (fp_m21_1 F).symm
  | n + 2, hk => exact absurd hk (by simp))
theorem str_22 {h : XH} (F : xFix h) : StrR h (-22) [111, 102] := strR_of (ft_m22 F) (fp_m22_0 F) (ft_m23 F) (fl_m23 F) (fp_m22_1 F) (by decide) (by decide) (fun k hk => by
  match k, hk with
  | 0, _ => exact congrArg some (fp_m23_0 F).symm
  | 1, _ => exact congrArg some (fp_m23_1 F).symm
  | n + 2, hk => exact absurd hk (by simp))
theorem str_24 {h : XH} (F : xFix h) : StrR h (-24) [97, 110, 100] := strR_of (ft_m24 F) (fp_m24_0 F) (ft_m25 F) (fl_m25 F) (fp_m24_1 F) (by decide) (by decide) (fun k hk => by
  match k, hk with
  | 0, _ => exact congrArg some (fp_m25_0 F).symm
  | 1, _ => exact congrArg some (fp_m25_1 F).symm
  | 2, _ => exact congrArg some (fp_m25_2 F).symm
  | n + 3, hk => exact absurd hk (by simp))
theorem str_26 {h : XH} (F : xFix h) : StrR h (-26) [111, 114] := strR_of (ft_m26 F) (fp_m26_0 F) (ft_m27 F) (fl_m27 F) (fp_m26_1 F) (by decide) (by decide) (fun k hk => by
  match k, hk with
  | 0, _ => exact congrArg some (fp_m27_0 F).symm
  | 1, _ => exact congrArg some (fp_m27_1 F).symm
  | n + 2, hk => exact absurd hk (by simp))
theorem str_28 {h : XH} (F : xFix h) : StrR h (-28) [116, 111] := strR_of (ft_m28 F) (fp_m28_0 F) (ft_m29 F) (fl_m29 F) (fp_m28_1 F) (by decide) (by decide) (fun k hk => by
  match k, hk with
  | 0, _ => exact congrArg some (fp_m29_0 F).symm
  | 1, _ => exact congrArg some (fp_m29_1 F).symm
  | n + 2, hk => exact absurd hk (by simp))
theorem str_30 {h : XH} (F : xFix h) : StrR h (-30) [105, 110] := strR_of (ft_m30 F) (fp_m30_0 F) (ft_m31 F) (fl_m31 F) (fp_m30_1 F) (by decide) (by decide) (fun k hk => by
  match k, hk with
  | 0, _ => exact congrArg some (fp_m31_0 F).symm
  | 1, _ => exact congrArg some (fp_m31_1 F).symm
  | n + 2, hk => exact absurd hk (by simp))
theorem str_32 {h : XH} (F : xFix h) : StrR h (-32) [116, 105, 116, 108, 101] := strR_of (ft_m32 F) (fp_m32_0 F) (ft_m33 F) (fl_m33 F) (fp_m32_1 F) (by decide) (by decide) (fun k hk => by
  match k, hk with
  | 0, _ => exact congrArg some (fp_m33_0 F).symm
  | 1, _ => exact congrArg some (fp_m33_1 F).symm
  | 2, _ => exact congrArg some (fp_m33_2 F).symm
  | 3, _ => exact congrArg some (fp_m33_3 F).symm
  | 4, _ => exact congrArg some (fp_m33_4 F).symm
  | n + 5, hk => exact absurd hk (by simp))
theorem str_34 {h : XH} (F : xFix h) : StrR h (-34) [98, 111, 100, 121] := strR_of (ft_m34 F) (fp_m34_0 F) (ft_m35 F) (fl_m35 F) (fp_m34_1 F) (by decide) (by decide) (fun k hk => by
  match k, hk with
  | 0, _ => exact congrArg some (fp_m35_0 F).symm
  | 1, _ => exact congrArg some (fp_m35_1 F).symm
  | 2, _ => exact congrArg some (fp_m35_2 F).symm
  | 3, _ => exact congrArg some (fp_m35_3 F).symm
  | n + 4, hk => exact absurd hk (by simp))
theorem str_36 {h : XH} (F : xFix h) : StrR h (-36) [105, 101, 115] := strR_of (ft_m36 F) (fp_m36_0 F) (ft_m37 F) (fl_m37 F) (fp_m36_1 F) (by decide) (by decide) (fun k hk => by
  match k, hk with
  | 0, _ => exact congrArg some (fp_m37_0 F).symm
  | 1, _ => exact congrArg some (fp_m37_1 F).symm
  | 2, _ => exact congrArg some (fp_m37_2 F).symm
  | n + 3, hk => exact absurd hk (by simp))
theorem str_38 {h : XH} (F : xFix h) : StrR h (-38) [115, 115, 101, 115] := strR_of (ft_m38 F) (fp_m38_0 F) (ft_m39 F) (fl_m39 F) (fp_m38_1 F) (by decide) (by decide) (fun k hk => by
  match k, hk with
  | 0, _ => exact congrArg some (fp_m39_0 F).symm
  | 1, _ => exact congrArg some (fp_m39_1 F).symm
  | 2, _ => exact congrArg some (fp_m39_2 F).symm
  | 3, _ => exact congrArg some (fp_m39_3 F).symm
  | n + 4, hk => exact absurd hk (by simp))
theorem str_40 {h : XH} (F : xFix h) : StrR h (-40) [115] := strR_of (ft_m40 F) (fp_m40_0 F) (ft_m41 F) (fl_m41 F) (fp_m40_1 F) (by decide) (by decide) (fun k hk => by
  match k, hk with
  | 0, _ => exact congrArg some (fp_m41_0 F).symm
  | n + 1, hk => exact absurd hk (by simp))
theorem str_42 {h : XH} (F : xFix h) : StrR h (-42) [115, 115] := strR_of (ft_m42 F) (fp_m42_0 F) (ft_m43 F) (fl_m43 F) (fp_m42_1 F) (by decide) (by decide) (fun k hk => by
  match k, hk with
  | 0, _ => exact congrArg some (fp_m43_0 F).symm
  | 1, _ => exact congrArg some (fp_m43_1 F).symm
  | n + 2, hk => exact absurd hk (by simp))
theorem str_44 {h : XH} (F : xFix h) : StrR h (-44) [117, 115] := strR_of (ft_m44 F) (fp_m44_0 F) (ft_m45 F) (fl_m45 F) (fp_m44_1 F) (by decide) (by decide) (fun k hk => by
  match k, hk with
  | 0, _ => exact congrArg some (fp_m45_0 F).symm
  | 1, _ => exact congrArg some (fp_m45_1 F).symm
  | n + 2, hk => exact absurd hk (by simp))
theorem str_46 {h : XH} (F : xFix h) : StrR h (-46) [105, 110, 103] := strR_of (ft_m46 F) (fp_m46_0 F) (ft_m47 F) (fl_m47 F) (fp_m46_1 F) (by decide) (by decide) (fun k hk => by
  match k, hk with
  | 0, _ => exact congrArg some (fp_m47_0 F).symm
  | 1, _ => exact congrArg some (fp_m47_1 F).symm
  | 2, _ => exact congrArg some (fp_m47_2 F).symm
  | n + 3, hk => exact absurd hk (by simp))
theorem str_48 {h : XH} (F : xFix h) : StrR h (-48) [101, 100] := strR_of (ft_m48 F) (fp_m48_0 F) (ft_m49 F) (fl_m49 F) (fp_m48_1 F) (by decide) (by decide) (fun k hk => by
  match k, hk with
  | 0, _ => exact congrArg some (fp_m49_0 F).symm
  | 1, _ => exact congrArg some (fp_m49_1 F).symm
  | n + 2, hk => exact absurd hk (by simp))
theorem str_60 {h : XH} (F : xFix h) : StrR h (-60) [43, 45, 34, 42, 126, 94, 58, 40, 41] := strR_of (ft_m60 F) (fp_m60_0 F) (ft_m61 F) (fl_m61 F) (fp_m60_1 F) (by decide) (by decide) (fun k hk => by
  match k, hk with
  | 0, _ => exact congrArg some (fp_m61_0 F).symm
  | 1, _ => exact congrArg some (fp_m61_1 F).symm
  | 2, _ => exact congrArg some (fp_m61_2 F).symm
  | 3, _ => exact congrArg some (fp_m61_3 F).symm
  | 4, _ => exact congrArg some (fp_m61_4 F).symm
  | 5, _ => exact congrArg some (fp_m61_5 F).symm
  | 6, _ => exact congrArg some (fp_m61_6 F).symm
  | 7, _ => exact congrArg some (fp_m61_7 F).symm
  | 8, _ => exact congrArg some (fp_m61_8 F).symm
  | n + 9, hk => exact absurd hk (by simp))
theorem str_62 {h : XH} (F : xFix h) : StrR h (-62) [116, 105, 116, 108, 101] := strR_of (ft_m62 F) (fp_m62_0 F) (ft_m63 F) (fl_m63 F) (fp_m62_1 F) (by decide) (by decide) (fun k hk => by
  match k, hk with
  | 0, _ => exact congrArg some (fp_m63_0 F).symm
  | 1, _ => exact congrArg some (fp_m63_1 F).symm
  | 2, _ => exact congrArg some (fp_m63_2 F).symm
  | 3, _ => exact congrArg some (fp_m63_3 F).symm
  | 4, _ => exact congrArg some (fp_m63_4 F).symm
  | n + 5, hk => exact absurd hk (by simp))
theorem str_64 {h : XH} (F : xFix h) : StrR h (-64) [98, 111, 100, 121] := strR_of (ft_m64 F) (fp_m64_0 F) (ft_m65 F) (fl_m65 F) (fp_m64_1 F) (by decide) (by decide) (fun k hk => by
  match k, hk with
  | 0, _ => exact congrArg some (fp_m65_0 F).symm
  | 1, _ => exact congrArg some (fp_m65_1 F).symm
  | 2, _ => exact congrArg some (fp_m65_2 F).symm
  | 3, _ => exact congrArg some (fp_m65_3 F).symm
  | n + 4, hk => exact absurd hk (by simp))
theorem str_66 {h : XH} (F : xFix h) : StrR h (-66) [116, 104, 101] := strR_of (ft_m66 F) (fp_m66_0 F) (ft_m67 F) (fl_m67 F) (fp_m66_1 F) (by decide) (by decide) (fun k hk => by
  match k, hk with
  | 0, _ => exact congrArg some (fp_m67_0 F).symm
  | 1, _ => exact congrArg some (fp_m67_1 F).symm
  | 2, _ => exact congrArg some (fp_m67_2 F).symm
  | n + 3, hk => exact absurd hk (by simp))
theorem str_68 {h : XH} (F : xFix h) : StrR h (-68) [97] := strR_of (ft_m68 F) (fp_m68_0 F) (ft_m69 F) (fl_m69 F) (fp_m68_1 F) (by decide) (by decide) (fun k hk => by
  match k, hk with
  | 0, _ => exact congrArg some (fp_m69_0 F).symm
  | n + 1, hk => exact absurd hk (by simp))
theorem str_70 {h : XH} (F : xFix h) : StrR h (-70) [97, 110] := strR_of (ft_m70 F) (fp_m70_0 F) (ft_m71 F) (fl_m71 F) (fp_m70_1 F) (by decide) (by decide) (fun k hk => by
  match k, hk with
  | 0, _ => exact congrArg some (fp_m71_0 F).symm
  | 1, _ => exact congrArg some (fp_m71_1 F).symm
  | n + 2, hk => exact absurd hk (by simp))
theorem str_72 {h : XH} (F : xFix h) : StrR h (-72) [111, 102] := strR_of (ft_m72 F) (fp_m72_0 F) (ft_m73 F) (fl_m73 F) (fp_m72_1 F) (by decide) (by decide) (fun k hk => by
  match k, hk with
  | 0, _ => exact congrArg some (fp_m73_0 F).symm
  | 1, _ => exact congrArg some (fp_m73_1 F).symm
  | n + 2, hk => exact absurd hk (by simp))
theorem str_74 {h : XH} (F : xFix h) : StrR h (-74) [97, 110, 100] := strR_of (ft_m74 F) (fp_m74_0 F) (ft_m75 F) (fl_m75 F) (fp_m74_1 F) (by decide) (by decide) (fun k hk => by
  match k, hk with
  | 0, _ => exact congrArg some (fp_m75_0 F).symm
  | 1, _ => exact congrArg some (fp_m75_1 F).symm
  | 2, _ => exact congrArg some (fp_m75_2 F).symm
  | n + 3, hk => exact absurd hk (by simp))
theorem str_76 {h : XH} (F : xFix h) : StrR h (-76) [111, 114] := strR_of (ft_m76 F) (fp_m76_0 F) (ft_m77 F) (fl_m77 F) (fp_m76_1 F) (by decide) (by decide) (fun k hk => by
  match k, hk with
  | 0, _ => exact congrArg some (fp_m77_0 F).symm
  | 1, _ => exact congrArg some (fp_m77_1 F).symm
  | n + 2, hk => exact absurd hk (by simp))
theorem str_78 {h : XH} (F : xFix h) : StrR h (-78) [116, 111] := strR_of (ft_m78 F) (fp_m78_0 F) (ft_m79 F) (fl_m79 F) (fp_m78_1 F) (by decide) (by decide) (fun k hk => by
  match k, hk with
  | 0, _ => exact congrArg some (fp_m79_0 F).symm
  | 1, _ => exact congrArg some (fp_m79_1 F).symm
  | n + 2, hk => exact absurd hk (by simp))
theorem str_80 {h : XH} (F : xFix h) : StrR h (-80) [105, 110] := strR_of (ft_m80 F) (fp_m80_0 F) (ft_m81 F) (fl_m81 F) (fp_m80_1 F) (by decide) (by decide) (fun k hk => by
  match k, hk with
  | 0, _ => exact congrArg some (fp_m81_0 F).symm
  | 1, _ => exact congrArg some (fp_m81_1 F).symm
  | n + 2, hk => exact absurd hk (by simp))
abbrev m_Tape_firstLetters : XM := (⟨"BeaconIndex$Tape", "firstLetters", "(I)J"⟩, prog_9_method_13_code, 5, (some .long), [])
theorem d_Tape_firstLetters_0 : decode prog_9_method_13_code 0 = .ok (.lconst 0, 1) := by decide +kernel
theorem d_Tape_firstLetters_1 : decode prog_9_method_13_code 1 = .ok (.lstore_n 2, 1) := by decide +kernel
theorem d_Tape_firstLetters_2 : decode prog_9_method_13_code 2 = .ok (.iconst 0, 1) := by decide +kernel
theorem d_Tape_firstLetters_3 : decode prog_9_method_13_code 3 = .ok (.istore 4, 2) := by decide +kernel
theorem v_Tape_firstLetters_0 {G : XG} {d : Nat} {h : XH} {Q : XV → XH → Prop} {X : Nat → XH → Prop} {x1 : Int} (F : xFix h) (hyp : (xwp G m_Tape_firstLetters (d + 3) 5 [xR 1, xI x1, xL 0, xZ, xI 0] [] h Q X)) : xwp G m_Tape_firstLetters (d + 3) 0 [xR 1, xI x1, xZ, xZ, xZ] [] h Q X := by
  have hnx9 : (93 : Int) ≤ xnx h := F.2.2
  refine xr_okL (fun hl9 => ?_)
  have r_x1 : -2147483648 ≤ x1 ∧ x1 ≤ 2147483647 := hl9 (xI x1) (.tail _ (.head _)) (Nat.le_of_ble_eq_true rfl)
  refine xr_lconst (pc := 0) (z := 0) (hI := d_Tape_firstLetters_0) (hr := by decide) (hv := by decide) ?_
  refine xr_lstore_n (pc := 1) (i := 2) (L9 := [xR 1, xI x1, xL 0, xZ, xZ]) (hI := d_Tape_firstLetters_1) (hi := rfl) (hn := Nat.le_of_ble_eq_true rfl) (hL9 := rfl) ?_
  refine xr_iconst (pc := 2) (hI := d_Tape_firstLetters_2) (hr := by decide) ?_
  refine xr_istore (pc := 3) (i := 4) (L9 := [xR 1, xI x1, xL 0, xZ, xI 0]) (hI := d_Tape_firstLetters_3) (hn := Nat.le_of_ble_eq_true rfl) (hL9 := rfl) ?_
  exact hyp
theorem d_Tape_firstLetters_5 : decode prog_9_method_13_code 5 = .ok (.iload 4, 2) := by decide +kernel
theorem d_Tape_firstLetters_7 : decode prog_9_method_13_code 7 = .ok (.iload_n 1, 1) := by decide +kernel
theorem d_Tape_firstLetters_8 : decode prog_9_method_13_code 8 = .ok (.if_icmp .ge 36, 3) := by decide +kernel
theorem d_Tape_firstLetters_44 : decode prog_9_method_13_code 44 = .ok (.lload_n 2, 1) := by decide +kernel
theorem d_Tape_firstLetters_45 : decode prog_9_method_13_code 45 = .ok (.lreturn, 1) := by decide +kernel
theorem d_Tape_firstLetters_11 : decode prog_9_method_13_code 11 = .ok (.iload 4, 2) := by decide +kernel
theorem d_Tape_firstLetters_13 : decode prog_9_method_13_code 13 = .ok (.aload_n 0, 1) := by decide +kernel
theorem d_Tape_firstLetters_14 : decode prog_9_method_13_code 14 = .ok (.getfield 19, 3) := by decide +kernel
theorem d_Tape_firstLetters_17 : decode prog_9_method_13_code 17 = .ok (.arraylength, 1) := by decide +kernel
theorem d_Tape_firstLetters_18 : decode prog_9_method_13_code 18 = .ok (.if_icmp .ge 26, 3) := by decide +kernel
theorem d_Tape_firstLetters_21 : decode prog_9_method_13_code 21 = .ok (.lload_n 2, 1) := by decide +kernel
theorem d_Tape_firstLetters_22 : decode prog_9_method_13_code 22 = .ok (.iload 4, 2) := by decide +kernel
theorem d_Tape_firstLetters_24 : decode prog_9_method_13_code 24 = .ok (.aload_n 0, 1) := by decide +kernel
theorem d_Tape_firstLetters_25 : decode prog_9_method_13_code 25 = .ok (.getfield 19, 3) := by decide +kernel
theorem d_Tape_firstLetters_28 : decode prog_9_method_13_code 28 = .ok (.iload 4, 2) := by decide +kernel
theorem d_Tape_firstLetters_30 : decode prog_9_method_13_code 30 = .ok (.iaload, 1) := by decide +kernel
theorem d_Tape_firstLetters_31 : decode prog_9_method_13_code 31 = .ok (.invokestatic 39, 3) := by decide +kernel
theorem d_Tape_firstLetters_34 : decode prog_9_method_13_code 34 = .ok (.invokestatic 107, 3) := by decide +kernel
theorem k_Words_withSign : xCal m_Words_withSign 3 := ⟨List.mem_append_right _ (List.mem_of_getElem? (i := 863) (by decide +kernel)), w_24, Nat.le_of_ble_eq_true rfl, ⟨by decide +kernel, by decide +kernel⟩, by decide +kernel, by decide +kernel, rfl⟩
theorem w_861 : Cond.methodLink "BeaconIndex$Tape" 107 ⟨"BeaconIndex$Words", "withSign", "(JII)J"⟩ ∈ lw_tbl := List.mem_append_right _ (List.mem_of_getElem? (i := 861) (by decide +kernel))
theorem w_862 : Cond.static ⟨"BeaconIndex$Words", "withSign", "(JII)J"⟩ ∈ lw_tbl := List.mem_append_right _ (List.mem_of_getElem? (i := 862) (by decide +kernel))
theorem d_Tape_firstLetters_37 : decode prog_9_method_13_code 37 = .ok (.lstore_n 2, 1) := by decide +kernel
theorem d_Tape_firstLetters_38 : decode prog_9_method_13_code 38 = .ok (.iinc 4 1, 3) := by decide +kernel
theorem d_Tape_firstLetters_41 : decode prog_9_method_13_code 41 = .ok (.goto (-36), 3) := by decide +kernel
theorem v_Tape_firstLetters_5 {G : XG} {d : Nat} {h : XH} {Q : XV → XH → Prop} {X : Nat → XH → Prop} {x1 x2 x4 : Int} (F : xFix h) (hyp : ((x1 ≤ x4 → (Q (xL x2) h)) ∧ (¬ x1 ≤ x4 → (((12 : Int) ≤ x4 → (Q (xL x2) h)) ∧ (¬ (12 : Int) ≤ x4 → 0 ≤ x4 ∧ (xwp G m_Tape_firstLetters (d + 3) 5 [xR 1, xI x1, xL (wsg x2 x4 (sgn (xpl h 4 x4))), xZ, xI (x4 + 1)] [] h Q X)))))) : xwp G m_Tape_firstLetters (d + 3) 5 [xR 1, xI x1, xL x2, xZ, xI x4] [] h Q X := by
  have hnx9 : (93 : Int) ≤ xnx h := F.2.2
  refine xr_okL (fun hl9 => ?_)
  have r_x1 : -2147483648 ≤ x1 ∧ x1 ≤ 2147483647 := hl9 (xI x1) (.tail _ (.head _)) (Nat.le_of_ble_eq_true rfl)
  have r_x2 : -9223372036854775808 ≤ x2 ∧ x2 ≤ 9223372036854775807 := hl9 (xL x2) (.tail _ (.tail _ (.head _))) (Nat.le_of_ble_eq_true rfl)
  have r_x4 : -2147483648 ≤ x4 ∧ x4 ≤ 2147483647 := hl9 (xI x4) (.tail _ (.tail _ (.tail _ (.tail _ (.head _))))) (Nat.le_of_ble_eq_true rfl)
  refine xr_iload (pc := 5) (i := 4) (hI := d_Tape_firstLetters_5) (hl := rfl) ?_
  refine xr_iload_n (pc := 7) (i := 1) (hI := d_Tape_firstLetters_7) (hi := rfl) (hl := rfl) ?_
  refine xr_icmp_ge (pc := 8) (tgt := 44) (hI := d_Tape_firstLetters_8) (ht := by decide) (fun q9 => ?_) (fun q9 => ?_)
  · replace hyp := hyp.1 q9
    have q1_ := q9
    clear q9
    refine xr_lload_n (pc := 44) (i := 2) (hI := d_Tape_firstLetters_44) (hi := rfl) (hl := rfl) ?_
    refine xr_lreturn (S := []) (pc := 45) (hI := d_Tape_firstLetters_45) (hr := rfl) ?_
    exact hyp
  · replace hyp := hyp.2 q9
    have q1_ := q9
    clear q9
    refine xr_iload (pc := 11) (i := 4) (hI := d_Tape_firstLetters_11) (hl := rfl) ?_
    refine xr_aload_n (pc := 13) (i := 0) (hI := d_Tape_firstLetters_13) (hi := rfl) (hl := rfl) ?_
    refine xg_getf (pc := 14) (ci := 8) (k := 2) (N := 7) (v9 := 2) (v := 4) (T := xF8) (hI := d_Tape_firstLetters_14) (hw := w_56) rfl xi8 (Or.inl rfl) (Nat.le_of_ble_eq_true rfl) (Nat.le_of_ble_eq_true rfl) rfl (ft_1 F) (fp_1_2 F) (fun f2_ => ?_)
    clear f2_
    refine xg_alen (pc := 17) (t := 100) (v := 12) (hI := d_Tape_firstLetters_17) (ft_4 F) (Nat.le_of_ble_eq_true rfl) (Nat.le_of_ble_eq_true rfl) rfl (fl_4 F) (fun f3_ f4_ => ?_)
    clear f3_ f4_
    refine xr_icmp_ge (pc := 18) (tgt := 44) (hI := d_Tape_firstLetters_18) (ht := by decide) (fun q9 => ?_) (fun q9 => ?_)
    · replace hyp := hyp.1 q9
      have q5_ := q9
      clear q9
      refine xr_lload_n (pc := 44) (i := 2) (hI := d_Tape_firstLetters_44) (hi := rfl) (hl := rfl) ?_
      refine xr_lreturn (S := []) (pc := 45) (hI := d_Tape_firstLetters_45) (hr := rfl) ?_
      exact hyp
    · replace hyp := hyp.2 q9
      have q5_ := q9
      clear q9
      refine xr_lload_n (pc := 21) (i := 2) (hI := d_Tape_firstLetters_21) (hi := rfl) (hl := rfl) ?_
      refine xr_iload (pc := 22) (i := 4) (hI := d_Tape_firstLetters_22) (hl := rfl) ?_
      refine xr_aload_n (pc := 24) (i := 0) (hI := d_Tape_firstLetters_24) (hi := rfl) (hl := rfl) ?_
      refine xg_getf (pc := 25) (ci := 8) (k := 2) (N := 7) (v9 := 2) (v := 4) (T := xF8) (hI := d_Tape_firstLetters_25) (hw := w_56) rfl xi8 (Or.inl rfl) (Nat.le_of_ble_eq_true rfl) (Nat.le_of_ble_eq_true rfl) rfl (ft_1 F) (fp_1_2 F) (fun f6_ => ?_)
      clear f6_
      refine xr_iload (pc := 28) (i := 4) (hI := d_Tape_firstLetters_28) (hl := rfl) ?_
      obtain ⟨c7_, hyp⟩ := hyp
      refine xg_iaload (pc := 30) (v := (xpl h 4 x4)) (hI := d_Tape_firstLetters_30) (ft_4 F) c7_ (xlt_of (fl_4 F) (by clear hyp; omega)) rfl (fun f8_ => ?_)
      replace f8_ : -2147483648 ≤ (xpl h 4 x4) ∧ (xpl h 4 x4) ≤ 2147483647 := f8_
      refine xq_callS (pc := 31) (index := 39) (K := m_Words_signOf) (As := [xI (xpl h 4 x4)]) (S := [xI x4, xL x2]) (L0 := [xI (xpl h 4 x4)]) (hI := d_Tape_firstLetters_31) (hK := k_Words_signOf) (hlk := w_795) (hnoM := rfl) (hS8 := Nat.le_of_ble_eq_true rfl) (hstat := w_796) (hlen := Nat.le_of_ble_eq_true rfl) (hst := rfl) (hL0 := rfl)  (p_Words_signOf F  ?_)
      show xwp G m_Tape_firstLetters (d + 3) 34 [xR 1, xI x1, xL x2, xZ, xI x4] [xI (sgn (xpl h 4 x4)), xI x4, xL x2] _ _ _
      have f9_ : 0 ≤ (sgn (xpl h 4 x4)) ∧ (sgn (xpl h 4 x4)) ≤ 36 := sgn_rng _
      refine xq_callS (pc := 34) (index := 107) (K := m_Words_withSign) (As := [xL x2, xI x4, xI (sgn (xpl h 4 x4))]) (S := []) (L0 := [xL x2, xZ, xI x4, xI (sgn (xpl h 4 x4))]) (hI := d_Tape_firstLetters_34) (hK := k_Words_withSign) (hlk := w_861) (hnoM := rfl) (hS8 := Nat.le_of_ble_eq_true rfl) (hstat := w_862) (hlen := Nat.le_of_ble_eq_true rfl) (hst := rfl) (hL0 := rfl)  (p_Words_withSign F (by clear hyp; omega) (by clear hyp; omega) ?_)
      show xwp G m_Tape_firstLetters (d + 3) 37 [xR 1, xI x1, xL x2, xZ, xI x4] [xL (wsg x2 x4 (sgn (xpl h 4 x4)))] _ _ _
      refine xr_lstore_n (pc := 37) (i := 2) (L9 := [xR 1, xI x1, xL (wsg x2 x4 (sgn (xpl h 4 x4))), xZ, xI x4]) (hI := d_Tape_firstLetters_37) (hi := rfl) (hn := Nat.le_of_ble_eq_true rfl) (hL9 := rfl) ?_
      refine xr_iinc (pc := 38) (i := 4) (L9 := [xR 1, xI x1, xL (wsg x2 x4 (sgn (xpl h 4 x4))), xZ, xI (x4 + 1)]) (hI := d_Tape_firstLetters_38) (hl := rfl) (hn := Nat.le_of_ble_eq_true rfl) (hr := ⟨by clear hyp; omega, by clear hyp; omega⟩) (hL9 := rfl) ?_
      refine xr_goto (pc := 41) (tgt := 5) (hI := d_Tape_firstLetters_41) (ht := by decide) ?_
      exact hyp
/-- the first k letters as one number -/
def flH (h : XH) : Nat → Int
  | 0 => 0
  | k + 1 => wsg (flH h k) k (sgn (xpl h 4 k))
theorem p_Tape_firstLetters {G : XG} {d : Nat} {h : XH} {Q : XV → XH → Prop} {X : Nat → XH → Prop} {c : Int} (F : xFix h) (h0 : 0 ≤ c) (h1 : c ≤ 12) (hq : Q (xL (flH h c.toNat)) h) : xwp G m_Tape_firstLetters (d + 3) 0 [xR 1, xI c, xZ, xZ, xZ] [] h Q X := by
  have loop : ∀ (n k : Nat), k + n = c.toNat → xwp G m_Tape_firstLetters (d + 3) 5 [xR 1, xI c, xL (flH h k), xZ, xI k] [] h Q X := by
    intro n
    induction n with
    | zero =>
      intro k k1
      have hk : k = c.toNat := k1
      subst hk
      refine v_Tape_firstLetters_5 F ?_
      refine ⟨fun q1 => ?_, fun q1 => ?_⟩
      · exact hq
      · refine ⟨fun q2 => ?_, fun q2 => ?_⟩
        · exact hq
        · refine ⟨?_, ?_⟩
          · first | omega | assumption | exact ⟨by omega, by omega⟩ | (simp only [*]; done) | grind
          · omega
    | succ n ih =>
      intro k k1
      refine v_Tape_firstLetters_5 F ?_
      refine ⟨fun q1 => ?_, fun q1 => ?_⟩
      · omega
      · refine ⟨fun q2 => ?_, fun q2 => ?_⟩
        · omega
        · refine ⟨?_, ?_⟩
          · first | omega | assumption | exact ⟨by omega, by omega⟩ | (simp only [*]; done) | grind
          · exact ih (k + 1) (by omega)
  refine v_Tape_firstLetters_0 F ?_
  exact loop c.toNat 0 (by omega)
abbrev m_Tape_runEndsWith : XM := (⟨"BeaconIndex$Tape", "runEndsWith", "(Ljava/lang/String;)Z"⟩, prog_9_method_12_code, 4, (some .boolean), [])
theorem d_Tape_runEndsWith_0 : decode prog_9_method_12_code 0 = .ok (.aload_n 0, 1) := by decide +kernel
theorem d_Tape_runEndsWith_1 : decode prog_9_method_12_code 1 = .ok (.getfield 32, 3) := by decide +kernel
theorem d_Tape_runEndsWith_4 : decode prog_9_method_12_code 4 = .ok (.aload_n 1, 1) := by decide +kernel
theorem d_Tape_runEndsWith_5 : decode prog_9_method_12_code 5 = .ok (.invokevirtual 73, 3) := by decide +kernel
theorem k_String_length : xCal m_String_length 0 := ⟨List.mem_append_right _ (List.mem_of_getElem? (i := 814) (by decide +kernel)), w_26, Nat.le_of_ble_eq_true rfl, ⟨by decide +kernel, by decide +kernel⟩, by decide +kernel, by decide +kernel, rfl⟩
theorem w_811 : Cond.methodLink "BeaconIndex$Tape" 73 ⟨"java/lang/String", "length", "()I"⟩ ∈ lw_tbl := List.mem_append_right _ (List.mem_of_getElem? (i := 811) (by decide +kernel))
theorem w_812 : Cond.instanceMethod ⟨"java/lang/String", "length", "()I"⟩ ∈ lw_tbl := List.mem_append_right _ (List.mem_of_getElem? (i := 812) (by decide +kernel))
theorem w_813 : Cond.selects "java/lang/String" ⟨"java/lang/String", "length", "()I"⟩ ⟨"java/lang/String", "length", "()I"⟩ ∈ lw_tbl := List.mem_append_right _ (List.mem_of_getElem? (i := 813) (by decide +kernel))
theorem d_Tape_runEndsWith_8 : decode prog_9_method_12_code 8 = .ok (.isub, 1) := by decide +kernel
theorem d_Tape_runEndsWith_9 : decode prog_9_method_12_code 9 = .ok (.istore_n 2, 1) := by decide +kernel
theorem d_Tape_runEndsWith_10 : decode prog_9_method_12_code 10 = .ok (.iload_n 2, 1) := by decide +kernel
theorem d_Tape_runEndsWith_11 : decode prog_9_method_12_code 11 = .ok (.ifCond .ge 5, 3) := by decide +kernel
theorem d_Tape_runEndsWith_16 : decode prog_9_method_12_code 16 = .ok (.iconst 0, 1) := by decide +kernel
theorem d_Tape_runEndsWith_17 : decode prog_9_method_12_code 17 = .ok (.istore_n 3, 1) := by decide +kernel
theorem d_Tape_runEndsWith_14 : decode prog_9_method_12_code 14 = .ok (.iconst 0, 1) := by decide +kernel
theorem d_Tape_runEndsWith_15 : decode prog_9_method_12_code 15 = .ok (.ireturn, 1) := by decide +kernel
theorem v_Tape_runEndsWith_0 {G : XG} {d : Nat} {h : XH} {Q : XV → XH → Prop} {X : Nat → XH → Prop} {x1 : Int} (F : xFix h) (hyp : xtg h x1 = 14 ∧ strOK h x1 ∧ xiR ((xpl h 1 6) - (stl h x1)) ∧ (((0 : Int) ≤ ((xpl h 1 6) - (stl h x1)) → (xwp G m_Tape_runEndsWith (d + 6) 18 [xR 1, xR x1, xI ((xpl h 1 6) - (stl h x1)), xI 0] [] h Q X)) ∧ (¬ (0 : Int) ≤ ((xpl h 1 6) - (stl h x1)) → (Q (xI 0) h)))) : xwp G m_Tape_runEndsWith (d + 6) 0 [xR 1, xR x1, xZ, xZ] [] h Q X := by
  have hnx9 : (93 : Int) ≤ xnx h := F.2.2
  refine xr_aload_n (pc := 0) (i := 0) (hI := d_Tape_runEndsWith_0) (hi := rfl) (hl := rfl) ?_
  refine xg_getf (pc := 1) (ci := 8) (k := 6) (N := 7) (v9 := 0) (v := (xpl h 1 6)) (T := xF8) (hI := d_Tape_runEndsWith_1) (hw := w_63) rfl xi8 (Or.inl rfl) (Nat.le_of_ble_eq_true rfl) (Nat.le_of_ble_eq_true rfl) rfl (ft_1 F) rfl (fun f1_ => ?_)
  replace f1_ : -2147483648 ≤ (xpl h 1 6) ∧ (xpl h 1 6) ≤ 2147483647 := f1_
  refine xr_aload_n (pc := 4) (i := 1) (hI := d_Tape_runEndsWith_4) (hi := rfl) (hl := rfl) ?_
  obtain ⟨c9, hyp⟩ := hyp
  have t2_ := c9
  clear c9
  obtain ⟨c3_, hyp⟩ := hyp
  refine xq_callV (pc := 5) (index := 73) (K := m_String_length) (As := []) (S := [xI (xpl h 1 6)]) (L0 := [xR x1]) (hI := d_Tape_runEndsWith_5) (hK := k_String_length) (hlk := w_811) (hnoM := rfl) (hS8 := Nat.le_of_ble_eq_true rfl) (ci := 14) (N := 2) (C := "java/lang/String") (T := xF14) (hc := rfl) (hci := Nat.le_of_ble_eq_true rfl) (htb := t2_) (hinst := w_812) (hsel := w_813) (hlen := Nat.le_of_ble_eq_true rfl) (hst := rfl) (hL0 := rfl)  (p_String_len F c3_ ?_)
  show xwp G m_Tape_runEndsWith (d + 6) 8 [xR 1, xR x1, xZ, xZ] [xI (stl h x1), xI (xpl h 1 6)] _ _ _
  have f4_ : 0 ≤ (stl h x1) ∧ (stl h x1) ≤ 1000 := ⟨c3_.2.1, c3_.2.2.1⟩
  obtain ⟨c9, hyp⟩ := hyp
  refine xr_isub (pc := 8) (hI := d_Tape_runEndsWith_8) (hr := c9) ?_
  refine xr_istore_n (pc := 9) (i := 2) (L9 := [xR 1, xR x1, xI ((xpl h 1 6) - (stl h x1)), xZ]) (hI := d_Tape_runEndsWith_9) (hi := rfl) (hn := Nat.le_of_ble_eq_true rfl) (hL9 := rfl) ?_
  refine xr_iload_n (pc := 10) (i := 2) (hI := d_Tape_runEndsWith_10) (hi := rfl) (hl := rfl) ?_
  refine xr_if_ge (pc := 11) (tgt := 16) (hI := d_Tape_runEndsWith_11) (ht := by decide) (fun q9 => ?_) (fun q9 => ?_)
  · replace hyp := hyp.1 q9
    have q5_ := q9
    clear q9
    refine xr_iconst (pc := 16) (hI := d_Tape_runEndsWith_16) (hr := by decide) ?_
    refine xr_istore_n (pc := 17) (i := 3) (L9 := [xR 1, xR x1, xI ((xpl h 1 6) - (stl h x1)), xI 0]) (hI := d_Tape_runEndsWith_17) (hi := rfl) (hn := Nat.le_of_ble_eq_true rfl) (hL9 := rfl) ?_
    exact hyp
  · replace hyp := hyp.2 q9
    have q5_ := q9
    clear q9
    refine xr_iconst (pc := 14) (hI := d_Tape_runEndsWith_14) (hr := by decide) ?_
    refine xr_ireturnT (S := []) (pc := 15) (hI := d_Tape_runEndsWith_15) (hr := rfl) (xnar_z (by decide)) ?_
    exact hyp
theorem d_Tape_runEndsWith_18 : decode prog_9_method_12_code 18 = .ok (.iload_n 3, 1) := by decide +kernel
theorem d_Tape_runEndsWith_19 : decode prog_9_method_12_code 19 = .ok (.aload_n 1, 1) := by decide +kernel
theorem d_Tape_runEndsWith_20 : decode prog_9_method_12_code 20 = .ok (.invokevirtual 73, 3) := by decide +kernel
theorem d_Tape_runEndsWith_23 : decode prog_9_method_12_code 23 = .ok (.if_icmp .ge 38, 3) := by decide +kernel
theorem d_Tape_runEndsWith_61 : decode prog_9_method_12_code 61 = .ok (.iconst 1, 1) := by decide +kernel
theorem d_Tape_runEndsWith_62 : decode prog_9_method_12_code 62 = .ok (.ireturn, 1) := by decide +kernel
theorem d_Tape_runEndsWith_26 : decode prog_9_method_12_code 26 = .ok (.iload_n 2, 1) := by decide +kernel
theorem d_Tape_runEndsWith_27 : decode prog_9_method_12_code 27 = .ok (.iload_n 3, 1) := by decide +kernel
theorem d_Tape_runEndsWith_28 : decode prog_9_method_12_code 28 = .ok (.iadd, 1) := by decide +kernel
theorem d_Tape_runEndsWith_29 : decode prog_9_method_12_code 29 = .ok (.aload_n 0, 1) := by decide +kernel
theorem d_Tape_runEndsWith_30 : decode prog_9_method_12_code 30 = .ok (.getfield 19, 3) := by decide +kernel
theorem d_Tape_runEndsWith_33 : decode prog_9_method_12_code 33 = .ok (.arraylength, 1) := by decide +kernel
theorem d_Tape_runEndsWith_34 : decode prog_9_method_12_code 34 = .ok (.if_icmp .ge 27, 3) := by decide +kernel
theorem d_Tape_runEndsWith_37 : decode prog_9_method_12_code 37 = .ok (.aload_n 0, 1) := by decide +kernel
theorem d_Tape_runEndsWith_38 : decode prog_9_method_12_code 38 = .ok (.getfield 19, 3) := by decide +kernel
theorem d_Tape_runEndsWith_41 : decode prog_9_method_12_code 41 = .ok (.iload_n 2, 1) := by decide +kernel
theorem d_Tape_runEndsWith_42 : decode prog_9_method_12_code 42 = .ok (.iload_n 3, 1) := by decide +kernel
theorem d_Tape_runEndsWith_43 : decode prog_9_method_12_code 43 = .ok (.iadd, 1) := by decide +kernel
theorem d_Tape_runEndsWith_44 : decode prog_9_method_12_code 44 = .ok (.iaload, 1) := by decide +kernel
theorem d_Tape_runEndsWith_45 : decode prog_9_method_12_code 45 = .ok (.aload_n 1, 1) := by decide +kernel
theorem d_Tape_runEndsWith_46 : decode prog_9_method_12_code 46 = .ok (.iload_n 3, 1) := by decide +kernel
theorem d_Tape_runEndsWith_47 : decode prog_9_method_12_code 47 = .ok (.invokevirtual 123, 3) := by decide +kernel
theorem k_String_charAt : xCal m_String_charAt 1 := ⟨List.mem_append_right _ (List.mem_of_getElem? (i := 824) (by decide +kernel)), w_26, Nat.le_of_ble_eq_true rfl, ⟨by decide +kernel, by decide +kernel⟩, by decide +kernel, by decide +kernel, rfl⟩
theorem w_821 : Cond.methodLink "BeaconIndex$Tape" 123 ⟨"java/lang/String", "charAt", "(I)C"⟩ ∈ lw_tbl := List.mem_append_right _ (List.mem_of_getElem? (i := 821) (by decide +kernel))
theorem w_822 : Cond.instanceMethod ⟨"java/lang/String", "charAt", "(I)C"⟩ ∈ lw_tbl := List.mem_append_right _ (List.mem_of_getElem? (i := 822) (by decide +kernel))
theorem w_823 : Cond.selects "java/lang/String" ⟨"java/lang/String", "charAt", "(I)C"⟩ ⟨"java/lang/String", "charAt", "(I)C"⟩ ∈ lw_tbl := List.mem_append_right _ (List.mem_of_getElem? (i := 823) (by decide +kernel))
theorem d_Tape_runEndsWith_50 : decode prog_9_method_12_code 50 = .ok (.if_icmp .eq 5, 3) := by decide +kernel
theorem d_Tape_runEndsWith_55 : decode prog_9_method_12_code 55 = .ok (.iinc 3 1, 3) := by decide +kernel
theorem d_Tape_runEndsWith_58 : decode prog_9_method_12_code 58 = .ok (.goto (-40), 3) := by decide +kernel
theorem d_Tape_runEndsWith_53 : decode prog_9_method_12_code 53 = .ok (.iconst 0, 1) := by decide +kernel
theorem d_Tape_runEndsWith_54 : decode prog_9_method_12_code 54 = .ok (.ireturn, 1) := by decide +kernel
theorem v_Tape_runEndsWith_18 {G : XG} {d : Nat} {h : XH} {Q : XV → XH → Prop} {X : Nat → XH → Prop} {x1 x2 x3 : Int} (F : xFix h) (hyp : xtg h x1 = 14 ∧ strOK h x1 ∧ (((stl h x1) ≤ x3 → (Q (xI 1) h)) ∧ (¬ (stl h x1) ≤ x3 → xiR (x2 + x3) ∧ (((12 : Int) ≤ (x2 + x3) → (Q (xI 1) h)) ∧ (¬ (12 : Int) ≤ (x2 + x3) → 0 ≤ (x2 + x3) ∧ 0 ≤ x3 ∧ (((xpl h 4 (x2 + x3)) = (stc h x1 x3) → (xwp G m_Tape_runEndsWith (d + 6) 18 [xR 1, xR x1, xI x2, xI (x3 + 1)] [] h Q X)) ∧ (¬ (xpl h 4 (x2 + x3)) = (stc h x1 x3) → (Q (xI 0) h)))))))) : xwp G m_Tape_runEndsWith (d + 6) 18 [xR 1, xR x1, xI x2, xI x3] [] h Q X := by
  have hnx9 : (93 : Int) ≤ xnx h := F.2.2
  refine xr_okL (fun hl9 => ?_)
  have r_x2 : -2147483648 ≤ x2 ∧ x2 ≤ 2147483647 := hl9 (xI x2) (.tail _ (.tail _ (.head _))) (Nat.le_of_ble_eq_true rfl)
  have r_x3 : -2147483648 ≤ x3 ∧ x3 ≤ 2147483647 := hl9 (xI x3) (.tail _ (.tail _ (.tail _ (.head _)))) (Nat.le_of_ble_eq_true rfl)
  refine xr_iload_n (pc := 18) (i := 3) (hI := d_Tape_runEndsWith_18) (hi := rfl) (hl := rfl) ?_
  refine xr_aload_n (pc := 19) (i := 1) (hI := d_Tape_runEndsWith_19) (hi := rfl) (hl := rfl) ?_
  obtain ⟨c9, hyp⟩ := hyp
  have t1_ := c9
  clear c9
  obtain ⟨c2_, hyp⟩ := hyp
  refine xq_callV (pc := 20) (index := 73) (K := m_String_length) (As := []) (S := [xI x3]) (L0 := [xR x1]) (hI := d_Tape_runEndsWith_20) (hK := k_String_length) (hlk := w_811) (hnoM := rfl) (hS8 := Nat.le_of_ble_eq_true rfl) (ci := 14) (N := 2) (C := "java/lang/String") (T := xF14) (hc := rfl) (hci := Nat.le_of_ble_eq_true rfl) (htb := t1_) (hinst := w_812) (hsel := w_813) (hlen := Nat.le_of_ble_eq_true rfl) (hst := rfl) (hL0 := rfl)  (p_String_len F c2_ ?_)
  show xwp G m_Tape_runEndsWith (d + 6) 23 [xR 1, xR x1, xI x2, xI x3] [xI (stl h x1), xI x3] _ _ _
  have f3_ : 0 ≤ (stl h x1) ∧ (stl h x1) ≤ 1000 := ⟨c2_.2.1, c2_.2.2.1⟩
  refine xr_icmp_ge (pc := 23) (tgt := 61) (hI := d_Tape_runEndsWith_23) (ht := by decide) (fun q9 => ?_) (fun q9 => ?_)
  · replace hyp := hyp.1 q9
    have q4_ := q9
    clear q9
    refine xr_iconst (pc := 61) (hI := d_Tape_runEndsWith_61) (hr := by decide) ?_
    refine xr_ireturnT (S := []) (pc := 62) (hI := d_Tape_runEndsWith_62) (hr := rfl) (xnar_z (by decide)) ?_
    exact hyp
  · replace hyp := hyp.2 q9
    have q4_ := q9
    clear q9
    refine xr_iload_n (pc := 26) (i := 2) (hI := d_Tape_runEndsWith_26) (hi := rfl) (hl := rfl) ?_
    refine xr_iload_n (pc := 27) (i := 3) (hI := d_Tape_runEndsWith_27) (hi := rfl) (hl := rfl) ?_
    obtain ⟨c9, hyp⟩ := hyp
    refine xr_iadd (pc := 28) (hI := d_Tape_runEndsWith_28) (hr := c9) ?_
    refine xr_aload_n (pc := 29) (i := 0) (hI := d_Tape_runEndsWith_29) (hi := rfl) (hl := rfl) ?_
    refine xg_getf (pc := 30) (ci := 8) (k := 2) (N := 7) (v9 := 2) (v := 4) (T := xF8) (hI := d_Tape_runEndsWith_30) (hw := w_56) rfl xi8 (Or.inl rfl) (Nat.le_of_ble_eq_true rfl) (Nat.le_of_ble_eq_true rfl) rfl (ft_1 F) (fp_1_2 F) (fun f5_ => ?_)
    clear f5_
    refine xg_alen (pc := 33) (t := 100) (v := 12) (hI := d_Tape_runEndsWith_33) (ft_4 F) (Nat.le_of_ble_eq_true rfl) (Nat.le_of_ble_eq_true rfl) rfl (fl_4 F) (fun f6_ f7_ => ?_)
    clear f6_ f7_
    refine xr_icmp_ge (pc := 34) (tgt := 61) (hI := d_Tape_runEndsWith_34) (ht := by decide) (fun q9 => ?_) (fun q9 => ?_)
    · replace hyp := hyp.1 q9
      have q8_ := q9
      clear q9
      refine xr_iconst (pc := 61) (hI := d_Tape_runEndsWith_61) (hr := by decide) ?_
      refine xr_ireturnT (S := []) (pc := 62) (hI := d_Tape_runEndsWith_62) (hr := rfl) (xnar_z (by decide)) ?_
      exact hyp
    · replace hyp := hyp.2 q9
      have q8_ := q9
      clear q9
      refine xr_aload_n (pc := 37) (i := 0) (hI := d_Tape_runEndsWith_37) (hi := rfl) (hl := rfl) ?_
      refine xg_getf (pc := 38) (ci := 8) (k := 2) (N := 7) (v9 := 2) (v := 4) (T := xF8) (hI := d_Tape_runEndsWith_38) (hw := w_56) rfl xi8 (Or.inl rfl) (Nat.le_of_ble_eq_true rfl) (Nat.le_of_ble_eq_true rfl) rfl (ft_1 F) (fp_1_2 F) (fun f9_ => ?_)
      clear f9_
      refine xr_iload_n (pc := 41) (i := 2) (hI := d_Tape_runEndsWith_41) (hi := rfl) (hl := rfl) ?_
      refine xr_iload_n (pc := 42) (i := 3) (hI := d_Tape_runEndsWith_42) (hi := rfl) (hl := rfl) ?_
      refine xr_iadd (pc := 43) (hI := d_Tape_runEndsWith_43) (hr := ⟨by clear hyp; omega, by clear hyp; omega⟩) ?_
      obtain ⟨c10_, hyp⟩ := hyp
      refine xg_iaload (pc := 44) (v := (xpl h 4 (x2 + x3))) (hI := d_Tape_runEndsWith_44) (ft_4 F) c10_ (xlt_of (fl_4 F) (by clear hyp; omega)) rfl (fun f11_ => ?_)
      replace f11_ : -2147483648 ≤ (xpl h 4 (x2 + x3)) ∧ (xpl h 4 (x2 + x3)) ≤ 2147483647 := f11_
      refine xr_aload_n (pc := 45) (i := 1) (hI := d_Tape_runEndsWith_45) (hi := rfl) (hl := rfl) ?_
      refine xr_iload_n (pc := 46) (i := 3) (hI := d_Tape_runEndsWith_46) (hi := rfl) (hl := rfl) ?_
      obtain ⟨c12_, hyp⟩ := hyp
      refine xq_callV (pc := 47) (index := 123) (K := m_String_charAt) (As := [xI x3]) (S := [xI (xpl h 4 (x2 + x3))]) (L0 := [xR x1, xI x3]) (hI := d_Tape_runEndsWith_47) (hK := k_String_charAt) (hlk := w_821) (hnoM := rfl) (hS8 := Nat.le_of_ble_eq_true rfl) (ci := 14) (N := 2) (C := "java/lang/String") (T := xF14) (hc := rfl) (hci := Nat.le_of_ble_eq_true rfl) (htb := t1_) (hinst := w_822) (hsel := w_823) (hlen := Nat.le_of_ble_eq_true rfl) (hst := rfl) (hL0 := rfl)  (p_String_charAt F c2_ c12_ (by clear hyp; omega) ?_)
      show xwp G m_Tape_runEndsWith (d + 6) 50 [xR 1, xR x1, xI x2, xI x3] [xI (stc h x1 x3), xI (xpl h 4 (x2 + x3))] _ _ _
      refine xr_icmp_eq (pc := 50) (tgt := 55) (hI := d_Tape_runEndsWith_50) (ht := by decide) (fun q9 => ?_) (fun q9 => ?_)
      · replace hyp := hyp.1 q9
        have q13_ := q9
        clear q9
        refine xr_iinc (pc := 55) (i := 3) (L9 := [xR 1, xR x1, xI x2, xI (x3 + 1)]) (hI := d_Tape_runEndsWith_55) (hl := rfl) (hn := Nat.le_of_ble_eq_true rfl) (hr := ⟨by clear hyp; omega, by clear hyp; omega⟩) (hL9 := rfl) ?_
        refine xr_goto (pc := 58) (tgt := 18) (hI := d_Tape_runEndsWith_58) (ht := by decide) ?_
        exact hyp
      · replace hyp := hyp.2 q9
        have q13_ := q9
        clear q9
        refine xr_iconst (pc := 53) (hI := d_Tape_runEndsWith_53) (hr := by decide) ?_
        refine xr_ireturnT (S := []) (pc := 54) (hI := d_Tape_runEndsWith_54) (hr := rfl) (xnar_z (by decide)) ?_
        exact hyp
def kpt (h : XH) : Prop := 0 ≤ xpl h 1 6 ∧ xpl h 1 6 ≤ 12
def endH (h : XH) (s : Int) : Bool := decide (stl h s ≤ xpl h 1 6) && decide (∀ k : Nat, k < (stl h s).toNat → xpl h 4 (xpl h 1 6 - stl h s + k) = stc h s k)
theorem p_Tape_runEndsWith {G : XG} {d : Nat} {h : XH} {Q : XV → XH → Prop} {X : Nat → XH → Prop} {s : Int} (F : xFix h) (p0 : strOK h s) (p1 : kpt h) (hq : Q (xI (b2i (endH h s))) h) : xwp G m_Tape_runEndsWith (d + 6) 0 [xR 1, xR s, xZ, xZ] [] h Q X := by
  obtain ⟨z0, z1⟩ := p1
  obtain ⟨⟨y0, -⟩, y1, y2, -⟩ := id p0
  have loop : stl h s ≤ xpl h 1 6 → ∀ (n k : Nat), k + n = (stl h s).toNat → (∀ j : Nat, j < k → xpl h 4 (xpl h 1 6 - stl h s + j) = stc h s j) → xwp G m_Tape_runEndsWith (d + 6) 18 [xR 1, xR s, xI (xpl h 1 6 - stl h s), xI k] [] h Q X := by
    intro hle n
    unfold endH at hq
    rw [decide_eq_true hle, Bool.true_and] at hq
    induction n with
    | zero =>
      intro k k1 hj
      have hk : k = (stl h s).toNat := k1
      rw [decide_eq_true (by rw [← hk]; exact hj)] at hq
      refine v_Tape_runEndsWith_18 F ?_
      refine ⟨?_, ?_⟩
      · first | exact y0 | exact p0 | omega | exact ⟨by omega, by omega⟩
      · refine ⟨?_, ?_⟩
        · first | exact y0 | exact p0 | omega | exact ⟨by omega, by omega⟩
        · refine ⟨fun q1 => ?_, fun q1 => ?_⟩
          · exact hq
          · refine ⟨?_, ?_⟩
            · first | exact y0 | exact p0 | omega | exact ⟨by omega, by omega⟩
            · refine ⟨fun q2 => ?_, fun q2 => ?_⟩
              · omega
              · refine ⟨?_, ?_⟩
                · first | exact y0 | exact p0 | omega | exact ⟨by omega, by omega⟩
                · refine ⟨?_, ?_⟩
                  · first | exact y0 | exact p0 | omega | exact ⟨by omega, by omega⟩
                  · refine ⟨fun q3 => ?_, fun q3 => ?_⟩
                    · omega
                    · omega
    | succ n ih =>
      intro k k1 hj
      refine v_Tape_runEndsWith_18 F ?_
      refine ⟨?_, ?_⟩
      · first | exact y0 | exact p0 | omega | exact ⟨by omega, by omega⟩
      · refine ⟨?_, ?_⟩
        · first | exact y0 | exact p0 | omega | exact ⟨by omega, by omega⟩
        · refine ⟨fun q1 => ?_, fun q1 => ?_⟩
          · omega
          · refine ⟨?_, ?_⟩
            · first | exact y0 | exact p0 | omega | exact ⟨by omega, by omega⟩
            · refine ⟨fun q2 => ?_, fun q2 => ?_⟩
              · omega
              · refine ⟨?_, ?_⟩
                · first | exact y0 | exact p0 | omega | exact ⟨by omega, by omega⟩
                · refine ⟨?_, ?_⟩
                  · first | exact y0 | exact p0 | omega | exact ⟨by omega, by omega⟩
                  · refine ⟨fun q3 => ?_, fun q3 => ?_⟩
                    · refine ih (k + 1) (by omega) (fun j j1 => ?_)
                      by_cases z : j = k
                      · subst z; exact q3
                      · exact hj j (by omega)
                    · rw [decide_eq_false (fun z => q3 (z k (by omega)))] at hq; exact hq
  refine v_Tape_runEndsWith_0 F ?_
  refine ⟨?_, ?_⟩
  · first | exact y0 | exact p0 | omega | exact ⟨by omega, by omega⟩
  · refine ⟨?_, ?_⟩
    · first | exact y0 | exact p0 | omega | exact ⟨by omega, by omega⟩
    · refine ⟨?_, ?_⟩
      · first | exact y0 | exact p0 | omega | exact ⟨by omega, by omega⟩
      · refine ⟨fun q1 => ?_, fun q1 => ?_⟩
        · exact loop (by omega) (stl h s).toNat 0 (by omega) (fun j hj => absurd hj (Nat.not_lt_zero j))
        · unfold endH at hq; rw [decide_eq_false (by omega)] at hq; exact hq
abbrev m_Tape_isRun : XM := (⟨"BeaconIndex$Tape", "isRun", "(Ljava/lang/String;)Z"⟩, prog_9_method_8_code, 2, (some .boolean), [])
theorem d_Tape_isRun_0 : decode prog_9_method_8_code 0 = .ok (.aload_n 0, 1) := by decide +kernel
theorem d_Tape_isRun_1 : decode prog_9_method_8_code 1 = .ok (.getfield 32, 3) := by decide +kernel
theorem d_Tape_isRun_4 : decode prog_9_method_8_code 4 = .ok (.aload_n 1, 1) := by decide +kernel
theorem d_Tape_isRun_5 : decode prog_9_method_8_code 5 = .ok (.invokevirtual 73, 3) := by decide +kernel
theorem d_Tape_isRun_8 : decode prog_9_method_8_code 8 = .ok (.if_icmp .ne 15, 3) := by decide +kernel
theorem d_Tape_isRun_23 : decode prog_9_method_8_code 23 = .ok (.iconst 0, 1) := by decide +kernel
theorem d_Tape_isRun_24 : decode prog_9_method_8_code 24 = .ok (.ireturn, 1) := by decide +kernel
theorem d_Tape_isRun_11 : decode prog_9_method_8_code 11 = .ok (.aload_n 0, 1) := by decide +kernel
theorem d_Tape_isRun_12 : decode prog_9_method_8_code 12 = .ok (.aload_n 1, 1) := by decide +kernel
theorem d_Tape_isRun_13 : decode prog_9_method_8_code 13 = .ok (.invokevirtual 78, 3) := by decide +kernel
theorem k_Tape_runEndsWith : xCal m_Tape_runEndsWith 1 := ⟨List.mem_append_right _ (List.mem_of_getElem? (i := 810) (by decide +kernel)), w_2, Nat.le_of_ble_eq_true rfl, ⟨by decide +kernel, by decide +kernel⟩, by decide +kernel, by decide +kernel, rfl⟩
theorem w_807 : Cond.methodLink "BeaconIndex$Tape" 78 ⟨"BeaconIndex$Tape", "runEndsWith", "(Ljava/lang/String;)Z"⟩ ∈ lw_tbl := List.mem_append_right _ (List.mem_of_getElem? (i := 807) (by decide +kernel))
theorem w_809 : Cond.instanceMethod ⟨"BeaconIndex$Tape", "runEndsWith", "(Ljava/lang/String;)Z"⟩ ∈ lw_tbl := List.mem_append_right _ (List.mem_of_getElem? (i := 809) (by decide +kernel))
theorem sel_Tape_runEndsWith : Cond.selects "BeaconIndex$Tape" ⟨"BeaconIndex$Tape", "runEndsWith", "(Ljava/lang/String;)Z"⟩ ⟨"BeaconIndex$Tape", "runEndsWith", "(Ljava/lang/String;)Z"⟩ ∈ lw_tbl := List.mem_append_left _ (by decide +kernel)
theorem d_Tape_isRun_16 : decode prog_9_method_8_code 16 = .ok (.ifCond .eq 7, 3) := by decide +kernel
theorem d_Tape_isRun_19 : decode prog_9_method_8_code 19 = .ok (.iconst 1, 1) := by decide +kernel
theorem d_Tape_isRun_20 : decode prog_9_method_8_code 20 = .ok (.goto 4, 3) := by decide +kernel
theorem v_Tape_isRun_0 {G : XG} {d : Nat} {h : XH} {Q : XV → XH → Prop} {X : Nat → XH → Prop} {x1 : Int} (F : xFix h) (hyp : xtg h x1 = 14 ∧ strOK h x1 ∧ (((xpl h 1 6) = (stl h x1) → kpt h ∧ ((((endH h x1) = true) → (Q (xI 1) h)) ∧ (¬ ((endH h x1) = true) → (Q (xI 0) h)))) ∧ (¬ (xpl h 1 6) = (stl h x1) → (Q (xI 0) h)))) : xwp G m_Tape_isRun (d + 7) 0 [xR 1, xR x1] [] h Q X := by
  have hnx9 : (93 : Int) ≤ xnx h := F.2.2
  refine xr_aload_n (pc := 0) (i := 0) (hI := d_Tape_isRun_0) (hi := rfl) (hl := rfl) ?_
  refine xg_getf (pc := 1) (ci := 8) (k := 6) (N := 7) (v9 := 0) (v := (xpl h 1 6)) (T := xF8) (hI := d_Tape_isRun_1) (hw := w_63) rfl xi8 (Or.inl rfl) (Nat.le_of_ble_eq_true rfl) (Nat.le_of_ble_eq_true rfl) rfl (ft_1 F) rfl (fun f1_ => ?_)
  replace f1_ : -2147483648 ≤ (xpl h 1 6) ∧ (xpl h 1 6) ≤ 2147483647 := f1_
  refine xr_aload_n (pc := 4) (i := 1) (hI := d_Tape_isRun_4) (hi := rfl) (hl := rfl) ?_
  obtain ⟨c9, hyp⟩ := hyp
  have t2_ := c9
  clear c9
  obtain ⟨c3_, hyp⟩ := hyp
  refine xq_callV (pc := 5) (index := 73) (K := m_String_length) (As := []) (S := [xI (xpl h 1 6)]) (L0 := [xR x1]) (hI := d_Tape_isRun_5) (hK := k_String_length) (hlk := w_811) (hnoM := rfl) (hS8 := Nat.le_of_ble_eq_true rfl) (ci := 14) (N := 2) (C := "java/lang/String") (T := xF14) (hc := rfl) (hci := Nat.le_of_ble_eq_true rfl) (htb := t2_) (hinst := w_812) (hsel := w_813) (hlen := Nat.le_of_ble_eq_true rfl) (hst := rfl) (hL0 := rfl)  (p_String_len F c3_ ?_)
  show xwp G m_Tape_isRun (d + 7) 8 [xR 1, xR x1] [xI (stl h x1), xI (xpl h 1 6)] _ _ _
  have f4_ : 0 ≤ (stl h x1) ∧ (stl h x1) ≤ 1000 := ⟨c3_.2.1, c3_.2.2.1⟩
  refine xr_icmp_ne (pc := 8) (tgt := 23) (hI := d_Tape_isRun_8) (ht := by decide) (fun q9 => ?_) (fun q9 => ?_)
  · replace hyp := hyp.2 q9
    have q5_ := q9
    clear q9
    refine xr_iconst (pc := 23) (hI := d_Tape_isRun_23) (hr := by decide) ?_
    refine xr_ireturnT (S := []) (pc := 24) (hI := d_Tape_isRun_24) (hr := rfl) (xnar_z (by decide)) ?_
    exact hyp
  · replace hyp := hyp.1 q9
    have q5_ := q9
    clear q9
    refine xr_aload_n (pc := 11) (i := 0) (hI := d_Tape_isRun_11) (hi := rfl) (hl := rfl) ?_
    refine xr_aload_n (pc := 12) (i := 1) (hI := d_Tape_isRun_12) (hi := rfl) (hl := rfl) ?_
    obtain ⟨c6_, hyp⟩ := hyp
    refine xq_callV (pc := 13) (index := 78) (K := m_Tape_runEndsWith) (As := [xR x1]) (S := []) (L0 := [xR 1, xR x1, xZ, xZ]) (hI := d_Tape_isRun_13) (hK := k_Tape_runEndsWith) (hlk := w_807) (hnoM := rfl) (hS8 := Nat.le_of_ble_eq_true rfl) (ci := 8) (N := 7) (C := "BeaconIndex$Tape") (T := xF8) (hc := rfl) (hci := Nat.le_of_ble_eq_true rfl) (htb := (ft_1 F)) (hinst := w_809) (hsel := sel_Tape_runEndsWith) (hlen := Nat.le_of_ble_eq_true rfl) (hst := rfl) (hL0 := rfl)  (p_Tape_runEndsWith F c3_ c6_ ?_)
    show xwp G m_Tape_isRun (d + 7) 16 [xR 1, xR x1] [xI (b2i (endH h x1))] _ _ _
    refine xr_if_eq (pc := 16) (tgt := 23) (hI := d_Tape_isRun_16) (ht := by decide) (fun q9 => ?_) (fun q9 => ?_)
    · replace hyp := hyp.2 (b2i_0.mp q9)
      have q7_ := b2i_0.mp q9
      clear q9
      refine xr_iconst (pc := 23) (hI := d_Tape_isRun_23) (hr := by decide) ?_
      refine xr_ireturnT (S := []) (pc := 24) (hI := d_Tape_isRun_24) (hr := rfl) (xnar_z (by decide)) ?_
      exact hyp
    · replace hyp := hyp.1 (b2i_1.mp q9)
      have q7_ := b2i_1.mp q9
      clear q9
      refine xr_iconst (pc := 19) (hI := d_Tape_isRun_19) (hr := by decide) ?_
      refine xr_goto (pc := 20) (tgt := 24) (hI := d_Tape_isRun_20) (ht := by decide) ?_
      refine xr_ireturnT (S := []) (pc := 24) (hI := d_Tape_isRun_24) (hr := rfl) (xnar_z (by decide)) ?_
      exact hyp

end
