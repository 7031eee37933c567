/-! ===== tape2 ===== -/
section
/-- a text constant and its characters -/
def StrR (h : XH) (s : Int) (cs : List Int) : Prop := strOK h s ∧ stl h s = cs.length ∧ ∀ k : Nat, k < cs.length → cs[k]? = some (stc h s k)
theorem strR_of {h : XH} {s v : Int} {cs : List Int} (t0 : xtg h s = 14) (e0 : xpl h s 0 = v) (t1 : xtg h v = 103) (l1 : xln h v = cs.length) (e1 : xpl h s 1 = 0) (hl : cs.length ≤ 1000) (hc : ∀ c ∈ cs, 0 ≤ c ∧ c ≤ 255) (hk : ∀ k : Nat, k < cs.length → cs[k]? = some (xpl h v k)) : StrR h s cs := by
  subst e0
  have key : ∀ i, 0 ≤ i → i < xln h (xpl h s 0) → 0 ≤ xpl h (xpl h s 0) i ∧ xpl h (xpl h s 0) i ≤ 255 := by
    intro i i0 i1
    have := hk i.toNat (by omega)
    rw [show ((i.toNat : Nat) : Int) = i by omega] at this
    exact hc _ (List.mem_of_getElem? this)
  exact ⟨⟨⟨t0, t1, e1, fun i i0 i1 => (key i i0 i1).1⟩, by unfold stl; omega, by unfold stl; omega, key⟩, l1, hk⟩
theorem str_2 {h : XH} (F : xFix h) : StrR h (-2) [105, 101, 115] := strR_of (ft_m2 F) (fp_m2_0 F) (ft_m3 F) (fl_m3 F) (fp_m2_1 F) (by decide) (by decide) (fun k hk => by
  match k, hk with
  | 0, _ => exact congrArg some (fp_m3_0 F).symm
  | 1, _ => exact congrArg some (fp_m3_1 F).symm
  | 2, _ => exact congrArg some (fp_m3_2 F).symm
  | n + 3, hk => exact absurd hk (by simp))
theorem str_4 {h : XH} (F : xFix h) : StrR h (-4) [115, 115, 101, 115] := strR_of (ft_m4 F) (fp_m4_0 F) (ft_m5 F) (fl_m5 F) (fp_m4_1 F) (by decide) (by decide) (fun k hk => by
  match k, hk with
  | 0, _ => exact congrArg some (fp_m5_0 F).symm
  | 1, _ => exact congrArg some (fp_m5_1 F).symm
  | 2, _ => exact congrArg some (fp_m5_2 F).symm
  | 3, _ => exact congrArg some (fp_m5_3 F).symm
  | n + 4, hk => exact absurd hk (by simp))
theorem str_6 {h : XH} (F : xFix h) : StrR h (-6) [115] := strR_of (ft_m6 F) (fp_m6_0 F) (ft_m7 F) (fl_m7 F) (fp_m6_1 F) (by decide) (by decide) (fun k hk => by
  match k, hk with
  | 0, _ => exact congrArg some (fp_m7_0 F).symm
  | n + 1, hk => exact absurd hk (by simp))
theorem str_8 {h : XH} (F : xFix h) : StrR h (-8) [115, 115] := strR_of (ft_m8 F) (fp_m8_0 F) (ft_m9 F) (fl_m9 F) (fp_m8_1 F) (by decide) (by decide) (fun k hk => by
  match k, hk with
  | 0, _ => exact congrArg some (fp_m9_0 F).symm
  | 1, _ => exact congrArg some (fp_m9_1 F).symm
  | n + 2, hk => exact absurd hk (by simp))
theorem str_10 {h : XH} (F : xFix h) : StrR h (-10) [117, 115] := strR_of (ft_m10 F) (fp_m10_0 F) (ft_m11 F) (fl_m11 F) (fp_m10_1 F) (by decide) (by decide) (fun k hk => by
  match k, hk with
  | 0, _ => exact congrArg some (fp_m11_0 F).symm
  | 1, _ => exact congrArg some (fp_m11_1 F).symm
  | n + 2, hk => exact absurd hk (by simp))
theorem str_12 {h : XH} (F : xFix h) : StrR h (-12) [105, 110, 103] := strR_of (ft_m12 F) (fp_m12_0 F) (ft_m13 F) (fl_m13 F) (fp_m12_1 F) (by decide) (by decide) (fun k hk => by
  match k, hk with
  | 0, _ => exact congrArg some (fp_m13_0 F).symm
  | 1, _ => exact congrArg some (fp_m13_1 F).symm
  | 2, _ => exact congrArg some (fp_m13_2 F).symm
  | n + 3, hk => exact absurd hk (by simp))
theorem str_14 {h : XH} (F : xFix h) : StrR h (-14) [101, 100] := strR_of (ft_m14 F) (fp_m14_0 F) (ft_m15 F) (fl_m15 F) (fp_m14_1 F) (by decide) (by decide) (fun k hk => by
  match k, hk with
  | 0, _ => exact congrArg some (fp_m15_0 F).symm
  | 1, _ => exact congrArg some (fp_m15_1 F).symm
  | n + 2, hk => exact absurd hk (by simp))
theorem str_16 {h : XH} (F : xFix h) : StrR h (-16) [116, 104, 101] := strR_of (ft_m16 F) (fp_m16_0 F) (ft_m17 F) (fl_m17 F) (fp_m16_1 F) (by decide) (by decide) (fun k hk => by
  match k, hk with
  | 0, _ => exact congrArg some (fp_m17_0 F).symm
  | 1, _ => exact congrArg some (fp_m17_1 F).symm
  | 2, _ => exact congrArg some (fp_m17_2 F).symm
  | n + 3, hk => exact absurd hk (by simp))
theorem str_18 {h : XH} (F : xFix h) : StrR h (-18) [97] := strR_of (ft_m18 F) (fp_m18_0 F) (ft_m19 F) (fl_m19 F) (fp_m18_1 F) (by decide) (by decide) (fun k hk => by
  match k, hk with
  | 0, _ => exact congrArg some (fp_m19_0 F).symm
  | n + 1, hk => exact absurd hk (by simp))
theorem str_20 {h : XH} (F : xFix h) : StrR h (-20) [97, 110] := strR_of (ft_m20 F) (fp_m20_0 F) (ft_m21 F) (fl_m21 F) (fp_m20_1 F) (by decide) (by decide) (fun k hk => by
  match k, hk with
  | 0, _ => exact congrArg some (fp_m21_0 F).symm
  | 1, _ => exact congrArg some (fp_m21_1 F).symm
  | n + 2, hk => exact absurd hk (by simp))
theorem str_22 {h : XH} (F : xFix h) : StrR h (-22) [111, 102] := strR_of (ft_m22 F) (fp_m22_0 F) (ft_m23 F) (fl_m23 F) (fp_m22_1 F) (by decide) (by decide) (fun k hk => by
  match k, hk with
  | 0, _ => exact congrArg some (fp_m23_0 F).symm
  | 1, _ => exact congrArg some (fp_m23_1 F).symm
  | n + 2, hk => exact absurd hk (by simp))
theorem str_24 {h : XH} (F : xFix h) : StrR h (-24) [97, 110, 100] := strR_of (ft_m24 F) (fp_m24_0 F) (ft_m25 F) (fl_m25 F) (fp_m24_1 F) (by decide) (by decide) (fun k hk => by
  match k, hk with
  | 0, _ => exact congrArg some (fp_m25_0 F).symm
  | 1, _ => exact congrArg some (fp_m25_1 F).symm
  | 2, _ => exact congrArg some (fp_m25_2 F).symm
  | n + 3, hk => exact absurd hk (by simp))
theorem str_26 {h : XH} (F : xFix h) : StrR h (-26) [111, 114] := strR_of (ft_m26 F) (fp_m26_0 F) (ft_m27 F) (fl_m27 F) (fp_m26_1 F) (by decide) (by decide) (fun k hk => by
  match k, hk with
  | 0, _ => exact congrArg some (fp_m27_0 F).symm
  | 1, _ => exact congrArg some (fp_m27_1 F).symm
  | n + 2, hk => exact absurd hk (by simp))
theorem str_28 {h : XH} (F : xFix h) : StrR h (-28) [116, 111] := strR_of (ft_m28 F) (fp_m28_0 F) (ft_m29 F) (fl_m29 F) (fp_m28_1 F) (by decide) (by decide) (fun k hk => by
  match k, hk with
  | 0, _ => exact congrArg some (fp_m29_0 F).symm
  | 1, _ => exact congrArg some (fp_m29_1 F).symm
  | n + 2, hk => exact absurd hk (by simp))
theorem str_30 {h : XH} (F : xFix h) : StrR h (-30) [105, 110] := strR_of (ft_m30 F) (fp_m30_0 F) (ft_m31 F) (fl_m31 F) (fp_m30_1 F) (by decide) (by decide) (fun k hk => by
  match k, hk with
  | 0, _ => exact congrArg some (fp_m31_0 F).symm
  | 1, _ => exact congrArg some (fp_m31_1 F).symm
  | n + 2, hk => exact absurd hk (by simp))
theorem str_32 {h : XH} (F : xFix h) : StrR h (-32) [116, 105, 116, 108, 101] := strR_of (ft_m32 F) (fp_m32_0 F) (ft_m33 F) (fl_m33 F) (fp_m32_1 F) (by decide) (by decide) (fun k hk => by
  match k, hk with
  | 0, _ => exact congrArg some (fp_m33_0 F).symm
  | 1, _ => exact congrArg some (fp_m33_1 F).symm
  | 2, _ => exact congrArg some (fp_m33_2 F).symm
  | 3, _ => exact congrArg some (fp_m33_3 F).symm
  | 4, _ => exact congrArg some (fp_m33_4 F).symm
  | n + 5, hk => exact absurd hk (by simp))
theorem str_34 {h : XH} (F : xFix h) : StrR h (-34) [98, 111, 100, 121] := strR_of (ft_m34 F) (fp_m34_0 F) (ft_m35 F) (fl_m35 F) (fp_m34_1 F) (by decide) (by decide) (fun k hk => by
  match k, hk with
  | 0, _ => exact congrArg some (fp_m35_0 F).symm
  | 1, _ => exact congrArg some (fp_m35_1 F).symm
  | 2, _ => exact congrArg some (fp_m35_2 F).symm
  | 3, _ => exact congrArg some (fp_m35_3 F).symm
  | n + 4, hk => exact absurd hk (by simp))
theorem str_36 {h : XH} (F : xFix h) : StrR h (-36) [105, 101, 115] := strR_of (ft_m36 F) (fp_m36_0 F) (ft_m37 F) (fl_m37 F) (fp_m36_1 F) (by decide) (by decide) (fun k hk => by
  match k, hk with
  | 0, _ => exact congrArg some (fp_m37_0 F).symm
  | 1, _ => exact congrArg some (fp_m37_1 F).symm
  | 2, _ => exact congrArg some (fp_m37_2 F).symm
  | n + 3, hk => exact absurd hk (by simp))
theorem str_38 {h : XH} (F : xFix h) : StrR h (-38) [115, 115, 101, 115] := strR_of (ft_m38 F) (fp_m38_0 F) (ft_m39 F) (fl_m39 F) (fp_m38_1 F) (by decide) (by decide) (fun k hk => by
  match k, hk with
  | 0, _ => exact congrArg some (fp_m39_0 F).symm
  | 1, _ => exact congrArg some (fp_m39_1 F).symm
  | 2, _ => exact congrArg some (fp_m39_2 F).symm
  | 3, _ => exact congrArg some (fp_m39_3 F).symm
  | n + 4, hk => exact absurd hk (by simp))
theorem str_40 {h : XH} (F : xFix h) : StrR h (-40) [115] := strR_of (ft_m40 F) (fp_m40_0 F) (ft_m41 F) (fl_m41 F) (fp_m40_1 F) (by decide) (by decide) (fun k hk => by
  match k, hk with
  | 0, _ => exact congrArg some (fp_m41_0 F).symm
  | n + 1, hk => exact absurd hk (by simp))
theorem str_42 {h : XH} (F : xFix h) : StrR h (-42) [115, 115] := strR_of (ft_m42 F) (fp_m42_0 F) (ft_m43 F) (fl_m43 F) (fp_m42_1 F) (by decide) (by decide) (fun k hk => by
  match k, hk with
  | 0, _ => exact congrArg some (fp_m43_0 F).symm
  | 1, _ => exact congrArg some (fp_m43_1 F).symm
  | n + 2, hk => exact absurd hk (by simp))
theorem str_44 {h : XH} (F : xFix h) : StrR h (-44) [117, 115] := strR_of (ft_m44 F) (fp_m44_0 F) (ft_m45 F) (fl_m45 F) (fp_m44_1 F) (by decide) (by decide) (fun k hk => by
  match k, hk with
  | 0, _ => exact congrArg some (fp_m45_0 F).symm
  | 1, _ => exact congrArg some (fp_m45_1 F).symm
  | n + 2, hk => exact absurd hk (by simp))
theorem str_46 {h : XH} (F : xFix h) : StrR h (-46) [105, 110, 103] := strR_of (ft_m46 F) (fp_m46_0 F) (ft_m47 F) (fl_m47 F) (fp_m46_1 F) (by decide) (by decide) (fun k hk => by
  match k, hk with
  | 0, _ => exact congrArg some (fp_m47_0 F).symm
  | 1, _ => exact congrArg some (fp_m47_1 F).symm
  | 2, _ => exact congrArg some (fp_m47_2 F).symm
  | n + 3, hk => exact absurd hk (by simp))
theorem str_48 {h : XH} (F : xFix h) : StrR h (-48) [101, 100] := strR_of (ft_m48 F) (fp_m48_0 F) (ft_m49 F) (fl_m49 F) (fp_m48_1 F) (by decide) (by decide) (fun k hk => by
  match k, hk with
  | 0, _ => exact congrArg some (fp_m49_0 F).symm
  | 1, _ => exact congrArg some (fp_m49_1 F).symm
  | n + 2, hk => exact absurd hk (by simp))
theorem str_60 {h : XH} (F : xFix h) : StrR h (-60) [43, 45, 34, 42, 126, 94, 58, 40, 41] := strR_of (ft_m60 F) (fp_m60_0 F) (ft_m61 F) (fl_m61 F) (fp_m60_1 F) (by decide) (by decide) (fun k hk => by
  match k, hk with
  | 0, _ => exact congrArg some (fp_m61_0 F).symm
  | 1, _ => exact congrArg some (fp_m61_1 F).symm
  | 2, _ => exact congrArg some (fp_m61_2 F).symm
  | 3, _ => exact congrArg some (fp_m61_3 F).symm
  | 4, _ => exact congrArg some (fp_m61_4 F).symm
  | 5, _ => exact congrArg some (fp_m61_5 F).symm
  | 6, _ => exact congrArg some (fp_m61_6 F).symm
  | 7, _ => exact congrArg some (fp_m61_7 F).symm
  | 8, _ => exact congrArg some (fp_m61_8 F).symm
  | n + 9, hk => exact absurd hk (by simp))
theorem str_62 {h : XH} (F : xFix h) : StrR h (-62) [116, 105, 116, 108, 101] := strR_of (ft_m62 F) (fp_m62_0 F) (ft_m63 F) (fl_m63 F) (fp_m62_1 F) (by decide) (by decide) (fun k hk => by
  match k, hk with
  | 0, _ => exact congrArg some (fp_m63_0 F).symm
  | 1, _ => exact congrArg some (fp_m63_1 F).symm
  | 2, _ => exact congrArg some (fp_m63_2 F).symm
  | 3, _ => exact congrArg some (fp_m63_3 F).symm
  | 4, _ => exact congrArg some (fp_m63_4 F).symm
  | n + 5, hk => exact absurd hk (by simp))
theorem str_64 {h : XH} (F : xFix h) : StrR h (-64) [98, 111, 100, 121] := strR_of (ft_m64 F) (fp_m64_0 F) (ft_m65 F) (fl_m65 F) (fp_m64_1 F) (by decide) (by decide) (fun k hk => by
  match k, hk with
  | 0, _ => exact congrArg some (fp_m65_0 F).symm
  | 1, _ => exact congrArg some (fp_m65_1 F).symm
  | 2, _ => exact congrArg some (fp_m65_2 F).symm
  | 3, _ => exact congrArg some (fp_m65_3 F).symm
  | n + 4, hk => exact absurd hk (by simp))
theorem str_66 {h : XH} (F : xFix h) : StrR h (-66) [116, 104, 101] := strR_of (ft_m66 F) (fp_m66_0 F) (ft_m67 F) (fl_m67 F) (fp_m66_1 F) (by decide) (by decide) (fun k hk => by
  match k, hk with
  | 0, _ => exact congrArg some (fp_m67_0 F).symm
  | 1, _ => exact congrArg some (fp_m67_1 F).symm
  | 2, _ => exact congrArg some (fp_m67_2 F).symm
  | n + 3, hk => exact absurd hk (by simp))
theorem str_68 {h : XH} (F : xFix h) : StrR h (-68) [97] := strR_of (ft_m68 F) (fp_m68_0 F) (ft_m69 F) (fl_m69 F) (fp_m68_1 F) (by decide) (by decide) (fun k hk => by
  match k, hk with
  | 0, _ => exact congrArg some (fp_m69_0 F).symm
  | n + 1, hk => exact absurd hk (by simp))
theorem str_70 {h : XH} (F : xFix h) : StrR h (-70) [97, 110] := strR_of (ft_m70 F) (fp_m70_0 F) (ft_m71 F) (fl_m71 F) (fp_m70_1 F) (by decide) (by decide) (fun k hk => by
  match k, hk with
  | 0, _ => exact congrArg some (fp_m71_0 F).symm
  | 1, _ => exact congrArg some (fp_m71_1 F).symm
  | n + 2, hk => exact absurd hk (by simp))
theorem str_72 {h : XH} (F : xFix h) : StrR h (-72) [111, 102] := strR_of (ft_m72 F) (fp_m72_0 F) (ft_m73 F) (fl_m73 F) (fp_m72_1 F) (by decide) (by decide) (fun k hk => by
  match k, hk with
  | 0, _ => exact congrArg some (fp_m73_0 F).symm
  | 1, _ => exact congrArg some (fp_m73_1 F).symm
  | n + 2, hk => exact absurd hk (by simp))
theorem str_74 {h : XH} (F : xFix h) : StrR h (-74) [97, 110, 100] := strR_of (ft_m74 F) (fp_m74_0 F) (ft_m75 F) (fl_m75 F) (fp_m74_1 F) (by decide) (by decide) (fun k hk => by
  match k, hk with
  | 0, _ => exact congrArg some (fp_m75_0 F).symm
  | 1, _ => exact congrArg some (fp_m75_1 F).symm
  | 2, _ => exact congrArg some (fp_m75_2 F).symm
  | n + 3, hk => exact absurd hk (by simp))
theorem str_76 {h : XH} (F : xFix h) : StrR h (-76) [111, 114] := strR_of (ft_m76 F) (fp_m76_0 F) (ft_m77 F) (fl_m77 F) (fp_m76_1 F) (by decide) (by decide) (fun k hk => by
  match k, hk with
  | 0, _ => exact congrArg some (fp_m77_0 F).symm
  | 1, _ => exact congrArg some (fp_m77_1 F).symm
  | n + 2, hk => exact absurd hk (by simp))
theorem str_78 {h : XH} (F : xFix h) : StrR h (-78) [116, 111] := strR_of (ft_m78 F) (fp_m78_0 F) (ft_m79 F) (fl_m79 F) (fp_m78_1 F) (by decide) (by decide) (fun k hk => by
  match k, hk with
  | 0, _ => exact congrArg some (fp_m79_0 F).symm
  | 1, _ => exact congrArg some (fp_m79_1 F).symm
  | n + 2, hk => exact absurd hk (by simp))
theorem str_80 {h : XH} (F : xFix h) : StrR h (-80) [105, 110] := strR_of (ft_m80 F) (fp_m80_0 F) (ft_m81 F) (fl_m81 F) (fp_m80_1 F) (by decide) (by decide) (fun k hk => by
  match k, hk with
  | 0, _ => exact congrArg some (fp_m81_0 F).symm
  | 1, _ => exact congrArg some (fp_m81_1 F).symm
  | n + 2, hk => exact absurd hk (by simp))
abbrev m_Tape_firstLetters : XM := (⟨"BeaconIndex$Tape", "firstLetters", "(I)J"⟩, prog_9_method_13_code, 5, (some .long), [])
theorem d_Tape_firstLetters_0 : decode prog_9_method_13_code 0 = .ok (.lconst 0, 1) := by decide +kernel
theorem d_Tape_firstLetters_1 : decode prog_9_method_13_code 1 = .ok (.lstore_n 2, 1) := by decide +kernel
theorem d_Tape_firstLetters_2 : decode prog_9_method_13_code 2 = .ok (.iconst 0, 1) := by decide +kernel
theorem d_Tape_firstLetters_3 : decode prog_9_method_13_code 3 = .ok (.istore 4, 2) := by decide +kernel
theorem v_Tape_firstLetters_0 {G : XG} {d : Nat} {h : XH} {Q : XV → XH → Prop} {X : Nat → XH → Prop} {x1 : Int} (F : xFix h) (hyp : (xwp G m_Tape_firstLetters (d + 3) 5 [xR 1, xI x1, xL 0, xZ, xI 0] [] h Q X)) : xwp G m_Tape_firstLetters (d + 3) 0 [xR 1, xI x1, xZ, xZ, xZ] [] h Q X := by
  have hnx9 : (93 : Int) ≤ xnx h := F.2.2
  refine xr_okL (fun hl9 => ?_)
  have r_x1 : -2147483648 ≤ x1 ∧ x1 ≤ 2147483647 := hl9 (xI x1) (.tail _ (.head _)) (Nat.le_of_ble_eq_true rfl)
  refine xr_lconst (pc := 0) (z := 0) (hI := d_Tape_firstLetters_0) (hr := by decide) (hv := by decide) ?_
  refine xr_lstore_n (pc := 1) (i := 2) (L9 := [xR 1, xI x1, xL 0, xZ, xZ]) (hI := d_Tape_firstLetters_1) (hi := rfl) (hn := Nat.le_of_ble_eq_true rfl) (hL9 := rfl) ?_
  refine xr_iconst (pc := 2) (hI := d_Tape_firstLetters_2) (hr := by decide) ?_
  refine xr_istore (pc := 3) (i := 4) (L9 := [xR 1, xI x1, xL 0, xZ, xI 0]) (hI := d_Tape_firstLetters_3) (hn := Nat.le_of_ble_eq_true rfl) (hL9 := rfl) ?_
  exact hyp
theorem d_Tape_firstLetters_5 : decode prog_9_method_13_code 5 = .ok (.iload 4, 2) := by decide +kernel
theorem d_Tape_firstLetters_7 : decode prog_9_method_13_code 7 = .ok (.iload_n 1, 1) := by decide +kernel
theorem d_Tape_firstLetters_8 : decode prog_9_method_13_code 8 = .ok (.if_icmp .ge 36, 3) := by decide +kernel
theorem d_Tape_firstLetters_44 : decode prog_9_method_13_code 44 = .ok (.lload_n 2, 1) := by decide +kernel
theorem d_Tape_firstLetters_45 : decode prog_9_method_13_code 45 = .ok (.lreturn, 1) := by decide +kernel
theorem d_Tape_firstLetters_11 : decode prog_9_method_13_code 11 = .ok (.iload 4, 2) := by decide +kernel
theorem d_Tape_firstLetters_13 : decode prog_9_method_13_code 13 = .ok (.aload_n 0, 1) := by decide +kernel
theorem d_Tape_firstLetters_14 : decode prog_9_method_13_code 14 = .ok (.getfield 19, 3) := by decide +kernel
theorem d_Tape_firstLetters_17 : decode prog_9_method_13_code 17 = .ok (.arraylength, 1) := by decide +kernel
theorem d_Tape_firstLetters_18 : decode prog_9_method_13_code 18 = .ok (.if_icmp .ge 26, 3) := by decide +kernel
theorem d_Tape_firstLetters_21 : decode prog_9_method_13_code 21 = .ok (.lload_n 2, 1) := by decide +kernel
theorem d_Tape_firstLetters_22 : decode prog_9_method_13_code 22 = .ok (.iload 4, 2) := by decide +kernel
theorem d_Tape_firstLetters_24 : decode prog_9_method_13_code 24 = .ok (.aload_n 0, 1) := by decide +kernel
theorem d_Tape_firstLetters_25 : decode prog_9_method_13_code 25 = .ok (.getfield 19, 3) := by decide +kernel
theorem d_Tape_firstLetters_28 : decode prog_9_method_13_code 28 = .ok (.iload 4, 2) := by decide +kernel
theorem d_Tape_firstLetters_30 : decode prog_9_method_13_code 30 = .ok (.iaload, 1) := by decide +kernel
theorem d_Tape_firstLetters_31 : decode prog_9_method_13_code 31 = .ok (.invokestatic 39, 3) := by decide +kernel
theorem d_Tape_firstLetters_34 : decode prog_9_method_13_code 34 = .ok (.invokestatic 107, 3) := by decide +kernel
theorem k_Words_withSign : xCal m_Words_withSign 3 := ⟨List.mem_append_right _ (List.mem_of_getElem? (i := 863) (by decide +kernel)), w_24, Nat.le_of_ble_eq_true rfl, ⟨by decide +kernel, by decide +kernel⟩, by decide +kernel, by decide +kernel, rfl⟩
theorem w_861 : Cond.methodLink "BeaconIndex$Tape" 107 ⟨"BeaconIndex$Words", "withSign", "(JII)J"⟩ ∈ lw_tbl := List.mem_append_right _ (List.mem_of_getElem? (i := 861) (by decide +kernel))
theorem w_862 : Cond.static ⟨"BeaconIndex$Words", "withSign", "(JII)J"⟩ ∈ lw_tbl := List.mem_append_right _ (List.mem_of_getElem? (i := 862) (by decide +kernel))
theorem d_Tape_firstLetters_37 : decode prog_9_method_13_code 37 = .ok (.lstore_n 2, 1) := by decide +kernel
theorem d_Tape_firstLetters_38 : decode prog_9_method_13_code 38 = .ok (.iinc 4 1, 3) := by decide +kernel
theorem d_Tape_firstLetters_41 : decode prog_9_method_13_code 41 = .ok (.goto (-36), 3) := by decide +kernel
theorem v_Tape_firstLetters_5 {G : XG} {d : Nat} {h : XH} {Q : XV → XH → Prop} {X : Nat → XH → Prop} {x1 x2 x4 : Int} (F : xFix h) (hyp : ((x1 ≤ x4 → (Q (xL x2) h)) ∧ (¬ x1 ≤ x4 → (((12 : Int) ≤ x4 → (Q (xL x2) h)) ∧ (¬ (12 : Int) ≤ x4 → 0 ≤ x4 ∧ (xwp G m_Tape_firstLetters (d + 3) 5 [xR 1, xI x1, xL (wsg x2 x4 (sgn (xpl h 4 x4))), xZ, xI (x4 + 1)] [] h Q X)))))) : xwp G m_Tape_firstLetters (d + 3) 5 [xR 1, xI x1, xL x2, xZ, xI x4] [] h Q X := by
  have hnx9 : (93 : Int) ≤ xnx h := F.2.2
  refine xr_okL (fun hl9 => ?_)
  have r_x1 : -2147483648 ≤ x1 ∧ x1 ≤ 2147483647 := hl9 (xI x1) (.tail _ (.head _)) (Nat.le_of_ble_eq_true rfl)
  have r_x2 : -9223372036854775808 ≤ x2 ∧ x2 ≤ 9223372036854775807 := hl9 (xL x2) (.tail _ (.tail _ (.head _))) (Nat.le_of_ble_eq_true rfl)
  have r_x4 : -2147483648 ≤ x4 ∧ x4 ≤ 2147483647 := hl9 (xI x4) (.tail _ (.tail _ (.tail _ (.tail _ (.head _))))) (Nat.le_of_ble_eq_true rfl)
  refine xr_iload (pc := 5) (i := 4) (hI := d_Tape_firstLetters_5) (hl := rfl) ?_
  refine xr_iload_n (pc := 7) (i := 1) (hI := d_Tape_firstLetters_7) (hi := rfl) (hl := rfl) ?_
  refine xr_icmp_ge (pc := 8) (tgt := 44) (hI := d_Tape_firstLetters_8) (ht := by decide) (fun q9 => ?_) (fun q9 => ?_)
  · replace hyp := hyp.1 q9
    have q1_ := q9
    clear q9
    refine xr_lload_n (pc := 44) (i := 2) (hI := d_Tape_firstLetters_44) (hi := rfl) (hl := rfl) ?_
    refine xr_lreturn (S := []) (pc := 45) (hI := d_Tape_firstLetters_45) (hr := rfl) ?_
    exact hyp
  · replace hyp := hyp.2 q9
    have q1_ := q9
    clear q9
    refine xr_iload (pc := 11) (i := 4) (hI := d_Tape_firstLetters_11) (hl := rfl) ?_
    refine xr_aload_n (pc := 13) (i := 0) (hI := d_Tape_firstLetters_13) (hi := rfl) (hl := rfl) ?_
    refine xg_getf (pc := 14) (ci := 8) (k := 2) (N := 7) (v9 := 2) (v := 4) (T := xF8) (hI := d_Tape_firstLetters_14) (hw := w_56) rfl xi8 (Or.inl rfl) (Nat.le_of_ble_eq_true rfl) (Nat.le_of_ble_eq_true rfl) rfl (ft_1 F) (fp_1_2 F) (fun f2_ => ?_)
    clear f2_
    refine xg_alen (pc := 17) (t := 100) (v := 12) (hI := d_Tape_firstLetters_17) (ft_4 F) (Nat.le_of_ble_eq_true rfl) (Nat.le_of_ble_eq_true rfl) rfl (fl_4 F) (fun f3_ f4_ => ?_)
    clear f3_ f4_
    refine xr_icmp_ge (pc := 18) (tgt := 44) (hI := d_Tape_firstLetters_18) (ht := by decide) (fun q9 => ?_) (fun q9 => ?_)
    · replace hyp := hyp.1 q9
      have q5_ := q9
      clear q9
      refine xr_lload_n (pc := 44) (i := 2) (hI := d_Tape_firstLetters_44) (hi := rfl) (hl := rfl) ?_
      refine xr_lreturn (S := []) (pc := 45) (hI := d_Tape_firstLetters_45) (hr := rfl) ?_
      exact hyp
    · replace hyp := hyp.2 q9
      have q5_ := q9
      clear q9
      refine xr_lload_n (pc := 21) (i := 2) (hI := d_Tape_firstLetters_21) (hi := rfl) (hl := rfl) ?_
      refine xr_iload (pc := 22) (i := 4) (hI := d_Tape_firstLetters_22) (hl := rfl) ?_
      refine xr_aload_n (pc := 24) (i := 0) (hI := d_Tape_firstLetters_24) (hi := rfl) (hl := rfl) ?_
      refine xg_getf (pc := 25) (ci := 8) (k := 2) (N := 7) (v9 := 2) (v := 4) (T := xF8) (hI := d_Tape_firstLetters_25) (hw := w_56) rfl xi8 (Or.inl rfl) (Nat.le_of_ble_eq_true rfl) (Nat.le_of_ble_eq_true rfl) rfl (ft_1 F) (fp_1_2 F) (fun f6_ => ?_)
      clear f6_
      refine xr_iload (pc := 28) (i := 4) (hI := d_Tape_firstLetters_28) (hl := rfl) ?_
      obtain ⟨c7_, hyp⟩ := hyp
      refine xg_iaload (pc := 30) (v := (xpl h 4 x4)) (hI := d_Tape_firstLetters_30) (ft_4 F) c7_ (xlt_of (fl_4 F) (by clear hyp; omega)) rfl (fun f8_ => ?_)
      replace f8_ : -2147483648 ≤ (xpl h 4 x4) ∧ (xpl h 4 x4) ≤ 2147483647 := f8_
      refine xq_callS (pc := 31) (index := 39) (K := m_Words_signOf) (As := [xI (xpl h 4 x4)]) (S := [xI x4, xL x2]) (L0 := [xI (xpl h 4 x4)]) (hI := d_Tape_firstLetters_31) (hK := k_Words_signOf) (hlk := w_795) (hnoM := rfl) (hS8 := Nat.le_of_ble_eq_true rfl) (hstat := w_796) (hlen := Nat.le_of_ble_eq_true rfl) (hst := rfl) (hL0 := rfl)  (p_Words_signOf F  ?_)
      show xwp G m_Tape_firstLetters (d + 3) 34 [xR 1, xI x1, xL x2, xZ, xI x4] [xI (sgn (xpl h 4 x4)), xI x4, xL x2] _ _ _
      have f9_ : 0 ≤ (sgn (xpl h 4 x4)) ∧ (sgn (xpl h 4 x4)) ≤ 36 := sgn_rng _
      refine xq_callS (pc := 34) (index := 107) (K := m_Words_withSign) (As := [xL x2, xI x4, xI (sgn (xpl h 4 x4))]) (S := []) (L0 := [xL x2, xZ, xI x4, xI (sgn (xpl h 4 x4))]) (hI := d_Tape_firstLetters_34) (hK := k_Words_withSign) (hlk := w_861) (hnoM := rfl) (hS8 := Nat.le_of_ble_eq_true rfl) (hstat := w_862) (hlen := Nat.le_of_ble_eq_true rfl) (hst := rfl) (hL0 := rfl)  (p_Words_withSign F (by clear hyp; omega) (by clear hyp; omega) ?_)
      show xwp G m_Tape_firstLetters (d + 3) 37 [xR 1, xI x1, xL x2, xZ, xI x4] [xL (wsg x2 x4 (sgn (xpl h 4 x4)))] _ _ _
      refine xr_lstore_n (pc := 37) (i := 2) (L9 := [xR 1, xI x1, xL (wsg x2 x4 (sgn (xpl h 4 x4))), xZ, xI x4]) (hI := d_Tape_firstLetters_37) (hi := rfl) (hn := Nat.le_of_ble_eq_true rfl) (hL9 := rfl) ?_
      refine xr_iinc (pc := 38) (i := 4) (L9 := [xR 1, xI x1, xL (wsg x2 x4 (sgn (xpl h 4 x4))), xZ, xI (x4 + 1)]) (hI := d_Tape_firstLetters_38) (hl := rfl) (hn := Nat.le_of_ble_eq_true rfl) (hr := ⟨by clear hyp; omega, by clear hyp; omega⟩) (hL9 := rfl) ?_
      refine xr_goto (pc := 41) (tgt := 5) (hI := d_Tape_firstLetters_41) (ht := by decide) ?_
      exact hyp
/-- the first k letters as one number -/
def flH (h : XH) : Nat → Int
  | 0 => 0
  | k + 1 => wsg (flH h k) k (sgn (xpl h 4 k))
theorem p_Tape_firstLetters {G : XG} {d : Nat} {h : XH} {Q : XV → XH → Prop} {X : Nat → XH → Prop} {c : Int} (F : xFix h) (h0 : 0 ≤ c) (h1 : c ≤ 12) (hq : Q (xL (flH h c.toNat)) h) : xwp G m_Tape_firstLetters (d + 3) 0 [xR 1, xI c, xZ, xZ, xZ] [] h Q X := by
  have loop : ∀ (n k : Nat), k + n = c.toNat → xwp G m_Tape_firstLetters (d + 3) 5 [xR 1, xI c, xL (flH h k), xZ, xI k] [] h Q X := by
    intro n
    induction n with
    | zero =>
      intro k k1
      have hk : k = c.toNat := k1
      subst hk
      refine v_Tape_firstLetters_5 F ?_
      refine ⟨fun q1 => ?_, fun q1 => ?_⟩
      · exact hq
      · refine ⟨fun q2 => ?_, fun q2 => ?_⟩
        · exact hq
        · refine ⟨?_, ?_⟩
          · first | omega | assumption | exact ⟨by omega, by omega⟩ | (simp only [*]; done) | grind
          · omega
    | succ n ih =>
      intro k k1
      refine v_Tape_firstLetters_5 F ?_
      refine ⟨fun q1 => ?_, fun q1 => ?_⟩
      · omega
      · refine ⟨fun q2 => ?_, fun q2 => ?_⟩
        · omega
        · refine ⟨?_, ?_⟩
          · first | omega | assumption | exact ⟨by omega, by omega⟩ | (simp only [*]; done) | grind
          · exact ih (k + 1) (by omega)
  refine v_Tape_firstLetters_0 F ?_
  exact loop c.toNat 0 (by omega)
abbrev m_Tape_runEndsWith : XM := (⟨"BeaconIndex$Tape", "runEndsWith", "(Ljava/lang/String;)Z"⟩, prog_9_method_12_code, 4, (some .boolean), [])
theorem d_Tape_runEndsWith_0 : decode prog_9_method_12_code 0 = .ok (.aload_n 0, 1) := by decide +kernel
theorem d_Tape_runEndsWith_1 : decode prog_9_method_12_code 1 = .ok (.getfield 32, 3) := by decide +kernel
theorem d_Tape_runEndsWith_4 : decode prog_9_method_12_code 4 = .ok (.aload_n 1, 1) := by decide +kernel
theorem d_Tape_runEndsWith_5 : decode prog_9_method_12_code 5 = .ok (.invokevirtual 73, 3) := by decide +kernel
theorem k_String_length : xCal m_String_length 0 := ⟨List.mem_append_right _ (List.mem_of_getElem? (i := 814) (by decide +kernel)), w_26, Nat.le_of_ble_eq_true rfl, ⟨by decide +kernel, by decide +kernel⟩, by decide +kernel, by decide +kernel, rfl⟩
theorem w_811 : Cond.methodLink "BeaconIndex$Tape" 73 ⟨"java/lang/String", "length", "()I"⟩ ∈ lw_tbl := List.mem_append_right _ (List.mem_of_getElem? (i := 811) (by decide +kernel))
theorem w_812 : Cond.instanceMethod ⟨"java/lang/String", "length", "()I"⟩ ∈ lw_tbl := List.mem_append_right _ (List.mem_of_getElem? (i := 812) (by decide +kernel))
theorem w_813 : Cond.selects "java/lang/String" ⟨"java/lang/String", "length", "()I"⟩ ⟨"java/lang/String", "length", "()I"⟩ ∈ lw_tbl := List.mem_append_right _ (List.mem_of_getElem? (i := 813) (by decide +kernel))
theorem d_Tape_runEndsWith_8 : decode prog_9_method_12_code 8 = .ok (.isub, 1) := by decide +kernel
theorem d_Tape_runEndsWith_9 : decode prog_9_method_12_code 9 = .ok (.istore_n 2, 1) := by decide +kernel
theorem d_Tape_runEndsWith_10 : decode prog_9_method_12_code 10 = .ok (.iload_n 2, 1) := by decide +kernel
theorem d_Tape_runEndsWith_11 : decode prog_9_method_12_code 11 = .ok (.ifCond .ge 5, 3) := by decide +kernel
theorem d_Tape_runEndsWith_16 : decode prog_9_method_12_code 16 = .ok (.iconst 0, 1) := by decide +kernel
theorem d_Tape_runEndsWith_17 : decode prog_9_method_12_code 17 = .ok (.istore_n 3, 1) := by decide +kernel
theorem d_Tape_runEndsWith_14 : decode prog_9_method_12_code 14 = .ok (.iconst 0, 1) := by decide +kernel
theorem d_Tape_runEndsWith_15 : decode prog_9_method_12_code 15 = .ok (.ireturn, 1) := by decide +kernel
theorem v_Tape_runEndsWith_0 {G : XG} {d : Nat} {h : XH} {Q : XV → XH → Prop} {X : Nat → XH → Prop} {x1 : Int} (F : xFix h) (hyp : xtg h x1 = 14 ∧ strOK h x1 ∧ xiR ((xpl h 1 6) - (stl h x1)) ∧ (((0 : Int) ≤ ((xpl h 1 6) - (stl h x1)) → (xwp G m_Tape_runEndsWith (d + 6) 18 [xR 1, xR x1, xI ((xpl h 1 6) - (stl h x1)), xI 0] [] h Q X)) ∧ (¬ (0 : Int) ≤ ((xpl h 1 6) - (stl h x1)) → (Q (xI 0) h)))) : xwp G m_Tape_runEndsWith (d + 6) 0 [xR 1, xR x1, xZ, xZ] [] h Q X := by
  have hnx9 : (93 : Int) ≤ xnx h := F.2.2
  refine xr_aload_n (pc := 0) (i := 0) (hI := d_Tape_runEndsWith_0) (hi := rfl) (hl := rfl) ?_
  refine xg_getf (pc := 1) (ci := 8) (k := 6) (N := 7) (v9 := 0) (v := (xpl h 1 6)) (T := xF8) (hI := d_Tape_runEndsWith_1) (hw := w_63) rfl xi8 (Or.inl rfl) (Nat.le_of_ble_eq_true rfl) (Nat.le_of_ble_eq_true rfl) rfl (ft_1 F) rfl (fun f1_ => ?_)
  replace f1_ : -2147483648 ≤ (xpl h 1 6) ∧ (xpl h 1 6) ≤ 2147483647 := f1_
  refine xr_aload_n (pc := 4) (i := 1) (hI := d_Tape_runEndsWith_4) (hi := rfl) (hl := rfl) ?_
  obtain ⟨c9, hyp⟩ := hyp
  have t2_ := c9
  clear c9
  obtain ⟨c3_, hyp⟩ := hyp
  refine xq_callV (pc := 5) (index := 73) (K := m_String_length) (As := []) (S := [xI (xpl h 1 6)]) (L0 := [xR x1]) (hI := d_Tape_runEndsWith_5) (hK := k_String_length) (hlk := w_811) (hnoM := rfl) (hS8 := Nat.le_of_ble_eq_true rfl) (ci := 14) (N := 2) (C := "java/lang/String") (T := xF14) (hc := rfl) (hci := Nat.le_of_ble_eq_true rfl) (htb := t2_) (hinst := w_812) (hsel := w_813) (hlen := Nat.le_of_ble_eq_true rfl) (hst := rfl) (hL0 := rfl)  (p_String_len F c3_ ?_)
  show xwp G m_Tape_runEndsWith (d + 6) 8 [xR 1, xR x1, xZ, xZ] [xI (stl h x1), xI (xpl h 1 6)] _ _ _
  have f4_ : 0 ≤ (stl h x1) ∧ (stl h x1) ≤ 1000 := ⟨c3_.2.1, c3_.2.2.1⟩
  obtain ⟨c9, hyp⟩ := hyp
  refine xr_isub (pc := 8) (hI := d_Tape_runEndsWith_8) (hr := c9) ?_
  refine xr_istore_n (pc := 9) (i := 2) (L9 := [xR 1, xR x1, xI ((xpl h 1 6) - (stl h x1)), xZ]) (hI := d_Tape_runEndsWith_9) (hi := rfl) (hn := Nat.le_of_ble_eq_true rfl) (hL9 := rfl) ?_
  refine xr_iload_n (pc := 10) (i := 2) (hI := d_Tape_runEndsWith_10) (hi := rfl) (hl := rfl) ?_
  refine xr_if_ge (pc := 11) (tgt := 16) (hI := d_Tape_runEndsWith_11) (ht := by decide) (fun q9 => ?_) (fun q9 => ?_)
  · replace hyp := hyp.1 q9
    have q5_ := q9
    clear q9
    refine xr_iconst (pc := 16) (hI := d_Tape_runEndsWith_16) (hr := by decide) ?_
    refine xr_istore_n (pc := 17) (i := 3) (L9 := [xR 1, xR x1, xI ((xpl h 1 6) - (stl h x1)), xI 0]) (hI := d_Tape_runEndsWith_17) (hi := rfl) (hn := Nat.le_of_ble_eq_true rfl) (hL9 := rfl) ?_
    exact hyp
  · replace hyp := hyp.2 q9
    have q5_ := q9
    clear q9
    refine xr_iconst (pc := 14) (hI := d_Tape_runEndsWith_14) (hr := by decide) ?_
    refine xr_ireturnT (S := []) (pc := 15) (hI := d_Tape_runEndsWith_15) (hr := rfl) (xnar_z (by decide)) ?_
    exact hyp
theorem d_Tape_runEndsWith_18 : decode prog_9_method_12_code 18 = .ok (.iload_n 3, 1) := by decide +kernel
theorem d_Tape_runEndsWith_19 : decode prog_9_method_12_code 19 = .ok (.aload_n 1, 1) := by decide +kernel
theorem d_Tape_runEndsWith_20 : decode prog_9_method_12_code 20 = .ok (.invokevirtual 73, 3) := by decide +kernel
theorem d_Tape_runEndsWith_23 : decode prog_9_method_12_code 23 = .ok (.if_icmp .ge 38, 3) := by decide +kernel
theorem d_Tape_runEndsWith_61 : decode prog_9_method_12_code 61 = .ok (.iconst 1, 1) := by decide +kernel
theorem d_Tape_runEndsWith_62 : decode prog_9_method_12_code 62 = .ok (.ireturn, 1) := by decide +kernel
theorem d_Tape_runEndsWith_26 : decode prog_9_method_12_code 26 = .ok (.iload_n 2, 1) := by decide +kernel
theorem d_Tape_runEndsWith_27 : decode prog_9_method_12_code 27 = .ok (.iload_n 3, 1) := by decide +kernel
theorem d_Tape_runEndsWith_28 : decode prog_9_method_12_code 28 = .ok (.iadd, 1) := by decide +kernel
theorem d_Tape_runEndsWith_29 : decode prog_9_method_12_code 29 = .ok (.aload_n 0, 1) := by decide +kernel
theorem d_Tape_runEndsWith_30 : decode prog_9_method_12_code 30 = .ok (.getfield 19, 3) := by decide +kernel
theorem d_Tape_runEndsWith_33 : decode prog_9_method_12_code 33 = .ok (.arraylength, 1) := by decide +kernel
theorem d_Tape_runEndsWith_34 : decode prog_9_method_12_code 34 = .ok (.if_icmp .ge 27, 3) := by decide +kernel
theorem d_Tape_runEndsWith_37 : decode prog_9_method_12_code 37 = .ok (.aload_n 0, 1) := by decide +kernel
theorem d_Tape_runEndsWith_38 : decode prog_9_method_12_code 38 = .ok (.getfield 19, 3) := by decide +kernel
theorem d_Tape_runEndsWith_41 : decode prog_9_method_12_code 41 = .ok (.iload_n 2, 1) := by decide +kernel
theorem d_Tape_runEndsWith_42 : decode prog_9_method_12_code 42 = .ok (.iload_n 3, 1) := by decide +kernel
theorem d_Tape_runEndsWith_43 : decode prog_9_method_12_code 43 = .ok (.iadd, 1) := by decide +kernel
theorem d_Tape_runEndsWith_44 : decode prog_9_method_12_code 44 = .ok (.iaload, 1) := by decide +kernel
theorem d_Tape_runEndsWith_45 : decode prog_9_method_12_code 45 = .ok (.aload_n 1, 1) := by decide +kernel
theorem d_Tape_runEndsWith_46 : decode prog_9_method_12_code 46 = .ok (.iload_n 3, 1) := by decide +kernel
theorem d_Tape_runEndsWith_47 : decode prog_9_method_12_code 47 = .ok (.invokevirtual 123, 3) := by decide +kernel
theorem k_String_charAt : xCal m_String_charAt 1 := ⟨List.mem_append_right _ (List.mem_of_getElem? (i := 824) (by decide +kernel)), w_26, Nat.le_of_ble_eq_true rfl, ⟨by decide +kernel, by decide +kernel⟩, by decide +kernel, by decide +kernel, rfl⟩
theorem w_821 : Cond.methodLink "BeaconIndex$Tape" 123 ⟨"java/lang/String", "charAt", "(I)C"⟩ ∈ lw_tbl := List.mem_append_right _ (List.mem_of_getElem? (i := 821) (by decide +kernel))
theorem w_822 : Cond.instanceMethod ⟨"java/lang/String", "charAt", "(I)C"⟩ ∈ lw_tbl := List.mem_append_right _ (List.mem_of_getElem? (i := 822) (by decide +kernel))
theorem w_823 : Cond.selects "java/lang/String" ⟨"java/lang/String", "charAt", "(I)C"⟩ ⟨"java/lang/String", "charAt", "(I)C"⟩ ∈ lw_tbl := List.mem_append_right _ (List.mem_of_getElem? (i := 823) (by decide +kernel))
theorem d_Tape_runEndsWith_50 : decode prog_9_method_12_code 50 = .ok (.if_icmp .eq 5, 3) := by decide +kernel
theorem d_Tape_runEndsWith_55 : decode prog_9_method_12_code 55 = .ok (.iinc 3 1, 3) := by decide +kernel
theorem d_Tape_runEndsWith_58 : decode prog_9_method_12_code 58 = .ok (.goto (-40), 3) := by decide +kernel
theorem d_Tape_runEndsWith_53 : decode prog_9_method_12_code 53 = .ok (.iconst 0, 1) := by decide +kernel
theorem d_Tape_runEndsWith_54 : decode prog_9_method_12_code 54 = .ok (.ireturn, 1) := by decide +kernel
theorem v_Tape_runEndsWith_18 {G : XG} {d : Nat} {h : XH} {Q : XV → XH → Prop} {X : Nat → XH → Prop} {x1 x2 x3 : Int} (F : xFix h) (hyp : xtg h x1 = 14 ∧ strOK h x1 ∧ (((stl h x1) ≤ x3 → (Q (xI 1) h)) ∧ (¬ (stl h x1) ≤ x3 → xiR (x2 + x3) ∧ (((12 : Int) ≤ (x2 + x3) → (Q (xI 1) h)) ∧ (¬ (12 : Int) ≤ (x2 + x3) → 0 ≤ (x2 + x3) ∧ 0 ≤ x3 ∧ (((xpl h 4 (x2 + x3)) = (stc h x1 x3) → (xwp G m_Tape_runEndsWith (d + 6) 18 [xR 1, xR x1, xI x2, xI (x3 + 1)] [] h Q X)) ∧ (¬ (xpl h 4 (x2 + x3)) = (stc h x1 x3) → (Q (xI 0) h)))))))) : xwp G m_Tape_runEndsWith (d + 6) 18 [xR 1, xR x1, xI x2, xI x3] [] h Q X := by
  have hnx9 : (93 : Int) ≤ xnx h := F.2.2
  refine xr_okL (fun hl9 => ?_)
  have r_x2 : -2147483648 ≤ x2 ∧ x2 ≤ 2147483647 := hl9 (xI x2) (.tail _ (.tail _ (.head _))) (Nat.le_of_ble_eq_true rfl)
  have r_x3 : -2147483648 ≤ x3 ∧ x3 ≤ 2147483647 := hl9 (xI x3) (.tail _ (.tail _ (.tail _ (.head _)))) (Nat.le_of_ble_eq_true rfl)
  refine xr_iload_n (pc := 18) (i := 3) (hI := d_Tape_runEndsWith_18) (hi := rfl) (hl := rfl) ?_
  refine xr_aload_n (pc := 19) (i := 1) (hI := d_Tape_runEndsWith_19) (hi := rfl) (hl := rfl) ?_
  obtain ⟨c9, hyp⟩ := hyp
  have t1_ := c9
  clear c9
  obtain ⟨c2_, hyp⟩ := hyp
  refine xq_callV (pc := 20) (index := 73) (K := m_String_length) (As := []) (S := [xI x3]) (L0 := [xR x1]) (hI := d_Tape_runEndsWith_20) (hK := k_String_length) (hlk := w_811) (hnoM := rfl) (hS8 := Nat.le_of_ble_eq_true rfl) (ci := 14) (N := 2) (C := "java/lang/String") (T := xF14) (hc := rfl) (hci := Nat.le_of_ble_eq_true rfl) (htb := t1_) (hinst := w_812) (hsel := w_813) (hlen := Nat.le_of_ble_eq_true rfl) (hst := rfl) (hL0 := rfl)  (p_String_len F c2_ ?_)
  show xwp G m_Tape_runEndsWith (d + 6) 23 [xR 1, xR x1, xI x2, xI x3] [xI (stl h x1), xI x3] _ _ _
  have f3_ : 0 ≤ (stl h x1) ∧ (stl h x1) ≤ 1000 := ⟨c2_.2.1, c2_.2.2.1⟩
  refine xr_icmp_ge (pc := 23) (tgt := 61) (hI := d_Tape_runEndsWith_23) (ht := by decide) (fun q9 => ?_) (fun q9 => ?_)
  · replace hyp := hyp.1 q9
    have q4_ := q9
    clear q9
    refine xr_iconst (pc := 61) (hI := d_Tape_runEndsWith_61) (hr := by decide) ?_
    refine xr_ireturnT (S := []) (pc := 62) (hI := d_Tape_runEndsWith_62) (hr := rfl) (xnar_z (by decide)) ?_
    exact hyp
  · replace hyp := hyp.2 q9
    have q4_ := q9
    clear q9
    refine xr_iload_n (pc := 26) (i := 2) (hI := d_Tape_runEndsWith_26) (hi := rfl) (hl := rfl) ?_
    refine xr_iload_n (pc := 27) (i := 3) (hI := d_Tape_runEndsWith_27) (hi := rfl) (hl := rfl) ?_
    obtain ⟨c9, hyp⟩ := hyp
    refine xr_iadd (pc := 28) (hI := d_Tape_runEndsWith_28) (hr := c9) ?_
    refine xr_aload_n (pc := 29) (i := 0) (hI := d_Tape_runEndsWith_29) (hi := rfl) (hl := rfl) ?_
    refine xg_getf (pc := 30) (ci := 8) (k := 2) (N := 7) (v9 := 2) (v := 4) (T := xF8) (hI := d_Tape_runEndsWith_30) (hw := w_56) rfl xi8 (Or.inl rfl) (Nat.le_of_ble_eq_true rfl) (Nat.le_of_ble_eq_true rfl) rfl (ft_1 F) (fp_1_2 F) (fun f5_ => ?_)
    clear f5_
    refine xg_alen (pc := 33) (t := 100) (v := 12) (hI := d_Tape_runEndsWith_33) (ft_4 F) (Nat.le_of_ble_eq_true rfl) (Nat.le_of_ble_eq_true rfl) rfl (fl_4 F) (fun f6_ f7_ => ?_)
    clear f6_ f7_
    refine xr_icmp_ge (pc := 34) (tgt := 61) (hI := d_Tape_runEndsWith_34) (ht := by decide) (fun q9 => ?_) (fun q9 => ?_)
    · replace hyp := hyp.1 q9
      have q8_ := q9
      clear q9
      refine xr_iconst (pc := 61) (hI := d_Tape_runEndsWith_61) (hr := by decide) ?_
      refine xr_ireturnT (S := []) (pc := 62) (hI := d_Tape_runEndsWith_62) (hr := rfl) (xnar_z (by decide)) ?_
      exact hyp
    · replace hyp := hyp.2 q9
      have q8_ := q9
      clear q9
      refine xr_aload_n (pc := 37) (i := 0) (hI := d_Tape_runEndsWith_37) (hi := rfl) (hl := rfl) ?_
      refine xg_getf (pc := 38) (ci := 8) (k := 2) (N := 7) (v9 := 2) (v := 4) (T := xF8) (hI := d_Tape_runEndsWith_38) (hw := w_56) rfl xi8 (Or.inl rfl) (Nat.le_of_ble_eq_true rfl) (Nat.le_of_ble_eq_true rfl) rfl (ft_1 F) (fp_1_2 F) (fun f9_ => ?_)
      clear f9_
      refine xr_iload_n (pc := 41) (i := 2) (hI := d_Tape_runEndsWith_41) (hi := rfl) (hl := rfl) ?_
      refine xr_iload_n (pc := 42) (i := 3) (hI := d_Tape_runEndsWith_42) (hi := rfl) (hl := rfl) ?_
      refine xr_iadd (pc := 43) (hI := d_Tape_runEndsWith_43) (hr := ⟨by clear hyp; omega, by clear hyp; omega⟩) ?_
      obtain ⟨c10_, hyp⟩ := hyp
      refine xg_iaload (pc := 44) (v := (xpl h 4 (x2 + x3))) (hI := d_Tape_runEndsWith_44) (ft_4 F) c10_ (xlt_of (fl_4 F) (by clear hyp; omega)) rfl (fun f11_ => ?_)
      replace f11_ : -2147483648 ≤ (xpl h 4 (x2 + x3)) ∧ (xpl h 4 (x2 + x3)) ≤ 2147483647 := f11_
      refine xr_aload_n (pc := 45) (i := 1) (hI := d_Tape_runEndsWith_45) (hi := rfl) (hl := rfl) ?_
      refine xr_iload_n (pc := 46) (i := 3) (hI := d_Tape_runEndsWith_46) (hi := rfl) (hl := rfl) ?_
      obtain ⟨c12_, hyp⟩ := hyp
      refine xq_callV (pc := 47) (index := 123) (K := m_String_charAt) (As := [xI x3]) (S := [xI (xpl h 4 (x2 + x3))]) (L0 := [xR x1, xI x3]) (hI := d_Tape_runEndsWith_47) (hK := k_String_charAt) (hlk := w_821) (hnoM := rfl) (hS8 := Nat.le_of_ble_eq_true rfl) (ci := 14) (N := 2) (C := "java/lang/String") (T := xF14) (hc := rfl) (hci := Nat.le_of_ble_eq_true rfl) (htb := t1_) (hinst := w_822) (hsel := w_823) (hlen := Nat.le_of_ble_eq_true rfl) (hst := rfl) (hL0 := rfl)  (p_String_charAt F c2_ c12_ (by clear hyp; omega) ?_)
      show xwp G m_Tape_runEndsWith (d + 6) 50 [xR 1, xR x1, xI x2, xI x3] [xI (stc h x1 x3), xI (xpl h 4 (x2 + x3))] _ _ _
      refine xr_icmp_eq (pc := 50) (tgt := 55) (hI := d_Tape_runEndsWith_50) (ht := by decide) (fun q9 => ?_) (fun q9 => ?_)
      · replace hyp := hyp.1 q9
        have q13_ := q9
        clear q9
        refine xr_iinc (pc := 55) (i := 3) (L9 := [xR 1, xR x1, xI x2, xI (x3 + 1)]) (hI := d_Tape_runEndsWith_55) (hl := rfl) (hn := Nat.le_of_ble_eq_true rfl) (hr := ⟨by clear hyp; omega, by clear hyp; omega⟩) (hL9 := rfl) ?_
        refine xr_goto (pc := 58) (tgt := 18) (hI := d_Tape_runEndsWith_58) (ht := by decide) ?_
        exact hyp
      · replace hyp := hyp.2 q9
        have q13_ := q9
        clear q9
        refine xr_iconst (pc := 53) (hI := d_Tape_runEndsWith_53) (hr := by decide) ?_
        refine xr_ireturnT (S := []) (pc := 54) (hI := d_Tape_runEndsWith_54) (hr := rfl) (xnar_z (by decide)) ?_
        exact hyp
def kpt (h : XH) : Prop := 0 ≤ xpl h 1 6 ∧ xpl h 1 6 ≤ 12
def endH (h : XH) (s : Int) : Bool := decide (stl h s ≤ xpl h 1 6) && decide (∀ k : Nat, k < (stl h s).toNat → xpl h 4 (xpl h 1 6 - stl h s + k) = stc h s k)
theorem p_Tape_runEndsWith {G : XG} {d : Nat} {h : XH} {Q : XV → XH → Prop} {X : Nat → XH → Prop} {s : Int} (F : xFix h) (p0 : strOK h s) (p1 : kpt h) (hq : Q (xI (b2i (endH h s))) h) : xwp G m_Tape_runEndsWith (d + 6) 0 [xR 1, xR s, xZ, xZ] [] h Q X := by
  obtain ⟨z0, z1⟩ := p1
  obtain ⟨⟨y0, -⟩, y1, y2, -⟩ := id p0
  have loop : stl h s ≤ xpl h 1 6 → ∀ (n k : Nat), k + n = (stl h s).toNat → (∀ j : Nat, j < k → xpl h 4 (xpl h 1 6 - stl h s + j) = stc h s j) → xwp G m_Tape_runEndsWith (d + 6) 18 [xR 1, xR s, xI (xpl h 1 6 - stl h s), xI k] [] h Q X := by
    intro hle n
    unfold endH at hq
    rw [decide_eq_true hle, Bool.true_and] at hq
    induction n with
    | zero =>
      intro k k1 hj
      have hk : k = (stl h s).toNat := k1
      rw [decide_eq_true (by rw [← hk]; exact hj)] at hq
      refine v_Tape_runEndsWith_18 F ?_
      refine ⟨?_, ?_⟩
      · first | exact y0 | exact p0 | omega | exact ⟨by omega, by omega⟩
      · refine ⟨?_, ?_⟩
        · first | exact y0 | exact p0 | omega | exact ⟨by omega, by omega⟩
        · refine ⟨fun q1 => ?_, fun q1 => ?_⟩
          · exact hq
          · refine ⟨?_, ?_⟩
            · first | exact y0 | exact p0 | omega | exact ⟨by omega, by omega⟩
            · refine ⟨fun q2 => ?_, fun q2 => ?_⟩
              · omega
              · refine ⟨?_, ?_⟩
                · first | exact y0 | exact p0 | omega | exact ⟨by omega, by omega⟩
                · refine ⟨?_, ?_⟩
                  · first | exact y0 | exact p0 | omega | exact ⟨by omega, by omega⟩
                  · refine ⟨fun q3 => ?_, fun q3 => ?_⟩
                    · omega
                    · omega
    | succ n ih =>
      intro k k1 hj
      refine v_Tape_runEndsWith_18 F ?_
      refine ⟨?_, ?_⟩
      · first | exact y0 | exact p0 | omega | exact ⟨by omega, by omega⟩
      · refine ⟨?_, ?_⟩
        · first | exact y0 | exact p0 | omega | exact ⟨by omega, by omega⟩
        · refine ⟨fun q1 => ?_, fun q1 => ?_⟩
          · omega
          · refine ⟨?_, ?_⟩
            · first | exact y0 | exact p0 | omega | exact ⟨by omega, by omega⟩
            · refine ⟨fun q2 => ?_, fun q2 => ?_⟩
              · omega
              · refine ⟨?_, ?_⟩
                · first | exact y0 | exact p0 | omega | exact ⟨by omega, by omega⟩
                · refine ⟨?_, ?_⟩
                  · first | exact y0 | exact p0 | omega | exact ⟨by omega, by omega⟩
                  · refine ⟨fun q3 => ?_, fun q3 => ?_⟩
                    · refine ih (k + 1) (by omega) (fun j j1 => ?_)
                      by_cases z : j = k
                      · subst z; exact q3
                      · exact hj j (by omega)
                    · rw [decide_eq_false (fun z => q3 (z k (by omega)))] at hq; exact hq
  refine v_Tape_runEndsWith_0 F ?_
  refine ⟨?_, ?_⟩
  · first | exact y0 | exact p0 | omega | exact ⟨by omega, by omega⟩
  · refine ⟨?_, ?_⟩
    · first | exact y0 | exact p0 | omega | exact ⟨by omega, by omega⟩
    · refine ⟨?_, ?_⟩
      · first | exact y0 | exact p0 | omega | exact ⟨by omega, by omega⟩
      · refine ⟨fun q1 => ?_, fun q1 => ?_⟩
        · exact loop (by omega) (stl h s).toNat 0 (by omega) (fun j hj => absurd hj (Nat.not_lt_zero j))
        · unfold endH at hq; rw [decide_eq_false (by omega)] at hq; exact hq
abbrev m_Tape_isRun : XM := (⟨"BeaconIndex$Tape", "isRun", "(Ljava/lang/String;)Z"⟩, prog_9_method_8_code, 2, (some .boolean), [])
theorem d_Tape_isRun_0 : decode prog_9_method_8_code 0 = .ok (.aload_n 0, 1) := by decide +kernel
theorem d_Tape_isRun_1 : decode prog_9_method_8_code 1 = .ok (.getfield 32, 3) := by decide +kernel
theorem d_Tape_isRun_4 : decode prog_9_method_8_code 4 = .ok (.aload_n 1, 1) := by decide +kernel
theorem d_Tape_isRun_5 : decode prog_9_method_8_code 5 = .ok (.invokevirtual 73, 3) := by decide +kernel
theorem d_Tape_isRun_8 : decode prog_9_method_8_code 8 = .ok (.if_icmp .ne 15, 3) := by decide +kernel
theorem d_Tape_isRun_23 : decode prog_9_method_8_code 23 = .ok (.iconst 0, 1) := by decide +kernel
theorem d_Tape_isRun_24 : decode prog_9_method_8_code 24 = .ok (.ireturn, 1) := by decide +kernel
theorem d_Tape_isRun_11 : decode prog_9_method_8_code 11 = .ok (.aload_n 0, 1) := by decide +kernel
theorem d_Tape_isRun_12 : decode prog_9_method_8_code 12 = .ok (.aload_n 1, 1) := by decide +kernel
theorem d_Tape_isRun_13 : decode prog_9_method_8_code 13 = .ok (.invokevirtual 78, 3) := by decide +kernel
theorem k_Tape_runEndsWith : xCal m_Tape_runEndsWith 1 := ⟨List.mem_append_right _ (List.mem_of_getElem? (i := 810) (by decide +kernel)), w_2, Nat.le_of_ble_eq_true rfl, ⟨by decide +kernel, by decide +kernel⟩, by decide +kernel, by decide +kernel, rfl⟩
theorem w_807 : Cond.methodLink "BeaconIndex$Tape" 78 ⟨"BeaconIndex$Tape", "runEndsWith", "(Ljava/lang/String;)Z"⟩ ∈ lw_tbl := List.mem_append_right _ (List.mem_of_getElem? (i := 807) (by decide +kernel))
theorem w_809 : Cond.instanceMethod ⟨"BeaconIndex$Tape", "runEndsWith", "(Ljava/lang/String;)Z"⟩ ∈ lw_tbl := List.mem_append_right _ (List.mem_of_getElem? (i := 809) (by decide +kernel))
theorem sel_Tape_runEndsWith : Cond.selects "BeaconIndex$Tape" ⟨"BeaconIndex$Tape", "runEndsWith", "(Ljava/lang/String;)Z"⟩ ⟨"BeaconIndex$Tape", "runEndsWith", "(Ljava/lang/String;)Z"⟩ ∈ lw_tbl := List.mem_append_left _ (by decide +kernel)
theorem d_Tape_isRun_16 : decode prog_9_method_8_code 16 = .ok (.ifCond .eq 7, 3) := by decide +kernel
theorem d_Tape_isRun_19 : decode prog_9_method_8_code 19 = .ok (.iconst 1, 1) := by decide +kernel
theorem d_Tape_isRun_20 : decode prog_9_method_8_code 20 = .ok (.goto 4, 3) := by decide +kernel
theorem v_Tape_isRun_0 {G : XG} {d : Nat} {h : XH} {Q : XV → XH → Prop} {X : Nat → XH → Prop} {x1 : Int} (F : xFix h) (hyp : xtg h x1 = 14 ∧ strOK h x1 ∧ (((xpl h 1 6) = (stl h x1) → kpt h ∧ ((((endH h x1) = true) → (Q (xI 1) h)) ∧ (¬ ((endH h x1) = true) → (Q (xI 0) h)))) ∧ (¬ (xpl h 1 6) = (stl h x1) → (Q (xI 0) h)))) : xwp G m_Tape_isRun (d + 7) 0 [xR 1, xR x1] [] h Q X := by
  have hnx9 : (93 : Int) ≤ xnx h := F.2.2
  refine xr_aload_n (pc := 0) (i := 0) (hI := d_Tape_isRun_0) (hi := rfl) (hl := rfl) ?_
  refine xg_getf (pc := 1) (ci := 8) (k := 6) (N := 7) (v9 := 0) (v := (xpl h 1 6)) (T := xF8) (hI := d_Tape_isRun_1) (hw := w_63) rfl xi8 (Or.inl rfl) (Nat.le_of_ble_eq_true rfl) (Nat.le_of_ble_eq_true rfl) rfl (ft_1 F) rfl (fun f1_ => ?_)
  replace f1_ : -2147483648 ≤ (xpl h 1 6) ∧ (xpl h 1 6) ≤ 2147483647 := f1_
  refine xr_aload_n (pc := 4) (i := 1) (hI := d_Tape_isRun_4) (hi := rfl) (hl := rfl) ?_
  obtain ⟨c9, hyp⟩ := hyp
  have t2_ := c9
  clear c9
  obtain ⟨c3_, hyp⟩ := hyp
  refine xq_callV (pc := 5) (index := 73) (K := m_String_length) (As := []) (S := [xI (xpl h 1 6)]) (L0 := [xR x1]) (hI := d_Tape_isRun_5) (hK := k_String_length) (hlk := w_811) (hnoM := rfl) (hS8 := Nat.le_of_ble_eq_true rfl) (ci := 14) (N := 2) (C := "java/lang/String") (T := xF14) (hc := rfl) (hci := Nat.le_of_ble_eq_true rfl) (htb := t2_) (hinst := w_812) (hsel := w_813) (hlen := Nat.le_of_ble_eq_true rfl) (hst := rfl) (hL0 := rfl)  (p_String_len F c3_ ?_)
  show xwp G m_Tape_isRun (d + 7) 8 [xR 1, xR x1] [xI (stl h x1), xI (xpl h 1 6)] _ _ _
  have f4_ : 0 ≤ (stl h x1) ∧ (stl h x1) ≤ 1000 := ⟨c3_.2.1, c3_.2.2.1⟩
  refine xr_icmp_ne (pc := 8) (tgt := 23) (hI := d_Tape_isRun_8) (ht := by decide) (fun q9 => ?_) (fun q9 => ?_)
  · replace hyp := hyp.2 q9
    have q5_ := q9
    clear q9
    refine xr_iconst (pc := 23) (hI := d_Tape_isRun_23) (hr := by decide) ?_
    refine xr_ireturnT (S := []) (pc := 24) (hI := d_Tape_isRun_24) (hr := rfl) (xnar_z (by decide)) ?_
    exact hyp
  · replace hyp := hyp.1 q9
    have q5_ := q9
    clear q9
    refine xr_aload_n (pc := 11) (i := 0) (hI := d_Tape_isRun_11) (hi := rfl) (hl := rfl) ?_
    refine xr_aload_n (pc := 12) (i := 1) (hI := d_Tape_isRun_12) (hi := rfl) (hl := rfl) ?_
    obtain ⟨c6_, hyp⟩ := hyp
    refine xq_callV (pc := 13) (index := 78) (K := m_Tape_runEndsWith) (As := [xR x1]) (S := []) (L0 := [xR 1, xR x1, xZ, xZ]) (hI := d_Tape_isRun_13) (hK := k_Tape_runEndsWith) (hlk := w_807) (hnoM := rfl) (hS8 := Nat.le_of_ble_eq_true rfl) (ci := 8) (N := 7) (C := "BeaconIndex$Tape") (T := xF8) (hc := rfl) (hci := Nat.le_of_ble_eq_true rfl) (htb := (ft_1 F)) (hinst := w_809) (hsel := sel_Tape_runEndsWith) (hlen := Nat.le_of_ble_eq_true rfl) (hst := rfl) (hL0 := rfl)  (p_Tape_runEndsWith F c3_ c6_ ?_)
    show xwp G m_Tape_isRun (d + 7) 16 [xR 1, xR x1] [xI (b2i (endH h x1))] _ _ _
    refine xr_if_eq (pc := 16) (tgt := 23) (hI := d_Tape_isRun_16) (ht := by decide) (fun q9 => ?_) (fun q9 => ?_)
    · replace hyp := hyp.2 (b2i_0.mp q9)
      have q7_ := b2i_0.mp q9
      clear q9
      refine xr_iconst (pc := 23) (hI := d_Tape_isRun_23) (hr := by decide) ?_
      refine xr_ireturnT (S := []) (pc := 24) (hI := d_Tape_isRun_24) (hr := rfl) (xnar_z (by decide)) ?_
      exact hyp
    · replace hyp := hyp.1 (b2i_1.mp q9)
      have q7_ := b2i_1.mp q9
      clear q9
      refine xr_iconst (pc := 19) (hI := d_Tape_isRun_19) (hr := by decide) ?_
      refine xr_goto (pc := 20) (tgt := 24) (hI := d_Tape_isRun_20) (ht := by decide) ?_
      refine xr_ireturnT (S := []) (pc := 24) (hI := d_Tape_isRun_24) (hr := rfl) (xnar_z (by decide)) ?_
      exact hyp
def isrH (h : XH) (s : Int) : Bool := decide (xpl h 1 6 = stl h s) && endH h s
theorem p_Tape_isRun {G : XG} {d : Nat} {h : XH} {Q : XV → XH → Prop} {X : Nat → XH → Prop} {s : Int} (F : xFix h) (p0 : strOK h s) (p1 : kpt h) (hq : Q (xI (b2i (isrH h s))) h) : xwp G m_Tape_isRun (d + 7) 0 [xR 1, xR s] [] h Q X := by
  unfold isrH at hq
  refine v_Tape_isRun_0 F ?_
  refine ⟨?_, ?_⟩
  · first | exact p0 | exact p1 | exact p0.1.1
  · refine ⟨?_, ?_⟩
    · first | exact p0 | exact p1 | exact p0.1.1
    · refine ⟨fun q1 => ?_, fun q1 => ?_⟩
      · refine ⟨?_, ?_⟩
        · first | exact p0 | exact p1 | exact p0.1.1
        · refine ⟨fun q2 => ?_, fun q2 => ?_⟩
          · rw [decide_eq_true q1, q2] at hq; exact hq
          · rw [decide_eq_true q1, Bool.not_eq_true _ |>.mp q2] at hq; exact hq
      · rw [decide_eq_false q1] at hq; exact hq
abbrev m_Tape_isRunSmall : XM := (⟨"BeaconIndex$Tape", "isRunSmall", "()Z"⟩, prog_9_method_9_code, 1, (some .boolean), [])
theorem d_Tape_isRunSmall_0 : decode prog_9_method_9_code 0 = .ok (.aload_n 0, 1) := by decide +kernel
theorem d_Tape_isRunSmall_1 : decode prog_9_method_9_code 1 = .ok (.ldc 82, 2) := by decide +kernel
theorem d_Tape_isRunSmall_3 : decode prog_9_method_9_code 3 = .ok (.invokevirtual 84, 3) := by decide +kernel
theorem k_Tape_isRun : xCal m_Tape_isRun 1 := ⟨List.mem_append_right _ (List.mem_of_getElem? (i := 981) (by decide +kernel)), w_2, Nat.le_of_ble_eq_true rfl, ⟨by decide +kernel, by decide +kernel⟩, by decide +kernel, by decide +kernel, rfl⟩
theorem w_978 : Cond.methodLink "BeaconIndex$Tape" 84 ⟨"BeaconIndex$Tape", "isRun", "(Ljava/lang/String;)Z"⟩ ∈ lw_tbl := List.mem_append_right _ (List.mem_of_getElem? (i := 978) (by decide +kernel))
theorem w_979 : Cond.instanceMethod ⟨"BeaconIndex$Tape", "isRun", "(Ljava/lang/String;)Z"⟩ ∈ lw_tbl := List.mem_append_right _ (List.mem_of_getElem? (i := 979) (by decide +kernel))
theorem w_980 : Cond.selects "BeaconIndex$Tape" ⟨"BeaconIndex$Tape", "isRun", "(Ljava/lang/String;)Z"⟩ ⟨"BeaconIndex$Tape", "isRun", "(Ljava/lang/String;)Z"⟩ ∈ lw_tbl := List.mem_append_right _ (List.mem_of_getElem? (i := 980) (by decide +kernel))
theorem d_Tape_isRunSmall_6 : decode prog_9_method_9_code 6 = .ok (.ifCond .ne 66, 3) := by decide +kernel
theorem d_Tape_isRunSmall_72 : decode prog_9_method_9_code 72 = .ok (.iconst 1, 1) := by decide +kernel
theorem d_Tape_isRunSmall_73 : decode prog_9_method_9_code 73 = .ok (.goto 4, 3) := by decide +kernel
theorem d_Tape_isRunSmall_77 : decode prog_9_method_9_code 77 = .ok (.ireturn, 1) := by decide +kernel
theorem d_Tape_isRunSmall_9 : decode prog_9_method_9_code 9 = .ok (.aload_n 0, 1) := by decide +kernel
theorem d_Tape_isRunSmall_10 : decode prog_9_method_9_code 10 = .ok (.ldc 87, 2) := by decide +kernel
theorem d_Tape_isRunSmall_12 : decode prog_9_method_9_code 12 = .ok (.invokevirtual 84, 3) := by decide +kernel
theorem d_Tape_isRunSmall_15 : decode prog_9_method_9_code 15 = .ok (.ifCond .ne 57, 3) := by decide +kernel
theorem d_Tape_isRunSmall_18 : decode prog_9_method_9_code 18 = .ok (.aload_n 0, 1) := by decide +kernel
theorem d_Tape_isRunSmall_19 : decode prog_9_method_9_code 19 = .ok (.ldc 89, 2) := by decide +kernel
theorem d_Tape_isRunSmall_21 : decode prog_9_method_9_code 21 = .ok (.invokevirtual 84, 3) := by decide +kernel
theorem d_Tape_isRunSmall_24 : decode prog_9_method_9_code 24 = .ok (.ifCond .ne 48, 3) := by decide +kernel
theorem d_Tape_isRunSmall_27 : decode prog_9_method_9_code 27 = .ok (.aload_n 0, 1) := by decide +kernel
theorem d_Tape_isRunSmall_28 : decode prog_9_method_9_code 28 = .ok (.ldc 91, 2) := by decide +kernel
theorem d_Tape_isRunSmall_30 : decode prog_9_method_9_code 30 = .ok (.invokevirtual 84, 3) := by decide +kernel
theorem d_Tape_isRunSmall_33 : decode prog_9_method_9_code 33 = .ok (.ifCond .ne 39, 3) := by decide +kernel
theorem d_Tape_isRunSmall_36 : decode prog_9_method_9_code 36 = .ok (.aload_n 0, 1) := by decide +kernel
theorem d_Tape_isRunSmall_37 : decode prog_9_method_9_code 37 = .ok (.ldc 93, 2) := by decide +kernel
theorem d_Tape_isRunSmall_39 : decode prog_9_method_9_code 39 = .ok (.invokevirtual 84, 3) := by decide +kernel
theorem d_Tape_isRunSmall_42 : decode prog_9_method_9_code 42 = .ok (.ifCond .ne 30, 3) := by decide +kernel
theorem d_Tape_isRunSmall_45 : decode prog_9_method_9_code 45 = .ok (.aload_n 0, 1) := by decide +kernel
theorem d_Tape_isRunSmall_46 : decode prog_9_method_9_code 46 = .ok (.ldc 95, 2) := by decide +kernel
theorem d_Tape_isRunSmall_48 : decode prog_9_method_9_code 48 = .ok (.invokevirtual 84, 3) := by decide +kernel
theorem d_Tape_isRunSmall_51 : decode prog_9_method_9_code 51 = .ok (.ifCond .ne 21, 3) := by decide +kernel
theorem d_Tape_isRunSmall_54 : decode prog_9_method_9_code 54 = .ok (.aload_n 0, 1) := by decide +kernel
theorem d_Tape_isRunSmall_55 : decode prog_9_method_9_code 55 = .ok (.ldc 97, 2) := by decide +kernel
theorem d_Tape_isRunSmall_57 : decode prog_9_method_9_code 57 = .ok (.invokevirtual 84, 3) := by decide +kernel
theorem d_Tape_isRunSmall_60 : decode prog_9_method_9_code 60 = .ok (.ifCond .ne 12, 3) := by decide +kernel
theorem d_Tape_isRunSmall_63 : decode prog_9_method_9_code 63 = .ok (.aload_n 0, 1) := by decide +kernel
theorem d_Tape_isRunSmall_64 : decode prog_9_method_9_code 64 = .ok (.ldc 99, 2) := by decide +kernel
theorem d_Tape_isRunSmall_66 : decode prog_9_method_9_code 66 = .ok (.invokevirtual 84, 3) := by decide +kernel
theorem d_Tape_isRunSmall_69 : decode prog_9_method_9_code 69 = .ok (.ifCond .eq 7, 3) := by decide +kernel
theorem d_Tape_isRunSmall_76 : decode prog_9_method_9_code 76 = .ok (.iconst 0, 1) := by decide +kernel
theorem v_Tape_isRunSmall_0 {G : XG} {d : Nat} {h : XH} {Q : XV → XH → Prop} {X : Nat → XH → Prop} (F : xFix h) (hyp : kpt h ∧ ((((isrH h (-16)) = true) → (Q (xI 1) h)) ∧ (¬ ((isrH h (-16)) = true) → ((((isrH h (-18)) = true) → (Q (xI 1) h)) ∧ (¬ ((isrH h (-18)) = true) → ((((isrH h (-20)) = true) → (Q (xI 1) h)) ∧ (¬ ((isrH h (-20)) = true) → ((((isrH h (-22)) = true) → (Q (xI 1) h)) ∧ (¬ ((isrH h (-22)) = true) → ((((isrH h (-24)) = true) → (Q (xI 1) h)) ∧ (¬ ((isrH h (-24)) = true) → ((((isrH h (-26)) = true) → (Q (xI 1) h)) ∧ (¬ ((isrH h (-26)) = true) → ((((isrH h (-28)) = true) → (Q (xI 1) h)) ∧ (¬ ((isrH h (-28)) = true) → ((((isrH h (-30)) = true) → (Q (xI 1) h)) ∧ (¬ ((isrH h (-30)) = true) → (Q (xI 0) h)))))))))))))))))) : xwp G m_Tape_isRunSmall (d + 8) 0 [xR 1] [] h Q X := by
  have hnx9 : (93 : Int) ≤ xnx h := F.2.2
  refine xr_aload_n (pc := 0) (i := 0) (hI := d_Tape_isRunSmall_0) (hi := rfl) (hl := rfl) ?_
  refine xr_ldcS (pc := 1) (z := (-16)) (tx := "the") (k0 := 14) (hI := d_Tape_isRunSmall_1) (hm := by decide +kernel) (hz0 := by decide) ?_
  obtain ⟨c1_, hyp⟩ := hyp
  refine xq_callV (pc := 3) (index := 84) (K := m_Tape_isRun) (As := [xR (-16)]) (S := []) (L0 := [xR 1, xR (-16)]) (hI := d_Tape_isRunSmall_3) (hK := k_Tape_isRun) (hlk := w_978) (hnoM := rfl) (hS8 := Nat.le_of_ble_eq_true rfl) (ci := 8) (N := 7) (C := "BeaconIndex$Tape") (T := xF8) (hc := rfl) (hci := Nat.le_of_ble_eq_true rfl) (htb := (ft_1 F)) (hinst := w_979) (hsel := w_980) (hlen := Nat.le_of_ble_eq_true rfl) (hst := rfl) (hL0 := rfl)  (p_Tape_isRun F (str_16 F).1 c1_ ?_)
  show xwp G m_Tape_isRunSmall (d + 8) 6 [xR 1] [xI (b2i (isrH h (-16)))] _ _ _
  refine xr_if_ne (pc := 6) (tgt := 72) (hI := d_Tape_isRunSmall_6) (ht := by decide) (fun q9 => ?_) (fun q9 => ?_)
  · replace hyp := hyp.1 (b2i_1.mp q9)
    have q2_ := b2i_1.mp q9
    clear q9
    refine xr_iconst (pc := 72) (hI := d_Tape_isRunSmall_72) (hr := by decide) ?_
    refine xr_goto (pc := 73) (tgt := 77) (hI := d_Tape_isRunSmall_73) (ht := by decide) ?_
    refine xr_ireturnT (S := []) (pc := 77) (hI := d_Tape_isRunSmall_77) (hr := rfl) (xnar_z (by decide)) ?_
    exact hyp
  · replace hyp := hyp.2 (b2i_0.mp q9)
    have q2_ := b2i_0.mp q9
    clear q9
    refine xr_aload_n (pc := 9) (i := 0) (hI := d_Tape_isRunSmall_9) (hi := rfl) (hl := rfl) ?_
    refine xr_ldcS (pc := 10) (z := (-18)) (tx := "a") (k0 := 16) (hI := d_Tape_isRunSmall_10) (hm := by decide +kernel) (hz0 := by decide) ?_
    refine xq_callV (pc := 12) (index := 84) (K := m_Tape_isRun) (As := [xR (-18)]) (S := []) (L0 := [xR 1, xR (-18)]) (hI := d_Tape_isRunSmall_12) (hK := k_Tape_isRun) (hlk := w_978) (hnoM := rfl) (hS8 := Nat.le_of_ble_eq_true rfl) (ci := 8) (N := 7) (C := "BeaconIndex$Tape") (T := xF8) (hc := rfl) (hci := Nat.le_of_ble_eq_true rfl) (htb := (ft_1 F)) (hinst := w_979) (hsel := w_980) (hlen := Nat.le_of_ble_eq_true rfl) (hst := rfl) (hL0 := rfl)  (p_Tape_isRun F (str_18 F).1 c1_ ?_)
    show xwp G m_Tape_isRunSmall (d + 8) 15 [xR 1] [xI (b2i (isrH h (-18)))] _ _ _
    refine xr_if_ne (pc := 15) (tgt := 72) (hI := d_Tape_isRunSmall_15) (ht := by decide) (fun q9 => ?_) (fun q9 => ?_)
    · replace hyp := hyp.1 (b2i_1.mp q9)
      have q3_ := b2i_1.mp q9
      clear q9
      refine xr_iconst (pc := 72) (hI := d_Tape_isRunSmall_72) (hr := by decide) ?_
      refine xr_goto (pc := 73) (tgt := 77) (hI := d_Tape_isRunSmall_73) (ht := by decide) ?_
      refine xr_ireturnT (S := []) (pc := 77) (hI := d_Tape_isRunSmall_77) (hr := rfl) (xnar_z (by decide)) ?_
      exact hyp
    · replace hyp := hyp.2 (b2i_0.mp q9)
      have q3_ := b2i_0.mp q9
      clear q9
      refine xr_aload_n (pc := 18) (i := 0) (hI := d_Tape_isRunSmall_18) (hi := rfl) (hl := rfl) ?_
      refine xr_ldcS (pc := 19) (z := (-20)) (tx := "an") (k0 := 18) (hI := d_Tape_isRunSmall_19) (hm := by decide +kernel) (hz0 := by decide) ?_
      refine xq_callV (pc := 21) (index := 84) (K := m_Tape_isRun) (As := [xR (-20)]) (S := []) (L0 := [xR 1, xR (-20)]) (hI := d_Tape_isRunSmall_21) (hK := k_Tape_isRun) (hlk := w_978) (hnoM := rfl) (hS8 := Nat.le_of_ble_eq_true rfl) (ci := 8) (N := 7) (C := "BeaconIndex$Tape") (T := xF8) (hc := rfl) (hci := Nat.le_of_ble_eq_true rfl) (htb := (ft_1 F)) (hinst := w_979) (hsel := w_980) (hlen := Nat.le_of_ble_eq_true rfl) (hst := rfl) (hL0 := rfl)  (p_Tape_isRun F (str_20 F).1 c1_ ?_)
      show xwp G m_Tape_isRunSmall (d + 8) 24 [xR 1] [xI (b2i (isrH h (-20)))] _ _ _
      refine xr_if_ne (pc := 24) (tgt := 72) (hI := d_Tape_isRunSmall_24) (ht := by decide) (fun q9 => ?_) (fun q9 => ?_)
      · replace hyp := hyp.1 (b2i_1.mp q9)
        have q4_ := b2i_1.mp q9
        clear q9
        refine xr_iconst (pc := 72) (hI := d_Tape_isRunSmall_72) (hr := by decide) ?_
        refine xr_goto (pc := 73) (tgt := 77) (hI := d_Tape_isRunSmall_73) (ht := by decide) ?_
        refine xr_ireturnT (S := []) (pc := 77) (hI := d_Tape_isRunSmall_77) (hr := rfl) (xnar_z (by decide)) ?_
        exact hyp
      · replace hyp := hyp.2 (b2i_0.mp q9)
        have q4_ := b2i_0.mp q9
        clear q9
        refine xr_aload_n (pc := 27) (i := 0) (hI := d_Tape_isRunSmall_27) (hi := rfl) (hl := rfl) ?_
        refine xr_ldcS (pc := 28) (z := (-22)) (tx := "of") (k0 := 20) (hI := d_Tape_isRunSmall_28) (hm := by decide +kernel) (hz0 := by decide) ?_
        refine xq_callV (pc := 30) (index := 84) (K := m_Tape_isRun) (As := [xR (-22)]) (S := []) (L0 := [xR 1, xR (-22)]) (hI := d_Tape_isRunSmall_30) (hK := k_Tape_isRun) (hlk := w_978) (hnoM := rfl) (hS8 := Nat.le_of_ble_eq_true rfl) (ci := 8) (N := 7) (C := "BeaconIndex$Tape") (T := xF8) (hc := rfl) (hci := Nat.le_of_ble_eq_true rfl) (htb := (ft_1 F)) (hinst := w_979) (hsel := w_980) (hlen := Nat.le_of_ble_eq_true rfl) (hst := rfl) (hL0 := rfl)  (p_Tape_isRun F (str_22 F).1 c1_ ?_)
        show xwp G m_Tape_isRunSmall (d + 8) 33 [xR 1] [xI (b2i (isrH h (-22)))] _ _ _
        refine xr_if_ne (pc := 33) (tgt := 72) (hI := d_Tape_isRunSmall_33) (ht := by decide) (fun q9 => ?_) (fun q9 => ?_)
        · replace hyp := hyp.1 (b2i_1.mp q9)
          have q5_ := b2i_1.mp q9
          clear q9
          refine xr_iconst (pc := 72) (hI := d_Tape_isRunSmall_72) (hr := by decide) ?_
          refine xr_goto (pc := 73) (tgt := 77) (hI := d_Tape_isRunSmall_73) (ht := by decide) ?_
          refine xr_ireturnT (S := []) (pc := 77) (hI := d_Tape_isRunSmall_77) (hr := rfl) (xnar_z (by decide)) ?_
          exact hyp
        · replace hyp := hyp.2 (b2i_0.mp q9)
          have q5_ := b2i_0.mp q9
          clear q9
          refine xr_aload_n (pc := 36) (i := 0) (hI := d_Tape_isRunSmall_36) (hi := rfl) (hl := rfl) ?_
          refine xr_ldcS (pc := 37) (z := (-24)) (tx := "and") (k0 := 22) (hI := d_Tape_isRunSmall_37) (hm := by decide +kernel) (hz0 := by decide) ?_
          refine xq_callV (pc := 39) (index := 84) (K := m_Tape_isRun) (As := [xR (-24)]) (S := []) (L0 := [xR 1, xR (-24)]) (hI := d_Tape_isRunSmall_39) (hK := k_Tape_isRun) (hlk := w_978) (hnoM := rfl) (hS8 := Nat.le_of_ble_eq_true rfl) (ci := 8) (N := 7) (C := "BeaconIndex$Tape") (T := xF8) (hc := rfl) (hci := Nat.le_of_ble_eq_true rfl) (htb := (ft_1 F)) (hinst := w_979) (hsel := w_980) (hlen := Nat.le_of_ble_eq_true rfl) (hst := rfl) (hL0 := rfl)  (p_Tape_isRun F (str_24 F).1 c1_ ?_)
          show xwp G m_Tape_isRunSmall (d + 8) 42 [xR 1] [xI (b2i (isrH h (-24)))] _ _ _
          refine xr_if_ne (pc := 42) (tgt := 72) (hI := d_Tape_isRunSmall_42) (ht := by decide) (fun q9 => ?_) (fun q9 => ?_)
          · replace hyp := hyp.1 (b2i_1.mp q9)
            have q6_ := b2i_1.mp q9
            clear q9
            refine xr_iconst (pc := 72) (hI := d_Tape_isRunSmall_72) (hr := by decide) ?_
            refine xr_goto (pc := 73) (tgt := 77) (hI := d_Tape_isRunSmall_73) (ht := by decide) ?_
            refine xr_ireturnT (S := []) (pc := 77) (hI := d_Tape_isRunSmall_77) (hr := rfl) (xnar_z (by decide)) ?_
            exact hyp
          · replace hyp := hyp.2 (b2i_0.mp q9)
            have q6_ := b2i_0.mp q9
            clear q9
            refine xr_aload_n (pc := 45) (i := 0) (hI := d_Tape_isRunSmall_45) (hi := rfl) (hl := rfl) ?_
            refine xr_ldcS (pc := 46) (z := (-26)) (tx := "or") (k0 := 24) (hI := d_Tape_isRunSmall_46) (hm := by decide +kernel) (hz0 := by decide) ?_
            refine xq_callV (pc := 48) (index := 84) (K := m_Tape_isRun) (As := [xR (-26)]) (S := []) (L0 := [xR 1, xR (-26)]) (hI := d_Tape_isRunSmall_48) (hK := k_Tape_isRun) (hlk := w_978) (hnoM := rfl) (hS8 := Nat.le_of_ble_eq_true rfl) (ci := 8) (N := 7) (C := "BeaconIndex$Tape") (T := xF8) (hc := rfl) (hci := Nat.le_of_ble_eq_true rfl) (htb := (ft_1 F)) (hinst := w_979) (hsel := w_980) (hlen := Nat.le_of_ble_eq_true rfl) (hst := rfl) (hL0 := rfl)  (p_Tape_isRun F (str_26 F).1 c1_ ?_)
            show xwp G m_Tape_isRunSmall (d + 8) 51 [xR 1] [xI (b2i (isrH h (-26)))] _ _ _
            refine xr_if_ne (pc := 51) (tgt := 72) (hI := d_Tape_isRunSmall_51) (ht := by decide) (fun q9 => ?_) (fun q9 => ?_)
            · replace hyp := hyp.1 (b2i_1.mp q9)
              have q7_ := b2i_1.mp q9
              clear q9
              refine xr_iconst (pc := 72) (hI := d_Tape_isRunSmall_72) (hr := by decide) ?_
              refine xr_goto (pc := 73) (tgt := 77) (hI := d_Tape_isRunSmall_73) (ht := by decide) ?_
              refine xr_ireturnT (S := []) (pc := 77) (hI := d_Tape_isRunSmall_77) (hr := rfl) (xnar_z (by decide)) ?_
              exact hyp
            · replace hyp := hyp.2 (b2i_0.mp q9)
              have q7_ := b2i_0.mp q9
              clear q9
              refine xr_aload_n (pc := 54) (i := 0) (hI := d_Tape_isRunSmall_54) (hi := rfl) (hl := rfl) ?_
              refine xr_ldcS (pc := 55) (z := (-28)) (tx := "to") (k0 := 26) (hI := d_Tape_isRunSmall_55) (hm := by decide +kernel) (hz0 := by decide) ?_
              refine xq_callV (pc := 57) (index := 84) (K := m_Tape_isRun) (As := [xR (-28)]) (S := []) (L0 := [xR 1, xR (-28)]) (hI := d_Tape_isRunSmall_57) (hK := k_Tape_isRun) (hlk := w_978) (hnoM := rfl) (hS8 := Nat.le_of_ble_eq_true rfl) (ci := 8) (N := 7) (C := "BeaconIndex$Tape") (T := xF8) (hc := rfl) (hci := Nat.le_of_ble_eq_true rfl) (htb := (ft_1 F)) (hinst := w_979) (hsel := w_980) (hlen := Nat.le_of_ble_eq_true rfl) (hst := rfl) (hL0 := rfl)  (p_Tape_isRun F (str_28 F).1 c1_ ?_)
              show xwp G m_Tape_isRunSmall (d + 8) 60 [xR 1] [xI (b2i (isrH h (-28)))] _ _ _
              refine xr_if_ne (pc := 60) (tgt := 72) (hI := d_Tape_isRunSmall_60) (ht := by decide) (fun q9 => ?_) (fun q9 => ?_)
              · replace hyp := hyp.1 (b2i_1.mp q9)
                have q8_ := b2i_1.mp q9
                clear q9
                refine xr_iconst (pc := 72) (hI := d_Tape_isRunSmall_72) (hr := by decide) ?_
                refine xr_goto (pc := 73) (tgt := 77) (hI := d_Tape_isRunSmall_73) (ht := by decide) ?_
                refine xr_ireturnT (S := []) (pc := 77) (hI := d_Tape_isRunSmall_77) (hr := rfl) (xnar_z (by decide)) ?_
                exact hyp
              · replace hyp := hyp.2 (b2i_0.mp q9)
                have q8_ := b2i_0.mp q9
                clear q9
                refine xr_aload_n (pc := 63) (i := 0) (hI := d_Tape_isRunSmall_63) (hi := rfl) (hl := rfl) ?_
                refine xr_ldcS (pc := 64) (z := (-30)) (tx := "in") (k0 := 28) (hI := d_Tape_isRunSmall_64) (hm := by decide +kernel) (hz0 := by decide) ?_
                refine xq_callV (pc := 66) (index := 84) (K := m_Tape_isRun) (As := [xR (-30)]) (S := []) (L0 := [xR 1, xR (-30)]) (hI := d_Tape_isRunSmall_66) (hK := k_Tape_isRun) (hlk := w_978) (hnoM := rfl) (hS8 := Nat.le_of_ble_eq_true rfl) (ci := 8) (N := 7) (C := "BeaconIndex$Tape") (T := xF8) (hc := rfl) (hci := Nat.le_of_ble_eq_true rfl) (htb := (ft_1 F)) (hinst := w_979) (hsel := w_980) (hlen := Nat.le_of_ble_eq_true rfl) (hst := rfl) (hL0 := rfl)  (p_Tape_isRun F (str_30 F).1 c1_ ?_)
                show xwp G m_Tape_isRunSmall (d + 8) 69 [xR 1] [xI (b2i (isrH h (-30)))] _ _ _
                refine xr_if_eq (pc := 69) (tgt := 76) (hI := d_Tape_isRunSmall_69) (ht := by decide) (fun q9 => ?_) (fun q9 => ?_)
                · replace hyp := hyp.2 (b2i_0.mp q9)
                  have q9_ := b2i_0.mp q9
                  clear q9
                  refine xr_iconst (pc := 76) (hI := d_Tape_isRunSmall_76) (hr := by decide) ?_
                  refine xr_ireturnT (S := []) (pc := 77) (hI := d_Tape_isRunSmall_77) (hr := rfl) (xnar_z (by decide)) ?_
                  exact hyp
                · replace hyp := hyp.1 (b2i_1.mp q9)
                  have q9_ := b2i_1.mp q9
                  clear q9
                  refine xr_iconst (pc := 72) (hI := d_Tape_isRunSmall_72) (hr := by decide) ?_
                  refine xr_goto (pc := 73) (tgt := 77) (hI := d_Tape_isRunSmall_73) (ht := by decide) ?_
                  refine xr_ireturnT (S := []) (pc := 77) (hI := d_Tape_isRunSmall_77) (hr := rfl) (xnar_z (by decide)) ?_
                  exact hyp
def smallH (h : XH) : Bool := isrH h (-16) || isrH h (-18) || isrH h (-20) || isrH h (-22) || isrH h (-24) || isrH h (-26) || isrH h (-28) || isrH h (-30)
theorem p_Tape_isRunSmall {G : XG} {d : Nat} {h : XH} {Q : XV → XH → Prop} {X : Nat → XH → Prop} (F : xFix h) (p1 : kpt h) (hq : Q (xI (b2i (smallH h))) h) : xwp G m_Tape_isRunSmall (d + 8) 0 [xR 1] [] h Q X := by
  unfold smallH at hq
  refine v_Tape_isRunSmall_0 F ?_
  refine ⟨?_, ?_⟩
  · exact p1
  · refine ⟨fun q1 => ?_, fun q1 => ?_⟩
    · simp only [*, Bool.true_or, Bool.or_true, Bool.false_or, Bool.or_false, Bool.not_eq_true] at *; exact hq
    · refine ⟨fun q2 => ?_, fun q2 => ?_⟩
      · simp only [*, Bool.true_or, Bool.or_true, Bool.false_or, Bool.or_false, Bool.not_eq_true] at *; exact hq
      · refine ⟨fun q3 => ?_, fun q3 => ?_⟩
        · simp only [*, Bool.true_or, Bool.or_true, Bool.false_or, Bool.or_false, Bool.not_eq_true] at *; exact hq
        · refine ⟨fun q4 => ?_, fun q4 => ?_⟩
          · simp only [*, Bool.true_or, Bool.or_true, Bool.false_or, Bool.or_false, Bool.not_eq_true] at *; exact hq
          · refine ⟨fun q5 => ?_, fun q5 => ?_⟩
            · simp only [*, Bool.true_or, Bool.or_true, Bool.false_or, Bool.or_false, Bool.not_eq_true] at *; exact hq
            · refine ⟨fun q6 => ?_, fun q6 => ?_⟩
              · simp only [*, Bool.true_or, Bool.or_true, Bool.false_or, Bool.or_false, Bool.not_eq_true] at *; exact hq
              · refine ⟨fun q7 => ?_, fun q7 => ?_⟩
                · simp only [*, Bool.true_or, Bool.or_true, Bool.false_or, Bool.or_false, Bool.not_eq_true] at *; exact hq
                · refine ⟨fun q8 => ?_, fun q8 => ?_⟩
                  · simp only [*, Bool.true_or, Bool.or_true, Bool.false_or, Bool.or_false, Bool.not_eq_true] at *; exact hq
                  · simp only [*, Bool.true_or, Bool.or_true, Bool.false_or, Bool.or_false, Bool.not_eq_true] at *; exact hq
abbrev m_Tape_runUnshortened : XM := (⟨"BeaconIndex$Tape", "runUnshortened", "()J"⟩, prog_9_method_10_code, 1, (some .long), [])
theorem d_Tape_runUnshortened_0 : decode prog_9_method_10_code 0 = .ok (.aload_n 0, 1) := by decide +kernel
theorem d_Tape_runUnshortened_1 : decode prog_9_method_10_code 1 = .ok (.aload_n 0, 1) := by decide +kernel
theorem d_Tape_runUnshortened_2 : decode prog_9_method_10_code 2 = .ok (.getfield 32, 3) := by decide +kernel
theorem d_Tape_runUnshortened_5 : decode prog_9_method_10_code 5 = .ok (.invokevirtual 101, 3) := by decide +kernel
theorem k_Tape_firstLetters : xCal m_Tape_firstLetters 1 := ⟨List.mem_append_right _ (List.mem_of_getElem? (i := 860) (by decide +kernel)), w_2, Nat.le_of_ble_eq_true rfl, ⟨by decide +kernel, by decide +kernel⟩, by decide +kernel, by decide +kernel, rfl⟩
theorem w_857 : Cond.methodLink "BeaconIndex$Tape" 101 ⟨"BeaconIndex$Tape", "firstLetters", "(I)J"⟩ ∈ lw_tbl := List.mem_append_right _ (List.mem_of_getElem? (i := 857) (by decide +kernel))
theorem w_859 : Cond.instanceMethod ⟨"BeaconIndex$Tape", "firstLetters", "(I)J"⟩ ∈ lw_tbl := List.mem_append_right _ (List.mem_of_getElem? (i := 859) (by decide +kernel))
theorem sel_Tape_firstLetters : Cond.selects "BeaconIndex$Tape" ⟨"BeaconIndex$Tape", "firstLetters", "(I)J"⟩ ⟨"BeaconIndex$Tape", "firstLetters", "(I)J"⟩ ∈ lw_tbl := List.mem_append_left _ (by decide +kernel)
theorem d_Tape_runUnshortened_8 : decode prog_9_method_10_code 8 = .ok (.lreturn, 1) := by decide +kernel
theorem v_Tape_runUnshortened_0 {G : XG} {d : Nat} {h : XH} {Q : XV → XH → Prop} {X : Nat → XH → Prop} (F : xFix h) (hyp : 0 ≤ (xpl h 1 6) ∧ (xpl h 1 6) ≤ 12 ∧ (Q (xL (flH h (xpl h 1 6).toNat)) h)) : xwp G m_Tape_runUnshortened (d + 4) 0 [xR 1] [] h Q X := by
  have hnx9 : (93 : Int) ≤ xnx h := F.2.2
  refine xr_aload_n (pc := 0) (i := 0) (hI := d_Tape_runUnshortened_0) (hi := rfl) (hl := rfl) ?_
  refine xr_aload_n (pc := 1) (i := 0) (hI := d_Tape_runUnshortened_1) (hi := rfl) (hl := rfl) ?_
  refine xg_getf (pc := 2) (ci := 8) (k := 6) (N := 7) (v9 := 0) (v := (xpl h 1 6)) (T := xF8) (hI := d_Tape_runUnshortened_2) (hw := w_63) rfl xi8 (Or.inl rfl) (Nat.le_of_ble_eq_true rfl) (Nat.le_of_ble_eq_true rfl) rfl (ft_1 F) rfl (fun f1_ => ?_)
  replace f1_ : -2147483648 ≤ (xpl h 1 6) ∧ (xpl h 1 6) ≤ 2147483647 := f1_
  obtain ⟨c2_, hyp⟩ := hyp
  obtain ⟨c3_, hyp⟩ := hyp
  refine xq_callV (pc := 5) (index := 101) (K := m_Tape_firstLetters) (As := [xI (xpl h 1 6)]) (S := []) (L0 := [xR 1, xI (xpl h 1 6), xZ, xZ, xZ]) (hI := d_Tape_runUnshortened_5) (hK := k_Tape_firstLetters) (hlk := w_857) (hnoM := rfl) (hS8 := Nat.le_of_ble_eq_true rfl) (ci := 8) (N := 7) (C := "BeaconIndex$Tape") (T := xF8) (hc := rfl) (hci := Nat.le_of_ble_eq_true rfl) (htb := (ft_1 F)) (hinst := w_859) (hsel := sel_Tape_firstLetters) (hlen := Nat.le_of_ble_eq_true rfl) (hst := rfl) (hL0 := rfl)  (p_Tape_firstLetters F c2_ c3_ ?_)
  show xwp G m_Tape_runUnshortened (d + 4) 8 [xR 1] [xL (flH h (xpl h 1 6).toNat)] _ _ _
  refine xr_lreturn (S := []) (pc := 8) (hI := d_Tape_runUnshortened_8) (hr := rfl) ?_
  exact hyp
abbrev m_Tape_runWord : XM := (⟨"BeaconIndex$Tape", "runWord", "()J"⟩, prog_9_method_11_code, 1, (some .long), [])
theorem d_Tape_runWord_0 : decode prog_9_method_11_code 0 = .ok (.aload_n 0, 1) := by decide +kernel
theorem d_Tape_runWord_1 : decode prog_9_method_11_code 1 = .ok (.ldc 105, 2) := by decide +kernel
theorem d_Tape_runWord_3 : decode prog_9_method_11_code 3 = .ok (.invokevirtual 78, 3) := by decide +kernel
theorem d_Tape_runWord_6 : decode prog_9_method_11_code 6 = .ok (.ifCond .eq 36, 3) := by decide +kernel
theorem d_Tape_runWord_9 : decode prog_9_method_11_code 9 = .ok (.aload_n 0, 1) := by decide +kernel
theorem d_Tape_runWord_10 : decode prog_9_method_11_code 10 = .ok (.getfield 32, 3) := by decide +kernel
theorem d_Tape_runWord_13 : decode prog_9_method_11_code 13 = .ok (.iconst 4, 1) := by decide +kernel
theorem d_Tape_runWord_14 : decode prog_9_method_11_code 14 = .ok (.if_icmp .le 28, 3) := by decide +kernel
theorem d_Tape_runWord_17 : decode prog_9_method_11_code 17 = .ok (.aload_n 0, 1) := by decide +kernel
theorem d_Tape_runWord_18 : decode prog_9_method_11_code 18 = .ok (.aload_n 0, 1) := by decide +kernel
theorem d_Tape_runWord_19 : decode prog_9_method_11_code 19 = .ok (.getfield 32, 3) := by decide +kernel
theorem d_Tape_runWord_22 : decode prog_9_method_11_code 22 = .ok (.iconst 3, 1) := by decide +kernel
theorem d_Tape_runWord_23 : decode prog_9_method_11_code 23 = .ok (.isub, 1) := by decide +kernel
theorem d_Tape_runWord_24 : decode prog_9_method_11_code 24 = .ok (.invokevirtual 101, 3) := by decide +kernel
theorem d_Tape_runWord_27 : decode prog_9_method_11_code 27 = .ok (.aload_n 0, 1) := by decide +kernel
theorem d_Tape_runWord_28 : decode prog_9_method_11_code 28 = .ok (.getfield 32, 3) := by decide +kernel
theorem d_Tape_runWord_31 : decode prog_9_method_11_code 31 = .ok (.iconst 3, 1) := by decide +kernel
theorem d_Tape_runWord_32 : decode prog_9_method_11_code 32 = .ok (.isub, 1) := by decide +kernel
theorem d_Tape_runWord_33 : decode prog_9_method_11_code 33 = .ok (.bipush 121, 2) := by decide +kernel
theorem d_Tape_runWord_35 : decode prog_9_method_11_code 35 = .ok (.invokestatic 39, 3) := by decide +kernel
theorem d_Tape_runWord_38 : decode prog_9_method_11_code 38 = .ok (.invokestatic 107, 3) := by decide +kernel
theorem d_Tape_runWord_41 : decode prog_9_method_11_code 41 = .ok (.lreturn, 1) := by decide +kernel
theorem v_Tape_runWord_0 {G : XG} {d : Nat} {h : XH} {Q : XV → XH → Prop} {X : Nat → XH → Prop} (F : xFix h) (hyp : kpt h ∧ ((((endH h (-2)) = true) → (((xpl h 1 6) ≤ 4 → (xwp G m_Tape_runWord (d + 7) 42 [xR 1] [] h Q X)) ∧ (¬ (xpl h 1 6) ≤ 4 → ((xpl h 1 6) - 3) ≤ 12 ∧ ((xpl h 1 6) - 3) ≤ 1000 ∧ (Q (xL (wsg (flH h ((xpl h 1 6) - 3).toNat) ((xpl h 1 6) - 3) (sgn 121))) h)))) ∧ (¬ ((endH h (-2)) = true) → (xwp G m_Tape_runWord (d + 7) 42 [xR 1] [] h Q X)))) : xwp G m_Tape_runWord (d + 7) 0 [xR 1] [] h Q X := by
  have hnx9 : (93 : Int) ≤ xnx h := F.2.2
  refine xr_aload_n (pc := 0) (i := 0) (hI := d_Tape_runWord_0) (hi := rfl) (hl := rfl) ?_
  refine xr_ldcS (pc := 1) (z := (-2)) (tx := "ies") (k0 := 0) (hI := d_Tape_runWord_1) (hm := by decide +kernel) (hz0 := by decide) ?_
  obtain ⟨c1_, hyp⟩ := hyp
  refine xq_callV (pc := 3) (index := 78) (K := m_Tape_runEndsWith) (As := [xR (-2)]) (S := []) (L0 := [xR 1, xR (-2), xZ, xZ]) (hI := d_Tape_runWord_3) (hK := k_Tape_runEndsWith) (hlk := w_807) (hnoM := rfl) (hS8 := Nat.le_of_ble_eq_true rfl) (ci := 8) (N := 7) (C := "BeaconIndex$Tape") (T := xF8) (hc := rfl) (hci := Nat.le_of_ble_eq_true rfl) (htb := (ft_1 F)) (hinst := w_809) (hsel := sel_Tape_runEndsWith) (hlen := Nat.le_of_ble_eq_true rfl) (hst := rfl) (hL0 := rfl)  (p_Tape_runEndsWith F (str_2 F).1 c1_ ?_)
  show xwp G m_Tape_runWord (d + 7) 6 [xR 1] [xI (b2i (endH h (-2)))] _ _ _
  refine xr_if_eq (pc := 6) (tgt := 42) (hI := d_Tape_runWord_6) (ht := by decide) (fun q9 => ?_) (fun q9 => ?_)
  · replace hyp := hyp.2 (b2i_0.mp q9)
    have q2_ := b2i_0.mp q9
    clear q9
    exact hyp
  · replace hyp := hyp.1 (b2i_1.mp q9)
    have q2_ := b2i_1.mp q9
    clear q9
    refine xr_aload_n (pc := 9) (i := 0) (hI := d_Tape_runWord_9) (hi := rfl) (hl := rfl) ?_
    refine xg_getf (pc := 10) (ci := 8) (k := 6) (N := 7) (v9 := 0) (v := (xpl h 1 6)) (T := xF8) (hI := d_Tape_runWord_10) (hw := w_63) rfl xi8 (Or.inl rfl) (Nat.le_of_ble_eq_true rfl) (Nat.le_of_ble_eq_true rfl) rfl (ft_1 F) rfl (fun f3_ => ?_)
    replace f3_ : -2147483648 ≤ (xpl h 1 6) ∧ (xpl h 1 6) ≤ 2147483647 := f3_
    refine xr_iconst (pc := 13) (hI := d_Tape_runWord_13) (hr := by decide) ?_
    refine xr_icmp_le (pc := 14) (tgt := 42) (hI := d_Tape_runWord_14) (ht := by decide) (fun q9 => ?_) (fun q9 => ?_)
    · replace hyp := hyp.1 q9
      have q4_ := q9
      clear q9
      exact hyp
    · replace hyp := hyp.2 q9
      have q4_ := q9
      clear q9
      refine xr_aload_n (pc := 17) (i := 0) (hI := d_Tape_runWord_17) (hi := rfl) (hl := rfl) ?_
      refine xr_aload_n (pc := 18) (i := 0) (hI := d_Tape_runWord_18) (hi := rfl) (hl := rfl) ?_
      refine xg_getf (pc := 19) (ci := 8) (k := 6) (N := 7) (v9 := 0) (v := (xpl h 1 6)) (T := xF8) (hI := d_Tape_runWord_19) (hw := w_63) rfl xi8 (Or.inl rfl) (Nat.le_of_ble_eq_true rfl) (Nat.le_of_ble_eq_true rfl) rfl (ft_1 F) rfl (fun f5_ => ?_)
      replace f5_ : -2147483648 ≤ (xpl h 1 6) ∧ (xpl h 1 6) ≤ 2147483647 := f5_
      refine xr_iconst (pc := 22) (hI := d_Tape_runWord_22) (hr := by decide) ?_
      refine xr_isub (pc := 23) (hI := d_Tape_runWord_23) (hr := ⟨by clear hyp; omega, by clear hyp; omega⟩) ?_
      obtain ⟨c6_, hyp⟩ := hyp
      refine xq_callV (pc := 24) (index := 101) (K := m_Tape_firstLetters) (As := [xI ((xpl h 1 6) - 3)]) (S := []) (L0 := [xR 1, xI ((xpl h 1 6) - 3), xZ, xZ, xZ]) (hI := d_Tape_runWord_24) (hK := k_Tape_firstLetters) (hlk := w_857) (hnoM := rfl) (hS8 := Nat.le_of_ble_eq_true rfl) (ci := 8) (N := 7) (C := "BeaconIndex$Tape") (T := xF8) (hc := rfl) (hci := Nat.le_of_ble_eq_true rfl) (htb := (ft_1 F)) (hinst := w_859) (hsel := sel_Tape_firstLetters) (hlen := Nat.le_of_ble_eq_true rfl) (hst := rfl) (hL0 := rfl)  (p_Tape_firstLetters F (by clear hyp; omega) c6_ ?_)
      show xwp G m_Tape_runWord (d + 7) 27 [xR 1] [xL (flH h ((xpl h 1 6) - 3).toNat)] _ _ _
      refine xr_aload_n (pc := 27) (i := 0) (hI := d_Tape_runWord_27) (hi := rfl) (hl := rfl) ?_
      refine xg_getf (pc := 28) (ci := 8) (k := 6) (N := 7) (v9 := 0) (v := (xpl h 1 6)) (T := xF8) (hI := d_Tape_runWord_28) (hw := w_63) rfl xi8 (Or.inl rfl) (Nat.le_of_ble_eq_true rfl) (Nat.le_of_ble_eq_true rfl) rfl (ft_1 F) rfl (fun f7_ => ?_)
      replace f7_ : -2147483648 ≤ (xpl h 1 6) ∧ (xpl h 1 6) ≤ 2147483647 := f7_
      refine xr_iconst (pc := 31) (hI := d_Tape_runWord_31) (hr := by decide) ?_
      refine xr_isub (pc := 32) (hI := d_Tape_runWord_32) (hr := ⟨by clear hyp; omega, by clear hyp; omega⟩) ?_
      refine xr_bipush (pc := 33) (hI := d_Tape_runWord_33) (hr := by decide) (hv := by decide) ?_
      refine xq_callS (pc := 35) (index := 39) (K := m_Words_signOf) (As := [xI 121]) (S := [xI ((xpl h 1 6) - 3), xL (flH h ((xpl h 1 6) - 3).toNat)]) (L0 := [xI 121]) (hI := d_Tape_runWord_35) (hK := k_Words_signOf) (hlk := w_795) (hnoM := rfl) (hS8 := Nat.le_of_ble_eq_true rfl) (hstat := w_796) (hlen := Nat.le_of_ble_eq_true rfl) (hst := rfl) (hL0 := rfl)  (p_Words_signOf F  ?_)
      show xwp G m_Tape_runWord (d + 7) 38 [xR 1] [xI (sgn 121), xI ((xpl h 1 6) - 3), xL (flH h ((xpl h 1 6) - 3).toNat)] _ _ _
      have f8_ : 0 ≤ (sgn 121) ∧ (sgn 121) ≤ 36 := sgn_rng _
      obtain ⟨c9_, hyp⟩ := hyp
      refine xq_callS (pc := 38) (index := 107) (K := m_Words_withSign) (As := [xL (flH h ((xpl h 1 6) - 3).toNat), xI ((xpl h 1 6) - 3), xI (sgn 121)]) (S := []) (L0 := [xL (flH h ((xpl h 1 6) - 3).toNat), xZ, xI ((xpl h 1 6) - 3), xI (sgn 121)]) (hI := d_Tape_runWord_38) (hK := k_Words_withSign) (hlk := w_861) (hnoM := rfl) (hS8 := Nat.le_of_ble_eq_true rfl) (hstat := w_862) (hlen := Nat.le_of_ble_eq_true rfl) (hst := rfl) (hL0 := rfl)  (p_Words_withSign F (by clear hyp; omega) c9_ ?_)
      show xwp G m_Tape_runWord (d + 7) 41 [xR 1] [xL (wsg (flH h ((xpl h 1 6) - 3).toNat) ((xpl h 1 6) - 3) (sgn 121))] _ _ _
      refine xr_lreturn (S := []) (pc := 41) (hI := d_Tape_runWord_41) (hr := rfl) ?_
      exact hyp
theorem d_Tape_runWord_42 : decode prog_9_method_11_code 42 = .ok (.aload_n 0, 1) := by decide +kernel
theorem d_Tape_runWord_43 : decode prog_9_method_11_code 43 = .ok (.ldc 111, 2) := by decide +kernel
theorem d_Tape_runWord_45 : decode prog_9_method_11_code 45 = .ok (.invokevirtual 78, 3) := by decide +kernel
theorem d_Tape_runWord_48 : decode prog_9_method_11_code 48 = .ok (.ifCond .eq 14, 3) := by decide +kernel
theorem d_Tape_runWord_62 : decode prog_9_method_11_code 62 = .ok (.aload_n 0, 1) := by decide +kernel
theorem d_Tape_runWord_63 : decode prog_9_method_11_code 63 = .ok (.ldc 113, 2) := by decide +kernel
theorem d_Tape_runWord_65 : decode prog_9_method_11_code 65 = .ok (.invokevirtual 78, 3) := by decide +kernel
theorem d_Tape_runWord_68 : decode prog_9_method_11_code 68 = .ok (.ifCond .eq 40, 3) := by decide +kernel
theorem d_Tape_runWord_71 : decode prog_9_method_11_code 71 = .ok (.aload_n 0, 1) := by decide +kernel
theorem d_Tape_runWord_72 : decode prog_9_method_11_code 72 = .ok (.ldc 115, 2) := by decide +kernel
theorem d_Tape_runWord_74 : decode prog_9_method_11_code 74 = .ok (.invokevirtual 78, 3) := by decide +kernel
theorem d_Tape_runWord_77 : decode prog_9_method_11_code 77 = .ok (.ifCond .ne 31, 3) := by decide +kernel
theorem d_Tape_runWord_80 : decode prog_9_method_11_code 80 = .ok (.aload_n 0, 1) := by decide +kernel
theorem d_Tape_runWord_81 : decode prog_9_method_11_code 81 = .ok (.ldc 117, 2) := by decide +kernel
theorem d_Tape_runWord_83 : decode prog_9_method_11_code 83 = .ok (.invokevirtual 78, 3) := by decide +kernel
theorem d_Tape_runWord_86 : decode prog_9_method_11_code 86 = .ok (.ifCond .ne 22, 3) := by decide +kernel
theorem d_Tape_runWord_89 : decode prog_9_method_11_code 89 = .ok (.aload_n 0, 1) := by decide +kernel
theorem d_Tape_runWord_90 : decode prog_9_method_11_code 90 = .ok (.getfield 32, 3) := by decide +kernel
theorem d_Tape_runWord_93 : decode prog_9_method_11_code 93 = .ok (.iconst 3, 1) := by decide +kernel
theorem d_Tape_runWord_94 : decode prog_9_method_11_code 94 = .ok (.if_icmp .le 14, 3) := by decide +kernel
theorem d_Tape_runWord_97 : decode prog_9_method_11_code 97 = .ok (.aload_n 0, 1) := by decide +kernel
theorem d_Tape_runWord_98 : decode prog_9_method_11_code 98 = .ok (.aload_n 0, 1) := by decide +kernel
theorem d_Tape_runWord_99 : decode prog_9_method_11_code 99 = .ok (.getfield 32, 3) := by decide +kernel
theorem d_Tape_runWord_102 : decode prog_9_method_11_code 102 = .ok (.iconst 1, 1) := by decide +kernel
theorem d_Tape_runWord_103 : decode prog_9_method_11_code 103 = .ok (.isub, 1) := by decide +kernel
theorem d_Tape_runWord_104 : decode prog_9_method_11_code 104 = .ok (.invokevirtual 101, 3) := by decide +kernel
theorem d_Tape_runWord_107 : decode prog_9_method_11_code 107 = .ok (.lreturn, 1) := by decide +kernel
theorem d_Tape_runWord_51 : decode prog_9_method_11_code 51 = .ok (.aload_n 0, 1) := by decide +kernel
theorem d_Tape_runWord_52 : decode prog_9_method_11_code 52 = .ok (.aload_n 0, 1) := by decide +kernel
theorem d_Tape_runWord_53 : decode prog_9_method_11_code 53 = .ok (.getfield 32, 3) := by decide +kernel
theorem d_Tape_runWord_56 : decode prog_9_method_11_code 56 = .ok (.iconst 2, 1) := by decide +kernel
theorem d_Tape_runWord_57 : decode prog_9_method_11_code 57 = .ok (.isub, 1) := by decide +kernel
theorem d_Tape_runWord_58 : decode prog_9_method_11_code 58 = .ok (.invokevirtual 101, 3) := by decide +kernel
theorem d_Tape_runWord_61 : decode prog_9_method_11_code 61 = .ok (.lreturn, 1) := by decide +kernel
theorem v_Tape_runWord_42 {G : XG} {d : Nat} {h : XH} {Q : XV → XH → Prop} {X : Nat → XH → Prop} (F : xFix h) (hyp : kpt h ∧ ((((endH h (-4)) = true) → xiR ((xpl h 1 6) - 2) ∧ 0 ≤ ((xpl h 1 6) - 2) ∧ ((xpl h 1 6) - 2) ≤ 12 ∧ (Q (xL (flH h ((xpl h 1 6) - 2).toNat)) h)) ∧ (¬ ((endH h (-4)) = true) → ((((endH h (-6)) = true) → ((((endH h (-8)) = true) → (xwp G m_Tape_runWord (d + 7) 108 [xR 1] [] h Q X)) ∧ (¬ ((endH h (-8)) = true) → ((((endH h (-10)) = true) → (xwp G m_Tape_runWord (d + 7) 108 [xR 1] [] h Q X)) ∧ (¬ ((endH h (-10)) = true) → (((xpl h 1 6) ≤ 3 → (xwp G m_Tape_runWord (d + 7) 108 [xR 1] [] h Q X)) ∧ (¬ (xpl h 1 6) ≤ 3 → ((xpl h 1 6) - 1) ≤ 12 ∧ (Q (xL (flH h ((xpl h 1 6) - 1).toNat)) h)))))))) ∧ (¬ ((endH h (-6)) = true) → (xwp G m_Tape_runWord (d + 7) 108 [xR 1] [] h Q X)))))) : xwp G m_Tape_runWord (d + 7) 42 [xR 1] [] h Q X := by
  have hnx9 : (93 : Int) ≤ xnx h := F.2.2
  refine xr_aload_n (pc := 42) (i := 0) (hI := d_Tape_runWord_42) (hi := rfl) (hl := rfl) ?_
  refine xr_ldcS (pc := 43) (z := (-4)) (tx := "sses") (k0 := 2) (hI := d_Tape_runWord_43) (hm := by decide +kernel) (hz0 := by decide) ?_
  obtain ⟨c1_, hyp⟩ := hyp
  refine xq_callV (pc := 45) (index := 78) (K := m_Tape_runEndsWith) (As := [xR (-4)]) (S := []) (L0 := [xR 1, xR (-4), xZ, xZ]) (hI := d_Tape_runWord_45) (hK := k_Tape_runEndsWith) (hlk := w_807) (hnoM := rfl) (hS8 := Nat.le_of_ble_eq_true rfl) (ci := 8) (N := 7) (C := "BeaconIndex$Tape") (T := xF8) (hc := rfl) (hci := Nat.le_of_ble_eq_true rfl) (htb := (ft_1 F)) (hinst := w_809) (hsel := sel_Tape_runEndsWith) (hlen := Nat.le_of_ble_eq_true rfl) (hst := rfl) (hL0 := rfl)  (p_Tape_runEndsWith F (str_4 F).1 c1_ ?_)
  show xwp G m_Tape_runWord (d + 7) 48 [xR 1] [xI (b2i (endH h (-4)))] _ _ _
  refine xr_if_eq (pc := 48) (tgt := 62) (hI := d_Tape_runWord_48) (ht := by decide) (fun q9 => ?_) (fun q9 => ?_)
  · replace hyp := hyp.2 (b2i_0.mp q9)
    have q2_ := b2i_0.mp q9
    clear q9
    refine xr_aload_n (pc := 62) (i := 0) (hI := d_Tape_runWord_62) (hi := rfl) (hl := rfl) ?_
    refine xr_ldcS (pc := 63) (z := (-6)) (tx := "s") (k0 := 4) (hI := d_Tape_runWord_63) (hm := by decide +kernel) (hz0 := by decide) ?_
    refine xq_callV (pc := 65) (index := 78) (K := m_Tape_runEndsWith) (As := [xR (-6)]) (S := []) (L0 := [xR 1, xR (-6), xZ, xZ]) (hI := d_Tape_runWord_65) (hK := k_Tape_runEndsWith) (hlk := w_807) (hnoM := rfl) (hS8 := Nat.le_of_ble_eq_true rfl) (ci := 8) (N := 7) (C := "BeaconIndex$Tape") (T := xF8) (hc := rfl) (hci := Nat.le_of_ble_eq_true rfl) (htb := (ft_1 F)) (hinst := w_809) (hsel := sel_Tape_runEndsWith) (hlen := Nat.le_of_ble_eq_true rfl) (hst := rfl) (hL0 := rfl)  (p_Tape_runEndsWith F (str_6 F).1 c1_ ?_)
    show xwp G m_Tape_runWord (d + 7) 68 [xR 1] [xI (b2i (endH h (-6)))] _ _ _
    refine xr_if_eq (pc := 68) (tgt := 108) (hI := d_Tape_runWord_68) (ht := by decide) (fun q9 => ?_) (fun q9 => ?_)
    · replace hyp := hyp.2 (b2i_0.mp q9)
      have q3_ := b2i_0.mp q9
      clear q9
      exact hyp
    · replace hyp := hyp.1 (b2i_1.mp q9)
      have q3_ := b2i_1.mp q9
      clear q9
      refine xr_aload_n (pc := 71) (i := 0) (hI := d_Tape_runWord_71) (hi := rfl) (hl := rfl) ?_
      refine xr_ldcS (pc := 72) (z := (-8)) (tx := "ss") (k0 := 6) (hI := d_Tape_runWord_72) (hm := by decide +kernel) (hz0 := by decide) ?_
      refine xq_callV (pc := 74) (index := 78) (K := m_Tape_runEndsWith) (As := [xR (-8)]) (S := []) (L0 := [xR 1, xR (-8), xZ, xZ]) (hI := d_Tape_runWord_74) (hK := k_Tape_runEndsWith) (hlk := w_807) (hnoM := rfl) (hS8 := Nat.le_of_ble_eq_true rfl) (ci := 8) (N := 7) (C := "BeaconIndex$Tape") (T := xF8) (hc := rfl) (hci := Nat.le_of_ble_eq_true rfl) (htb := (ft_1 F)) (hinst := w_809) (hsel := sel_Tape_runEndsWith) (hlen := Nat.le_of_ble_eq_true rfl) (hst := rfl) (hL0 := rfl)  (p_Tape_runEndsWith F (str_8 F).1 c1_ ?_)
      show xwp G m_Tape_runWord (d + 7) 77 [xR 1] [xI (b2i (endH h (-8)))] _ _ _
      refine xr_if_ne (pc := 77) (tgt := 108) (hI := d_Tape_runWord_77) (ht := by decide) (fun q9 => ?_) (fun q9 => ?_)
      · replace hyp := hyp.1 (b2i_1.mp q9)
        have q4_ := b2i_1.mp q9
        clear q9
        exact hyp
      · replace hyp := hyp.2 (b2i_0.mp q9)
        have q4_ := b2i_0.mp q9
        clear q9
        refine xr_aload_n (pc := 80) (i := 0) (hI := d_Tape_runWord_80) (hi := rfl) (hl := rfl) ?_
        refine xr_ldcS (pc := 81) (z := (-10)) (tx := "us") (k0 := 8) (hI := d_Tape_runWord_81) (hm := by decide +kernel) (hz0 := by decide) ?_
        refine xq_callV (pc := 83) (index := 78) (K := m_Tape_runEndsWith) (As := [xR (-10)]) (S := []) (L0 := [xR 1, xR (-10), xZ, xZ]) (hI := d_Tape_runWord_83) (hK := k_Tape_runEndsWith) (hlk := w_807) (hnoM := rfl) (hS8 := Nat.le_of_ble_eq_true rfl) (ci := 8) (N := 7) (C := "BeaconIndex$Tape") (T := xF8) (hc := rfl) (hci := Nat.le_of_ble_eq_true rfl) (htb := (ft_1 F)) (hinst := w_809) (hsel := sel_Tape_runEndsWith) (hlen := Nat.le_of_ble_eq_true rfl) (hst := rfl) (hL0 := rfl)  (p_Tape_runEndsWith F (str_10 F).1 c1_ ?_)
        show xwp G m_Tape_runWord (d + 7) 86 [xR 1] [xI (b2i (endH h (-10)))] _ _ _
        refine xr_if_ne (pc := 86) (tgt := 108) (hI := d_Tape_runWord_86) (ht := by decide) (fun q9 => ?_) (fun q9 => ?_)
        · replace hyp := hyp.1 (b2i_1.mp q9)
          have q5_ := b2i_1.mp q9
          clear q9
          exact hyp
        · replace hyp := hyp.2 (b2i_0.mp q9)
          have q5_ := b2i_0.mp q9
          clear q9
          refine xr_aload_n (pc := 89) (i := 0) (hI := d_Tape_runWord_89) (hi := rfl) (hl := rfl) ?_
          refine xg_getf (pc := 90) (ci := 8) (k := 6) (N := 7) (v9 := 0) (v := (xpl h 1 6)) (T := xF8) (hI := d_Tape_runWord_90) (hw := w_63) rfl xi8 (Or.inl rfl) (Nat.le_of_ble_eq_true rfl) (Nat.le_of_ble_eq_true rfl) rfl (ft_1 F) rfl (fun f6_ => ?_)
          replace f6_ : -2147483648 ≤ (xpl h 1 6) ∧ (xpl h 1 6) ≤ 2147483647 := f6_
          refine xr_iconst (pc := 93) (hI := d_Tape_runWord_93) (hr := by decide) ?_
          refine xr_icmp_le (pc := 94) (tgt := 108) (hI := d_Tape_runWord_94) (ht := by decide) (fun q9 => ?_) (fun q9 => ?_)
          · replace hyp := hyp.1 q9
            have q7_ := q9
            clear q9
            exact hyp
          · replace hyp := hyp.2 q9
            have q7_ := q9
            clear q9
            refine xr_aload_n (pc := 97) (i := 0) (hI := d_Tape_runWord_97) (hi := rfl) (hl := rfl) ?_
            refine xr_aload_n (pc := 98) (i := 0) (hI := d_Tape_runWord_98) (hi := rfl) (hl := rfl) ?_
            refine xg_getf (pc := 99) (ci := 8) (k := 6) (N := 7) (v9 := 0) (v := (xpl h 1 6)) (T := xF8) (hI := d_Tape_runWord_99) (hw := w_63) rfl xi8 (Or.inl rfl) (Nat.le_of_ble_eq_true rfl) (Nat.le_of_ble_eq_true rfl) rfl (ft_1 F) rfl (fun f8_ => ?_)
            replace f8_ : -2147483648 ≤ (xpl h 1 6) ∧ (xpl h 1 6) ≤ 2147483647 := f8_
            refine xr_iconst (pc := 102) (hI := d_Tape_runWord_102) (hr := by decide) ?_
            refine xr_isub (pc := 103) (hI := d_Tape_runWord_103) (hr := ⟨by clear hyp; omega, by clear hyp; omega⟩) ?_
            obtain ⟨c9_, hyp⟩ := hyp
            refine xq_callV (pc := 104) (index := 101) (K := m_Tape_firstLetters) (As := [xI ((xpl h 1 6) - 1)]) (S := []) (L0 := [xR 1, xI ((xpl h 1 6) - 1), xZ, xZ, xZ]) (hI := d_Tape_runWord_104) (hK := k_Tape_firstLetters) (hlk := w_857) (hnoM := rfl) (hS8 := Nat.le_of_ble_eq_true rfl) (ci := 8) (N := 7) (C := "BeaconIndex$Tape") (T := xF8) (hc := rfl) (hci := Nat.le_of_ble_eq_true rfl) (htb := (ft_1 F)) (hinst := w_859) (hsel := sel_Tape_firstLetters) (hlen := Nat.le_of_ble_eq_true rfl) (hst := rfl) (hL0 := rfl)  (p_Tape_firstLetters F (by clear hyp; omega) c9_ ?_)
            show xwp G m_Tape_runWord (d + 7) 107 [xR 1] [xL (flH h ((xpl h 1 6) - 1).toNat)] _ _ _
            refine xr_lreturn (S := []) (pc := 107) (hI := d_Tape_runWord_107) (hr := rfl) ?_
            exact hyp
  · replace hyp := hyp.1 (b2i_1.mp q9)
    have q2_ := b2i_1.mp q9
    clear q9
    refine xr_aload_n (pc := 51) (i := 0) (hI := d_Tape_runWord_51) (hi := rfl) (hl := rfl) ?_
    refine xr_aload_n (pc := 52) (i := 0) (hI := d_Tape_runWord_52) (hi := rfl) (hl := rfl) ?_
    refine xg_getf (pc := 53) (ci := 8) (k := 6) (N := 7) (v9 := 0) (v := (xpl h 1 6)) (T := xF8) (hI := d_Tape_runWord_53) (hw := w_63) rfl xi8 (Or.inl rfl) (Nat.le_of_ble_eq_true rfl) (Nat.le_of_ble_eq_true rfl) rfl (ft_1 F) rfl (fun f10_ => ?_)
    replace f10_ : -2147483648 ≤ (xpl h 1 6) ∧ (xpl h 1 6) ≤ 2147483647 := f10_
    refine xr_iconst (pc := 56) (hI := d_Tape_runWord_56) (hr := by decide) ?_
    obtain ⟨c9, hyp⟩ := hyp
    refine xr_isub (pc := 57) (hI := d_Tape_runWord_57) (hr := c9) ?_
    obtain ⟨c11_, hyp⟩ := hyp
    obtain ⟨c12_, hyp⟩ := hyp
    refine xq_callV (pc := 58) (index := 101) (K := m_Tape_firstLetters) (As := [xI ((xpl h 1 6) - 2)]) (S := []) (L0 := [xR 1, xI ((xpl h 1 6) - 2), xZ, xZ, xZ]) (hI := d_Tape_runWord_58) (hK := k_Tape_firstLetters) (hlk := w_857) (hnoM := rfl) (hS8 := Nat.le_of_ble_eq_true rfl) (ci := 8) (N := 7) (C := "BeaconIndex$Tape") (T := xF8) (hc := rfl) (hci := Nat.le_of_ble_eq_true rfl) (htb := (ft_1 F)) (hinst := w_859) (hsel := sel_Tape_firstLetters) (hlen := Nat.le_of_ble_eq_true rfl) (hst := rfl) (hL0 := rfl)  (p_Tape_firstLetters F c11_ c12_ ?_)
    show xwp G m_Tape_runWord (d + 7) 61 [xR 1] [xL (flH h ((xpl h 1 6) - 2).toNat)] _ _ _
    refine xr_lreturn (S := []) (pc := 61) (hI := d_Tape_runWord_61) (hr := rfl) ?_
    exact hyp
theorem d_Tape_runWord_108 : decode prog_9_method_11_code 108 = .ok (.aload_n 0, 1) := by decide +kernel
theorem d_Tape_runWord_109 : decode prog_9_method_11_code 109 = .ok (.ldc 119, 2) := by decide +kernel
theorem d_Tape_runWord_111 : decode prog_9_method_11_code 111 = .ok (.invokevirtual 78, 3) := by decide +kernel
theorem d_Tape_runWord_114 : decode prog_9_method_11_code 114 = .ok (.ifCond .eq 22, 3) := by decide +kernel
theorem d_Tape_runWord_117 : decode prog_9_method_11_code 117 = .ok (.aload_n 0, 1) := by decide +kernel
theorem d_Tape_runWord_118 : decode prog_9_method_11_code 118 = .ok (.getfield 32, 3) := by decide +kernel
theorem d_Tape_runWord_121 : decode prog_9_method_11_code 121 = .ok (.iconst 5, 1) := by decide +kernel
theorem d_Tape_runWord_122 : decode prog_9_method_11_code 122 = .ok (.if_icmp .le 14, 3) := by decide +kernel
theorem d_Tape_runWord_125 : decode prog_9_method_11_code 125 = .ok (.aload_n 0, 1) := by decide +kernel
theorem d_Tape_runWord_126 : decode prog_9_method_11_code 126 = .ok (.aload_n 0, 1) := by decide +kernel
theorem d_Tape_runWord_127 : decode prog_9_method_11_code 127 = .ok (.getfield 32, 3) := by decide +kernel
theorem d_Tape_runWord_130 : decode prog_9_method_11_code 130 = .ok (.iconst 3, 1) := by decide +kernel
theorem d_Tape_runWord_131 : decode prog_9_method_11_code 131 = .ok (.isub, 1) := by decide +kernel
theorem d_Tape_runWord_132 : decode prog_9_method_11_code 132 = .ok (.invokevirtual 101, 3) := by decide +kernel
theorem d_Tape_runWord_135 : decode prog_9_method_11_code 135 = .ok (.lreturn, 1) := by decide +kernel
theorem v_Tape_runWord_108 {G : XG} {d : Nat} {h : XH} {Q : XV → XH → Prop} {X : Nat → XH → Prop} (F : xFix h) (hyp : kpt h ∧ ((((endH h (-12)) = true) → (((xpl h 1 6) ≤ 5 → (xwp G m_Tape_runWord (d + 7) 136 [xR 1] [] h Q X)) ∧ (¬ (xpl h 1 6) ≤ 5 → ((xpl h 1 6) - 3) ≤ 12 ∧ (Q (xL (flH h ((xpl h 1 6) - 3).toNat)) h)))) ∧ (¬ ((endH h (-12)) = true) → (xwp G m_Tape_runWord (d + 7) 136 [xR 1] [] h Q X)))) : xwp G m_Tape_runWord (d + 7) 108 [xR 1] [] h Q X := by
  have hnx9 : (93 : Int) ≤ xnx h := F.2.2
  refine xr_aload_n (pc := 108) (i := 0) (hI := d_Tape_runWord_108) (hi := rfl) (hl := rfl) ?_
  refine xr_ldcS (pc := 109) (z := (-12)) (tx := "ing") (k0 := 10) (hI := d_Tape_runWord_109) (hm := by decide +kernel) (hz0 := by decide) ?_
  obtain ⟨c1_, hyp⟩ := hyp
  refine xq_callV (pc := 111) (index := 78) (K := m_Tape_runEndsWith) (As := [xR (-12)]) (S := []) (L0 := [xR 1, xR (-12), xZ, xZ]) (hI := d_Tape_runWord_111) (hK := k_Tape_runEndsWith) (hlk := w_807) (hnoM := rfl) (hS8 := Nat.le_of_ble_eq_true rfl) (ci := 8) (N := 7) (C := "BeaconIndex$Tape") (T := xF8) (hc := rfl) (hci := Nat.le_of_ble_eq_true rfl) (htb := (ft_1 F)) (hinst := w_809) (hsel := sel_Tape_runEndsWith) (hlen := Nat.le_of_ble_eq_true rfl) (hst := rfl) (hL0 := rfl)  (p_Tape_runEndsWith F (str_12 F).1 c1_ ?_)
  show xwp G m_Tape_runWord (d + 7) 114 [xR 1] [xI (b2i (endH h (-12)))] _ _ _
  refine xr_if_eq (pc := 114) (tgt := 136) (hI := d_Tape_runWord_114) (ht := by decide) (fun q9 => ?_) (fun q9 => ?_)
  · replace hyp := hyp.2 (b2i_0.mp q9)
    have q2_ := b2i_0.mp q9
    clear q9
    exact hyp
  · replace hyp := hyp.1 (b2i_1.mp q9)
    have q2_ := b2i_1.mp q9
    clear q9
    refine xr_aload_n (pc := 117) (i := 0) (hI := d_Tape_runWord_117) (hi := rfl) (hl := rfl) ?_
    refine xg_getf (pc := 118) (ci := 8) (k := 6) (N := 7) (v9 := 0) (v := (xpl h 1 6)) (T := xF8) (hI := d_Tape_runWord_118) (hw := w_63) rfl xi8 (Or.inl rfl) (Nat.le_of_ble_eq_true rfl) (Nat.le_of_ble_eq_true rfl) rfl (ft_1 F) rfl (fun f3_ => ?_)
    replace f3_ : -2147483648 ≤ (xpl h 1 6) ∧ (xpl h 1 6) ≤ 2147483647 := f3_
    refine xr_iconst (pc := 121) (hI := d_Tape_runWord_121) (hr := by decide) ?_
    refine xr_icmp_le (pc := 122) (tgt := 136) (hI := d_Tape_runWord_122) (ht := by decide) (fun q9 => ?_) (fun q9 => ?_)
    · replace hyp := hyp.1 q9
      have q4_ := q9
      clear q9
      exact hyp
    · replace hyp := hyp.2 q9
      have q4_ := q9
      clear q9
      refine xr_aload_n (pc := 125) (i := 0) (hI := d_Tape_runWord_125) (hi := rfl) (hl := rfl) ?_
      refine xr_aload_n (pc := 126) (i := 0) (hI := d_Tape_runWord_126) (hi := rfl) (hl := rfl) ?_
      refine xg_getf (pc := 127) (ci := 8) (k := 6) (N := 7) (v9 := 0) (v := (xpl h 1 6)) (T := xF8) (hI := d_Tape_runWord_127) (hw := w_63) rfl xi8 (Or.inl rfl) (Nat.le_of_ble_eq_true rfl) (Nat.le_of_ble_eq_true rfl) rfl (ft_1 F) rfl (fun f5_ => ?_)
      replace f5_ : -2147483648 ≤ (xpl h 1 6) ∧ (xpl h 1 6) ≤ 2147483647 := f5_
      refine xr_iconst (pc := 130) (hI := d_Tape_runWord_130) (hr := by decide) ?_
      refine xr_isub (pc := 131) (hI := d_Tape_runWord_131) (hr := ⟨by clear hyp; omega, by clear hyp; omega⟩) ?_
      obtain ⟨c6_, hyp⟩ := hyp
      refine xq_callV (pc := 132) (index := 101) (K := m_Tape_firstLetters) (As := [xI ((xpl h 1 6) - 3)]) (S := []) (L0 := [xR 1, xI ((xpl h 1 6) - 3), xZ, xZ, xZ]) (hI := d_Tape_runWord_132) (hK := k_Tape_firstLetters) (hlk := w_857) (hnoM := rfl) (hS8 := Nat.le_of_ble_eq_true rfl) (ci := 8) (N := 7) (C := "BeaconIndex$Tape") (T := xF8) (hc := rfl) (hci := Nat.le_of_ble_eq_true rfl) (htb := (ft_1 F)) (hinst := w_859) (hsel := sel_Tape_firstLetters) (hlen := Nat.le_of_ble_eq_true rfl) (hst := rfl) (hL0 := rfl)  (p_Tape_firstLetters F (by clear hyp; omega) c6_ ?_)
      show xwp G m_Tape_runWord (d + 7) 135 [xR 1] [xL (flH h ((xpl h 1 6) - 3).toNat)] _ _ _
      refine xr_lreturn (S := []) (pc := 135) (hI := d_Tape_runWord_135) (hr := rfl) ?_
      exact hyp
theorem d_Tape_runWord_136 : decode prog_9_method_11_code 136 = .ok (.aload_n 0, 1) := by decide +kernel
theorem d_Tape_runWord_137 : decode prog_9_method_11_code 137 = .ok (.ldc 121, 2) := by decide +kernel
theorem d_Tape_runWord_139 : decode prog_9_method_11_code 139 = .ok (.invokevirtual 78, 3) := by decide +kernel
theorem d_Tape_runWord_142 : decode prog_9_method_11_code 142 = .ok (.ifCond .eq 22, 3) := by decide +kernel
theorem d_Tape_runWord_164 : decode prog_9_method_11_code 164 = .ok (.aload_n 0, 1) := by decide +kernel
theorem d_Tape_runWord_165 : decode prog_9_method_11_code 165 = .ok (.aload_n 0, 1) := by decide +kernel
theorem d_Tape_runWord_166 : decode prog_9_method_11_code 166 = .ok (.getfield 32, 3) := by decide +kernel
theorem d_Tape_runWord_169 : decode prog_9_method_11_code 169 = .ok (.invokevirtual 101, 3) := by decide +kernel
theorem d_Tape_runWord_172 : decode prog_9_method_11_code 172 = .ok (.lreturn, 1) := by decide +kernel
theorem d_Tape_runWord_145 : decode prog_9_method_11_code 145 = .ok (.aload_n 0, 1) := by decide +kernel
theorem d_Tape_runWord_146 : decode prog_9_method_11_code 146 = .ok (.getfield 32, 3) := by decide +kernel
theorem d_Tape_runWord_149 : decode prog_9_method_11_code 149 = .ok (.iconst 4, 1) := by decide +kernel
theorem d_Tape_runWord_150 : decode prog_9_method_11_code 150 = .ok (.if_icmp .le 14, 3) := by decide +kernel
theorem d_Tape_runWord_153 : decode prog_9_method_11_code 153 = .ok (.aload_n 0, 1) := by decide +kernel
theorem d_Tape_runWord_154 : decode prog_9_method_11_code 154 = .ok (.aload_n 0, 1) := by decide +kernel
theorem d_Tape_runWord_155 : decode prog_9_method_11_code 155 = .ok (.getfield 32, 3) := by decide +kernel
theorem d_Tape_runWord_158 : decode prog_9_method_11_code 158 = .ok (.iconst 2, 1) := by decide +kernel
theorem d_Tape_runWord_159 : decode prog_9_method_11_code 159 = .ok (.isub, 1) := by decide +kernel
theorem d_Tape_runWord_160 : decode prog_9_method_11_code 160 = .ok (.invokevirtual 101, 3) := by decide +kernel
theorem d_Tape_runWord_163 : decode prog_9_method_11_code 163 = .ok (.lreturn, 1) := by decide +kernel
theorem v_Tape_runWord_136 {G : XG} {d : Nat} {h : XH} {Q : XV → XH → Prop} {X : Nat → XH → Prop} (F : xFix h) (hyp : kpt h ∧ ((((endH h (-14)) = true) → (((xpl h 1 6) ≤ 4 → 0 ≤ (xpl h 1 6) ∧ (Q (xL (flH h (xpl h 1 6).toNat)) h)) ∧ (¬ (xpl h 1 6) ≤ 4 → ((xpl h 1 6) - 2) ≤ 12 ∧ (Q (xL (flH h ((xpl h 1 6) - 2).toNat)) h)))) ∧ (¬ ((endH h (-14)) = true) → 0 ≤ (xpl h 1 6) ∧ (xpl h 1 6) ≤ 12 ∧ (Q (xL (flH h (xpl h 1 6).toNat)) h)))) : xwp G m_Tape_runWord (d + 7) 136 [xR 1] [] h Q X := by
  have hnx9 : (93 : Int) ≤ xnx h := F.2.2
  refine xr_aload_n (pc := 136) (i := 0) (hI := d_Tape_runWord_136) (hi := rfl) (hl := rfl) ?_
  refine xr_ldcS (pc := 137) (z := (-14)) (tx := "ed") (k0 := 12) (hI := d_Tape_runWord_137) (hm := by decide +kernel) (hz0 := by decide) ?_
  obtain ⟨c1_, hyp⟩ := hyp
  refine xq_callV (pc := 139) (index := 78) (K := m_Tape_runEndsWith) (As := [xR (-14)]) (S := []) (L0 := [xR 1, xR (-14), xZ, xZ]) (hI := d_Tape_runWord_139) (hK := k_Tape_runEndsWith) (hlk := w_807) (hnoM := rfl) (hS8 := Nat.le_of_ble_eq_true rfl) (ci := 8) (N := 7) (C := "BeaconIndex$Tape") (T := xF8) (hc := rfl) (hci := Nat.le_of_ble_eq_true rfl) (htb := (ft_1 F)) (hinst := w_809) (hsel := sel_Tape_runEndsWith) (hlen := Nat.le_of_ble_eq_true rfl) (hst := rfl) (hL0 := rfl)  (p_Tape_runEndsWith F (str_14 F).1 c1_ ?_)
  show xwp G m_Tape_runWord (d + 7) 142 [xR 1] [xI (b2i (endH h (-14)))] _ _ _
  refine xr_if_eq (pc := 142) (tgt := 164) (hI := d_Tape_runWord_142) (ht := by decide) (fun q9 => ?_) (fun q9 => ?_)
  · replace hyp := hyp.2 (b2i_0.mp q9)
    have q2_ := b2i_0.mp q9
    clear q9
    refine xr_aload_n (pc := 164) (i := 0) (hI := d_Tape_runWord_164) (hi := rfl) (hl := rfl) ?_
    refine xr_aload_n (pc := 165) (i := 0) (hI := d_Tape_runWord_165) (hi := rfl) (hl := rfl) ?_
    refine xg_getf (pc := 166) (ci := 8) (k := 6) (N := 7) (v9 := 0) (v := (xpl h 1 6)) (T := xF8) (hI := d_Tape_runWord_166) (hw := w_63) rfl xi8 (Or.inl rfl) (Nat.le_of_ble_eq_true rfl) (Nat.le_of_ble_eq_true rfl) rfl (ft_1 F) rfl (fun f3_ => ?_)
    replace f3_ : -2147483648 ≤ (xpl h 1 6) ∧ (xpl h 1 6) ≤ 2147483647 := f3_
    obtain ⟨c4_, hyp⟩ := hyp
    obtain ⟨c5_, hyp⟩ := hyp
    refine xq_callV (pc := 169) (index := 101) (K := m_Tape_firstLetters) (As := [xI (xpl h 1 6)]) (S := []) (L0 := [xR 1, xI (xpl h 1 6), xZ, xZ, xZ]) (hI := d_Tape_runWord_169) (hK := k_Tape_firstLetters) (hlk := w_857) (hnoM := rfl) (hS8 := Nat.le_of_ble_eq_true rfl) (ci := 8) (N := 7) (C := "BeaconIndex$Tape") (T := xF8) (hc := rfl) (hci := Nat.le_of_ble_eq_true rfl) (htb := (ft_1 F)) (hinst := w_859) (hsel := sel_Tape_firstLetters) (hlen := Nat.le_of_ble_eq_true rfl) (hst := rfl) (hL0 := rfl)  (p_Tape_firstLetters F c4_ c5_ ?_)
    show xwp G m_Tape_runWord (d + 7) 172 [xR 1] [xL (flH h (xpl h 1 6).toNat)] _ _ _
    refine xr_lreturn (S := []) (pc := 172) (hI := d_Tape_runWord_172) (hr := rfl) ?_
    exact hyp
  · replace hyp := hyp.1 (b2i_1.mp q9)
    have q2_ := b2i_1.mp q9
    clear q9
    refine xr_aload_n (pc := 145) (i := 0) (hI := d_Tape_runWord_145) (hi := rfl) (hl := rfl) ?_
    refine xg_getf (pc := 146) (ci := 8) (k := 6) (N := 7) (v9 := 0) (v := (xpl h 1 6)) (T := xF8) (hI := d_Tape_runWord_146) (hw := w_63) rfl xi8 (Or.inl rfl) (Nat.le_of_ble_eq_true rfl) (Nat.le_of_ble_eq_true rfl) rfl (ft_1 F) rfl (fun f6_ => ?_)
    replace f6_ : -2147483648 ≤ (xpl h 1 6) ∧ (xpl h 1 6) ≤ 2147483647 := f6_
    refine xr_iconst (pc := 149) (hI := d_Tape_runWord_149) (hr := by decide) ?_
    refine xr_icmp_le (pc := 150) (tgt := 164) (hI := d_Tape_runWord_150) (ht := by decide) (fun q9 => ?_) (fun q9 => ?_)
    · replace hyp := hyp.1 q9
      have q7_ := q9
      clear q9
      refine xr_aload_n (pc := 164) (i := 0) (hI := d_Tape_runWord_164) (hi := rfl) (hl := rfl) ?_
      refine xr_aload_n (pc := 165) (i := 0) (hI := d_Tape_runWord_165) (hi := rfl) (hl := rfl) ?_
      refine xg_getf (pc := 166) (ci := 8) (k := 6) (N := 7) (v9 := 0) (v := (xpl h 1 6)) (T := xF8) (hI := d_Tape_runWord_166) (hw := w_63) rfl xi8 (Or.inl rfl) (Nat.le_of_ble_eq_true rfl) (Nat.le_of_ble_eq_true rfl) rfl (ft_1 F) rfl (fun f8_ => ?_)
      replace f8_ : -2147483648 ≤ (xpl h 1 6) ∧ (xpl h 1 6) ≤ 2147483647 := f8_
      obtain ⟨c9_, hyp⟩ := hyp
      refine xq_callV (pc := 169) (index := 101) (K := m_Tape_firstLetters) (As := [xI (xpl h 1 6)]) (S := []) (L0 := [xR 1, xI (xpl h 1 6), xZ, xZ, xZ]) (hI := d_Tape_runWord_169) (hK := k_Tape_firstLetters) (hlk := w_857) (hnoM := rfl) (hS8 := Nat.le_of_ble_eq_true rfl) (ci := 8) (N := 7) (C := "BeaconIndex$Tape") (T := xF8) (hc := rfl) (hci := Nat.le_of_ble_eq_true rfl) (htb := (ft_1 F)) (hinst := w_859) (hsel := sel_Tape_firstLetters) (hlen := Nat.le_of_ble_eq_true rfl) (hst := rfl) (hL0 := rfl)  (p_Tape_firstLetters F c9_ (by clear hyp; omega) ?_)
      show xwp G m_Tape_runWord (d + 7) 172 [xR 1] [xL (flH h (xpl h 1 6).toNat)] _ _ _
      refine xr_lreturn (S := []) (pc := 172) (hI := d_Tape_runWord_172) (hr := rfl) ?_
      exact hyp
    · replace hyp := hyp.2 q9
      have q7_ := q9
      clear q9
      refine xr_aload_n (pc := 153) (i := 0) (hI := d_Tape_runWord_153) (hi := rfl) (hl := rfl) ?_
      refine xr_aload_n (pc := 154) (i := 0) (hI := d_Tape_runWord_154) (hi := rfl) (hl := rfl) ?_
      refine xg_getf (pc := 155) (ci := 8) (k := 6) (N := 7) (v9 := 0) (v := (xpl h 1 6)) (T := xF8) (hI := d_Tape_runWord_155) (hw := w_63) rfl xi8 (Or.inl rfl) (Nat.le_of_ble_eq_true rfl) (Nat.le_of_ble_eq_true rfl) rfl (ft_1 F) rfl (fun f10_ => ?_)
      replace f10_ : -2147483648 ≤ (xpl h 1 6) ∧ (xpl h 1 6) ≤ 2147483647 := f10_
      refine xr_iconst (pc := 158) (hI := d_Tape_runWord_158) (hr := by decide) ?_
      refine xr_isub (pc := 159) (hI := d_Tape_runWord_159) (hr := ⟨by clear hyp; omega, by clear hyp; omega⟩) ?_
      obtain ⟨c11_, hyp⟩ := hyp
      refine xq_callV (pc := 160) (index := 101) (K := m_Tape_firstLetters) (As := [xI ((xpl h 1 6) - 2)]) (S := []) (L0 := [xR 1, xI ((xpl h 1 6) - 2), xZ, xZ, xZ]) (hI := d_Tape_runWord_160) (hK := k_Tape_firstLetters) (hlk := w_857) (hnoM := rfl) (hS8 := Nat.le_of_ble_eq_true rfl) (ci := 8) (N := 7) (C := "BeaconIndex$Tape") (T := xF8) (hc := rfl) (hci := Nat.le_of_ble_eq_true rfl) (htb := (ft_1 F)) (hinst := w_859) (hsel := sel_Tape_firstLetters) (hlen := Nat.le_of_ble_eq_true rfl) (hst := rfl) (hL0 := rfl)  (p_Tape_firstLetters F (by clear hyp; omega) c11_ ?_)
      show xwp G m_Tape_runWord (d + 7) 163 [xR 1] [xL (flH h ((xpl h 1 6) - 2).toNat)] _ _ _
      refine xr_lreturn (S := []) (pc := 163) (hI := d_Tape_runWord_163) (hr := rfl) ?_
      exact hyp
theorem endH_le {h : XH} {s : Int} (e : endH h s = true) : stl h s ≤ xpl h 1 6 := by
  unfold endH at e
  rw [Bool.and_eq_true] at e
  exact of_decide_eq_true e.1
/-- the word of the run that was sought -/
def rwH (h : XH) : Int :=
  if endH h (-2) = true ∧ 4 < xpl h 1 6 then wsg (flH h (xpl h 1 6 - 3).toNat) (xpl h 1 6 - 3) (sgn 121)
  else if endH h (-4) = true then flH h (xpl h 1 6 - 2).toNat
  else if endH h (-6) = true ∧ ¬ endH h (-8) = true ∧ ¬ endH h (-10) = true ∧ 3 < xpl h 1 6 then flH h (xpl h 1 6 - 1).toNat
  else if endH h (-12) = true ∧ 5 < xpl h 1 6 then flH h (xpl h 1 6 - 3).toNat
  else if endH h (-14) = true ∧ 4 < xpl h 1 6 then flH h (xpl h 1 6 - 2).toNat
  else flH h (xpl h 1 6).toNat
theorem p_Tape_runWord {G : XG} {d : Nat} {h : XH} {Q : XV → XH → Prop} {X : Nat → XH → Prop} (F : xFix h) (p1 : kpt h) (hq : Q (xL (rwH h)) h) : xwp G m_Tape_runWord (d + 7) 0 [xR 1] [] h Q X := by
  obtain ⟨z0, z1⟩ := id p1
  have s4 : endH h (-4) = true → 4 ≤ xpl h 1 6 := fun e => by have := endH_le e; rw [(str_4 F).2.1] at this; exact this
  have c136 : ¬ (endH h (-12) = true ∧ 5 < xpl h 1 6) → Q (xL (if endH h (-14) = true ∧ 4 < xpl h 1 6 then flH h (xpl h 1 6 - 2).toNat else flH h (xpl h 1 6).toNat)) h → xwp G m_Tape_runWord (d + 7) 136 [xR 1] [] h Q X := by
    intro _ hq
    refine v_Tape_runWord_136 F ?_
    refine ⟨?_, ?_⟩
    · first | exact p1 | omega
    · refine ⟨fun q1 => ?_, fun q1 => ?_⟩
      · refine ⟨fun q2 => ?_, fun q2 => ?_⟩
        · refine ⟨?_, ?_⟩
          · first | exact p1 | omega
          · rw [if_neg (by omega)] at hq; exact hq
        · refine ⟨?_, ?_⟩
          · first | exact p1 | omega
          · rw [if_pos ⟨q1, by omega⟩] at hq; exact hq
      · refine ⟨?_, ?_⟩
        · first | exact p1 | omega
        · refine ⟨?_, ?_⟩
          · first | exact p1 | omega
          · rw [if_neg (fun z => q1 z.1)] at hq; exact hq
  have c108 : Q (xL (if endH h (-12) = true ∧ 5 < xpl h 1 6 then flH h (xpl h 1 6 - 3).toNat else if endH h (-14) = true ∧ 4 < xpl h 1 6 then flH h (xpl h 1 6 - 2).toNat else flH h (xpl h 1 6).toNat)) h → xwp G m_Tape_runWord (d + 7) 108 [xR 1] [] h Q X := by
    intro hq
    refine v_Tape_runWord_108 F ?_
    refine ⟨?_, ?_⟩
    · first | exact p1 | omega
    · refine ⟨fun q1 => ?_, fun q1 => ?_⟩
      · refine ⟨fun q2 => ?_, fun q2 => ?_⟩
        · rw [if_neg (by omega)] at hq; exact c136 (by omega) hq
        · refine ⟨?_, ?_⟩
          · first | exact p1 | omega
          · rw [if_pos ⟨q1, by omega⟩] at hq; exact hq
      · rw [if_neg (fun z => q1 z.1)] at hq; exact c136 (fun z => q1 z.1) hq
  have c42 : Q (xL (if endH h (-4) = true then flH h (xpl h 1 6 - 2).toNat else if endH h (-6) = true ∧ ¬ endH h (-8) = true ∧ ¬ endH h (-10) = true ∧ 3 < xpl h 1 6 then flH h (xpl h 1 6 - 1).toNat else if endH h (-12) = true ∧ 5 < xpl h 1 6 then flH h (xpl h 1 6 - 3).toNat else if endH h (-14) = true ∧ 4 < xpl h 1 6 then flH h (xpl h 1 6 - 2).toNat else flH h (xpl h 1 6).toNat)) h → xwp G m_Tape_runWord (d + 7) 42 [xR 1] [] h Q X := by
    intro hq
    refine v_Tape_runWord_42 F ?_
    refine ⟨?_, ?_⟩
    · first | exact p1 | omega | (have := s4 q1; first | omega | exact ⟨by omega, by omega⟩)
    · refine ⟨fun q1 => ?_, fun q1 => ?_⟩
      · refine ⟨?_, ?_⟩
        · first | exact p1 | omega | (have := s4 q1; first | omega | exact ⟨by omega, by omega⟩)
        · refine ⟨?_, ?_⟩
          · first | exact p1 | omega | (have := s4 q1; first | omega | exact ⟨by omega, by omega⟩)
          · refine ⟨?_, ?_⟩
            · first | exact p1 | omega | (have := s4 q1; first | omega | exact ⟨by omega, by omega⟩)
            · rw [if_pos q1] at hq; exact hq
      · refine ⟨fun q2 => ?_, fun q2 => ?_⟩
        · refine ⟨fun q3 => ?_, fun q3 => ?_⟩
          · rw [if_neg q1, if_neg (fun z => z.2.1 q3)] at hq; exact c108 hq
          · refine ⟨fun q4 => ?_, fun q4 => ?_⟩
            · rw [if_neg q1, if_neg (fun z => z.2.2.1 q4)] at hq; exact c108 hq
            · refine ⟨fun q5 => ?_, fun q5 => ?_⟩
              · rw [if_neg q1, if_neg (by omega)] at hq; exact c108 hq
              · refine ⟨?_, ?_⟩
                · first | exact p1 | omega | (have := s4 q1; first | omega | exact ⟨by omega, by omega⟩)
                · rw [if_neg q1, if_pos ⟨q2, q3, q4, by omega⟩] at hq; exact hq
        · rw [if_neg q1, if_neg (fun z => q2 z.1)] at hq; exact c108 hq
  unfold rwH at hq
  refine v_Tape_runWord_0 F ?_
  refine ⟨?_, ?_⟩
  · first | exact p1 | omega
  · refine ⟨fun q1 => ?_, fun q1 => ?_⟩
    · refine ⟨fun q2 => ?_, fun q2 => ?_⟩
      · rw [if_neg (by omega)] at hq; exact c42 hq
      · refine ⟨?_, ?_⟩
        · first | exact p1 | omega
        · refine ⟨?_, ?_⟩
          · first | exact p1 | omega
          · rw [if_pos ⟨q1, by omega⟩] at hq; exact hq
    · rw [if_neg (fun z => q1 z.1)] at hq; exact c42 hq
/-! the same, of the letters as a list -/
def endsW (ls cs : List Int) : Bool := decide (cs.length ≤ ls.length) && decide (∀ k : Nat, k < cs.length → ls[ls.length - cs.length + k]? = cs[k]?)
def wvF (ls : List Int) : Nat → Int
  | 0 => 0
  | k + 1 => wsg (wvF ls k) k (sgn (ls[k]?.getD 0))
def rwL (ls : List Int) : Int :=
  if endsW ls [105, 101, 115] = true ∧ 4 < ls.length then wsg (wvF ls (ls.length - 3)) (ls.length - 3 : Nat) (sgn 121)
  else if endsW ls [115, 115, 101, 115] = true then wvF ls (ls.length - 2)
  else if endsW ls [115] = true ∧ ¬ endsW ls [115, 115] = true ∧ ¬ endsW ls [117, 115] = true ∧ 3 < ls.length then wvF ls (ls.length - 1)
  else if endsW ls [105, 110, 103] = true ∧ 5 < ls.length then wvF ls (ls.length - 3)
  else if endsW ls [101, 100] = true ∧ 4 < ls.length then wvF ls (ls.length - 2)
  else wvF ls ls.length
def smallW : List (List Int) := [[116, 104, 101], [97], [97, 110], [111, 102], [97, 110, 100], [111, 114], [116, 111], [105, 110]]
def smallL (ls : List Int) : Bool := decide (ls ∈ smallW)
theorem RunL.kp {h : XH} {ls : List Int} (R : RunL h ls) : kpt h := by have := R.1; have := R.2.1; unfold kpt; omega
theorem RunL.ends {h : XH} {ls cs : List Int} {s : Int} (R : RunL h ls) (S : StrR h s cs) : endH h s = endsW ls cs := by
  obtain ⟨r1, r2, r3⟩ := R
  obtain ⟨-, s1, s2⟩ := S
  unfold endH endsW
  rw [s1, r1]
  by_cases hle : cs.length ≤ ls.length
  · have : decide ((cs.length : Int) ≤ ls.length) = decide (cs.length ≤ ls.length) := by
      rw [decide_eq_decide]; omega
    rw [this]
    congr 1
    rw [decide_eq_decide]
    refine forall_congr' fun k => ?_
    rw [show ((cs.length : Int)).toNat = cs.length by omega]
    refine ⟨fun z hk => ?_, fun z hk => ?_⟩
    · rw [r3 _ (by omega), s2 k hk, ← z hk]
      congr 2
      omega
    · have z1 := z hk
      rw [r3 _ (by omega), s2 k hk] at z1
      rw [← Option.some.inj z1]
      congr 1
      omega
  · rw [decide_eq_false (by omega), decide_eq_false hle]; rfl
theorem endsW_eq {ls cs : List Int} (h : ls.length = cs.length) : endsW ls cs = decide (ls = cs) := by
  unfold endsW
  rw [decide_eq_true (by omega), Bool.true_and, decide_eq_decide]
  constructor
  · intro z
    apply List.ext_getElem?
    intro k
    by_cases hk : k < cs.length
    · have := z k hk
      rwa [show ls.length - cs.length + k = k by omega] at this
    · rw [List.getElem?_eq_none (by omega), List.getElem?_eq_none (by omega)]
  · rintro rfl k hk
    rw [show ls.length - ls.length + k = k by omega]
theorem RunL.isr {h : XH} {ls cs : List Int} {s : Int} (R : RunL h ls) (S : StrR h s cs) : isrH h s = decide (ls = cs) := by
  unfold isrH
  rw [R.ends S, R.1, S.2.1]
  by_cases hl : ls.length = cs.length
  · rw [decide_eq_true (by omega), Bool.true_and, endsW_eq hl]
  · rw [decide_eq_false (by omega), Bool.false_and, decide_eq_false (fun z => hl (by rw [z]))]
theorem RunL.fl {h : XH} {ls : List Int} (R : RunL h ls) : ∀ k : Nat, k ≤ ls.length → flH h k = wvF ls k
  | 0, _ => rfl
  | k + 1, hk => by
    unfold flH wvF
    rw [R.fl k (by omega), R.2.2 k (by omega)]; rfl
theorem RunL.rw {h : XH} {ls : List Int} (R : RunL h ls) (F : xFix h) : rwH h = rwL ls := by
  have r1 := R.1
  have e4 : endsW ls [115, 115, 101, 115] = true → 4 ≤ ls.length := fun e => by
    unfold endsW at e
    rw [Bool.and_eq_true] at e
    exact of_decide_eq_true e.1
  unfold rwH rwL
  rw [R.ends (str_2 F), R.ends (str_4 F), R.ends (str_6 F), R.ends (str_8 F), R.ends (str_10 F), R.ends (str_12 F), R.ends (str_14 F), r1]
  have n3 : ((ls.length : Int) - 3).toNat = ls.length - 3 := by omega
  have n2 : ((ls.length : Int) - 2).toNat = ls.length - 2 := by omega
  have n1 : ((ls.length : Int) - 1).toNat = ls.length - 1 := by omega
  have n0 : ((ls.length : Int)).toNat = ls.length := by omega
  rw [n3, n2, n1, n0, R.fl _ (Nat.sub_le _ _), R.fl _ (Nat.sub_le _ _), R.fl _ (Nat.sub_le _ _), R.fl _ (Nat.le_refl _)]
  by_cases c1 : endsW ls [105, 101, 115] = true ∧ 4 < ls.length
  · rw [if_pos c1, if_pos ⟨c1.1, by omega⟩, show (((ls.length - 3 : Nat)) : Int) = (ls.length : Int) - 3 by omega]
  · rw [if_neg c1, if_neg (fun z => c1 ⟨z.1, by omega⟩)]
    by_cases c2 : endsW ls [115, 115, 101, 115] = true
    · rw [if_pos c2, if_pos c2]
    · rw [if_neg c2, if_neg c2]
      simp only [show ∀ (k : Nat), ((k : Int) < (ls.length : Int)) = (k < ls.length) from fun k => propext Int.ofNat_lt, show ((3 : Int) < (ls.length : Int)) = (3 < ls.length) from propext (by omega), show ((5 : Int) < (ls.length : Int)) = (5 < ls.length) from propext (by omega), show ((4 : Int) < (ls.length : Int)) = (4 < ls.length) from propext (by omega)]
theorem RunL.small {h : XH} {ls : List Int} (R : RunL h ls) (F : xFix h) : smallH h = smallL ls := by
  unfold smallH smallL smallW
  rw [R.isr (str_16 F), R.isr (str_18 F), R.isr (str_20 F), R.isr (str_22 F), R.isr (str_24 F), R.isr (str_26 F), R.isr (str_28 F), R.isr (str_30 F)]
  simp only [← Bool.decide_or, List.mem_cons, List.not_mem_nil, or_false, or_assoc]
abbrev m_Tape_rowOf : XM := (⟨"BeaconIndex$Tape", "rowOf", "(II)[J"⟩, prog_9_method_6_code, 5, (some (.array .long)), [])
theorem d_Tape_rowOf_0 : decode prog_9_method_6_code 0 = .ok (.iconst 0, 1) := by decide +kernel
theorem d_Tape_rowOf_1 : decode prog_9_method_6_code 1 = .ok (.istore_n 3, 1) := by decide +kernel
theorem d_Tape_rowOf_2 : decode prog_9_method_6_code 2 = .ok (.iload_n 1, 1) := by decide +kernel
theorem d_Tape_rowOf_3 : decode prog_9_method_6_code 3 = .ok (.istore 4, 2) := by decide +kernel
theorem v_Tape_rowOf_0 {G : XG} {d : Nat} {h : XH} {Q : XV → XH → Prop} {X : Nat → XH → Prop} {x1 x2 : Int} (F : xFix h) (hyp : (xwp G m_Tape_rowOf (d + 9) 5 [xR 1, xZ, xI x2, xI 0, xI x1] [] h Q X)) : xwp G m_Tape_rowOf (d + 9) 0 [xR 1, xI x1, xI x2, xZ, xZ] [] h Q X := by
  have hnx9 : (93 : Int) ≤ xnx h := F.2.2
  refine xr_okL (fun hl9 => ?_)
  have r_x1 : -2147483648 ≤ x1 ∧ x1 ≤ 2147483647 := hl9 (xI x1) (.tail _ (.head _)) (Nat.le_of_ble_eq_true rfl)
  have r_x2 : -2147483648 ≤ x2 ∧ x2 ≤ 2147483647 := hl9 (xI x2) (.tail _ (.tail _ (.head _))) (Nat.le_of_ble_eq_true rfl)
  refine xr_iconst (pc := 0) (hI := d_Tape_rowOf_0) (hr := by decide) ?_
  refine xr_istore_n (pc := 1) (i := 3) (L9 := [xR 1, xI x1, xI x2, xI 0, xZ]) (hI := d_Tape_rowOf_1) (hi := rfl) (hn := Nat.le_of_ble_eq_true rfl) (hL9 := rfl) ?_
  refine xr_iload_n (pc := 2) (i := 1) (hI := d_Tape_rowOf_2) (hi := rfl) (hl := rfl) ?_
  refine xr_istore (pc := 3) (i := 4) (L9 := [xR 1, xI x1, xI x2, xI 0, xI x1]) (hI := d_Tape_rowOf_3) (hn := Nat.le_of_ble_eq_true rfl) (hL9 := rfl) ?_
  exact xr_drop (L9 := [xR 1, xZ, xI x2, xI 0, xI x1]) (xdrs (xdrz (xdrs (xdrs (xdrs xdr0))))) hyp
theorem d_Tape_rowOf_5 : decode prog_9_method_6_code 5 = .ok (.iload_n 3, 1) := by decide +kernel
theorem d_Tape_rowOf_6 : decode prog_9_method_6_code 6 = .ok (.aload_n 0, 1) := by decide +kernel
theorem d_Tape_rowOf_7 : decode prog_9_method_6_code 7 = .ok (.getfield 15, 3) := by decide +kernel
theorem w_55 : Cond.fieldLink "BeaconIndex$Tape" 15 "BeaconIndex$Tape" "row" "[J" ∈ lw_tbl := List.mem_append_right _ (List.mem_of_getElem? (i := 55) (by decide +kernel))
theorem d_Tape_rowOf_10 : decode prog_9_method_6_code 10 = .ok (.arraylength, 1) := by decide +kernel
theorem d_Tape_rowOf_11 : decode prog_9_method_6_code 11 = .ok (.if_icmp .ge 48, 3) := by decide +kernel
theorem d_Tape_rowOf_59 : decode prog_9_method_6_code 59 = .ok (.aload_n 0, 1) := by decide +kernel
theorem d_Tape_rowOf_60 : decode prog_9_method_6_code 60 = .ok (.getfield 15, 3) := by decide +kernel
theorem d_Tape_rowOf_63 : decode prog_9_method_6_code 63 = .ok (.iload_n 3, 1) := by decide +kernel
theorem d_Tape_rowOf_64 : decode prog_9_method_6_code 64 = .ok (.invokestatic 67, 3) := by decide +kernel
theorem k_Arrays_copyOf_aJI : xCal m_Arrays_copyOf_aJI 2 := ⟨List.mem_append_right _ (List.mem_of_getElem? (i := 907) (by decide +kernel)), w_29, Nat.le_of_ble_eq_true rfl, ⟨by decide +kernel, by decide +kernel⟩, by decide +kernel, by decide +kernel, rfl⟩
theorem w_1382 : Cond.methodLink "BeaconIndex$Tape" 67 ⟨"java/util/Arrays", "copyOf", "([JI)[J"⟩ ∈ lw_tbl := List.mem_append_right _ (List.mem_of_getElem? (i := 1382) (by decide +kernel))
theorem w_906 : Cond.static ⟨"java/util/Arrays", "copyOf", "([JI)[J"⟩ ∈ lw_tbl := List.mem_append_right _ (List.mem_of_getElem? (i := 906) (by decide +kernel))
theorem d_Tape_rowOf_14 : decode prog_9_method_6_code 14 = .ok (.aload_n 0, 1) := by decide +kernel
theorem d_Tape_rowOf_15 : decode prog_9_method_6_code 15 = .ok (.iload 4, 2) := by decide +kernel
theorem d_Tape_rowOf_17 : decode prog_9_method_6_code 17 = .ok (.iload_n 2, 1) := by decide +kernel
theorem d_Tape_rowOf_18 : decode prog_9_method_6_code 18 = .ok (.invokevirtual 53, 3) := by decide +kernel
theorem k_Tape_seekRun : xCal m_Tape_seekRun 2 := ⟨List.mem_append_right _ (List.mem_of_getElem? (i := 790) (by decide +kernel)), w_2, Nat.le_of_ble_eq_true rfl, ⟨by decide +kernel, by decide +kernel⟩, by decide +kernel, by decide +kernel, rfl⟩
theorem w_1378 : Cond.methodLink "BeaconIndex$Tape" 53 ⟨"BeaconIndex$Tape", "seekRun", "(II)Z"⟩ ∈ lw_tbl := List.mem_append_right _ (List.mem_of_getElem? (i := 1378) (by decide +kernel))
theorem w_788 : Cond.instanceMethod ⟨"BeaconIndex$Tape", "seekRun", "(II)Z"⟩ ∈ lw_tbl := List.mem_append_right _ (List.mem_of_getElem? (i := 788) (by decide +kernel))
theorem w_789 : Cond.selects "BeaconIndex$Tape" ⟨"BeaconIndex$Tape", "seekRun", "(II)Z"⟩ ⟨"BeaconIndex$Tape", "seekRun", "(II)Z"⟩ ∈ lw_tbl := List.mem_append_right _ (List.mem_of_getElem? (i := 789) (by decide +kernel))
theorem v_Tape_rowOf_5 {G : XG} {d : Nat} {h : XH} {Q : XV → XH → Prop} {X : Nat → XH → Prop} {x2 x3 x4 : Int} (F : xFix h) (hyp : (((200 : Int) ≤ x3 → (xwp G m_Arrays_copyOf_aJI (d + 8) 0 [xR 3, xI x3, xZ] [] h (fun v9 h9 => xwp G m_Tape_rowOf (d + 9) 67 [xZ, xZ, xZ, xZ, xZ] (xpush v9 []) h9 Q X) X)) ∧ (¬ (200 : Int) ≤ x3 → (xwp G m_Tape_seekRun (d + 8) 0 [xR 1, xI x4, xI x2, xZ, xZ] [] h (fun v9 h9 => xwp G m_Tape_rowOf (d + 9) 21 [xR 1, xZ, xI x2, xI x3, xZ] (xpush v9 []) h9 Q X) X)))) : xwp G m_Tape_rowOf (d + 9) 5 [xR 1, xZ, xI x2, xI x3, xI x4] [] h Q X := by
  have hnx9 : (93 : Int) ≤ xnx h := F.2.2
  refine xr_okL (fun hl9 => ?_)
  have r_x2 : -2147483648 ≤ x2 ∧ x2 ≤ 2147483647 := hl9 (xI x2) (.tail _ (.tail _ (.head _))) (Nat.le_of_ble_eq_true rfl)
  have r_x3 : -2147483648 ≤ x3 ∧ x3 ≤ 2147483647 := hl9 (xI x3) (.tail _ (.tail _ (.tail _ (.head _)))) (Nat.le_of_ble_eq_true rfl)
  have r_x4 : -2147483648 ≤ x4 ∧ x4 ≤ 2147483647 := hl9 (xI x4) (.tail _ (.tail _ (.tail _ (.tail _ (.head _))))) (Nat.le_of_ble_eq_true rfl)
  refine xr_iload_n (pc := 5) (i := 3) (hI := d_Tape_rowOf_5) (hi := rfl) (hl := rfl) ?_
  refine xr_aload_n (pc := 6) (i := 0) (hI := d_Tape_rowOf_6) (hi := rfl) (hl := rfl) ?_
  refine xg_getf (pc := 7) (ci := 8) (k := 1) (N := 7) (v9 := 2) (v := 3) (T := xF8) (hI := d_Tape_rowOf_7) (hw := w_55) rfl xi8 (Or.inl rfl) (Nat.le_of_ble_eq_true rfl) (Nat.le_of_ble_eq_true rfl) rfl (ft_1 F) (fp_1_1 F) (fun f1_ => ?_)
  clear f1_
  refine xg_alen (pc := 10) (t := 101) (v := 200) (hI := d_Tape_rowOf_10) (ft_3 F) (Nat.le_of_ble_eq_true rfl) (Nat.le_of_ble_eq_true rfl) rfl (fl_3 F) (fun f2_ f3_ => ?_)
  clear f2_ f3_
  refine xr_icmp_ge (pc := 11) (tgt := 59) (hI := d_Tape_rowOf_11) (ht := by decide) (fun q9 => ?_) (fun q9 => ?_)
  · replace hyp := hyp.1 q9
    have q4_ := q9
    clear q9
    refine xr_aload_n (pc := 59) (i := 0) (hI := d_Tape_rowOf_59) (hi := rfl) (hl := rfl) ?_
    refine xg_getf (pc := 60) (ci := 8) (k := 1) (N := 7) (v9 := 2) (v := 3) (T := xF8) (hI := d_Tape_rowOf_60) (hw := w_55) rfl xi8 (Or.inl rfl) (Nat.le_of_ble_eq_true rfl) (Nat.le_of_ble_eq_true rfl) rfl (ft_1 F) (fp_1_1 F) (fun f5_ => ?_)
    clear f5_
    refine xr_iload_n (pc := 63) (i := 3) (hI := d_Tape_rowOf_63) (hi := rfl) (hl := rfl) ?_
    exact xq_callS (pc := 64) (index := 67) (K := m_Arrays_copyOf_aJI) (As := [xR 3, xI x3]) (S := []) (L0 := [xR 3, xI x3, xZ]) (hI := d_Tape_rowOf_64) (hK := k_Arrays_copyOf_aJI) (hlk := w_1382) (hnoM := rfl) (hS8 := Nat.le_of_ble_eq_true rfl) (hstat := w_906) (hlen := Nat.le_of_ble_eq_true rfl) (hst := rfl) (hL0 := rfl)  (xwp_mono hyp (fun v9 h9 q9 => xr_drop (L9 := [xZ, xZ, xZ, xZ, xZ]) (xdrz (xdrs (xdrz (xdrz (xdrz xdr0))))) q9) (fun _ _ z9 => z9))
  · replace hyp := hyp.2 q9
    have q4_ := q9
    clear q9
    refine xr_aload_n (pc := 14) (i := 0) (hI := d_Tape_rowOf_14) (hi := rfl) (hl := rfl) ?_
    refine xr_iload (pc := 15) (i := 4) (hI := d_Tape_rowOf_15) (hl := rfl) ?_
    refine xr_iload_n (pc := 17) (i := 2) (hI := d_Tape_rowOf_17) (hi := rfl) (hl := rfl) ?_
    exact xq_callV (pc := 18) (index := 53) (K := m_Tape_seekRun) (As := [xI x4, xI x2]) (S := []) (L0 := [xR 1, xI x4, xI x2, xZ, xZ]) (hI := d_Tape_rowOf_18) (hK := k_Tape_seekRun) (hlk := w_1378) (hnoM := rfl) (hS8 := Nat.le_of_ble_eq_true rfl) (ci := 8) (N := 7) (C := "BeaconIndex$Tape") (T := xF8) (hc := rfl) (hci := Nat.le_of_ble_eq_true rfl) (htb := (ft_1 F)) (hinst := w_788) (hsel := w_789) (hlen := Nat.le_of_ble_eq_true rfl) (hst := rfl) (hL0 := rfl)  (xwp_mono hyp (fun v9 h9 q9 => xr_drop (L9 := [xR 1, xZ, xI x2, xI x3, xZ]) (xdrs (xdrs (xdrs (xdrs (xdrz xdr0))))) q9) (fun _ _ z9 => z9))
theorem d_Tape_rowOf_21 : decode prog_9_method_6_code 21 = .ok (.ifCond .eq 38, 3) := by decide +kernel
theorem d_Tape_rowOf_24 : decode prog_9_method_6_code 24 = .ok (.aload_n 0, 1) := by decide +kernel
theorem d_Tape_rowOf_25 : decode prog_9_method_6_code 25 = .ok (.getfield 15, 3) := by decide +kernel
theorem d_Tape_rowOf_28 : decode prog_9_method_6_code 28 = .ok (.iload_n 3, 1) := by decide +kernel
theorem d_Tape_rowOf_29 : decode prog_9_method_6_code 29 = .ok (.aload_n 0, 1) := by decide +kernel
theorem d_Tape_rowOf_30 : decode prog_9_method_6_code 30 = .ok (.invokevirtual 57, 3) := by decide +kernel
theorem k_Tape_isRunSmall : xCal m_Tape_isRunSmall 0 := ⟨List.mem_append_right _ (List.mem_of_getElem? (i := 976) (by decide +kernel)), w_2, Nat.le_of_ble_eq_true rfl, ⟨by decide +kernel, by decide +kernel⟩, by decide +kernel, by decide +kernel, rfl⟩
theorem w_1379 : Cond.methodLink "BeaconIndex$Tape" 57 ⟨"BeaconIndex$Tape", "isRunSmall", "()Z"⟩ ∈ lw_tbl := List.mem_append_right _ (List.mem_of_getElem? (i := 1379) (by decide +kernel))
theorem w_974 : Cond.instanceMethod ⟨"BeaconIndex$Tape", "isRunSmall", "()Z"⟩ ∈ lw_tbl := List.mem_append_right _ (List.mem_of_getElem? (i := 974) (by decide +kernel))
theorem w_975 : Cond.selects "BeaconIndex$Tape" ⟨"BeaconIndex$Tape", "isRunSmall", "()Z"⟩ ⟨"BeaconIndex$Tape", "isRunSmall", "()Z"⟩ ∈ lw_tbl := List.mem_append_right _ (List.mem_of_getElem? (i := 975) (by decide +kernel))
theorem d_Tape_rowOf_33 : decode prog_9_method_6_code 33 = .ok (.ifCond .eq 9, 3) := by decide +kernel
theorem d_Tape_rowOf_42 : decode prog_9_method_6_code 42 = .ok (.aload_n 0, 1) := by decide +kernel
theorem d_Tape_rowOf_43 : decode prog_9_method_6_code 43 = .ok (.invokevirtual 63, 3) := by decide +kernel
theorem k_Tape_runWord : xCal m_Tape_runWord 0 := ⟨List.mem_append_right _ (List.mem_of_getElem? (i := 805) (by decide +kernel)), w_2, Nat.le_of_ble_eq_true rfl, ⟨by decide +kernel, by decide +kernel⟩, by decide +kernel, by decide +kernel, rfl⟩
theorem w_1381 : Cond.methodLink "BeaconIndex$Tape" 63 ⟨"BeaconIndex$Tape", "runWord", "()J"⟩ ∈ lw_tbl := List.mem_append_right _ (List.mem_of_getElem? (i := 1381) (by decide +kernel))
theorem w_803 : Cond.instanceMethod ⟨"BeaconIndex$Tape", "runWord", "()J"⟩ ∈ lw_tbl := List.mem_append_right _ (List.mem_of_getElem? (i := 803) (by decide +kernel))
theorem w_804 : Cond.selects "BeaconIndex$Tape" ⟨"BeaconIndex$Tape", "runWord", "()J"⟩ ⟨"BeaconIndex$Tape", "runWord", "()J"⟩ ∈ lw_tbl := List.mem_append_right _ (List.mem_of_getElem? (i := 804) (by decide +kernel))
theorem d_Tape_rowOf_46 : decode prog_9_method_6_code 46 = .ok (.lastore, 1) := by decide +kernel
theorem xfa_3 : xfreeA 3 = true := by decide +kernel
theorem d_Tape_rowOf_47 : decode prog_9_method_6_code 47 = .ok (.iinc 3 1, 3) := by decide +kernel
theorem d_Tape_rowOf_50 : decode prog_9_method_6_code 50 = .ok (.aload_n 0, 1) := by decide +kernel
theorem d_Tape_rowOf_51 : decode prog_9_method_6_code 51 = .ok (.getfield 29, 3) := by decide +kernel
theorem d_Tape_rowOf_54 : decode prog_9_method_6_code 54 = .ok (.istore 4, 2) := by decide +kernel
theorem d_Tape_rowOf_56 : decode prog_9_method_6_code 56 = .ok (.goto (-51), 3) := by decide +kernel
theorem d_Tape_rowOf_36 : decode prog_9_method_6_code 36 = .ok (.ldc2_w 61, 3) := by decide +kernel
theorem w_1380 : Cond.constantLong "BeaconIndex$Tape" 61 (-1 : Int64) ∈ lw_tbl := List.mem_append_right _ (List.mem_of_getElem? (i := 1380) (by decide +kernel))
theorem d_Tape_rowOf_39 : decode prog_9_method_6_code 39 = .ok (.goto 7, 3) := by decide +kernel
theorem v_Tape_rowOf_21 {G : XG} {d : Nat} {h : XH} {Q : XV → XH → Prop} {X : Nat → XH → Prop} {x2 x3 s0 : Int} (F : xFix h) (hyp : ((s0 = 0 → (xwp G m_Arrays_copyOf_aJI (d + 8) 0 [xR 3, xI x3, xZ] [] h (fun v9 h9 => xwp G m_Tape_rowOf (d + 9) 67 [xZ, xZ, xZ, xZ, xZ] (xpush v9 []) h9 Q X) X)) ∧ (¬ s0 = 0 → kpt h ∧ ((((smallH h) = true) → 0 ≤ x3 ∧ x3 < 200 ∧ (xFix (xst h 3 x3 (-1)) → xwp G m_Tape_rowOf (d + 9) 5 [xR 1, xZ, xI x2, xI (x3 + 1), xI (xpl h 1 5)] [] (xst h 3 x3 (-1)) Q X)) ∧ (¬ ((smallH h) = true) → 0 ≤ x3 ∧ x3 < 200 ∧ (xFix (xst h 3 x3 (rwH h)) → xwp G m_Tape_rowOf (d + 9) 5 [xR 1, xZ, xI x2, xI (x3 + 1), xI (xpl h 1 5)] [] (xst h 3 x3 (rwH h)) Q X)))))) : xwp G m_Tape_rowOf (d + 9) 21 [xR 1, xZ, xI x2, xI x3, xZ] [xI s0] h Q X := by
  have hnx9 : (93 : Int) ≤ xnx h := F.2.2
  refine xr_okL (fun hl9 => ?_)
  have r_x2 : -2147483648 ≤ x2 ∧ x2 ≤ 2147483647 := hl9 (xI x2) (.tail _ (.tail _ (.head _))) (Nat.le_of_ble_eq_true rfl)
  have r_x3 : -2147483648 ≤ x3 ∧ x3 ≤ 2147483647 := hl9 (xI x3) (.tail _ (.tail _ (.tail _ (.head _)))) (Nat.le_of_ble_eq_true rfl)
  refine xr_okS (fun hs9 => ?_)
  have r_s0 : -2147483648 ≤ s0 ∧ s0 ≤ 2147483647 := hs9 (xI s0) (.head _)
  refine xr_if_eq (pc := 21) (tgt := 59) (hI := d_Tape_rowOf_21) (ht := by decide) (fun q9 => ?_) (fun q9 => ?_)
  · replace hyp := hyp.1 q9
    have q1_ := q9
    clear q9
    refine xr_aload_n (pc := 59) (i := 0) (hI := d_Tape_rowOf_59) (hi := rfl) (hl := rfl) ?_
    refine xg_getf (pc := 60) (ci := 8) (k := 1) (N := 7) (v9 := 2) (v := 3) (T := xF8) (hI := d_Tape_rowOf_60) (hw := w_55) rfl xi8 (Or.inl rfl) (Nat.le_of_ble_eq_true rfl) (Nat.le_of_ble_eq_true rfl) rfl (ft_1 F) (fp_1_1 F) (fun f2_ => ?_)
    clear f2_
    refine xr_iload_n (pc := 63) (i := 3) (hI := d_Tape_rowOf_63) (hi := rfl) (hl := rfl) ?_
    exact xq_callS (pc := 64) (index := 67) (K := m_Arrays_copyOf_aJI) (As := [xR 3, xI x3]) (S := []) (L0 := [xR 3, xI x3, xZ]) (hI := d_Tape_rowOf_64) (hK := k_Arrays_copyOf_aJI) (hlk := w_1382) (hnoM := rfl) (hS8 := Nat.le_of_ble_eq_true rfl) (hstat := w_906) (hlen := Nat.le_of_ble_eq_true rfl) (hst := rfl) (hL0 := rfl)  (xwp_mono hyp (fun v9 h9 q9 => xr_drop (L9 := [xZ, xZ, xZ, xZ, xZ]) (xdrz (xdrs (xdrz (xdrz (xdrs xdr0))))) q9) (fun _ _ z9 => z9))
  · replace hyp := hyp.2 q9
    have q1_ := q9
    clear q9
    refine xr_aload_n (pc := 24) (i := 0) (hI := d_Tape_rowOf_24) (hi := rfl) (hl := rfl) ?_
    refine xg_getf (pc := 25) (ci := 8) (k := 1) (N := 7) (v9 := 2) (v := 3) (T := xF8) (hI := d_Tape_rowOf_25) (hw := w_55) rfl xi8 (Or.inl rfl) (Nat.le_of_ble_eq_true rfl) (Nat.le_of_ble_eq_true rfl) rfl (ft_1 F) (fp_1_1 F) (fun f3_ => ?_)
    clear f3_
    refine xr_iload_n (pc := 28) (i := 3) (hI := d_Tape_rowOf_28) (hi := rfl) (hl := rfl) ?_
    refine xr_aload_n (pc := 29) (i := 0) (hI := d_Tape_rowOf_29) (hi := rfl) (hl := rfl) ?_
    obtain ⟨c4_, hyp⟩ := hyp
    refine xq_callV (pc := 30) (index := 57) (K := m_Tape_isRunSmall) (As := []) (S := [xI x3, xR 3]) (L0 := [xR 1]) (hI := d_Tape_rowOf_30) (hK := k_Tape_isRunSmall) (hlk := w_1379) (hnoM := rfl) (hS8 := Nat.le_of_ble_eq_true rfl) (ci := 8) (N := 7) (C := "BeaconIndex$Tape") (T := xF8) (hc := rfl) (hci := Nat.le_of_ble_eq_true rfl) (htb := (ft_1 F)) (hinst := w_974) (hsel := w_975) (hlen := Nat.le_of_ble_eq_true rfl) (hst := rfl) (hL0 := rfl)  (p_Tape_isRunSmall F c4_ ?_)
    show xwp G m_Tape_rowOf (d + 9) 33 [xR 1, xZ, xI x2, xI x3, xZ] [xI (b2i (smallH h)), xI x3, xR 3] _ _ _
    refine xr_if_eq (pc := 33) (tgt := 42) (hI := d_Tape_rowOf_33) (ht := by decide) (fun q9 => ?_) (fun q9 => ?_)
    · replace hyp := hyp.2 (b2i_0.mp q9)
      have q5_ := b2i_0.mp q9
      clear q9
      refine xr_aload_n (pc := 42) (i := 0) (hI := d_Tape_rowOf_42) (hi := rfl) (hl := rfl) ?_
      refine xq_callV (pc := 43) (index := 63) (K := m_Tape_runWord) (As := []) (S := [xI x3, xR 3]) (L0 := [xR 1]) (hI := d_Tape_rowOf_43) (hK := k_Tape_runWord) (hlk := w_1381) (hnoM := rfl) (hS8 := Nat.le_of_ble_eq_true rfl) (ci := 8) (N := 7) (C := "BeaconIndex$Tape") (T := xF8) (hc := rfl) (hci := Nat.le_of_ble_eq_true rfl) (htb := (ft_1 F)) (hinst := w_803) (hsel := w_804) (hlen := Nat.le_of_ble_eq_true rfl) (hst := rfl) (hL0 := rfl)  (p_Tape_runWord F c4_ ?_)
      show xwp G m_Tape_rowOf (d + 9) 46 [xR 1, xZ, xI x2, xI x3, xZ] [xL (rwH h), xI x3, xR 3] _ _ _
      obtain ⟨c6_, hyp⟩ := hyp
      obtain ⟨c7_, hyp⟩ := hyp
      refine xr_lastore (pc := 46) (hI := d_Tape_rowOf_46) (ft_3 F) (by decide) c6_ (xlt_of (fl_3 F) c7_) ?_
      have F8_ : xFix (xst h 3 x3 (rwH h)) := F.stA xfa_3
      refine xr_iinc (pc := 47) (i := 3) (L9 := [xR 1, xZ, xI x2, xI (x3 + 1), xZ]) (hI := d_Tape_rowOf_47) (hl := rfl) (hn := Nat.le_of_ble_eq_true rfl) (hr := ⟨by clear hyp; omega, by clear hyp; omega⟩) (hL9 := rfl) ?_
      refine xr_aload_n (pc := 50) (i := 0) (hI := d_Tape_rowOf_50) (hi := rfl) (hl := rfl) ?_
      refine xg_getf (pc := 51) (ci := 8) (k := 5) (N := 7) (v9 := 0) (v := (xpl h 1 5)) (T := xF8) (hI := d_Tape_rowOf_51) (hw := w_61) rfl xi8 (Or.inl rfl) (Nat.le_of_ble_eq_true rfl) (Nat.le_of_ble_eq_true rfl) rfl (ft_1 F8_) (xpl_oa (by decide)) (fun f9_ => ?_)
      replace f9_ : -2147483648 ≤ (xpl h 1 5) ∧ (xpl h 1 5) ≤ 2147483647 := f9_
      refine xr_istore (pc := 54) (i := 4) (L9 := [xR 1, xZ, xI x2, xI (x3 + 1), xI (xpl h 1 5)]) (hI := d_Tape_rowOf_54) (hn := Nat.le_of_ble_eq_true rfl) (hL9 := rfl) ?_
      refine xr_goto (pc := 56) (tgt := 5) (hI := d_Tape_rowOf_56) (ht := by decide) ?_
      exact (hyp F8_)
    · replace hyp := hyp.1 (b2i_1.mp q9)
      have q5_ := b2i_1.mp q9
      clear q9
      refine xr_ldc2 (pc := 36) (z := (-1)) (hI := d_Tape_rowOf_36) (hw := w_1380) (hr := by decide) (hv := by decide) ?_
      refine xr_goto (pc := 39) (tgt := 46) (hI := d_Tape_rowOf_39) (ht := by decide) ?_
      obtain ⟨c10_, hyp⟩ := hyp
      obtain ⟨c11_, hyp⟩ := hyp
      refine xr_lastore (pc := 46) (hI := d_Tape_rowOf_46) (ft_3 F) (by decide) c10_ (xlt_of (fl_3 F) c11_) ?_
      have F12_ : xFix (xst h 3 x3 (-1)) := F.stA xfa_3
      refine xr_iinc (pc := 47) (i := 3) (L9 := [xR 1, xZ, xI x2, xI (x3 + 1), xZ]) (hI := d_Tape_rowOf_47) (hl := rfl) (hn := Nat.le_of_ble_eq_true rfl) (hr := ⟨by clear hyp; omega, by clear hyp; omega⟩) (hL9 := rfl) ?_
      refine xr_aload_n (pc := 50) (i := 0) (hI := d_Tape_rowOf_50) (hi := rfl) (hl := rfl) ?_
      refine xg_getf (pc := 51) (ci := 8) (k := 5) (N := 7) (v9 := 0) (v := (xpl h 1 5)) (T := xF8) (hI := d_Tape_rowOf_51) (hw := w_61) rfl xi8 (Or.inl rfl) (Nat.le_of_ble_eq_true rfl) (Nat.le_of_ble_eq_true rfl) rfl (ft_1 F12_) (xpl_oa (by decide)) (fun f13_ => ?_)
      replace f13_ : -2147483648 ≤ (xpl h 1 5) ∧ (xpl h 1 5) ≤ 2147483647 := f13_
      refine xr_istore (pc := 54) (i := 4) (L9 := [xR 1, xZ, xI x2, xI (x3 + 1), xI (xpl h 1 5)]) (hI := d_Tape_rowOf_54) (hn := Nat.le_of_ble_eq_true rfl) (hL9 := rfl) ?_
      refine xr_goto (pc := 56) (tgt := 5) (hI := d_Tape_rowOf_56) (ht := by decide) ?_
      exact (hyp F12_)
theorem d_Tape_rowOf_67 : decode prog_9_method_6_code 67 = .ok (.areturn, 1) := by decide +kernel
theorem v_Tape_rowOf_67 {G : XG} {d : Nat} {h : XH} {Q : XV → XH → Prop} {X : Nat → XH → Prop} {s0 : Int} (F : xFix h) (hyp : (Q (xR s0) h)) : xwp G m_Tape_rowOf (d + 9) 67 [xZ, xZ, xZ, xZ, xZ] [xR s0] h Q X := by
  have hnx9 : (93 : Int) ≤ xnx h := F.2.2
  refine xr_areturn (S := []) (pc := 67) (hI := d_Tape_rowOf_67) (hr := rfl) (hrt := Or.inr ⟨_, rfl⟩) ?_
  exact hyp
theorem reF_end (bs : List Int) : ∀ (n : Nat) (i : Int), reF bs n i = i + n ∨ sgn (lat bs (reF bs n i)) = 0
  | 0, i => Or.inl (by simp [reF])
  | n + 1, i => by
    unfold reF
    split
    · exact Or.inr (by assumption)
    · rcases reF_end bs n (i + 1) with z | z
      · exact Or.inl (by omega)
      · exact Or.inr z
theorem re_end (bs : List Int) {i lim : Int} (h : i ≤ lim) : re bs i lim = lim ∨ sgn (lat bs (re bs i lim)) = 0 := by
  rcases reF_end bs (lim - i).toNat i with z | z
  · exact Or.inl (by unfold re; omega)
  · exact Or.inr z
theorem rs_step (bs : List Int) {i lim : Int} (h : i < lim) (e : sgn (lat bs i) = 0) : rs bs i lim = rs bs (i + 1) lim := by
  unfold rs
  rw [show (lim - i).toNat = (lim - (i + 1)).toNat + 1 by omega]
  show (if sgn (lat bs i) = 0 then _ else _) = _
  rw [if_pos e]
theorem rs_here (bs : List Int) {i lim : Int} (h : i < lim) (e : ¬ sgn (lat bs i) = 0) : rs bs i lim = i := by
  unfold rs
  rw [show (lim - i).toNat = (lim - (i + 1)).toNat + 1 by omega]
  show (if sgn (lat bs i) = 0 then _ else _) = _
  rw [if_neg e]
theorem rs_lim (bs : List Int) (lim : Int) : rs bs lim lim = lim := by
  unfold rs
  rw [show (lim - lim).toNat = 0 by omega]; rfl
/-- the words of a stretch -/
def runV (bs : List Int) (s e : Int) : Int := if smallL (runL bs s e) = true then -1 else rwL (runL bs s e)
def rowF (bs : List Int) (lim : Int) : Nat → Int → List Int
  | 0, _ => []
  | n + 1, i => if rs bs i lim < re bs (rs bs i lim) lim then runV bs (rs bs i lim) (re bs (rs bs i lim) lim) :: rowF bs lim n (re bs (rs bs i lim) lim) else []
theorem rowF_succ (bs : List Int) (lim : Int) (n : Nat) (i : Int) : rowF bs lim (n + 1) i = if rs bs i lim < re bs (rs bs i lim) lim then runV bs (rs bs i lim) (re bs (rs bs i lim) lim) :: rowF bs lim n (re bs (rs bs i lim) lim) else [] := rfl
def rowS (bs : List Int) (i lim : Int) : List Int := rowF bs lim (lim - i).toNat i
/-- a row of longs -/
def RowR (h : XH) (r : Int) (ws : List Int) : Prop := xtg h r = 101 ∧ xln h r = ws.length ∧ ∀ i : Nat, i < ws.length → ws[i]? = some (xpl h r i)
theorem rwH_lr {h : XH} : True := trivial
theorem s_Tape_rowOf {G : XG} {d : Nat} {h : XH} {Q : XV → XH → Prop} {X : Nat → XH → Prop} {i lim : Int} {bs : List Int} (F : xFix h) (R : TapeR h bs) (h0 : 0 ≤ i) (h1 : i ≤ lim) (h2 : lim ≤ bs.length) (hc : xnx h + 1 ≤ xKC) (hs : xsl h + 200 ≤ xKS)
    (hq : ∀ h', xFix h' → xsm TPC h h' → xnx h' = xnx h + 1 → xsl h' ≤ xsl h + 200 → TapeR h' bs → RowR h' (xnx h) (rowS bs i lim) → (rowS bs i lim).length ≤ 200 → Q (xR (xnx h)) h') : xwp G m_Tape_rowOf (d + 9) 0 [xR 1, xI i, xI lim, xZ, xZ] [] h Q X := by
  have hb := R.2.1
  have hnx := F.nx
  -- the row is copied
  have fin : ∀ (pre : List Int) (h3 : XH), xFix h3 → xsm TPC h h3 → xnx h3 = xnx h → xsl h3 = xsl h → TapeR h3 bs → pre.length ≤ 200 → (∀ j : Nat, j < pre.length → pre[j]? = some (xpl h3 3 j)) → pre = rowS bs i lim → xwp G m_Arrays_copyOf_aJI (d + 8) 0 [xR 3, xI pre.length, xZ] [] h3 (fun v9 h9 => xwp G m_Tape_rowOf (d + 9) 67 [xZ, xZ, xZ, xZ, xZ] (xpush v9 []) h9 Q X) X := by
    intro pre h3 F3 e3 n3 m3 R3 hl hp hw
    have l3 := fl_3 F3
    refine s_copyOfJ F3 (ft_3 F3) (by have := F3.nx; omega) (by decide) (by omega) (by omega) (by omega) (by omega) (by omega) (fun h4 F4 e4 n4 m4 t4 l4 g4 el => ?_)
    refine v_Tape_rowOf_67 F4 ?_
    have hnx3 := F3.nx
    rw [n3] at n4 t4 l4 g4 el ⊢
    have k1 : ∀ a, a < xnx h3 → ∀ k, xpl h4 a k = xpl h3 a k := fun a ha k => e4.pl ha (fun z => z.elim) k
    refine hq h4 F4 (e3.trans (e4.mono fun c _ z => z.elim)) n4 (by omega) (R3.keep (k1 1 (by omega) 3) (k1 2 (by omega))) ?_ (by rw [← hw]; exact hl)
    rw [← hw]
    refine ⟨t4, l4, fun j hj => ?_⟩
    rw [el j (by omega) (by omega) (by omega)]
    exact hp j hj
  have loop : ∀ (n : Nat) (p : Int) (pre : List Int) (h3 : XH), i ≤ p → p + n = lim → (2 * pre.length : Int) ≤ p + 1 → (pre.length = 0 ∨ p = lim ∨ sgn (lat bs p) = 0) → pre.length ≤ 200 → xFix h3 → xsm TPC h h3 → xnx h3 = xnx h → xsl h3 = xsl h → TapeR h3 bs → (∀ j : Nat, j < pre.length → pre[j]? = some (xpl h3 3 j)) → pre ++ rowF bs lim n p = rowS bs i lim → xwp G m_Tape_rowOf (d + 9) 5 [xR 1, xZ, xI lim, xI pre.length, xI p] [] h3 Q X := by
    intro n
    induction n using Nat.strongRecOn with
    | ind n ih =>
      intro p pre h3 p0 p1 hc2 hz hl F3 e3 n3 m3 R3 hp hw
      obtain ⟨s, hs9⟩ : ∃ s, s = rs bs p lim := ⟨_, rfl⟩
      have hs2 := rs_rng bs (i := p) (lim := lim) (by omega)
      obtain ⟨e, he9⟩ : ∃ e, e = re bs s lim := ⟨_, rfl⟩
      have he2 := re_rng bs (i := s) (lim := lim) (by omega)
      have he3 := re_end bs (i := s) (lim := lim) (by omega)
      have hdone : ¬ s < e → rowF bs lim n p = [] := by
        intro z
        cases n with
        | zero => rfl
        | succ n => unfold rowF; rw [← hs9, ← he9, if_neg z]
      refine v_Tape_rowOf_5 F3 ?_
      refine ⟨fun q1 => ?_, fun q1 => ?_⟩
      · refine fin pre h3 F3 e3 n3 m3 R3 hl hp ?_
        have hlen : pre.length = 200 := by omega
        have : ¬ s < e := by
          rcases hz with z | z | z
          · omega
          · omega
          · by_cases q : p < lim
            · rw [rs_step bs q z, show p + 1 = lim by omega, rs_lim] at hs9
              omega
            · omega
        rw [hdone this, List.append_nil] at hw
        exact hw
      · refine s_Tape_seekRun F3 R3 (by omega) (by omega) h2 (fun h4 s' e' hs' he' F4 e4 n4 m4 R4 g4 g5 rl k3 => ?_)
        rw [← hs9] at hs'
        subst hs'
        rw [← he9] at he'
        subst he'
        have hp4 : ∀ j : Nat, j < pre.length → pre[j]? = some (xpl h4 3 j) := fun j hj => by rw [k3]; exact hp j hj
        have kp := rl.kp
        refine v_Tape_rowOf_21 F4 ?_
        refine ⟨fun q1 => ?_, fun q1 => ?_⟩
        · have hse : ¬ s' < e' := fun z => by rw [decide_eq_true z] at q1; exact absurd q1 (by decide)
          rw [hdone hse, List.append_nil] at hw
          exact fin pre h4 F4 (e3.trans e4) (by omega) (by omega) R4 hl hp4 hw
        · refine ⟨?_, ?_⟩
          · first | exact kp | omega
          · refine ⟨fun q2 => ?_, fun q2 => ?_⟩
            · refine ⟨?_, ?_⟩
              · first | exact kp | omega
              · refine ⟨?_, ?_⟩
                · first | exact kp | omega
                · intro F9
                  have n4' : xnx h4 = xnx h := by omega
                  have m4' : xsl h4 = xsl h := by omega
                  have hse : s' < e' := by
                    by_cases z : s' < e'
                    · exact z
                    · rw [decide_eq_false z] at q1; exact absurd rfl q1
                  have hn : ∃ n', n = n' + 1 := ⟨n - 1, by omega⟩
                  obtain ⟨n', rfl⟩ := hn
                  have hv : runV bs s' e' = (-1) := by
                    unfold runV
                    rw [← rl.small F4]
                    rw [if_pos q2]
                  have hfuel : ∀ (m k : Nat) (q : Int), q + m = lim → m ≤ k → rowF bs lim k q = rowF bs lim m q := by
                    intro m
                    induction m using Nat.strongRecOn with
                    | ind m ihm =>
                      intro k q hq1 hk
                      cases m with
                      | zero =>
                        cases k with
                        | zero => rfl
                        | succ k =>
                          have : q = lim := by omega
                          subst this
                          unfold rowF
                          rw [rs_lim, if_neg (by have := re_rng bs (i := q) (lim := q) (by omega); omega)]
                      | succ m =>
                        cases k with
                        | zero => omega
                        | succ k =>
                          unfold rowF
                          have g1 := rs_rng bs (i := q) (lim := lim) (by omega)
                          have g2 := re_rng bs (i := rs bs q lim) (lim := lim) (by omega)
                          by_cases z : rs bs q lim < re bs (rs bs q lim) lim
                          · rw [if_pos z, if_pos z]
                            congr 1
                            rw [ihm (lim - re bs (rs bs q lim) lim).toNat (by omega) k _ (by omega) (by omega), ihm (lim - re bs (rs bs q lim) lim).toNat (by omega) m _ (by omega) (by omega)]
                          · rw [if_neg z, if_neg z]
                  have hw2 : (pre ++ [(-1)]) ++ rowF bs lim (lim - e').toNat e' = rowS bs i lim := by
                    rw [← hw, List.append_assoc]
                    congr 1
                    rw [rowF_succ, ← hs9, ← he9, if_pos hse, hv, hfuel (lim - e').toNat n' e' (by omega) (by omega)]
                    rfl
                  have hlen2 : ((pre ++ [(-1)]).length : Int) = pre.length + 1 := by rw [List.length_append]; rfl
                  rw [g5]
                  have hsp : pre.length = 0 ∨ p < s' := by
                    rcases hz with z | z | z
                    · exact Or.inl z
                    · omega
                    · rw [rs_step bs (by omega) z] at hs9
                      have := rs_rng bs (i := p + 1) (lim := lim) (by omega)
                      exact Or.inr (by omega)
                  have := ih (lim - e').toNat (by omega) e' (pre ++ [(-1)]) _ (by omega) (by omega) (by omega) (Or.inr (by rw [he9]; exact he3)) (by omega) F9 ((e3.trans e4).st (by omega) (Or.inl (Or.inr (Or.inr (Or.inl rfl))))) n4' m4' (R4.keep (xpl_oa (by decide)) (fun j => xpl_oa (by decide))) (fun j hj => ?_) hw2
                  · rw [hlen2] at this; exact this
                  · by_cases z : j = pre.length
                    · subst z
                      rw [xpl_hit, List.getElem?_append_right (Nat.le_refl _), Nat.sub_self]; rfl
                    · rw [xpl_ok (by omega), List.getElem?_append_left (by omega)]
                      exact hp4 j (by omega)
            · refine ⟨?_, ?_⟩
              · first | exact kp | omega
              · refine ⟨?_, ?_⟩
                · first | exact kp | omega
                · intro F9
                  have n4' : xnx h4 = xnx h := by omega
                  have m4' : xsl h4 = xsl h := by omega
                  have hse : s' < e' := by
                    by_cases z : s' < e'
                    · exact z
                    · rw [decide_eq_false z] at q1; exact absurd rfl q1
                  have hn : ∃ n', n = n' + 1 := ⟨n - 1, by omega⟩
                  obtain ⟨n', rfl⟩ := hn
                  have hv : runV bs s' e' = (rwH h4) := by
                    unfold runV
                    rw [← rl.small F4]
                    rw [if_neg q2, ← rl.rw F4]
                  have hfuel : ∀ (m k : Nat) (q : Int), q + m = lim → m ≤ k → rowF bs lim k q = rowF bs lim m q := by
                    intro m
                    induction m using Nat.strongRecOn with
                    | ind m ihm =>
                      intro k q hq1 hk
                      cases m with
                      | zero =>
                        cases k with
                        | zero => rfl
                        | succ k =>
                          have : q = lim := by omega
                          subst this
                          unfold rowF
                          rw [rs_lim, if_neg (by have := re_rng bs (i := q) (lim := q) (by omega); omega)]
                      | succ m =>
                        cases k with
                        | zero => omega
                        | succ k =>
                          unfold rowF
                          have g1 := rs_rng bs (i := q) (lim := lim) (by omega)
                          have g2 := re_rng bs (i := rs bs q lim) (lim := lim) (by omega)
                          by_cases z : rs bs q lim < re bs (rs bs q lim) lim
                          · rw [if_pos z, if_pos z]
                            congr 1
                            rw [ihm (lim - re bs (rs bs q lim) lim).toNat (by omega) k _ (by omega) (by omega), ihm (lim - re bs (rs bs q lim) lim).toNat (by omega) m _ (by omega) (by omega)]
                          · rw [if_neg z, if_neg z]
                  have hw2 : (pre ++ [(rwH h4)]) ++ rowF bs lim (lim - e').toNat e' = rowS bs i lim := by
                    rw [← hw, List.append_assoc]
                    congr 1
                    rw [rowF_succ, ← hs9, ← he9, if_pos hse, hv, hfuel (lim - e').toNat n' e' (by omega) (by omega)]
                    rfl
                  have hlen2 : ((pre ++ [(rwH h4)]).length : Int) = pre.length + 1 := by rw [List.length_append]; rfl
                  rw [g5]
                  have hsp : pre.length = 0 ∨ p < s' := by
                    rcases hz with z | z | z
                    · exact Or.inl z
                    · omega
                    · rw [rs_step bs (by omega) z] at hs9
                      have := rs_rng bs (i := p + 1) (lim := lim) (by omega)
                      exact Or.inr (by omega)
                  have := ih (lim - e').toNat (by omega) e' (pre ++ [(rwH h4)]) _ (by omega) (by omega) (by omega) (Or.inr (by rw [he9]; exact he3)) (by omega) F9 ((e3.trans e4).st (by omega) (Or.inl (Or.inr (Or.inr (Or.inl rfl))))) n4' m4' (R4.keep (xpl_oa (by decide)) (fun j => xpl_oa (by decide))) (fun j hj => ?_) hw2
                  · rw [hlen2] at this; exact this
                  · by_cases z : j = pre.length
                    · subst z
                      rw [xpl_hit, List.getElem?_append_right (Nat.le_refl _), Nat.sub_self]; rfl
                    · rw [xpl_ok (by omega), List.getElem?_append_left (by omega)]
                      exact hp4 j (by omega)
  refine v_Tape_rowOf_0 F ?_
  exact loop (lim - i).toNat i [] h (by omega) (by omega) (by simp; omega) (Or.inl rfl) (by simp) F (xsm.refl h) rfl rfl R (fun j hj => absurd hj (Nat.not_lt_zero j)) rfl

end
