/-! ===== mop2 ===== -/
section
theorem seg_rng {z : List Int} {f : List (Txt × Bool)} {x : Int} (W : Swf z f) (h0 : 0 ≤ x) (h1 : x < z.length) : 0 ≤ stA z x ∧ 1 ≤ szA z x ∧ stA z x + szA z x ≤ f.length := by
  obtain ⟨w1, w2⟩ := W
  have r1 := stA_rng2 w2 x
  have r2 := stA_rng2 w2 (x + 1)
  rw [stA_succ h0 h1] at r2
  have s1 : 1 ≤ szA z x := by
    unfold szA
    rw [if_neg (by omega)]
    have hl : x.toNat < z.length := by omega
    rw [List.getElem?_eq_getElem hl]
    exact w2 _ (List.getElem_mem hl)
  omega
theorem p_M_markedIn {G : XG} {d : Nat} {h : XH} {Q : XV → XH → Prop} {X : Nat → XH → Prop} {s : CS} {x : Int} (F : xFix h) (R : MSR h (fbF (fC s) (bC s)) (zC s) (mC s)) (W : Swf (zC s) (fC s)) (hq : MRd Q xI h [3] (cMarkedIn s x).1) : xwp G m_M_markedIn (d + 4) 0 [xR 53, xI x] [] h Q X := by
  have n5 := R.2.1.2.2.1
  have zl := R.2.1.2.2.2.1
  unfold cMarkedIn at hq
  refine v_M_markedIn_0 F ?_
  refine ⟨?_, ?_⟩
  · exact ⟨by omega, by omega⟩
  · refine ⟨fun q1 => ?_, fun q1 => ?_⟩
    · intro F9
      rw [if_neg (by omega)] at hq; exact hq F9
    · refine ⟨fun q2 => ?_, fun q2 => ?_⟩
      · intro F9
        rw [if_neg (by omega)] at hq; exact hq F9
      · intro F9
        rw [if_pos ⟨by omega, by omega⟩] at hq
        have sr := seg_rng W (x := x) (by omega) (by omega)
        refine p_M_marks F9 R.th (by omega) (by omega) ?_
        rw [goneF_fb _ (by omega)]
        refine v_M_markedIn_17 F9 ?_
        exact hq F9
theorem p_M_levelOf {G : XG} {d : Nat} {h : XH} {Q : XV → XH → Prop} {X : Nat → XH → Prop} {s : CS} {x : Int} (F : xFix h) (R : MSR h (fbF (fC s) (bC s)) (zC s) (mC s)) (hq : MRd Q xI h [3] (cLevelOf s x).1) : xwp G m_M_levelOf (d + 4) 0 [xR 53, xI x] [] h Q X := by
  have n5 := R.2.1.2.2.1
  have zl := R.2.1.2.2.2.1
  unfold cLevelOf at hq
  refine v_M_levelOf_0 F ?_
  refine ⟨?_, ?_⟩
  · exact ⟨by omega, by omega⟩
  · refine ⟨fun q1 => ?_, fun q1 => ?_⟩
    · intro F9
      rw [if_neg (by omega)] at hq; exact hq F9
    · refine ⟨fun q2 => ?_, fun q2 => ?_⟩
      · intro F9
        rw [if_neg (by omega)] at hq; exact hq F9
      · intro F9
        rw [if_pos ⟨by omega, by omega⟩] at hq
        refine p_M_level F9 R.th (by omega) (by omega) ?_
        refine v_M_levelOf_17 F9 ?_
        exact hq F9
theorem take_fb {s : CS} (W : Swf (zC s) (fC s)) : (fbF (fC s) (bC s)).take (zC s).sum.toNat = fC s := by
  have w1 := W.1
  rw [show (zC s).sum.toNat = (fC s).length by omega, fb_take]
theorem p_M_textsWith {G : XG} {d : Nat} {h : XH} {Q : XV → XH → Prop} {X : Nat → XH → Prop} {s : CS} {x : Int} (F : xFix h) (R : MSR h (fbF (fC s) (bC s)) (zC s) (mC s)) (W : Swf (zC s) (fC s)) (hw : xpl h 53 14 = wC s) (hq : MRd Q xI h [3] (cTextsWith s x).1) : xwp G m_M_textsWith (d + 4) 0 [xR 53, xI x] [] h Q X := by
  unfold cTextsWith at hq
  have hw2 : ∀ v, xpl (xst h 53 0 v) 53 14 = wC s := fun v => (xpl_ok (by decide)).trans hw
  refine v_M_textsWith_0 F ?_
  refine ⟨fun q1 => ?_, fun q1 => ?_⟩
  · intro F9
    rw [if_pos ⟨by omega, by omega⟩] at hq
    refine p_M_manyWith F9 R.th (Or.inl q1) ?_
    rw [hw2, take_fb W]
    refine v_M_textsWith_16 F9 ?_
    exact hq F9
  · refine ⟨fun q2 => ?_, fun q2 => ?_⟩
    · intro F9
      rw [if_pos ⟨by omega, by omega⟩] at hq
      refine p_M_manyWith F9 R.th (Or.inr q2) ?_
      rw [hw2, take_fb W]
      refine v_M_textsWith_16 F9 ?_
      exact hq F9
    · intro F9
      rw [if_neg (by omega)] at hq; exact hq F9
theorem p_M_rarity {G : XG} {d : Nat} {h : XH} {Q : XV → XH → Prop} {X : Nat → XH → Prop} {s : CS} {x : Int} (F : xFix h) (R : MSR h (fbF (fC s) (bC s)) (zC s) (mC s)) (W : Swf (zC s) (fC s)) (hw : xpl h 53 14 = wC s) (hq : MRd Q xI h [3] (cRarity s x).1) : xwp G m_M_rarity (d + 4) 0 [xR 53, xI x] [] h Q X := by
  unfold cRarity at hq
  have hw2 : ∀ v, xpl (xst h 53 0 v) 53 14 = wC s := fun v => (xpl_ok (by decide)).trans hw
  have tw := twF_rng x (wC s) (fC s)
  have tl := R.2.1.2.1
  rw [fb_len] at tl
  have fin : ∀ H, xFix H → MSR H (fbF (fC s) (bC s)) (zC s) (mC s) → Q (xI (rrF (fC s).length (twF x (wC s) (fC s)))) H → xwp G m_M_rarity (d + 4) 17 [xZ, xZ] [xI (twF x (wC s) (fC s)), xR 53] H Q X := fun H FH RH hH => by
    refine v_M_rarity_17 FH ⟨ft_53 FH, ?_⟩
    refine p_M_rarityOf FH RH tw.1 (by omega) ?_
    rw [W.1]
    exact v_M_rarity_20 FH hH
  refine v_M_rarity_0 F ?_
  refine ⟨fun q1 => ?_, fun q1 => ?_⟩
  · intro F9
    rw [if_pos ⟨by omega, by omega⟩] at hq
    refine p_M_manyWith F9 R.th (Or.inl q1) ?_
    rw [hw2, take_fb W]
    exact fin _ F9 R.th (hq F9)
  · refine ⟨fun q2 => ?_, fun q2 => ?_⟩
    · intro F9
      rw [if_pos ⟨by omega, by omega⟩] at hq
      refine p_M_manyWith F9 R.th (Or.inr q2) ?_
      rw [hw2, take_fb W]
      exact fin _ F9 R.th (hq F9)
    · intro F9
      rw [if_neg (by omega)] at hq; exact hq F9

end
