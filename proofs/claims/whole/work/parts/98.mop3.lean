/-! ===== mop3 ===== -/
section
theorem fb_at {s : CS} {h : XH} {i : Int} (R : MSR h (fbF (fC s) (bC s)) (zC s) (mC s)) (h0 : 0 ≤ i) (h1 : i < (fC s).length) : MTx h (xpl h 55 i) (fA s i) := by
  obtain ⟨t, t1, t2⟩ := R.tx h0 (by rw [fb_len]; omega)
  rw [fb_lo (bC s) (by omega)] at t1
  have e := fA_at (s := s) (i := i.toNat) (by omega)
  rw [show ((i.toNat : Nat) : Int) = i by omega, t1] at e
  rw [← Option.some.inj e]; exact t2
theorem p_M_keyAt {G : XG} {d : Nat} {h : XH} {Q : XV → XH → Prop} {X : Nat → XH → Prop} {s : CS} {x y : Int} (F : xFix h) (R : MSR h (fbF (fC s) (bC s)) (zC s) (mC s)) (W : Swf (zC s) (fC s)) (hq : MRd Q xI h [3] (cKeyAt s x y).1) : xwp G m_M_keyAt (d + 4) 0 [xR 53, xI x, xI y] [] h Q X := by
  have tl := R.2.1.2.1
  rw [fb_len] at tl
  unfold cKeyAt at hq
  refine v_M_keyAt_0 F ?_
  refine p_M_isText F R ?_
  by_cases z : 0 ≤ x ∧ x < (zC s).length ∧ 0 ≤ y ∧ y < szA (zC s) x
  · rw [decide_eq_true z]
    rw [if_pos ⟨⟨z.1, z.2.1⟩, z.2.2⟩] at hq
    have sr := seg_rng W z.1 z.2.1
    have r9 := R.1.1 (stA (zC s) x + y) (by omega) (by omega)
    refine v_M_keyAt_7 F ?_
    refine ⟨?_, ?_⟩
    · first | exact ft_53 F | decide
    · refine ⟨fun q1 => ?_, fun q1 => ?_⟩
      · refine ⟨?_, ?_⟩
        · first | exact ft_53 F | decide
        · intro F9
          exact absurd q1 (by decide)
      · refine ⟨?_, ?_⟩
        · first | exact ft_53 F | decide
        · refine ⟨?_, ?_⟩
          · first | exact ft_53 F | decide
          · refine ⟨fun q2 => ?_, fun q2 => ?_⟩
            · intro F9
              exact absurd q2 (by decide)
            · intro F9
              refine p_M_at F9 R.th z.1 z.2.1 z.2.2.1 z.2.2.2 ?_
              have ot : xpl (xst h 53 0 0) 55 (stA (zC s) x + y) = xpl h 55 (stA (zC s) x + y) := xpl_oa (by decide)
              have tx := fb_at (R.th (v := 0)) (i := stA (zC s) x + y) (by omega) (by omega)
              refine v_M_keyAt_23 F9 ⟨ft_57 F9, by rw [ot]; exact r9.1, xlt_of (fl_57 F9) (by rw [ot]; exact r9.2), ?_⟩
              rw [tx.1.1]
              exact hq F9
  · rw [decide_eq_false z]
    rw [if_neg (fun w => z ⟨w.1.1, w.1.2, w.2⟩)] at hq
    refine v_M_keyAt_7 F ?_
    refine ⟨?_, ?_⟩
    · first | exact ft_53 F | decide
    · refine ⟨fun q1 => ?_, fun q1 => ?_⟩
      · refine ⟨?_, ?_⟩
        · first | exact ft_53 F | decide
        · intro F9
          exact hq F9
      · refine ⟨?_, ?_⟩
        · first | exact ft_53 F | decide
        · refine ⟨?_, ?_⟩
          · first | exact ft_53 F | decide
          · refine ⟨fun q2 => ?_, fun q2 => ?_⟩
            · intro F9
              exact absurd rfl q1
            · intro F9
              exact absurd rfl q1

end
