/-! ===== mop4 ===== -/
section
theorem p_M_isMarked {G : XG} {d : Nat} {h : XH} {Q : XV → XH → Prop} {X : Nat → XH → Prop} {s : CS} {x y : Int} (F : xFix h) (R : MSR h (fbF (fC s) (bC s)) (zC s) (mC s)) (W : Swf (zC s) (fC s)) (hq : MRd Q xI h [3] (cIsMarked s x y).1) : xwp G m_M_isMarked (d + 4) 0 [xR 53, xI x, xI y] [] h Q X := by
  have tl := R.2.1.2.1
  rw [fb_len] at tl
  unfold cIsMarked at hq
  refine v_M_isMarked_0 F ?_
  refine p_M_isText F R ?_
  by_cases z : 0 ≤ x ∧ x < (zC s).length ∧ 0 ≤ y ∧ y < szA (zC s) x
  · rw [decide_eq_true z]
    rw [if_pos ⟨⟨z.1, z.2.1⟩, z.2.2⟩] at hq
    have sr := seg_rng W z.1 z.2.1
    have r9 := R.1.1 (stA (zC s) x + y) (by omega) (by omega)
    refine v_M_isMarked_7 F ?_
    refine ⟨?_, ?_⟩
    · first | exact ft_53 F | decide
    · refine ⟨fun q1 => ?_, fun q1 => ?_⟩
      · refine ⟨?_, ?_⟩
        · first | exact ft_53 F | decide
        · intro F9
          exact absurd q1 (by decide)
      · refine ⟨?_, ?_⟩
        · first | exact ft_53 F | decide
        · refine ⟨?_, ?_⟩
          · first | exact ft_53 F | decide
          · refine ⟨fun q2 => ?_, fun q2 => ?_⟩
            · intro F9
              exact absurd q2 (by decide)
            · intro F9
              refine p_M_at F9 R.th z.1 z.2.1 z.2.2.1 z.2.2.2 ?_
              have ot : xpl (xst h 53 0 0) 55 (stA (zC s) x + y) = xpl h 55 (stA (zC s) x + y) := xpl_oa (by decide)
              have tx := fb_at (R.th (v := 0)) (i := stA (zC s) x + y) (by omega) (by omega)
              have q60 := tx.1.2.2.2
              refine v_M_isMarked_23 F9 ?_
              refine ⟨?_, ?_⟩
              · first | exact ft_60 F9 | (rw [ot]; exact r9.1) | exact xlt_of (fl_60 F9) (by rw [ot]; exact r9.2)
              · refine ⟨?_, ?_⟩
                · first | exact ft_60 F9 | (rw [ot]; exact r9.1) | exact xlt_of (fl_60 F9) (by rw [ot]; exact r9.2)
                · refine ⟨?_, ?_⟩
                  · first | exact ft_60 F9 | (rw [ot]; exact r9.1) | exact xlt_of (fl_60 F9) (by rw [ot]; exact r9.2)
                  · refine ⟨fun q1 => ?_, fun q1 => ?_⟩
                    · rw [q60] at q1
                      have hh := hq F9
                      have e := bz0 q1
                      rw [e] at hh; exact hh
                    · rw [q60] at q1
                      have hh := hq F9
                      have e := bz1 q1
                      rw [e] at hh; exact hh
  · rw [decide_eq_false z]
    rw [if_neg (fun w => z ⟨w.1.1, w.1.2, w.2⟩)] at hq
    refine v_M_isMarked_7 F ?_
    refine ⟨?_, ?_⟩
    · first | exact ft_53 F | decide
    · refine ⟨fun q1 => ?_, fun q1 => ?_⟩
      · refine ⟨?_, ?_⟩
        · first | exact ft_53 F | decide
        · intro F9
          exact hq F9
      · refine ⟨?_, ?_⟩
        · first | exact ft_53 F | decide
        · refine ⟨?_, ?_⟩
          · first | exact ft_53 F | decide
          · refine ⟨fun q2 => ?_, fun q2 => ?_⟩
            · intro F9
              exact absurd rfl q1
            · intro F9
              exact absurd rfl q1

end
