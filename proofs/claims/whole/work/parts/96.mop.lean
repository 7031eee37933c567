/-! ===== mop ===== -/
section
/-- the model's number of an exception: its place in the method's list -/
def thr (l : List Int) (c : Int) : Int := idxI (fun x => decide (x = c)) l + 1
/-- an answer of the model's that changes nothing but what is thrown -/
def MRd (Q : XV → XH → Prop) (mk : Int → XV) (h : XH) (l : List Int) (R : Int × Int) : Prop := xFix (xst h 53 0 (thr l R.1)) → Q (mk R.2) (xst h 53 0 (thr l R.1))
theorem MSR.th {h : XH} {T : List (Txt × Bool)} {z : List Int} {m v : Int} (R : MSR h T z m) : MSR (xst h 53 0 v) T z m := by
  have A : MSA (xst h 53 0 v) T := by
    obtain ⟨⟨p1, p2⟩, ⟨n1, n2⟩, tx⟩ := R.a
    have o : ∀ c k, c ≠ 53 → xpl (xst h 53 0 v) c k = xpl h c k := fun c k hc => xpl_oa hc
    exact ⟨⟨fun i i0 i1 => by rw [o 55 _ (by decide)]; exact p1 i i0 i1, fun i j i0 i1 j0 j1 e => by rw [o 55 _ (by decide), o 55 _ (by decide)] at e; exact p2 i j i0 i1 j0 j1 e⟩, ⟨(xpl_ok (by decide)).trans n1, n2⟩, fun i t ht => by rw [o 55 _ (by decide)]; exact (tx i t ht).keep (fun c k c1 c2 => o c k (by omega))⟩
  exact A.msr R (xpl_ok (by decide)) (xpl_ok (by decide)) (fun k => xpl_oa (by decide)) R.2.2.2.2.1
theorem p_M_texts {G : XG} {d : Nat} {h : XH} {Q : XV → XH → Prop} {X : Nat → XH → Prop} {s : CS} (F : xFix h) (R : MSR h (fbF (fC s) (bC s)) (zC s) (mC s)) (hq : MRd Q xI h [] (cTexts s).1) : xwp G m_M_texts (d + 4) 0 [xR 53] [] h Q X := by
  have n4 := R.2.1.1
  rw [fb_len] at n4
  refine v_M_texts_0 F ?_
  intro F9
  have q := hq F9
  rw [show (cTexts s).1.2 = xpl h 53 4 by rw [n4]; show ((bC s).length : Int) + (fC s).length = _; omega] at q
  exact q
theorem p_M_segments {G : XG} {d : Nat} {h : XH} {Q : XV → XH → Prop} {X : Nat → XH → Prop} {s : CS} (F : xFix h) (R : MSR h (fbF (fC s) (bC s)) (zC s) (mC s)) (hq : MRd Q xI h [] (cSegments s).1) : xwp G m_M_segments (d + 4) 0 [xR 53] [] h Q X := by
  have n5 := R.2.1.2.2.1
  refine v_M_segments_0 F ?_
  intro F9
  have q := hq F9
  rw [show (cSegments s).1.2 = xpl h 53 5 from n5.symm] at q
  exact q
theorem p_M_merges {G : XG} {d : Nat} {h : XH} {Q : XV → XH → Prop} {X : Nat → XH → Prop} {s : CS} (F : xFix h) (R : MSR h (fbF (fC s) (bC s)) (zC s) (mC s)) (hq : MRd Q xI h [] (cMerges s).1) : xwp G m_M_merges (d + 4) 0 [xR 53] [] h Q X := by
  have n6 := R.2.1.2.2.2.2
  refine v_M_merges_0 F ?_
  intro F9
  have q := hq F9
  rw [show (cMerges s).1.2 = xpl h 53 6 from n6.symm] at q
  exact q
theorem p_M_buffered {G : XG} {d : Nat} {h : XH} {Q : XV → XH → Prop} {X : Nat → XH → Prop} {s : CS} (F : xFix h) (R : MSR h (fbF (fC s) (bC s)) (zC s) (mC s)) (W : Swf (zC s) (fC s)) (hq : MRd Q xI h [] (cBuffered s).1) : xwp G m_M_buffered (d + 4) 0 [xR 53] [] h Q X := by
  have n4 := R.2.1.1
  have tl := R.2.1.2.1
  rw [fb_len] at n4 tl
  have w1 := W.1
  refine v_M_buffered_0 F ?_
  refine p_M_inSegments F R ?_
  refine v_M_buffered_9 F ?_
  refine ⟨?_, ?_⟩
  · first | exact ft_53 F | exact ⟨by omega, by omega⟩ | decide
  · refine ⟨?_, ?_⟩
    · first | exact ft_53 F | exact ⟨by omega, by omega⟩ | decide
    · refine ⟨?_, ?_⟩
      · first | exact ft_53 F | exact ⟨by omega, by omega⟩ | decide
      · intro F9
        have q := hq F9
        rw [show (cBuffered s).1.2 = xpl h 53 4 - (zC s).sum by rw [n4]; show ((bC s).length : Int) = _; omega] at q
        exact q
theorem p_M_textsIn {G : XG} {d : Nat} {h : XH} {Q : XV → XH → Prop} {X : Nat → XH → Prop} {s : CS} {x : Int} (F : xFix h) (R : MSR h (fbF (fC s) (bC s)) (zC s) (mC s)) (hq : MRd Q xI h [3] (cTextsIn s x).1) : xwp G m_M_textsIn (d + 4) 0 [xR 53, xI x] [] h Q X := by
  have n5 := R.2.1.2.2.1
  have zl := R.2.1.2.2.2.1
  unfold cTextsIn at hq
  refine v_M_textsIn_0 F ?_
  refine ⟨?_, ?_⟩
  · exact ⟨by omega, by omega⟩
  · refine ⟨fun q1 => ?_, fun q1 => ?_⟩
    · intro F9
      rw [if_neg (by omega)] at hq; exact hq F9
    · refine ⟨fun q2 => ?_, fun q2 => ?_⟩
      · intro F9
        rw [if_neg (by omega)] at hq; exact hq F9
      · intro F9
        rw [if_pos ⟨by omega, by omega⟩] at hq
        refine p_M_manyIn F9 R.th (by omega) (by omega) ?_
        refine v_M_textsIn_17 F9 ?_
        exact hq F9

end
