/-! ===== mop5 ===== -/
section
/-! unmarked keys are all different; the model's other calls that change nothing -/
theorem xst_xst (h : XH) (a k v w : Int) : xst (xst h a k v) a k w = xst h a k w := by
  have e : (fun b j => if b = a ∧ j = k then w else (xst h a k v).2.2.1 b j) = (fun b j => if b = a ∧ j = k then w else h.2.2.1 b j) := by
    funext b j
    by_cases z : b = a ∧ j = k
    · rw [if_pos z, if_pos z]
    · rw [if_neg z, if_neg z]; exact if_neg z
  show ((xst h a k v).1, (xst h a k v).2.1, (fun b j => if b = a ∧ j = k then w else (xst h a k v).2.2.1 b j), (xst h a k v).2.2.2) = _
  rw [e]; rfl
def uK (T : List (Txt × Bool)) : List Int := (T.filter (fun t => !t.2)).map (fun t => t.1.1)
def UQ (s : CS) : Prop := (uK (fbF (fC s) (bC s))).Nodup
theorem uK_app (l r : List (Txt × Bool)) : uK (l ++ r) = uK l ++ uK r := by
  unfold uK
  rw [List.filter_append, List.map_append]
theorem uK_hit {T : List (Txt × Bool)} {k : Int} (h : sidx T k ≠ -1) : k ∈ uK T := by
  obtain ⟨a, a1, a2⟩ := idxI_hit (fun t : Txt × Bool => decide (t.1.1 = k) && !t.2) T h
  rw [Bool.and_eq_true] at a2
  have e := of_decide_eq_true a2.1
  exact List.mem_map.mpr ⟨a, List.mem_filter.mpr ⟨List.mem_of_getElem? a1, a2.2⟩, e⟩
theorem uK_b (b : List Txt) : uK (b.map (fun t => (t, false))) = b.map (fun t => t.1) := by
  induction b with
  | nil => rfl
  | cons a b ih =>
    show uK ((a, false) :: b.map (fun t => (t, false))) = a.1 :: b.map (fun t => t.1)
    rw [← ih]; rfl
theorem uK_bhit {b : List Txt} {k : Int} (h : kidx b k ≠ -1) : k ∈ uK (b.map (fun t => (t, false))) := by
  obtain ⟨a, a1, a2⟩ := idxI_hit (fun t : Txt => decide (t.1 = k)) b h
  rw [uK_b]
  exact List.mem_map.mpr ⟨a, List.mem_of_getElem? a1, of_decide_eq_true a2⟩
theorem UQ.one {s : CS} (U : UQ s) (k : Int) : sidx (fC s) k = -1 ∨ kidx (bC s) k = -1 := by
  by_cases y : sidx (fC s) k = -1
  · exact Or.inl y
  · by_cases w : kidx (bC s) k = -1
    · exact Or.inr w
    · exfalso
      unfold UQ fbF at U
      rw [uK_app, List.nodup_append] at U
      exact U.2.2 k (uK_hit y) k (uK_bhit w) rfl
theorem p_M_lengthOf3 {G : XG} {d : Nat} {h : XH} {Q : XV → XH → Prop} {X : Nat → XH → Prop} {s : CS} {x y f : Int} (F : xFix h) (R : MSR h (fbF (fC s) (bC s)) (zC s) (mC s)) (W : Swf (zC s) (fC s)) (hq : MRd Q xI h [3] (cLengthOf s x y f).1) : xwp G m_M_lengthOf_III (d + 4) 0 [xR 53, xI x, xI y, xI f] [] h Q X := by
  have tl := R.2.1.2.1
  rw [fb_len] at tl
  unfold cLengthOf at hq
  have bad : ¬ ((0 ≤ x ∧ x < (zC s).length) ∧ (0 ≤ y ∧ y < szA (zC s) x) ∧ 0 ≤ f ∧ f < 2) → xwp G m_M_lengthOf_III (d + 4) 21 [xR 53, xI x, xI y, xI f] [xR 53] h Q X := fun z => by
    rw [if_neg z] at hq
    refine v_M_lengthOf_III_21 F ?_
    refine v_M_lengthOf_III_22 F ?_
    refine ⟨?_, ?_⟩
    · first | exact ft_53 F | decide
    · refine ⟨fun q1 => ?_, fun q1 => ?_⟩
      · refine ⟨?_, ?_⟩
        · first | exact ft_53 F | decide
        · intro F9
          exact hq F9
      · refine ⟨?_, ?_⟩
        · first | exact ft_53 F | decide
        · refine ⟨?_, ?_⟩
          · first | exact ft_53 F | decide
          · refine ⟨fun q2 => ?_, fun q2 => ?_⟩
            · intro F9
              exact absurd rfl q1
            · intro F9
              exact absurd rfl q1
  refine v_M_lengthOf_III_0 F ?_
  refine p_M_isText F R ?_
  by_cases z : 0 ≤ x ∧ x < (zC s).length ∧ 0 ≤ y ∧ y < szA (zC s) x
  · rw [decide_eq_true z]
    have good : f = 0 ∨ f = 1 → xwp G m_M_lengthOf_III (d + 4) 22 [xR 53, xI x, xI y, xI f] [xI 1, xR 53] h Q X := fun hf => by
      rw [if_pos ⟨⟨z.1, z.2.1⟩, z.2.2, by omega, by omega⟩] at hq
      have sr := seg_rng W z.1 z.2.1
      have r9 := R.1.1 (stA (zC s) x + y) (by omega) (by omega)
      refine v_M_lengthOf_III_22 F ?_
      refine ⟨?_, ?_⟩
      · first | exact ft_53 F | decide
      · refine ⟨fun q1 => ?_, fun q1 => ?_⟩
        · refine ⟨?_, ?_⟩
          · first | exact ft_53 F | decide
          · intro F9
            exact absurd q1 (by decide)
        · refine ⟨?_, ?_⟩
          · first | exact ft_53 F | decide
          · refine ⟨?_, ?_⟩
            · first | exact ft_53 F | decide
            · refine ⟨fun q2 => ?_, fun q2 => ?_⟩
              · intro F9
                exact absurd q2 (by decide)
              · intro F9
                refine p_M_at F9 R.th z.1 z.2.1 z.2.2.1 z.2.2.2 ?_
                have ot : xpl (xst h 53 0 0) 55 (stA (zC s) x + y) = xpl h 55 (stA (zC s) x + y) := xpl_oa (by decide)
                have tx := fb_at (R.th (v := 0)) (i := stA (zC s) x + y) (by omega) (by omega)
                have wd := (tx.wd hf).1
                rw [ot] at wd ⊢
                have lt : 2 * xpl h 55 (stA (zC s) x + y) + f < 120 := by omega
                have hh := hq F9
                rw [← wd] at hh
                refine v_M_lengthOf_III_39 F9 ⟨⟨by omega, by omega⟩, ⟨by omega, by omega⟩, ft_61 F9, by omega, xlt_of (fl_61 F9) lt, hh⟩
    refine v_M_lengthOf_III_7 F ?_
    refine ⟨fun q1 => ?_, fun q1 => ?_⟩
    · exact absurd q1 (by decide)
    · refine ⟨fun q2 => ?_, fun q2 => ?_⟩
      · exact good (Or.inl q2)
      · refine ⟨fun q3 => ?_, fun q3 => ?_⟩
        · exact good (Or.inr q3)
        · exact bad (fun w => by omega)
  · rw [decide_eq_false z]
    have b9 := bad (fun w => z ⟨w.1.1, w.1.2, w.2.1⟩)
    refine v_M_lengthOf_III_7 F ?_
    refine ⟨fun q1 => ?_, fun q1 => ?_⟩
    · exact b9
    · refine ⟨fun q2 => ?_, fun q2 => ?_⟩
      · exact absurd rfl q1
      · refine ⟨fun q3 => ?_, fun q3 => ?_⟩
        · exact absurd rfl q1
        · exact absurd rfl q1
theorem p_M_shelfOf {G : XG} {d : Nat} {h : XH} {Q : XV → XH → Prop} {X : Nat → XH → Prop} {s : CS} {k : Int} (F : xFix h) (R : MSR h (fbF (fC s) (bC s)) (zC s) (mC s)) (U : UQ s) (hq : MRd Q xI h [1] (cShelfOf s k).1) : xwp G m_M_shelfOf (d + 4) 0 [xR 53, xI k, xZ] [] h Q X := by
  have tl := R.2.1.2.1
  rw [fb_len] at tl
  unfold cShelfOf at hq
  have rf := sidx_rng (fC s) k
  have rb := kidx_rng (bC s) k
  refine v_M_shelfOf_0 F ?_
  refine ⟨fun q1 => ?_, fun q1 => ?_⟩
  · intro F9
    rw [if_neg (by omega)] at hq; exact hq F9
  · refine ⟨fun q2 => ?_, fun q2 => ?_⟩
    · intro F9
      rw [if_neg (by omega)] at hq; exact hq F9
    · intro F9
      rw [if_pos ⟨by omega, by omega⟩] at hq
      have hh := hq F9
      have R2 := R.th (v := 0)
      obtain ⟨H, hH⟩ : ∃ H, H = xst h 53 0 0 := ⟨_, rfl⟩
      have hh : Q (xI (if kidx (bC s) k ≠ -1 then (((bC s)[(kidx (bC s) k).toNat]?).getD (0, 0, 0, [], [])).2.1 else if sidx (fC s) k = -1 then -1 else (fA s (sidx (fC s) k)).1.2.1)) (xst h 53 0 0) := hh
      rw [← hH] at hh R2 F9 ⊢
      refine p_M_whereIs F9 R2 ?_
      rw [sidx_fb]
      rcases U.one k with u | u
      · rw [if_pos u]
        rw [if_pos u] at hh
        by_cases w : kidx (bC s) k = -1
        · rw [if_pos w]
          rw [if_neg (fun y => y w)] at hh
          refine v_M_shelfOf_18 F9 ?_
          refine ⟨fun q1 => ?_, fun q1 => ?_⟩
          · exact hh
          · refine ⟨?_, ?_⟩
            · first | omega | assumption | exact ⟨by omega, by omega⟩ | (simp only [*]; done) | grind
            · refine ⟨?_, ?_⟩
              · first | omega | assumption | exact ⟨by omega, by omega⟩ | (simp only [*]; done) | grind
              · refine ⟨?_, ?_⟩
                · first | omega | assumption | exact ⟨by omega, by omega⟩ | (simp only [*]; done) | grind
                · refine ⟨?_, ?_⟩
                  · first | omega | assumption | exact ⟨by omega, by omega⟩ | (simp only [*]; done) | grind
                  · exact absurd rfl q1
        · rw [if_neg w]
          rw [if_pos w] at hh
          obtain ⟨t, t1, t2⟩ := R2.tx (x := (fC s).length + kidx (bC s) k) (by omega) (by rw [fb_len]; omega)
          have r9 := R2.1.1 ((fC s).length + kidx (bC s) k) (by omega) (by omega)
          rw [show ((fC s).length + kidx (bC s) k).toNat = (fC s).length + (kidx (bC s) k).toNat by omega, fb_hi] at t1
          obtain ⟨u1, u2, u3⟩ := Option.map_eq_some_iff.mp t1
          rw [u2] at hh
          refine v_M_shelfOf_18 F9 ?_
          refine ⟨fun q1 => ?_, fun q1 => ?_⟩
          · omega
          · refine ⟨?_, ?_⟩
            · first | omega | exact r9.1 | exact r9.2
            · refine ⟨?_, ?_⟩
              · first | omega | exact r9.1 | exact r9.2
              · refine ⟨?_, ?_⟩
                · first | omega | exact r9.1 | exact r9.2
                · refine ⟨?_, ?_⟩
                  · first | omega | exact r9.1 | exact r9.2
                  · rw [t2.1.2.1, ← u3]; exact hh
      · rw [if_neg (fun y => y u)] at hh
        by_cases w : sidx (fC s) k = -1
        · rw [if_pos w, if_pos u]
          rw [if_pos w] at hh
          refine v_M_shelfOf_18 F9 ?_
          refine ⟨fun q1 => ?_, fun q1 => ?_⟩
          · exact hh
          · refine ⟨?_, ?_⟩
            · first | omega | assumption | exact ⟨by omega, by omega⟩ | (simp only [*]; done) | grind
            · refine ⟨?_, ?_⟩
              · first | omega | assumption | exact ⟨by omega, by omega⟩ | (simp only [*]; done) | grind
              · refine ⟨?_, ?_⟩
                · first | omega | assumption | exact ⟨by omega, by omega⟩ | (simp only [*]; done) | grind
                · refine ⟨?_, ?_⟩
                  · first | omega | assumption | exact ⟨by omega, by omega⟩ | (simp only [*]; done) | grind
                  · exact absurd rfl q1
        · rw [if_neg w]
          rw [if_neg w] at hh
          have t2 := fb_at R2 (i := sidx (fC s) k) (by omega) (by omega)
          have r9 := R2.1.1 (sidx (fC s) k) (by omega) (by omega)
          refine v_M_shelfOf_18 F9 ?_
          refine ⟨fun q1 => ?_, fun q1 => ?_⟩
          · omega
          · refine ⟨?_, ?_⟩
            · first | omega | exact r9.1 | exact r9.2
            · refine ⟨?_, ?_⟩
              · first | omega | exact r9.1 | exact r9.2
              · refine ⟨?_, ?_⟩
                · first | omega | exact r9.1 | exact r9.2
                · refine ⟨?_, ?_⟩
                  · first | omega | exact r9.1 | exact r9.2
                  · rw [t2.1.2.1]; exact hh
theorem p_M_segmentOf {G : XG} {d : Nat} {h : XH} {Q : XV → XH → Prop} {X : Nat → XH → Prop} {s : CS} {k : Int} (F : xFix h) (R : MSR h (fbF (fC s) (bC s)) (zC s) (mC s)) (W : Swf (zC s) (fC s)) (U : UQ s) (hq : MRd Q xI h [1] (cSegmentOf s k).1) : xwp G m_M_segmentOf (d + 4) 0 [xR 53, xI k, xZ, xZ] [] h Q X := by
  have tl := R.2.1.2.1
  rw [fb_len] at tl
  unfold cSegmentOf at hq
  have rf := sidx_rng (fC s) k
  have rb := kidx_rng (bC s) k
  have w1 := W.1
  refine v_M_segmentOf_0 F ?_
  refine ⟨fun q1 => ?_, fun q1 => ?_⟩
  · intro F9
    rw [if_neg (by omega)] at hq; exact hq F9
  · refine ⟨fun q2 => ?_, fun q2 => ?_⟩
    · intro F9
      rw [if_neg (by omega)] at hq; exact hq F9
    · intro F9
      rw [if_pos ⟨by omega, by omega⟩] at hq
      have hh := hq F9
      have R2 := R.th (v := 0)
      obtain ⟨H, hH⟩ : ∃ H, H = xst h 53 0 0 := ⟨_, rfl⟩
      have hh : Q (xI (if kidx (bC s) k ≠ -1 then -1 else if sidx (fC s) k = -1 then -2 else sgA (zC s) (sidx (fC s) k))) (xst h 53 0 0) := hh
      rw [← hH] at hh R2 F9 ⊢
      refine p_M_whereIs F9 R2 ?_
      rw [sidx_fb]
      by_cases w : sidx (fC s) k = -1
      · rw [if_pos w]
        rw [if_pos w] at hh
        by_cases u : kidx (bC s) k = -1
        · rw [if_pos u]
          rw [if_neg (fun y => y u)] at hh
          refine v_M_segmentOf_18 F9 ?_
          refine ⟨fun q1 => ?_, fun q1 => ?_⟩
          · exact hh
          · exact absurd rfl q1
        · rw [if_neg u]
          rw [if_pos u] at hh
          refine v_M_segmentOf_18 F9 ?_
          refine ⟨fun q1 => ?_, fun q1 => ?_⟩
          · omega
          · refine p_M_inSegments F9 R2 ?_
            refine v_M_segmentOf_32 F9 ?_
            refine ⟨fun q1 => ?_, fun q1 => ?_⟩
            · omega
            · exact hh
      · have u : kidx (bC s) k = -1 := (U.one k).resolve_left w
        rw [if_neg w]
        rw [if_neg (fun y => y u), if_neg w] at hh
        obtain ⟨p, hp⟩ : ∃ p, p = sidx (fC s) k := ⟨_, rfl⟩
        rw [← hp] at hh rf w ⊢
        have zl := R2.2.1.2.2.2.1
        have loop : ∀ (n i : Nat) (b : Int), i + n = (zC s).length → (i < (zC s).length → b = stA (zC s) ((i : Int) + 1)) → stA (zC s) i ≤ p → Q (xI (sgF (zC s) p n i b)) H → xwp G m_M_segmentOf (d + 4) 39 [xR 53, xZ, xI p, xI i] [] H Q X := by
          intro n
          induction n with
          | zero =>
            intro i b e eb hs hq9
            rw [stA_all (by omega)] at hs
            omega
          | succ n ih =>
            intro i b e eb hs hq9
            have en := R2.end_ (x := i) (by omega) (by omega)
            have b9 := eb (by omega)
            have es := stA_succ (z := zC s) (x := i) (by omega) (by omega)
            unfold sgF at hq9
            refine v_M_segmentOf_39 F9 ?_
            refine ⟨?_, ?_⟩
            · omega
            · refine ⟨?_, ?_⟩
              · omega
              · refine ⟨fun q1 => ?_, fun q1 => ?_⟩
                · rw [if_pos (by omega)] at hq9; exact hq9
                · rw [if_neg (by omega)] at hq9
                  refine ih (i + 1) _ (by omega) (fun hi => ?_) (by rw [show ((i + 1 : Nat) : Int) = (i : Int) + 1 by omega]; omega) hq9
                  rw [b9, ← stA_succ (by omega) (by omega)]; rfl
        refine v_M_segmentOf_18 F9 ?_
        refine ⟨fun q1 => ?_, fun q1 => ?_⟩
        · omega
        · refine p_M_inSegments F9 R2 ?_
          refine v_M_segmentOf_32 F9 ?_
          refine ⟨fun q1 => ?_, fun q1 => ?_⟩
          · refine loop (zC s).length 0 (szA (zC s) 0) (by omega) (fun hi => ?_) (by show stA (zC s) 0 ≤ p; have e0 : stA (zC s) 0 = 0 := rfl; omega) hh
            have e0 : stA (zC s) 0 = 0 := rfl
            have := stA_succ (z := zC s) (x := 0) (by omega) (by omega)
            show _ = stA (zC s) (0 + 1)
            omega
          · omega
theorem p_M_wordByte {G : XG} {d : Nat} {h : XH} {Q : XV → XH → Prop} {X : Nat → XH → Prop} {s : CS} {x : Int} (F : xFix h) (hw : xpl h 53 14 = wC s) (w0 : 0 ≤ wC s) (hq : MRd Q xI h [3] (cWordByte s x).1) : xwp G m_M_wordByte (d + 4) 0 [xR 53, xI x, xZ] [] h Q X := by
  unfold cWordByte at hq
  have sr := wsz_rng (wC s)
  refine v_M_wordByte_0 F ?_
  rw [hw]
  refine p_M_lengthOf F w0 ?_
  refine v_M_wordByte_10 F ?_
  refine ⟨?_, ?_⟩
  · first | exact ft_53 F | exact ⟨by omega, by omega⟩ | decide
  · refine ⟨fun q1 => ?_, fun q1 => ?_⟩
    · refine ⟨?_, ?_⟩
      · first | exact ft_53 F | exact ⟨by omega, by omega⟩ | decide
      · refine ⟨?_, ?_⟩
        · first | exact ft_53 F | exact ⟨by omega, by omega⟩ | decide
        · intro F9
          rw [if_neg (by omega)] at hq; exact hq F9
    · refine ⟨fun q2 => ?_, fun q2 => ?_⟩
      · refine ⟨?_, ?_⟩
        · first | exact ft_53 F | exact ⟨by omega, by omega⟩ | decide
        · refine ⟨?_, ?_⟩
          · first | exact ft_53 F | exact ⟨by omega, by omega⟩ | decide
          · intro F9
            rw [if_neg (by omega)] at hq; exact hq F9
      · refine ⟨?_, ?_⟩
        · first | exact ft_53 F | exact ⟨by omega, by omega⟩ | decide
        · refine ⟨?_, ?_⟩
          · first | exact ft_53 F | exact ⟨by omega, by omega⟩ | decide
          · intro F9
            rw [if_pos ⟨by omega, by omega⟩] at hq
            have hh := hq F9
            have hw2 : xpl (xst h 53 0 0) 53 14 = wC s := (xpl_ok (by decide)).trans hw
            have hh : Q (xI (byt (sat (wC s) x))) (xst h 53 0 0) := hh
            rw [hw]
            refine p_M_digit F9 (by omega) (by omega) ?_
            have st := sat_rng (wC s) x
            unfold byt at hh
            refine v_M_wordByte_31 F9 ?_
            refine ⟨fun q1 => ?_, fun q1 => ?_⟩
            · refine ⟨?_, ?_⟩
              · exact ⟨by omega, by omega⟩
              · rw [if_pos q1] at hh
                rw [show sat (wC s) x - 1 + 48 = sat (wC s) x + 47 by omega]; exact hh
            · refine ⟨?_, ?_⟩
              · exact ⟨by omega, by omega⟩
              · rw [if_neg q1] at hh
                rw [show sat (wC s) x - 11 + 97 = sat (wC s) x + 86 by omega]; exact hh
theorem p_M_timesIn {G : XG} {d : Nat} {h : XH} {Q : XV → XH → Prop} {X : Nat → XH → Prop} {s : CS} {k f : Int} (F : xFix h) (R : MSR h (fbF (fC s) (bC s)) (zC s) (mC s)) (W : Swf (zC s) (fC s)) (hw : xpl h 53 14 = wC s) (hq : MRd Q xI h [1, 3] (cTimesIn s k f).1) : xwp G m_M_timesIn (d + 4) 0 [xR 53, xI k, xI f, xZ] [] h Q X := by
  have tl := R.2.1.2.1
  rw [fb_len] at tl
  unfold cTimesIn at hq
  have rf := sidx_rng (fC s) k
  have main : ∀ (F9 : xFix (xst h 53 0 0)), f = 0 ∨ f = 1 → (0 ≤ k ∧ k < 100) → xwp G m_M_whereInSegments (d + 3) 0 [xR 53, xI k, xZ] [] (xst h 53 0 0) (fun v9 h9 => xwp G m_M_timesIn (d + 4) 31 [xR 53, xZ, xI f, xZ] (xpush v9 []) h9 Q X) X := fun F9 hf hk => by
    rw [if_pos hk, if_pos ⟨by omega, by omega⟩] at hq
    have hh := hq F9
    have hh : Q (xI (if sidx (fC s) k = -1 then 0 else cntW (rwT (fA s (sidx (fC s) k)).1 f) (wC s))) (xst h 53 0 0) := hh
    have R2 := R.th (v := 0)
    have hw2 : xpl (xst h 53 0 0) 53 14 = wC s := (xpl_ok (by decide)).trans hw
    refine p_M_whereInSegments F9 R2 ?_
    rw [sgX_fb _ _ W.1]
    refine v_M_timesIn_31 F9 ?_
    refine ⟨fun q1 => ?_, fun q1 => ?_⟩
    · rw [if_pos q1] at hh
      exact v_M_timesIn_56 F9 hh
    · refine ⟨?_, ?_⟩
      · omega
      · refine ⟨?_, ?_⟩
        · omega
        · rw [if_neg q1] at hh
          have t2 := fb_at R2 (i := sidx (fC s) k) (by omega) (by omega)
          have r9 := R2.1.1 (sidx (fC s) k) (by omega) (by omega)
          rw [hw2]
          refine p_M_times F9 t2 r9.1 r9.2 hf ?_
          exact v_M_timesIn_56 F9 hh
  refine v_M_timesIn_0 F ?_
  refine ⟨fun q1 => ?_, fun q1 => ?_⟩
  · intro F9
    rw [if_neg (by omega)] at hq; exact hq F9
  · refine ⟨fun q2 => ?_, fun q2 => ?_⟩
    · intro F9
      rw [if_neg (by omega)] at hq; exact hq F9
    · refine ⟨fun q3 => ?_, fun q3 => ?_⟩
      · intro F9
        exact main F9 (Or.inl q3) ⟨by omega, by omega⟩
      · refine ⟨fun q4 => ?_, fun q4 => ?_⟩
        · intro F9
          exact main F9 (Or.inr q4) ⟨by omega, by omega⟩
        · intro F9
          rw [if_pos ⟨by omega, by omega⟩, if_neg (by omega)] at hq
          rw [xst_xst] at F9 ⊢
          exact hq F9

end
