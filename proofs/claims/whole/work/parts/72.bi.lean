/-! ===== bi ===== -/
section
def cTexts (s : CS) : (Int × Int) × CS := ((0, (bC s).length + (fC s).length), s)
def cBuffered (s : CS) : (Int × Int) × CS := ((0, (bC s).length), s)
def cSegments (s : CS) : (Int × Int) × CS := ((0, (zC s).length), s)
def cMerges (s : CS) : (Int × Int) × CS := ((0, mC s), s)
def cTextsIn (s : CS) (x : Int) : (Int × Int) × CS := (if 0 ≤ x ∧ x < (zC s).length then (0, szA (zC s) x) else (3, 0), s)
def cMarkedIn (s : CS) (x : Int) : (Int × Int) × CS := (if 0 ≤ x ∧ x < (zC s).length then (0, goneF (fC s) (stA (zC s) x).toNat (szA (zC s) x).toNat) else (3, 0), s)
def cLevelOf (s : CS) (x : Int) : (Int × Int) × CS := (if 0 ≤ x ∧ x < (zC s).length then (0, lvl (szA (zC s) x)) else (3, 0), s)
/-- the text at a place of the segments -/
def fA (s : CS) (p : Int) : Txt × Bool := ((fC s)[p.toNat]?).getD ((0, 0, 0, [], []), false)
def cKeyAt (s : CS) (x y : Int) : (Int × Int) × CS := (if (0 ≤ x ∧ x < (zC s).length) ∧ 0 ≤ y ∧ y < szA (zC s) x then (0, (fA s (stA (zC s) x + y)).1.1) else (3, 0), s)
def cIsMarked (s : CS) (x y : Int) : (Int × Int) × CS := (if (0 ≤ x ∧ x < (zC s).length) ∧ 0 ≤ y ∧ y < szA (zC s) x then (0, b2i (fA s (stA (zC s) x + y)).2) else (3, 0), s)
def cLengthOf (s : CS) (x y f : Int) : (Int × Int) × CS := (if (0 ≤ x ∧ x < (zC s).length) ∧ (0 ≤ y ∧ y < szA (zC s) x) ∧ 0 ≤ f ∧ f < 2 then (0, (rwT (fA s (stA (zC s) x + y)).1 f).length) else (3, 0), s)
def cSegmentOf (s : CS) (k : Int) : (Int × Int) × CS := (if 0 ≤ k ∧ k < 100 then (0, if kidx (bC s) k ≠ -1 then -1 else if sidx (fC s) k = -1 then -2 else sgA (zC s) (sidx (fC s) k)) else (1, 0), s)
def cShelfOf (s : CS) (k : Int) : (Int × Int) × CS := (if 0 ≤ k ∧ k < 100 then (0, if kidx (bC s) k ≠ -1 then (((bC s)[(kidx (bC s) k).toNat]?).getD (0, 0, 0, [], [])).2.1 else if sidx (fC s) k = -1 then -1 else (fA s (sidx (fC s) k)).1.2.1) else (1, 0), s)
theorem mkd_b2i (b : Bool) : mkd b = b2i b := by cases b <;> rfl
theorem stA_succ {z : List Int} {x : Int} (h0 : 0 ≤ x) (h1 : x < z.length) : stA z (x + 1) = stA z x + szA z x := by
  unfold stA szA
  rw [if_neg (by omega), show (x + 1).toNat = x.toNat + 1 by omega]
  exact take_succ_sum z x.toNat (by omega)
theorem sum_nn {l : List Int} (h : ∀ x ∈ l, 0 ≤ x) : 0 ≤ l.sum := by
  induction l with
  | nil => exact Int.le_refl _
  | cons a r ih =>
    rw [List.sum_cons]
    have := h a (List.mem_cons_self ..)
    have := ih (fun x hx => h x (List.mem_cons_of_mem _ hx))
    omega
theorem Swf.pl {z : List Int} {f : List (Txt × Bool)} (W : Swf z f) {x : Int} (h0 : 0 ≤ x) (h1 : x < z.length) : 0 ≤ stA z x ∧ 1 ≤ szA z x ∧ stA z x + szA z x ≤ f.length := by
  have e := stA_succ h0 h1
  have a : 0 ≤ (z.take x.toNat).sum := sum_nn (fun y hy => by have := W.2 y (List.mem_of_mem_take hy); omega)
  have b : 0 ≤ (z.drop (x + 1).toNat).sum := sum_nn (fun y hy => by have := W.2 y (List.mem_of_mem_drop hy); omega)
  have c := sum_split z (x + 1).toNat
  have s1 : 1 ≤ szA z x := by
    unfold szA
    rw [if_neg (by omega)]
    have hl : x.toNat < z.length := by omega
    rw [List.getElem?_eq_getElem hl]
    exact W.2 _ (List.getElem_mem hl)
  refine ⟨a, s1, ?_⟩
  have d : stA z (x + 1) = (z.take (x + 1).toNat).sum := rfl
  have w := W.1
  omega
theorem CIR.fx {h : XH} {s : CS} (R : CIR h s) : xFix h := R.1.1
theorem CIR.ok {h : XH} {s : CS} (R : CIR h s) : stok h := by
  obtain ⟨-, -, ⟨bp, fp, S⟩, -⟩ := R
  exact S.ok
theorem CIR.eqs {h : XH} {s : CS} (R : CIR h s) : bufL h = bC s ∧ filL h = fC s ∧ szL h = zC s ∧ xpl h 5 4 = (zC s).length ∧ xpl h 5 5 = mC s ∧ als h 6 = (bC s).length ∧ als h 7 = (fC s).length := by
  obtain ⟨-, -, ⟨bp, fp, S⟩, -⟩ := R
  exact ⟨S.eb, S.ef, S.ez, S.2.2.2.2.1.1, S.2.2.2.2.2, by rw [S.1.1.sz, S.1.2.2.1], by rw [S.1.2.1.sz, S.1.2.2.2.1]⟩
theorem CIR.wf {h : XH} {s : CS} (R : CIR h s) : CWF s := R.2.2.2.2.2.2.2.2
theorem CIR.fat {h : XH} {s : CS} (R : CIR h s) {p : Int} (h0 : 0 ≤ p) (h1 : p < (fC s).length) : (fC s)[p.toNat]? = some (fA s p) ∧ TxtR h (fat h p) (fA s p).1 ∧ xpl h (fat h p) 5 = b2i (fA s p).2 := by
  have e7 := R.eqs.2.2.2.2.2.2
  obtain ⟨-, -, ⟨bp, fp, S⟩, -⟩ := R
  obtain ⟨t, t1, t2, t3⟩ := S.fil.at (i := p.toNat) (by omega)
  rw [show ((p.toNat : Nat) : Int) = p by omega] at t2 t3
  have ef : Jvm.Pilot.CBeaconIndexLaw_law_r4563_e8011d.fat h p = alg h 7 p := by unfold Jvm.Pilot.CBeaconIndexLaw_law_r4563_e8011d.fat; rw [if_pos ⟨h0, by omega⟩]
  have ea : fA s p = t := by unfold fA; rw [t1]; rfl
  rw [ef, ea]
  exact ⟨t1, t2, by rw [← mkd_b2i]; exact t3⟩
theorem s_B_texts {G : XG} {d : Nat} {h : XH} {Q : XV → XH → Prop} {X : Nat → XH → Prop} {s : CS} {n9 s9 : Int} (R : CIR h s) (hn : 0 ≤ n9) (hs : 0 ≤ s9) (q : CAN Q X xI h (cTexts s) n9 s9) : xwp G m_B_texts (d + 3) 0 [xR 0] [] h Q X := by
  obtain ⟨-, -, -, -, -, e6, e7⟩ := R.eqs
  refine v_B_texts_0 R.fx ?_
  refine ⟨?_, ?_⟩
  · exact R.ok
  · rw [e6, e7]; exact CAN.ret q R (by omega) (by omega)
theorem s_B_buffered {G : XG} {d : Nat} {h : XH} {Q : XV → XH → Prop} {X : Nat → XH → Prop} {s : CS} {n9 s9 : Int} (R : CIR h s) (hn : 0 ≤ n9) (hs : 0 ≤ s9) (q : CAN Q X xI h (cBuffered s) n9 s9) : xwp G m_B_buffered (d + 2) 0 [xR 0] [] h Q X := by
  obtain ⟨-, -, -, -, -, e6, e7⟩ := R.eqs
  refine v_B_buffered_0 R.fx ?_
  refine ⟨?_, ?_⟩
  · exact R.ok.1
  · rw [e6]; exact CAN.ret q R (by omega) (by omega)
theorem s_B_segments {G : XG} {d : Nat} {h : XH} {Q : XV → XH → Prop} {X : Nat → XH → Prop} {s : CS} {n9 s9 : Int} (R : CIR h s) (hn : 0 ≤ n9) (hs : 0 ≤ s9) (q : CAN Q X xI h (cSegments s) n9 s9) : xwp G m_B_segments (d + 1) 0 [xR 0] [] h Q X := by
  obtain ⟨-, -, -, e4, -⟩ := R.eqs
  refine v_B_segments_0 R.fx ?_
  rw [e4]; exact CAN.ret q R (by omega) (by omega)
theorem s_B_merges {G : XG} {d : Nat} {h : XH} {Q : XV → XH → Prop} {X : Nat → XH → Prop} {s : CS} {n9 s9 : Int} (R : CIR h s) (hn : 0 ≤ n9) (hs : 0 ≤ s9) (q : CAN Q X xI h (cMerges s) n9 s9) : xwp G m_B_merges (d + 1) 0 [xR 0] [] h Q X := by
  obtain ⟨-, -, -, -, e5, -⟩ := R.eqs
  refine v_B_merges_0 R.fx ?_
  rw [e5]; exact CAN.ret q R (by omega) (by omega)
theorem s_B_textsIn {G : XG} {d : Nat} {h : XH} {Q : XV → XH → Prop} {X : Nat → XH → Prop} {s : CS} {x n9 s9 : Int} (R : CIR h s) (M : Room h n9 s9) (hn : 0 ≤ n9) (hs : 0 ≤ s9) (q : CAN Q X xI h (cTextsIn s x) n9 s9) : xwp G m_B_textsIn (d + 8) 0 [xR 0, xI x] [] h Q X := by
  obtain ⟨-, -, e3, e4, -⟩ := R.eqs
  have hr := R.room M
  unfold cTextsIn at q
  refine v_B_textsIn_0 R.fx ?_
  refine ⟨fun q1 => ?_, fun q1 => ?_⟩
  · refine ⟨?_, ?_⟩
    · first | exact R.ok | omega
    · refine ⟨?_, ?_⟩
      · first | exact R.ok | omega
      · intro F9
        rw [if_neg (by omega)] at q
        exact CAN.thr (k := 2) q R hn hs F9
  · refine ⟨fun q2 => ?_, fun q2 => ?_⟩
    · refine ⟨?_, ?_⟩
      · first | exact R.ok | omega
      · rw [e4] at q2
        rw [if_pos ⟨by omega, q2⟩] at q
        rw [e3]
        exact CAN.ret q R (by omega) (by omega)
    · refine ⟨?_, ?_⟩
      · first | exact R.ok | omega
      · refine ⟨?_, ?_⟩
        · first | exact R.ok | omega
        · intro F9
          rw [e4] at q2
          rw [if_neg (by omega)] at q
          exact CAN.thr (k := 2) q R hn hs F9
theorem s_B_levelOf {G : XG} {d : Nat} {h : XH} {Q : XV → XH → Prop} {X : Nat → XH → Prop} {s : CS} {x n9 s9 : Int} (R : CIR h s) (M : Room h n9 s9) (hn : 0 ≤ n9) (hs : 0 ≤ s9) (q : CAN Q X xI h (cLevelOf s x) n9 s9) : xwp G m_B_levelOf (d + 8) 0 [xR 0, xI x] [] h Q X := by
  obtain ⟨-, -, e3, e4, -⟩ := R.eqs
  have hr := R.room M
  unfold cLevelOf at q
  refine v_B_levelOf_0 R.fx ?_
  refine ⟨fun q1 => ?_, fun q1 => ?_⟩
  · refine ⟨?_, ?_⟩
    · first | exact R.ok | omega
    · refine ⟨?_, ?_⟩
      · first | exact R.ok | omega
      · intro F9
        rw [if_neg (by omega)] at q
        exact CAN.thr (k := 2) q R hn hs F9
  · refine ⟨fun q2 => ?_, fun q2 => ?_⟩
    · refine ⟨?_, ?_⟩
      · first | exact R.ok | omega
      · rw [e4] at q2
        rw [if_pos ⟨by omega, q2⟩] at q
        rw [e3]
        exact CAN.ret q R (by omega) (by omega)
    · refine ⟨?_, ?_⟩
      · first | exact R.ok | omega
      · refine ⟨?_, ?_⟩
        · first | exact R.ok | omega
        · intro F9
          rw [e4] at q2
          rw [if_neg (by omega)] at q
          exact CAN.thr (k := 2) q R hn hs F9
theorem s_B_markedIn {G : XG} {d : Nat} {h : XH} {Q : XV → XH → Prop} {X : Nat → XH → Prop} {s : CS} {x n9 s9 : Int} (R : CIR h s) (M : Room h n9 s9) (hn : 0 ≤ n9) (hs : 0 ≤ s9) (q : CAN Q X xI h (cMarkedIn s x) n9 s9) : xwp G m_B_markedIn (d + 8) 0 [xR 0, xI x] [] h Q X := by
  obtain ⟨-, -, e3, e4, -⟩ := R.eqs
  have hr := R.room M
  unfold cMarkedIn at q
  refine v_B_markedIn_0 R.fx ?_
  refine ⟨fun q1 => ?_, fun q1 => ?_⟩
  · refine ⟨?_, ?_⟩
    · first | exact R.ok | omega
    · refine ⟨?_, ?_⟩
      · first | exact R.ok | omega
      · intro F9
        rw [if_neg (by omega)] at q
        exact CAN.thr (k := 2) q R hn hs F9
  · refine ⟨fun q2 => ?_, fun q2 => ?_⟩
    · refine ⟨?_, ?_⟩
      · first | exact R.ok | omega
      · rw [e4] at q2
        rw [if_pos ⟨by omega, q2⟩] at q
        have w := R.wf.1.1.pl (by omega) q2
        have em : mkH h x = goneF (fC s) (stA (zC s) x).toNat (szA (zC s) x).toNat := by
          have w0 := w.1
          unfold mkH
          rw [e3]
          have := mkF_list R.ok R.eqs.2.1 (stA (zC s) x).toNat (szA (zC s) x).toNat (by omega)
          rwa [show (((stA (zC s) x).toNat : Nat) : Int) = stA (zC s) x by omega] at this
        rw [em]
        exact CAN.ret q R (by omega) (by omega)
    · refine ⟨?_, ?_⟩
      · first | exact R.ok | omega
      · refine ⟨?_, ?_⟩
        · first | exact R.ok | omega
        · intro F9
          rw [e4] at q2
          rw [if_neg (by omega)] at q
          exact CAN.thr (k := 2) q R hn hs F9
theorem s_B_keyAt {G : XG} {d : Nat} {h : XH} {Q : XV → XH → Prop} {X : Nat → XH → Prop} {s : CS} {x y n9 s9 : Int} (R : CIR h s) (M : Room h n9 s9) (hn : 0 ≤ n9) (hs : 0 ≤ s9) (q : CAN Q X xI h (cKeyAt s x y) n9 s9) : xwp G m_B_keyAt (d + 9) 0 [xR 0, xI x, xI y] [] h Q X := by
  obtain ⟨-, -, e3, e4, -⟩ := R.eqs
  have hr := R.room M
  unfold cKeyAt at q
  refine v_B_keyAt_0 R.fx ?_
  refine ⟨fun q1 => ?_, fun q1 => ?_⟩
  · refine ⟨?_, ?_⟩
    · first | exact R.ok | omega
    · refine ⟨?_, ?_⟩
      · first | exact R.ok | omega
      · intro F9
        rw [if_neg (by omega)] at q
        exact CAN.thr (k := 2) q R hn hs F9
  · refine ⟨fun q2 => ?_, fun q2 => ?_⟩
    · refine ⟨fun q3 => ?_, fun q3 => ?_⟩
      · refine ⟨?_, ?_⟩
        · first | exact R.ok | omega
        · refine ⟨?_, ?_⟩
          · first | exact R.ok | omega
          · intro F9
            rw [e4] at q2
            rw [if_neg (by omega)] at q
            exact CAN.thr (k := 2) q R hn hs F9
      · refine ⟨?_, ?_⟩
        · first | exact R.ok | omega
        · refine ⟨fun q4 => ?_, fun q4 => ?_⟩
          · rw [e4] at q2
            rw [e3] at q4
            rw [if_pos ⟨⟨by omega, q2⟩, by omega, q4⟩] at q
            have w := R.wf.1.1.pl (by omega) q2
            have hf := R.fat (p := stA (zC s) x + y) (by omega) (by omega)
            rw [e3]
            rw [hf.2.1.2.1.1]
            exact CAN.ret q R (by omega) (by omega)
          · refine ⟨?_, ?_⟩
            · first | exact R.ok | omega
            · refine ⟨?_, ?_⟩
              · first | exact R.ok | omega
              · intro F9
                rw [e4] at q2
                rw [e3] at q4
                rw [if_neg (by omega)] at q
                exact CAN.thr (k := 2) q R hn hs F9
    · refine ⟨?_, ?_⟩
      · first | exact R.ok | omega
      · refine ⟨?_, ?_⟩
        · first | exact R.ok | omega
        · intro F9
          rw [e4] at q2
          rw [if_neg (by omega)] at q
          exact CAN.thr (k := 2) q R hn hs F9
theorem s_B_isMarked {G : XG} {d : Nat} {h : XH} {Q : XV → XH → Prop} {X : Nat → XH → Prop} {s : CS} {x y n9 s9 : Int} (R : CIR h s) (M : Room h n9 s9) (hn : 0 ≤ n9) (hs : 0 ≤ s9) (q : CAN Q X xI h (cIsMarked s x y) n9 s9) : xwp G m_B_isMarked (d + 9) 0 [xR 0, xI x, xI y] [] h Q X := by
  obtain ⟨-, -, e3, e4, -⟩ := R.eqs
  have hr := R.room M
  unfold cIsMarked at q
  refine v_B_isMarked_0 R.fx ?_
  refine ⟨fun q1 => ?_, fun q1 => ?_⟩
  · refine ⟨?_, ?_⟩
    · first | exact R.ok | omega
    · refine ⟨?_, ?_⟩
      · first | exact R.ok | omega
      · intro F9
        rw [if_neg (by omega)] at q
        exact CAN.thr (k := 2) q R hn hs F9
  · refine ⟨fun q2 => ?_, fun q2 => ?_⟩
    · refine ⟨fun q3 => ?_, fun q3 => ?_⟩
      · refine ⟨?_, ?_⟩
        · first | exact R.ok | omega
        · refine ⟨?_, ?_⟩
          · first | exact R.ok | omega
          · intro F9
            rw [e4] at q2
            rw [if_neg (by omega)] at q
            exact CAN.thr (k := 2) q R hn hs F9
      · refine ⟨?_, ?_⟩
        · first | exact R.ok | omega
        · refine ⟨fun q4 => ?_, fun q4 => ?_⟩
          · rw [e4] at q2
            rw [e3] at q4
            rw [if_pos ⟨⟨by omega, q2⟩, by omega, q4⟩] at q
            have w := R.wf.1.1.pl (by omega) q2
            have hf := R.fat (p := stA (zC s) x + y) (by omega) (by omega)
            rw [e3]
            rw [hf.2.2]
            exact CAN.ret q R (by omega) (by omega)
          · refine ⟨?_, ?_⟩
            · first | exact R.ok | omega
            · refine ⟨?_, ?_⟩
              · first | exact R.ok | omega
              · intro F9
                rw [e4] at q2
                rw [e3] at q4
                rw [if_neg (by omega)] at q
                exact CAN.thr (k := 2) q R hn hs F9
    · refine ⟨?_, ?_⟩
      · first | exact R.ok | omega
      · refine ⟨?_, ?_⟩
        · first | exact R.ok | omega
        · intro F9
          rw [e4] at q2
          rw [if_neg (by omega)] at q
          exact CAN.thr (k := 2) q R hn hs F9

end
