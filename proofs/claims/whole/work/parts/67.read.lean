/-! ===== read ===== -/
section
theorem ntA_le {bs : List Int} {s : Int} (h : s ≤ bs.length) : s ≤ ntA bs s ∧ ntA bs s ≤ bs.length := by
  unfold ntA
  split
  · exact ⟨Int.le_refl _, h⟩
  · rename_i a
    have hlt : s < bs.length := by
      by_cases z : s < bs.length
      · exact z
      · exact absurd (lat_out (Or.inr (by omega))) a
    split
    · exact ⟨by omega, by omega⟩
    · have := re_rng bs (i := s) (lim := bs.length) (by omega); exact this
/-- between two tokens -/
theorem RdB.nt {h0 h h' : XH} {bs : List Int} {a : Int} {qa pa : List Int} {D : DR} {op : List Nat} (B : RdB h0 h bs a qa pa D op) (F : xFix h') (e : xsm NTW h h') (T : TapeR h' bs) : RdB h0 h' bs a qa pa D op := by
  refine B.low F (e.mono (fun c _ w => ?_)) T (B.2.1.1.frame B.1.1 e (fun c w y => ?_))
  · unfold NTW at w
    rcases w with w | w
    · exact Or.inl (Or.inl w)
    · exact Or.inl (Or.inr (Or.inr (Or.inr w)))
  · unfold NTW TPC at y
    rcases w with w | w
    · omega
    · have F0 := B.1.1
      rcases y with y | y | y | y | y <;> rw [y] at w
      · rw [ft_32 F0] at w; exact absurd w.1 (by decide)
      · rw [ft_1 F0] at w; exact absurd w.1 (by decide)
      · rw [ft_2 F0] at w; exact absurd w.1 (by decide)
      · rw [ft_3 F0] at w; exact absurd w.1 (by decide)
      · rw [ft_4 F0] at w; exact absurd w.1 (by decide)
/-- what reading leaves, whether it takes the question or not -/
def RdQ (h0 h : XH) (bs : List Int) (ans : Int × RS) : Prop :=
  (xFix h ∧ xsm (RDW h0) h0 h ∧ TapeR h bs ∧ xnx h ≤ xnx h0 + 400 ∧ xsl h ≤ xsl h0 + 6400) ∧ (∃ es, ALr h 34 es ∧ es.length ≤ 5) ∧ xpl h 35 10 = 0 ∧
  (ans.1 = -1 → ∃ a qa pa, xpl h 32 5 = a ∧ DraR h a qa pa ans.2.2.1 ∧ DRw ans.2.2.1 ∧ 0 < ans.2.2.1.2.length ∧ xnx h0 ≤ a ∧ (∀ q ∈ qa, xnx h0 ≤ q ∧ xnx h0 ≤ xpl h q 0) ∧ ∀ p ∈ pa, xnx h0 ≤ p)
theorem ntW_run {bs : List Int} {s w : Int} (h : ntT bs s = 1) : ntW bs s w = ntW bs s 0 := by
  obtain ⟨a, b, -⟩ := ntT_run h
  unfold ntW
  rw [if_neg a, if_neg b, if_neg a, if_neg b]
theorem sbF_id (bs : List Int) (p : Int) : True := trivial
theorem s_QR_readLoop {G : XG} {d : Nat} {h : XH} {Q : XV → XH → Prop} {X : Nat → XH → Prop} {h0 : XH} {bs : List Int} {a : Int} {ans : Int × RS} (hq : ∀ h', RdQ h0 h' bs ans → Q (xI ans.1) h') (hc0 : xnx h0 + 500 ≤ xKC) (hs0 : xsl h0 + 6600 ≤ xKS) : ∀ (m n : Nat) (h : XH) (qa pa : List Int) (r : RS) (p : Int), n + m = 40 → RdB h0 h bs a qa pa r.2.1 r.2.2.1 → RdF h a pa r → RDI n r → 0 ≤ p → p ≤ bs.length → (0 ≤ xpl h 32 8 ∧ xpl h 32 8 ≤ bs.length ∧ sb bs (xpl h 32 8) = sb bs p) → xnx h ≤ xnx h0 + 50 + 8 * n → xsl h ≤ xsl h0 + 50 + 2 * n * n + 70 * n → rdF bs m p r = ans → xwp G m_QuestionReader_read (d + 12) 62 [xR 32, xR 1, xI n, xZ] [] h Q X := by
  intro m
  induction m with
  | zero =>
    intro n h qa pa r p en B RF I p0 p1 h8 n1 l1 hv
    have F := B.1.1
    have hnx := F.nx
    have e40 : n = 40 := by omega
    subst e40
    have hs := sb_rng (bs := bs) p1
    obtain ⟨s, hsd⟩ : ∃ s, s = sb bs p := ⟨_, rfl⟩
    have hv : (if ntT bs (sb bs p) = 0 then (match tkF bs (sb bs p) r with | none => (sb bs p, r) | some r' => (-1, r')) else (sb bs p, r)) = ans := hv
    rw [← hsd] at hv hs h8
    refine v_QuestionReader_read_62 F ?_
    refine ⟨fun q1 => ?_, fun q1 => ?_⟩
    · omega
    · refine s_QR_nextToken F B.1.2.2.1 rfl h8.1 h8.2.1 (fun h2 F2 S2 R2 k2 y9 y8 y10 y11 yR n2 l2 => ?_)
      rw [h8.2.2] at y9 y8 y10 y11 yR
      have B2 := B.nt F2 S2 R2
      have RF2 : RdF h2 a pa r := by
        obtain ⟨⟨g1, g2⟩, ⟨g4, g5, g6⟩, g7⟩ := RF
        have kk : ∀ k, k ≠ 8 → k ≠ 9 → k ≠ 10 → k ≠ 11 → xpl h2 32 k = xpl h 32 k := k2
        exact ⟨⟨(kk 12 (by decide) (by decide) (by decide) (by decide)).trans g1, fun y1 y2 => ⟨(kk 13 (by decide) (by decide) (by decide) (by decide)).trans (g2 y1 y2).1, (kk 14 (by decide) (by decide) (by decide) (by decide)).trans (g2 y1 y2).2⟩⟩, ⟨(kk 5 (by decide) (by decide) (by decide) (by decide)).trans g4, (kk 6 (by decide) (by decide) (by decide) (by decide)).trans g5, fun y => by rw [kk 7 (by decide) (by decide) (by decide) (by decide)]; exact g6 y⟩, fun y => ⟨(kk 1 (by decide) (by decide) (by decide) (by decide)).trans (g7 y).1, fun i hi => by rw [S2.pl (by omega) (by unfold NTW TPC; omega)]; exact (g7 y).2 i hi⟩⟩
      have RQ : ans.1 ≠ -1 → RdQ h0 h2 bs ans := fun y => ⟨⟨F2, B2.1.2.1, R2, by omega, by omega⟩, ⟨_, B2.2.1.1, by rw [List.length_cons, List.length_map]; have := I.1.2.2.2.2.2; omega⟩, B2.2.1.2, fun z => absurd z y⟩
      refine v_QuestionReader_read_73 F2 ?_
      refine ⟨fun q1 => ?_, fun q1 => ?_⟩
      · refine ⟨fun q2 => ?_, fun q2 => ?_⟩
        · rw [y10] at q2
          rw [if_pos q2] at hv
          refine v_QuestionReader_read_90 F2 ?_
          refine v_QuestionReader_read_91 F2 ?_
          refine ⟨fun q1 => ?_, fun q1 => ?_⟩
          · refine s_QR_takes (n := 40) B2 RF2 I (Or.inr q2) (by omega) (fun y => by omega) y9 y8 (ntA_le hs.2).2 y10 (fun y => by omega) (by omega) (by omega) ⟨fun e => ?_, fun r' h' qa' pa' e B3 RF3 n3 l3 e39 e310 e38 => ?_⟩
            · refine v_QuestionReader_read_101 F2 ?_
              refine ⟨fun q1 => ?_, fun q1 => ?_⟩
              · rw [e] at hv
                rw [y9]
                have ha : ans = (s, r) := hv.symm
                have := hq h2 (RQ (by rw [ha]; show s ≠ -1; omega))
                rw [ha] at this
                exact this
              · refine ⟨fun q2 => ?_, fun q2 => ?_⟩
                · omega
                · refine ⟨?_, ?_⟩
                  · first | omega | assumption | exact ⟨by omega, by omega⟩ | (simp only [*]; done) | grind
                  · omega
            · rw [e] at hv
              have ha : ans = (-1, r') := hv.symm
              have er : r' = r := by
                unfold tkF at e
                rw [if_pos q2] at e
                split at e
                · exact (Option.some.inj e).symm
                · cases e
              refine v_QuestionReader_read_101 B3.1.1 ?_
              refine ⟨fun q1 => ?_, fun q1 => ?_⟩
              · omega
              · refine ⟨fun q2 => ?_, fun q2 => ?_⟩
                · have RQ3 : RdQ h0 h' bs ans := by
                    rw [ha]
                    refine ⟨⟨B3.1.1, B3.1.2.1, B3.1.2.2.1, by omega, by omega⟩, ⟨_, B3.2.1.1, by rw [List.length_cons, List.length_map, er]; have := I.1.2.2.2.2.2; omega⟩, B3.2.1.2, fun _ => ⟨a, qa', pa', RF3.2.1.1, B3.2.2.1, by rw [er]; exact I.2.2.2.2.2, by show 0 < r'.2.1.2.length; rw [er]; exact I.1.2.2.1, B3.2.2.2.1, fun q hq => ⟨(B3.2.2.2.2.1 q hq).1, (B3.2.2.2.2.1 q hq).2.1⟩, B3.2.2.2.2.2.1⟩⟩
                  have := hq h' RQ3
                  rw [ha] at this
                  exact this
                · refine ⟨?_, ?_⟩
                  · first | omega | assumption | exact ⟨by omega, by omega⟩ | (simp only [*]; done) | grind
                  · rw [e310, y10] at q2; omega
          · exact absurd rfl q1
        · rw [y10] at q2
          rw [if_neg q2] at hv
          refine v_QuestionReader_read_91 F2 ?_
          refine ⟨fun q1 => ?_, fun q1 => ?_⟩
          · omega
          · rw [y9]
            have ha : ans = (s, r) := hv.symm
            have := hq h2 (RQ (by rw [ha]; show s ≠ -1; omega))
            rw [ha] at this
            exact this
      · omega
  | succ m ih =>
    intro n h qa pa r p en B RF I p0 p1 h8 n1 l1 hv
    have F := B.1.1
    have hnx := F.nx
    have hs := sb_rng (bs := bs) p1
    obtain ⟨s, hsd⟩ : ∃ s, s = sb bs p := ⟨_, rfl⟩
    have hv : (match tkF bs (sb bs p) r with | none => (sb bs p, r) | some r' => if ntT bs (sb bs p) = 0 then (-1, r') else rdF bs m (ntA bs (sb bs p)) r') = ans := hv
    rw [← hsd] at hv hs h8
    have hnn : 2 * (n : Int) * n ≤ 2 * 39 * n := Int.mul_le_mul_of_nonneg_right (by omega) (by omega)
    have hn2 : 2 * ((n + 1 : Nat) : Int) * ((n + 1 : Nat) : Int) = 2 * (n : Int) * n + 4 * n + 2 := by
      have e1 : ((n + 1 : Nat) : Int) = (n : Int) + 1 := by omega
      rw [e1]
      simp only [Int.mul_add, Int.add_mul, Int.mul_one, Int.mul_assoc]
      omega
    refine v_QuestionReader_read_62 F ?_
    refine ⟨fun q1 => ?_, fun q1 => ?_⟩
    · omega
    · refine s_QR_nextToken F B.1.2.2.1 rfl h8.1 h8.2.1 (fun h2 F2 S2 R2 k2 y9 y8 y10 y11 yR n2 l2 => ?_)
      rw [h8.2.2] at y9 y8 y10 y11 yR
      have B2 := B.nt F2 S2 R2
      have RF2 : RdF h2 a pa r := by
        obtain ⟨⟨g1, g2⟩, ⟨g4, g5, g6⟩, g7⟩ := RF
        have kk : ∀ k, k ≠ 8 → k ≠ 9 → k ≠ 10 → k ≠ 11 → xpl h2 32 k = xpl h 32 k := k2
        exact ⟨⟨(kk 12 (by decide) (by decide) (by decide) (by decide)).trans g1, fun y1 y2 => ⟨(kk 13 (by decide) (by decide) (by decide) (by decide)).trans (g2 y1 y2).1, (kk 14 (by decide) (by decide) (by decide) (by decide)).trans (g2 y1 y2).2⟩⟩, ⟨(kk 5 (by decide) (by decide) (by decide) (by decide)).trans g4, (kk 6 (by decide) (by decide) (by decide) (by decide)).trans g5, fun y => by rw [kk 7 (by decide) (by decide) (by decide) (by decide)]; exact g6 y⟩, fun y => ⟨(kk 1 (by decide) (by decide) (by decide) (by decide)).trans (g7 y).1, fun i hi => by rw [S2.pl (by omega) (by unfold NTW TPC; omega)]; exact (g7 y).2 i hi⟩⟩
      have RQ : ans.1 ≠ -1 → RdQ h0 h2 bs ans := fun y => ⟨⟨F2, B2.1.2.1, R2, by omega, by omega⟩, ⟨_, B2.2.1.1, by rw [List.length_cons, List.length_map]; have := I.1.2.2.2.2.2; omega⟩, B2.2.1.2, fun z => absurd z y⟩
      refine v_QuestionReader_read_73 F2 ?_
      refine ⟨fun q1 => ?_, fun q1 => ?_⟩
      · refine ⟨fun q2 => ?_, fun q2 => ?_⟩
        · omega
        · omega
      · refine v_QuestionReader_read_90 F2 ?_
        refine v_QuestionReader_read_91 F2 ?_
        refine ⟨fun q1 => ?_, fun q1 => ?_⟩
        · refine s_QR_takes (n := n) B2 RF2 I (Or.inl (by omega)) (by omega) (fun y => by obtain ⟨z1, z2, -⟩ := ntT_run y; exact yR z1 z2) y9 y8 (ntA_le hs.2).2 y10 (fun y => by rw [y11]; exact ntW_run y) (by omega) (by omega) ⟨fun e => ?_, fun r' h' qa' pa' e B3 RF3 n3 l3 e39 e310 e38 => ?_⟩
          · refine v_QuestionReader_read_101 F2 ?_
            refine ⟨fun q1 => ?_, fun q1 => ?_⟩
            · rw [e] at hv
              rw [y9]
              have ha : ans = (s, r) := hv.symm
              have := hq h2 (RQ (by rw [ha]; show s ≠ -1; omega))
              rw [ha] at this
              exact this
            · refine ⟨fun q2 => ?_, fun q2 => ?_⟩
              · omega
              · refine ⟨?_, ?_⟩
                · omega
                · omega
          · rw [e] at hv
            have hv : (if ntT bs s = 0 then (-1, r') else rdF bs m (ntA bs s) r') = ans := hv
            rw [y8] at e38
            refine v_QuestionReader_read_101 B3.1.1 ?_
            refine ⟨fun q1 => ?_, fun q1 => ?_⟩
            · omega
            · refine ⟨fun q2 => ?_, fun q2 => ?_⟩
              · rw [e310, y10] at q2
                rw [if_pos q2] at hv
                have ha : ans = (-1, r') := hv.symm
                have er : r' = r := by
                  unfold tkF at e
                  rw [if_pos q2] at e
                  split at e
                  · exact (Option.some.inj e).symm
                  · cases e
                have RQ3 : RdQ h0 h' bs ans := by
                  rw [ha]
                  refine ⟨⟨B3.1.1, B3.1.2.1, B3.1.2.2.1, by omega, by omega⟩, ⟨_, B3.2.1.1, by rw [List.length_cons, List.length_map, er]; have := I.1.2.2.2.2.2; omega⟩, B3.2.1.2, fun _ => ⟨a, qa', pa', RF3.2.1.1, B3.2.2.1, by rw [er]; exact I.2.2.2.2.2, by show 0 < r'.2.1.2.length; rw [er]; exact I.1.2.2.1, B3.2.2.2.1, fun q hq => ⟨(B3.2.2.2.2.1 q hq).1, (B3.2.2.2.2.1 q hq).2.1⟩, B3.2.2.2.2.2.1⟩⟩
                have := hq h' RQ3
                rw [ha] at this
                exact this
              · refine ⟨?_, ?_⟩
                · exact ⟨by omega, by omega⟩
                · rw [e310, y10] at q2
                  rw [if_neg q2] at hv
                  have hA := ntA_le hs.2
                  exact ih (n + 1) h' qa' pa' r' (ntA bs s) (by omega) B3 RF3 (I.tk q2 e) (by omega) hA.2 ⟨by omega, e38.2.1, e38.2.2⟩ (by omega) (by omega) hv
        · exact absurd rfl q1

end
