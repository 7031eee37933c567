/-! ===== sortd ===== -/
section
theorem s_sortD {G : XG} {X : Nat → XH → Prop} : ∀ (n d : Nat) (b lo hi : Int) (h : XH) (Q : XV → XH → Prop), 384 < b + 6 * ((n : Int) + 1) → 0 ≤ b → b ≤ 385 → xFix h → 0 ≤ lo → lo ≤ hi → hi ≤ 12000 → hi - lo ≤ 8192 → (b % 2 = 1 → 1 ≤ lo ∧ ∀ i, lo ≤ i → i < hi → xpl h 64 (lo - 1) ≤ xpl h 64 i) → xnx h + kN n (hi - lo) b ≤ xKC → xsl h + kS n (hi - lo) b ≤ xKS →
    (∀ h', SPx h h' lo hi → Srt h' lo hi → xnx h' ≤ xnx h + kN n (hi - lo) b → xsl h' ≤ xsl h + kS n (hi - lo) b → Q xN h') → xwp G m_DualPivotQuicksort_sort_SorteraJIII (d + n + 141) 0 [xR (-1), xR 64, xI b, xI lo, xI hi, xZ, xZ, xZ, xZ, xZ, xZ, xZ, xZ, xZ, xZ, xZ, xZ, xZ, xZ, xZ, xZ, xZ, xZ, xZ, xZ] [] h Q X := by
  intro n
  -- room
  have room : ∀ (n : Nat) (s b : Int), 44 ≤ s → (b = 0 ∨ 4096 < s) → 2 ≤ kN n s b ∧ 127 + s ≤ kS n s b := fun n s b s44 hb => by
    unfold kN kS
    have z44 : ¬ s < 44 := by omega
    rw [if_neg z44, if_neg z44]
    by_cases z : s ≤ 4096
    · have b0 : b = 0 := by omega
      rw [if_pos z, if_pos z, if_pos b0, if_pos b0]; omega
    · rw [if_neg z, if_neg z]; omega
  -- in a heap
  have hp : ∀ (n d : Nat) (b lo hi : Int) (h hA : XH) (Q : XV → XH → Prop), 0 ≤ lo → lo ≤ hi → hi ≤ 12000 → 44 ≤ hi - lo → SPx h hA lo hi → ((xnx hA = xnx h ∧ xsl hA = xsl h) ∨ ((b = 0 ∨ 4096 < hi - lo) ∧ xnx hA ≤ xnx h + 1 ∧ xsl hA ≤ xsl h + 127)) → (∀ h', SPx h h' lo hi → Srt h' lo hi → xnx h' ≤ xnx h + kN n (hi - lo) b → xsl h' ≤ xsl h + kS n (hi - lo) b → Q xN h') → xwp G m_DualPivotQuicksort_heapSort (d + 140) 0 [xR 64, xI lo, xI hi, xZ, xZ] [] hA (fun v9 h9 => xwp G m_DualPivotQuicksort_sort_SorteraJIII (d + 141) 108 [xZ, xZ, xZ, xZ, xZ, xZ, xZ, xZ, xZ, xZ, xZ, xZ, xZ, xZ, xZ, xZ, xZ, xZ, xZ, xZ, xZ, xZ, xZ, xZ, xZ] (xpush v9 []) h9 Q X) X := fun n d b lo hi h hA Q l0 l1 l2 s44 S g hq => by
    refine s_heapSort S.1.1 l0 l1 l2 (fun h' S2 T => ?_)
    refine v_DualPivotQuicksort_sort_SorteraJIII_108 S2.1.1 ?_
    have nn := kS_nn n (s := hi - lo) (b := b) (by omega)
    have e1 := S2.1.2.2.1
    have e2 := S2.1.2.2.2
    rcases g with ⟨g1, g2⟩ | ⟨g0, g1, g2⟩
    · exact hq h' (S.trans S2.x) T (by omega) (by omega)
    · have r := room n (hi - lo) b s44 g0
      exact hq h' (S.trans S2.x) T (by omega) (by omega)
  induction n with
  | zero =>
    intro d b lo hi h Q hb b0 b1 F l0 l1 l2 s8 odd rn rs hq
    refine s_sort0 F b0 (by omega) l0 l1 l2 odd (fun s44 z => by have := room 0 (hi - lo) b s44 z; omega) (fun h' S T g => ?_) (fun s44 hA S g => ?_)
    · have nn := kS_nn 0 (s := hi - lo) (b := b) (by omega)
      rcases g with ⟨g1, g2⟩ | ⟨s44, g0, g1, g2⟩
      · exact hq h' S T (by omega) (by omega)
      · have r := room 0 (hi - lo) b s44 g0
        exact hq h' S T (by omega) (by omega)
    · refine v_DualPivotQuicksort_sort_SorteraJIII_91 S.1.1 ?_
      refine ⟨?_, ?_⟩
      · first | (exfalso; omega) | exact ⟨by omega, by omega⟩
      · refine ⟨fun q1 => ?_, fun q1 => ?_⟩
        · refine ⟨?_, ?_⟩
          · first | (exfalso; omega) | exact ⟨by omega, by omega⟩
          · refine ⟨?_, ?_⟩
            · first | (exfalso; omega) | exact ⟨by omega, by omega⟩
            · refine ⟨?_, ?_⟩
              · first | (exfalso; omega) | exact ⟨by omega, by omega⟩
              · refine ⟨?_, ?_⟩
                · first | (exfalso; omega) | exact ⟨by omega, by omega⟩
                · refine ⟨?_, ?_⟩
                  · first | (exfalso; omega) | exact ⟨by omega, by omega⟩
                  · refine ⟨?_, ?_⟩
                    · first | (exfalso; omega) | exact ⟨by omega, by omega⟩
                    · refine ⟨?_, ?_⟩
                      · first | (exfalso; omega) | exact ⟨by omega, by omega⟩
                      · refine ⟨?_, ?_⟩
                        · first | (exfalso; omega) | exact ⟨by omega, by omega⟩
                        · refine ⟨?_, ?_⟩
                          · first | (exfalso; omega) | exact ⟨by omega, by omega⟩
                          · refine ⟨?_, ?_⟩
                            · first | (exfalso; omega) | exact ⟨by omega, by omega⟩
                            · refine ⟨?_, ?_⟩
                              · first | (exfalso; omega) | exact ⟨by omega, by omega⟩
                              · refine ⟨?_, ?_⟩
                                · first | (exfalso; omega) | exact ⟨by omega, by omega⟩
                                · refine ⟨?_, ?_⟩
                                  · first | (exfalso; omega) | exact ⟨by omega, by omega⟩
                                  · refine ⟨fun q2 => ?_, fun q2 => ?_⟩
                                    · omega
                                    · intro F9
                                      omega
        · exact hp 0 (d + 0) b lo hi h hA Q l0 l1 l2 s44 S g hq
  | succ n ih =>
    intro d b lo hi h Q hb b0 b1 F l0 l1 l2 s8 odd rn rs hq
    refine s_sort0 F b0 (by omega) l0 l1 l2 odd (fun s44 z => by have := room (n + 1) (hi - lo) b s44 z; omega) (fun h' S T g => ?_) (fun s44 hA S g => ?_)
    · have nn := kS_nn (n + 1) (s := hi - lo) (b := b) (by omega)
      rcases g with ⟨g1, g2⟩ | ⟨s44, g0, g1, g2⟩
      · exact hq h' S T (by omega) (by omega)
      · have r := room (n + 1) (hi - lo) b s44 g0
        exact hq h' S T (by omega) (by omega)
    · -- what is used so far, and the least ahead
      have used : ∀ s1 s2 s3 b1 b2 b3 : Int, 0 ≤ s1 → 0 ≤ s2 → 0 ≤ s3 → s1 + s2 + s3 ≤ hi - lo → b1 ≠ 0 → b2 ≠ 0 → b3 ≠ 0 → xnx hA + (kN n s1 b1 + kN n s2 b2 + kN n s3 b3) ≤ xnx h + kN (n + 1) (hi - lo) b ∧ xsl hA + (kS n s1 b1 + kS n s2 b2 + kS n s3 b3) ≤ xsl h + kS (n + 1) (hi - lo) b := fun s1 s2 s3 b1 b2 b3 h1 h2 h3 hs n1 n2 n3 => by
        obtain ⟨p1, p2⟩ := kS_parts n (b := b) h1 h2 h3 hs s44 s8 n1 n2 n3
        rcases g with ⟨g1, g2⟩ | ⟨g0, g1, g2⟩
        · omega
        · have := p2 g0; omega
      have sent : b % 2 = 1 → 1 ≤ lo ∧ ∀ i, lo ≤ i → i < hi → xpl hA 64 (lo - 1) ≤ xpl hA 64 i := fun o => by
        obtain ⟨o1, o2⟩ := odd o
        refine ⟨o1, fun i i0 i1 => ?_⟩
        rw [S.2.2 (lo - 1) (Or.inl (by omega))]
        exact S.le o2 i i0 i1
      by_cases b384 : b + 6 ≤ 384
      · obtain ⟨b6, hb6⟩ : ∃ b6, b6 = b + 6 := ⟨_, rfl⟩
        have xo := xior_1 (v := b6) (by omega) (by omega)
        obtain ⟨b7, hb7⟩ : ∃ b7, b7 = xior b6 1 := ⟨_, rfl⟩
        have b7r : b6 ≤ b7 ∧ b7 ≤ b6 + 1 ∧ b7 % 2 = 1 := by
          rw [hb7, xo]
          split <;> omega
        have dd : d + (n + 1) + 140 = d + n + 141 := by omega
        have dd1 : d + (n + 1) + 141 = d + 1 + n + 141 := by omega
        -- a right part
        have right : ∀ (a c : Int) (h2 : XH) (Q2 : XV → XH → Prop), xFix h2 → lo < a → a ≤ c → c ≤ hi → (∀ i, a ≤ i → i < c → xpl h2 64 (a - 1) ≤ xpl h2 64 i) → xnx h2 + kN n (c - a) b7 ≤ xKC → xsl h2 + kS n (c - a) b7 ≤ xKS → (∀ h', SPx h2 h' a c → Srt h' a c → xnx h' ≤ xnx h2 + kN n (c - a) b7 → xsl h' ≤ xsl h2 + kS n (c - a) b7 → Q2 xN h') → xwp G m_DualPivotQuicksort_sort_SorteraJIII (d + (n + 1) + 140) 0 [xR (-1), xR 64, xI b7, xI a, xI c, xZ, xZ, xZ, xZ, xZ, xZ, xZ, xZ, xZ, xZ, xZ, xZ, xZ, xZ, xZ, xZ, xZ, xZ, xZ, xZ] [] h2 Q2 X := fun a c h2 Q2 F2 a0 ac ch se r1 r2 q9 => by
          rw [dd]
          exact ih d b7 a c h2 Q2 (by omega) (by omega) (by omega) F2 (by omega) ac (by omega) (by omega) (fun _ => ⟨by omega, se⟩) r1 r2 q9
        -- the left part
        have left : ∀ (l : Int) (h2 : XH), lo ≤ l → l ≤ hi → xFix h2 → (b % 2 = 1 → 1 ≤ lo ∧ ∀ i, lo ≤ i → i < l → xpl h2 64 (lo - 1) ≤ xpl h2 64 i) → xnx h2 + kN n (l - lo) b6 ≤ xKC → xsl h2 + kS n (l - lo) b6 ≤ xKS → (∀ h', SPx h2 h' lo l → Srt h' lo l → xnx h' ≤ xnx h2 + kN n (l - lo) b6 → xsl h' ≤ xsl h2 + kS n (l - lo) b6 → Q xN h') → xwp G m_DualPivotQuicksort_sort_SorteraJIII (d + (n + 1) + 141) 963 [xR (-1), xR 64, xI b6, xI lo, xZ, xZ, xZ, xZ, xZ, xZ, xZ, xZ, xZ, xZ, xZ, xI l, xZ, xZ, xZ, xZ, xZ, xZ, xZ, xZ, xZ] [] h2 Q X := fun l h2 a0 a1 F2 se r1 r2 q9 => by
          refine v_DualPivotQuicksort_sort_SorteraJIII_963 F2 ?_
          rw [dd1]
          exact ih (d + 1) b6 lo l h2 Q (by omega) (by omega) (by omega) F2 l0 a0 (by omega) (by omega) (fun o => se (by omega)) r1 r2 q9
        -- parted by two
        have two : ∀ (h3 : XH) (l u p1 p2 : Int), p1 ≤ p2 → lo ≤ l → l < u → u ≤ hi - 1 → SP hA h3 lo hi → (∀ i, lo ≤ i → i < l → xpl h3 64 i ≤ p1) → xpl h3 64 l = p1 → (∀ i, l < i → i < u → p1 ≤ xpl h3 64 i ∧ xpl h3 64 i ≤ p2) → xpl h3 64 u = p2 → (∀ i, u < i → i < hi → p2 ≤ xpl h3 64 i) → xwp G m_DualPivotQuicksort_sort_SorteraJIII (d + (n + 1) + 141) 764 [xR (-1), xR 64, xI b6, xI lo, xI hi, xZ, xZ, xZ, xZ, xZ, xZ, xZ, xZ, xZ, xZ, xI l, xI u, xZ, xZ, xZ, xZ, xZ, xZ, xZ, xZ] [] h3 Q X := fun h3 l u p1 p2 pp i1 i2 i3 S3 A vl C vu B => by
          have us := used (u - (l + 1)) (hi - (u + 1)) (l - lo) b7 b7 b6 (by omega) (by omega) (by omega) (by omega) (by omega) (by omega) (by omega)
          have e1 := S3.1.2.2.1
          have e2 := S3.1.2.2.2
          have k2 := kS_nn n (s := hi - (u + 1)) (b := b7) (by omega)
          have k3 := kS_nn n (s := l - lo) (b := b6) (by omega)
          refine v_DualPivotQuicksort_sort_SorteraJIII_764 S3.1.1 ?_
          refine ⟨?_, ?_⟩
          · exact ⟨by omega, by omega⟩
          · rw [← hb7]
            refine right (l + 1) u h3 _ S3.1.1 (by omega) (by omega) (by omega) (fun i a c => by rw [show l + 1 - 1 = l by omega, vl]; exact (C i (by omega) c).1) (by omega) (by omega) (fun h4 S4 T4 n4 l4 => ?_)
            have o4 : ∀ i, (i < l + 1 ∨ u ≤ i) → xpl h4 64 i = xpl h3 64 i := S4.2.2
            refine v_DualPivotQuicksort_sort_SorteraJIII_778 S4.1.1 ?_
            refine ⟨?_, ?_⟩
            · exact ⟨by omega, by omega⟩
            · rw [← hb7]
              refine right (u + 1) hi h4 _ S4.1.1 (by omega) (by omega) (Int.le_refl _) (fun i a c => by rw [show u + 1 - 1 = u by omega, o4 u (Or.inr (Int.le_refl _)), o4 i (Or.inr (by omega)), vu]; exact B i (by omega) c) (by omega) (by omega) (fun h5 S5 T5 n5 l5 => ?_)
              have o5 : ∀ i, (i < u + 1 ∨ hi ≤ i) → xpl h5 64 i = xpl h4 64 i := S5.2.2
              refine v_DualPivotQuicksort_sort_SorteraJIII_792 S5.1.1 ?_
              refine left l h5 i1 (by omega) S5.1.1 (fun o => ?_) (by omega) (by omega) (fun h6 S6 T6 n6 l6 => ?_)
              · obtain ⟨o1, o2⟩ := sent o
                refine ⟨o1, fun i a c => ?_⟩
                rw [o5 i (Or.inl (by omega)), o4 i (Or.inl (by omega)), o5 (lo - 1) (Or.inl (by omega)), o4 (lo - 1) (Or.inl (by omega)), S3.2.2 (lo - 1) (Or.inl (by omega))]
                exact S3.le o2 i a (by omega)
              · have o6 : ∀ i, (i < lo ∨ l ≤ i) → xpl h6 64 i = xpl h5 64 i := S6.2.2
                have w6 := ((S.trans S3.x).trans (S4.wide (lo' := lo) (hi' := hi) (by omega) (by omega) (by omega))).trans (S5.wide (lo' := lo) (hi' := hi) (by omega) (by omega) (Int.le_refl _))
                refine hq h6 (w6.trans (S6.wide (Int.le_refl _) i1 (by omega))) (fun i j i0 ij jk => ?_) (by omega) (by omega)
                have z1 : ∀ x, lo ≤ x → x < l → xpl h6 64 x ≤ p1 := fun x x0 x1 => S6.ge (fun y y0 y1 => by rw [o5 y (Or.inl (by omega)), o4 y (Or.inl (by omega))]; exact A y y0 y1) x x0 x1
                have z2 : xpl h6 64 l = p1 := by rw [o6 l (Or.inr (Int.le_refl _)), o5 l (Or.inl (by omega)), o4 l (Or.inl (by omega))]; exact vl
                have z3 : ∀ x, l < x → x < u → p1 ≤ xpl h6 64 x ∧ xpl h6 64 x ≤ p2 := fun x x0 x1 => by
                  rw [o6 x (Or.inr (by omega)), o5 x (Or.inl (by omega))]
                  exact ⟨S4.le (fun y y0 y1 => (C y (by omega) y1).1) x (by omega) x1, S4.ge (fun y y0 y1 => (C y (by omega) y1).2) x (by omega) x1⟩
                have z4 : xpl h6 64 u = p2 := by rw [o6 u (Or.inr (by omega)), o5 u (Or.inl (by omega)), o4 u (Or.inr (Int.le_refl _))]; exact vu
                have z5 : ∀ x, u < x → x < hi → p2 ≤ xpl h6 64 x := fun x x0 x1 => by
                  rw [o6 x (Or.inr (by omega))]
                  exact S5.le (fun y y0 y1 => by rw [o4 y (Or.inr (by omega))]; exact B y (by omega) y1) x (by omega) x1
                by_cases a1 : j < l
                · exact T6 i j i0 ij a1
                · by_cases a2 : i < l
                  · have q1 := z1 i i0 a2
                    by_cases a3 : j = l
                    · rw [a3, z2]; exact q1
                    · by_cases a4 : j < u
                      · have := z3 j (by omega) a4; omega
                      · by_cases a5 : j = u
                        · rw [a5, z4]; omega
                        · have := z5 j (by omega) jk; omega
                  · by_cases a3 : i = l
                    · rw [a3, z2]
                      by_cases a4 : j < u
                      · exact (z3 j (by omega) a4).1
                      · by_cases a5 : j = u
                        · rw [a5, z4]; exact pp
                        · have := z5 j (by omega) jk; omega
                    · by_cases a4 : j < u
                      · rw [o6 i (Or.inr (by omega)), o6 j (Or.inr (by omega)), o5 i (Or.inl (by omega)), o5 j (Or.inl (by omega))]
                        exact T4 i j (by omega) ij a4
                      · by_cases a5 : i < u
                        · have q1 := z3 i (by omega) a5
                          by_cases a6 : j = u
                          · rw [a6, z4]; exact q1.2
                          · have := z5 j (by omega) jk; omega
                        · by_cases a6 : i = u
                          · rw [a6, z4]; exact z5 j (by omega) jk
                          · rw [o6 i (Or.inr (by omega)), o6 j (Or.inr (by omega))]
                            exact T5 i j (by omega) ij jk
        -- parted by one
        have one : ∀ (h3 : XH) (l u p : Int), lo ≤ l → l < u → u ≤ hi → SP hA h3 lo hi → (∀ i, lo ≤ i → i < l → xpl h3 64 i ≤ p) → (∀ i, l ≤ i → i < u → xpl h3 64 i = p) → (∀ i, u ≤ i → i < hi → p ≤ xpl h3 64 i) → xwp G m_DualPivotQuicksort_sort_SorteraJIII (d + (n + 1) + 141) 951 [xR (-1), xR 64, xI b6, xI lo, xI hi, xZ, xZ, xZ, xZ, xZ, xZ, xZ, xZ, xZ, xZ, xI l, xI u, xZ, xZ, xZ, xZ, xZ, xZ, xZ, xZ] [] h3 Q X := fun h3 l u p i1 i2 i3 S3 A C B => by
          have us := used (hi - u) 0 (l - lo) b7 b7 b6 (by omega) (by omega) (by omega) (by omega) (by omega) (by omega) (by omega)
          have e1 := S3.1.2.2.1
          have e2 := S3.1.2.2.2
          have k2 := kS_nn n (s := 0) (b := b7) (by omega)
          have k3 := kS_nn n (s := l - lo) (b := b6) (by omega)
          refine v_DualPivotQuicksort_sort_SorteraJIII_951 S3.1.1 ?_
          rw [← hb7]
          refine right u hi h3 _ S3.1.1 (by omega) i3 (Int.le_refl _) (fun i a c => by rw [C (u - 1) (by omega) (by omega)]; exact B i a c) (by omega) (by omega) (fun h4 S4 T4 n4 l4 => ?_)
          have o4 : ∀ i, (i < u ∨ hi ≤ i) → xpl h4 64 i = xpl h3 64 i := S4.2.2
          refine left l h4 i1 (by omega) S4.1.1 (fun o => ?_) (by omega) (by omega) (fun h6 S6 T6 n6 l6 => ?_)
          · obtain ⟨o1, o2⟩ := sent o
            refine ⟨o1, fun i a c => ?_⟩
            rw [o4 i (Or.inl (by omega)), o4 (lo - 1) (Or.inl (by omega)), S3.2.2 (lo - 1) (Or.inl (by omega))]
            exact S3.le o2 i a (by omega)
          · have o6 : ∀ i, (i < lo ∨ l ≤ i) → xpl h6 64 i = xpl h4 64 i := S6.2.2
            have w6 := (S.trans S3.x).trans (S4.wide (lo' := lo) (hi' := hi) (by omega) i3 (Int.le_refl _))
            refine hq h6 (w6.trans (S6.wide (Int.le_refl _) i1 (by omega))) (fun i j i0 ij jk => ?_) (by omega) (by omega)
            have z1 : ∀ x, lo ≤ x → x < l → xpl h6 64 x ≤ p := fun x x0 x1 => S6.ge (fun y y0 y1 => by rw [o4 y (Or.inl (by omega))]; exact A y y0 y1) x x0 x1
            have z2 : ∀ x, l ≤ x → x < u → xpl h6 64 x = p := fun x x0 x1 => by rw [o6 x (Or.inr x0), o4 x (Or.inl x1)]; exact C x x0 x1
            have z3 : ∀ x, u ≤ x → x < hi → p ≤ xpl h6 64 x := fun x x0 x1 => by
              rw [o6 x (Or.inr (by omega))]
              exact S4.le (fun y y0 y1 => B y y0 y1) x x0 x1
            by_cases a1 : j < l
            · exact T6 i j i0 ij a1
            · by_cases a2 : i < l
              · have q1 := z1 i i0 a2
                by_cases a4 : j < u
                · rw [z2 j (by omega) a4]; exact q1
                · have := z3 j (by omega) jk; omega
              · by_cases a4 : i < u
                · rw [z2 i (by omega) a4]
                  by_cases a5 : j < u
                  · rw [z2 j (by omega) a5]; exact Int.le_refl _
                  · exact z3 j (by omega) jk
                · rw [o6 i (Or.inr (by omega)), o6 j (Or.inr (by omega))]
                  exact T4 i j (by omega) ij jk
        have s3 : xshr (hi - lo) 3 = (hi - lo) / 8 := by rw [xshr_div (by omega) (by omega) (by decide) (by decide)]; rfl
        have u3 : xushr (lo + (xshr (hi - lo) 3 * 3 + 3) + (hi - 1 - (xshr (hi - lo) 3 * 3 + 3))) 1 = (lo + hi - 1) / 2 := by rw [xushr_1 (by omega) (by omega)]; omega
        have u2 : xushr (lo + (xshr (hi - lo) 3 * 3 + 3) + xushr (lo + (xshr (hi - lo) 3 * 3 + 3) + (hi - 1 - (xshr (hi - lo) 3 * 3 + 3))) 1) 1 = (lo + ((hi - lo) / 8 * 3 + 3) + (lo + hi - 1) / 2) / 2 := by rw [u3, s3, xushr_1 (by omega) (by omega)]
        have u4 : xushr (xushr (lo + (xshr (hi - lo) 3 * 3 + 3) + (hi - 1 - (xshr (hi - lo) 3 * 3 + 3))) 1 + (hi - 1 - (xshr (hi - lo) 3 * 3 + 3))) 1 = ((lo + hi - 1) / 2 + (hi - 1 - ((hi - lo) / 8 * 3 + 3))) / 2 := by rw [u3, s3, xushr_1 (by omega) (by omega)]
        obtain ⟨e1, he1⟩ : ∃ e, e = lo + (xshr (hi - lo) 3 * 3 + 3) := ⟨_, rfl⟩
        obtain ⟨e5, he5⟩ : ∃ e, e = hi - 1 - (xshr (hi - lo) 3 * 3 + 3) := ⟨_, rfl⟩
        obtain ⟨e3, he3⟩ : ∃ e, e = xushr (lo + (xshr (hi - lo) 3 * 3 + 3) + (hi - 1 - (xshr (hi - lo) 3 * 3 + 3))) 1 := ⟨_, rfl⟩
        obtain ⟨e2, he2⟩ : ∃ e, e = xushr (lo + (xshr (hi - lo) 3 * 3 + 3) + xushr (lo + (xshr (hi - lo) 3 * 3 + 3) + (hi - 1 - (xshr (hi - lo) 3 * 3 + 3))) 1) 1 := ⟨_, rfl⟩
        obtain ⟨e4, he4⟩ : ∃ e, e = xushr (xushr (lo + (xshr (hi - lo) 3 * 3 + 3) + (hi - 1 - (xshr (hi - lo) 3 * 3 + 3))) 1 + (hi - 1 - (xshr (hi - lo) 3 * 3 + 3))) 1 := ⟨_, rfl⟩
        have ord : lo + 2 < e1 ∧ e1 < e2 ∧ e2 < e3 ∧ e3 < e4 ∧ e4 < e5 ∧ e5 < hi - 2 := by omega
        have at446 : ∀ h2, SP hA h2 lo hi → xwp G m_DualPivotQuicksort_sort_SorteraJIII (d + (n + 1) + 141) 446 [xR (-1), xR 64, xI b6, xI lo, xI hi, xI (hi - 1), xI (hi - lo), xZ, xI e1, xI e5, xI e3, xI e2, xI e4, xZ, xZ, xZ, xZ, xZ, xZ, xZ, xZ, xZ, xZ, xZ, xZ] [] h2 Q X := fun h2 S2 => by
          have at795 : xwp G m_DualPivotQuicksort_sort_SorteraJIII (d + (n + 1) + 141) 795 [xR (-1), xR 64, xI b6, xI lo, xI hi, xZ, xI (hi - lo), xZ, xZ, xZ, xI e3, xZ, xZ, xZ, xZ, xI lo, xI (hi - 1), xZ, xZ, xZ, xZ, xZ, xZ, xZ, xZ] [] h2 Q X := by
            refine v_DualPivotQuicksort_sort_SorteraJIII_795 S2.1.1 ?_
            refine ⟨?_, ?_⟩
            · first | exact ⟨by omega, by omega⟩ | omega
            · refine ⟨?_, ?_⟩
              · first | exact ⟨by omega, by omega⟩ | omega
              · refine ⟨?_, ?_⟩
                · first | exact ⟨by omega, by omega⟩ | omega
                · refine ⟨?_, ?_⟩
                  · first | exact ⟨by omega, by omega⟩ | omega
                  · refine ⟨?_, ?_⟩
                    · first | exact ⟨by omega, by omega⟩ | omega
                    · intro F9
                      rw [show hi - 1 + 1 = hi by omega]
                      refine s_part1 (hB := hA) l0 l2 (fun h3 l u i1 i2 i3 S3 A C B => one h3 l u (xpl h2 64 e3) i1 i2 i3 S3 A C B) (hi - lo).toNat hi lo hi _ (by omega) ⟨⟨F9, S2.1.2.1.st (by omega) (Or.inl rfl), S2.1.2.2.1, S2.1.2.2.2⟩, fun w => ?_, fun i hi => by rw [xpl_ok (by omega)]; exact S2.2.2 i hi⟩ ⟨⟨Int.le_refl _, by omega, Int.le_refl _, by omega, Int.le_refl _⟩, fun i a c => by omega, fun i a c => by omega, fun i a c e => by omega⟩
                      rw [cnR_st (by omega) (by omega), xpl_ok (show lo ≠ e3 by omega)]
                      have := S2.2.1 w
                      omega
          refine v_DualPivotQuicksort_sort_SorteraJIII_446 S2.1.1 ?_
          refine ⟨?_, ?_⟩
          · first | exact ⟨by omega, by omega⟩ | omega
          · refine ⟨?_, ?_⟩
            · first | exact ⟨by omega, by omega⟩ | omega
            · refine ⟨?_, ?_⟩
              · first | exact ⟨by omega, by omega⟩ | omega
              · refine ⟨?_, ?_⟩
                · first | exact ⟨by omega, by omega⟩ | omega
                · refine ⟨fun q1 => ?_, fun q1 => ?_⟩
                  · exact at795
                  · refine ⟨?_, ?_⟩
                    · first | exact ⟨by omega, by omega⟩ | omega
                    · refine ⟨?_, ?_⟩
                      · first | exact ⟨by omega, by omega⟩ | omega
                      · refine ⟨fun q2 => ?_, fun q2 => ?_⟩
                        · exact at795
                        · refine ⟨?_, ?_⟩
                          · first | exact ⟨by omega, by omega⟩ | omega
                          · refine ⟨?_, ?_⟩
                            · first | exact ⟨by omega, by omega⟩ | omega
                            · refine ⟨fun q3 => ?_, fun q3 => ?_⟩
                              · exact at795
                              · refine ⟨?_, ?_⟩
                                · first | exact ⟨by omega, by omega⟩ | omega
                                · refine ⟨?_, ?_⟩
                                  · first | exact ⟨by omega, by omega⟩ | omega
                                  · refine ⟨fun q4 => ?_, fun q4 => ?_⟩
                                    · exact at795
                                    · refine ⟨?_, ?_⟩
                                      · first | exact ⟨by omega, by omega⟩ | omega
                                      · refine ⟨?_, ?_⟩
                                        · first | exact ⟨by omega, by omega⟩ | omega
                                        · refine ⟨?_, ?_⟩
                                          · first | exact ⟨by omega, by omega⟩ | omega
                                          · refine ⟨?_, ?_⟩
                                            · first | exact ⟨by omega, by omega⟩ | omega
                                            · intro F9
                                              have c15 : xpl h2 64 e1 ≤ xpl h2 64 e5 := by omega
                                              have ee : xpl (xst h2 64 e1 (xpl h2 64 lo)) 64 (hi - 1) = xpl h2 64 (hi - 1) := xpl_ok (by omega)
                                              rw [ee] at F9 ⊢
                                              refine s_part2 (hB := hA) (m1 := e2) (m4 := e4) l0 l2 c15 (fun h3 l u i1 i2 i3 S3 A vl C vu B => two h3 l u (xpl h2 64 e1) (xpl h2 64 e5) c15 i1 i2 i3 S3 A vl C vu B) (by omega) (by omega) (by omega) _ ⟨⟨F9, (S2.1.2.1.st (by omega) (Or.inl rfl)).st (by omega) (Or.inl rfl), S2.1.2.2.1, S2.1.2.2.2⟩, fun w => ?_, fun i hi => by rw [xpl_ok (by omega), xpl_ok (by omega)]; exact S2.2.2 i hi⟩ ?_ ?_
                                              · rw [cnR_st (by omega) (by omega), cnR_st (by omega) (by omega), xpl_ok (show e5 ≠ e1 by omega), xpl_ok (show lo ≠ e5 by omega), xpl_ok (show lo ≠ e1 by omega), xpl_ok (show hi - 1 ≠ e5 by omega), xpl_ok (show hi - 1 ≠ e1 by omega)]
                                                have := S2.2.1 w
                                                omega
                                              · rw [xpl_ok (by omega), xpl_ok (by omega)]; omega
                                              · rw [xpl_ok (by omega), xpl_ok (by omega)]; omega
        have at325 : ∀ h2 a3, SP hA h2 lo hi → a3 = xpl h2 64 e3 → xwp G m_DualPivotQuicksort_sort_SorteraJIII (d + (n + 1) + 141) 325 [xR (-1), xR 64, xI b6, xI lo, xI hi, xI (hi - 1), xI (hi - lo), xZ, xI e1, xI e5, xI e3, xI e2, xI e4, xL a3, xZ, xZ, xZ, xZ, xZ, xZ, xZ, xZ, xZ, xZ, xZ] [] h2 Q X := fun h2 a3 S2 ha => by
          refine v_DualPivotQuicksort_sort_SorteraJIII_325 S2.1.1 ?_
          refine ⟨?_, ?_⟩
          · first | exact ⟨by omega, by omega⟩ | omega
          · refine ⟨?_, ?_⟩
            · first | exact ⟨by omega, by omega⟩ | omega
            · refine ⟨fun q1 => ?_, fun q1 => ?_⟩
              · refine ⟨?_, ?_⟩
                · first | exact ⟨by omega, by omega⟩ | omega
                · refine ⟨?_, ?_⟩
                  · first | exact ⟨by omega, by omega⟩ | omega
                  · refine ⟨fun q2 => ?_, fun q2 => ?_⟩
                    · exact at446 h2 S2
                    · refine ⟨?_, ?_⟩
                      · first | exact ⟨by omega, by omega⟩ | omega
                      · refine ⟨?_, ?_⟩
                        · first | exact ⟨by omega, by omega⟩ | omega
                        · refine ⟨fun q3 => ?_, fun q3 => ?_⟩
                          · refine ⟨?_, ?_⟩
                            · first | exact ⟨by omega, by omega⟩ | omega
                            · refine ⟨?_, ?_⟩
                              · first | exact ⟨by omega, by omega⟩ | omega
                              · intro F9
                                exact at446 _ (S2.swap (by omega) (by omega) (by omega) (by omega) l0 rfl ha F9)
                          · refine ⟨?_, ?_⟩
                            · first | exact ⟨by omega, by omega⟩ | omega
                            · refine ⟨?_, ?_⟩
                              · first | exact ⟨by omega, by omega⟩ | omega
                              · intro F9
                                exact at446 _ (S2.rot l0 (by omega) (by omega) (by omega) (by omega) (by omega) (by omega) (by omega) (by omega) (by omega) rfl (xpl_ok (by omega)) ha F9)
              · refine ⟨?_, ?_⟩
                · first | exact ⟨by omega, by omega⟩ | omega
                · refine ⟨?_, ?_⟩
                  · first | exact ⟨by omega, by omega⟩ | omega
                  · refine ⟨fun q2 => ?_, fun q2 => ?_⟩
                    · refine ⟨?_, ?_⟩
                      · first | exact ⟨by omega, by omega⟩ | omega
                      · refine ⟨?_, ?_⟩
                        · first | exact ⟨by omega, by omega⟩ | omega
                        · intro F9
                          exact at446 _ (S2.swap (by omega) (by omega) (by omega) (by omega) l0 rfl ha F9)
                    · refine ⟨?_, ?_⟩
                      · first | exact ⟨by omega, by omega⟩ | omega
                      · refine ⟨?_, ?_⟩
                        · first | exact ⟨by omega, by omega⟩ | omega
                        · intro F9
                          exact at446 _ (S2.rot l0 (by omega) (by omega) (by omega) (by omega) (by omega) (by omega) (by omega) (by omega) (by omega) rfl (xpl_ok (by omega)) ha F9)
        have at293 : ∀ h2 a3, SP hA h2 lo hi → a3 = xpl h2 64 e3 → xwp G m_DualPivotQuicksort_sort_SorteraJIII (d + (n + 1) + 141) 293 [xR (-1), xR 64, xI b6, xI lo, xI hi, xI (hi - 1), xI (hi - lo), xZ, xI e1, xI e5, xI e3, xI e2, xI e4, xL a3, xZ, xZ, xZ, xZ, xZ, xZ, xZ, xZ, xZ, xZ, xZ] [] h2 Q X := fun h2 a3 S2 ha => by
          refine v_DualPivotQuicksort_sort_SorteraJIII_293 S2.1.1 ?_
          refine ⟨?_, ?_⟩
          · first | exact ⟨by omega, by omega⟩ | omega
          · refine ⟨?_, ?_⟩
            · first | exact ⟨by omega, by omega⟩ | omega
            · refine ⟨?_, ?_⟩
              · first | exact ⟨by omega, by omega⟩ | omega
              · refine ⟨?_, ?_⟩
                · first | exact ⟨by omega, by omega⟩ | omega
                · refine ⟨fun q1 => ?_, fun q1 => ?_⟩
                  · exact at325 h2 a3 S2 ha
                  · intro F9
                    exact at325 _ a3 (S2.swap (by omega) (by omega) (by omega) (by omega) l0 rfl rfl F9) (by rw [xpl_ok (by omega), xpl_ok (by omega)]; exact ha)
        have at261 : ∀ h2 a3, SP hA h2 lo hi → a3 = xpl h2 64 e3 → xwp G m_DualPivotQuicksort_sort_SorteraJIII (d + (n + 1) + 141) 261 [xR (-1), xR 64, xI b6, xI lo, xI hi, xI (hi - 1), xI (hi - lo), xZ, xI e1, xI e5, xI e3, xI e2, xI e4, xL a3, xZ, xZ, xZ, xZ, xZ, xZ, xZ, xZ, xZ, xZ, xZ] [] h2 Q X := fun h2 a3 S2 ha => by
          refine v_DualPivotQuicksort_sort_SorteraJIII_261 S2.1.1 ?_
          refine ⟨?_, ?_⟩
          · first | exact ⟨by omega, by omega⟩ | omega
          · refine ⟨?_, ?_⟩
            · first | exact ⟨by omega, by omega⟩ | omega
            · refine ⟨?_, ?_⟩
              · first | exact ⟨by omega, by omega⟩ | omega
              · refine ⟨?_, ?_⟩
                · first | exact ⟨by omega, by omega⟩ | omega
                · refine ⟨fun q1 => ?_, fun q1 => ?_⟩
                  · exact at293 h2 a3 S2 ha
                  · intro F9
                    exact at293 _ a3 (S2.swap (by omega) (by omega) (by omega) (by omega) l0 rfl rfl F9) (by rw [xpl_ok (by omega), xpl_ok (by omega)]; exact ha)
        have at229 : ∀ h2 a3, SP hA h2 lo hi → a3 = xpl h2 64 e3 → xwp G m_DualPivotQuicksort_sort_SorteraJIII (d + (n + 1) + 141) 229 [xR (-1), xR 64, xI b6, xI lo, xI hi, xI (hi - 1), xI (hi - lo), xZ, xI e1, xI e5, xI e3, xI e2, xI e4, xL a3, xZ, xZ, xZ, xZ, xZ, xZ, xZ, xZ, xZ, xZ, xZ] [] h2 Q X := fun h2 a3 S2 ha => by
          refine v_DualPivotQuicksort_sort_SorteraJIII_229 S2.1.1 ?_
          refine ⟨?_, ?_⟩
          · first | exact ⟨by omega, by omega⟩ | omega
          · refine ⟨?_, ?_⟩
            · first | exact ⟨by omega, by omega⟩ | omega
            · refine ⟨?_, ?_⟩
              · first | exact ⟨by omega, by omega⟩ | omega
              · refine ⟨?_, ?_⟩
                · first | exact ⟨by omega, by omega⟩ | omega
                · refine ⟨fun q1 => ?_, fun q1 => ?_⟩
                  · exact at261 h2 a3 S2 ha
                  · intro F9
                    exact at261 _ a3 (S2.swap (by omega) (by omega) (by omega) (by omega) l0 rfl rfl F9) (by rw [xpl_ok (by omega), xpl_ok (by omega)]; exact ha)
        have at197 : ∀ h2 a3, SP hA h2 lo hi → a3 = xpl h2 64 e3 → xwp G m_DualPivotQuicksort_sort_SorteraJIII (d + (n + 1) + 141) 197 [xR (-1), xR 64, xI b6, xI lo, xI hi, xI (hi - 1), xI (hi - lo), xZ, xI e1, xI e5, xI e3, xI e2, xI e4, xL a3, xZ, xZ, xZ, xZ, xZ, xZ, xZ, xZ, xZ, xZ, xZ] [] h2 Q X := fun h2 a3 S2 ha => by
          refine v_DualPivotQuicksort_sort_SorteraJIII_197 S2.1.1 ?_
          refine ⟨?_, ?_⟩
          · first | exact ⟨by omega, by omega⟩ | omega
          · refine ⟨?_, ?_⟩
            · first | exact ⟨by omega, by omega⟩ | omega
            · refine ⟨?_, ?_⟩
              · first | exact ⟨by omega, by omega⟩ | omega
              · refine ⟨?_, ?_⟩
                · first | exact ⟨by omega, by omega⟩ | omega
                · refine ⟨fun q1 => ?_, fun q1 => ?_⟩
                  · exact at229 h2 a3 S2 ha
                  · intro F9
                    exact at229 _ a3 (S2.swap (by omega) (by omega) (by omega) (by omega) l0 rfl rfl F9) (by rw [xpl_ok (by omega), xpl_ok (by omega)]; exact ha)
        refine v_DualPivotQuicksort_sort_SorteraJIII_91 S.1.1 ?_
        refine ⟨?_, ?_⟩
        · first | exact ⟨by omega, by omega⟩ | omega
        · refine ⟨fun q1 => ?_, fun q1 => ?_⟩
          · refine ⟨?_, ?_⟩
            · first | exact ⟨by omega, by omega⟩ | omega
            · refine ⟨?_, ?_⟩
              · first | exact ⟨by omega, by omega⟩ | omega
              · refine ⟨?_, ?_⟩
                · first | exact ⟨by omega, by omega⟩ | omega
                · refine ⟨?_, ?_⟩
                  · first | exact ⟨by omega, by omega⟩ | omega
                  · refine ⟨?_, ?_⟩
                    · first | exact ⟨by omega, by omega⟩ | omega
                    · refine ⟨?_, ?_⟩
                      · first | exact ⟨by omega, by omega⟩ | omega
                      · refine ⟨?_, ?_⟩
                        · first | exact ⟨by omega, by omega⟩ | omega
                        · refine ⟨?_, ?_⟩
                          · first | exact ⟨by omega, by omega⟩ | omega
                          · refine ⟨?_, ?_⟩
                            · first | exact ⟨by omega, by omega⟩ | omega
                            · refine ⟨?_, ?_⟩
                              · first | exact ⟨by omega, by omega⟩ | omega
                              · refine ⟨?_, ?_⟩
                                · first | exact ⟨by omega, by omega⟩ | omega
                                · refine ⟨?_, ?_⟩
                                  · first | exact ⟨by omega, by omega⟩ | omega
                                  · refine ⟨?_, ?_⟩
                                    · first | exact ⟨by omega, by omega⟩ | omega
                                    · refine ⟨fun q2 => ?_, fun q2 => ?_⟩
                                      · rw [← he4, ← he2, ← he3, ← he1, ← he5, ← hb6]
                                        exact at197 hA _ (SP.refl S.1.1 lo hi) rfl
                                      · intro F9
                                        rw [← he2, ← he5] at F9
                                        rw [← he4, ← he2, ← he3, ← he1, ← he5, ← hb6]
                                        exact at197 _ _ ((SP.refl S.1.1 lo hi).swap (by omega) (by omega) (by omega) (by omega) l0 rfl rfl F9) (by rw [xpl_ok (by omega), xpl_ok (by omega)])
          · omega
      · refine v_DualPivotQuicksort_sort_SorteraJIII_91 S.1.1 ?_
        refine ⟨?_, ?_⟩
        · first | (exfalso; omega) | exact ⟨by omega, by omega⟩
        · refine ⟨fun q1 => ?_, fun q1 => ?_⟩
          · refine ⟨?_, ?_⟩
            · first | (exfalso; omega) | exact ⟨by omega, by omega⟩
            · refine ⟨?_, ?_⟩
              · first | (exfalso; omega) | exact ⟨by omega, by omega⟩
              · refine ⟨?_, ?_⟩
                · first | (exfalso; omega) | exact ⟨by omega, by omega⟩
                · refine ⟨?_, ?_⟩
                  · first | (exfalso; omega) | exact ⟨by omega, by omega⟩
                  · refine ⟨?_, ?_⟩
                    · first | (exfalso; omega) | exact ⟨by omega, by omega⟩
                    · refine ⟨?_, ?_⟩
                      · first | (exfalso; omega) | exact ⟨by omega, by omega⟩
                      · refine ⟨?_, ?_⟩
                        · first | (exfalso; omega) | exact ⟨by omega, by omega⟩
                        · refine ⟨?_, ?_⟩
                          · first | (exfalso; omega) | exact ⟨by omega, by omega⟩
                          · refine ⟨?_, ?_⟩
                            · first | (exfalso; omega) | exact ⟨by omega, by omega⟩
                            · refine ⟨?_, ?_⟩
                              · first | (exfalso; omega) | exact ⟨by omega, by omega⟩
                              · refine ⟨?_, ?_⟩
                                · first | (exfalso; omega) | exact ⟨by omega, by omega⟩
                                · refine ⟨?_, ?_⟩
                                  · first | (exfalso; omega) | exact ⟨by omega, by omega⟩
                                  · refine ⟨?_, ?_⟩
                                    · first | (exfalso; omega) | exact ⟨by omega, by omega⟩
                                    · refine ⟨fun q2 => ?_, fun q2 => ?_⟩
                                      · omega
                                      · intro F9
                                        omega
          · exact hp (n + 1) (d + (n + 1)) b lo hi h hA Q l0 l1 l2 s44 S g hq
theorem s_sort3 {G : XG} {d : Nat} {h : XH} {Q : XV → XH → Prop} {X : Nat → XH → Prop} {lo hi : Int} (F : xFix h) (l0 : 0 ≤ lo) (l1 : lo ≤ hi) (l2 : hi ≤ 12000) (l8 : hi - lo ≤ 8192) (rn : xnx h + kN 64 (hi - lo) 0 ≤ xKC) (rs : xsl h + kS 64 (hi - lo) 0 ≤ xKS)
    (hq : ∀ h', SPx h h' lo hi → Srt h' lo hi → xnx h' ≤ xnx h + kN 64 (hi - lo) 0 → xsl h' ≤ xsl h + kS 64 (hi - lo) 0 → Q xN h') : xwp G m_Arrays_sort (d + 215) 0 [xR 64, xI lo, xI hi] [] h Q X := by
  refine v_Arrays_sort_0 F ?_
  refine v_Arrays_rangeCheck_0 F ?_
  refine ⟨fun q1 => ?_, fun q1 => ?_⟩
  · refine ⟨fun q2 => ?_, fun q2 => ?_⟩
    · refine ⟨fun q3 => ?_, fun q3 => ?_⟩
      · refine v_Arrays_sort_7 F ?_
        have go : xwp G m_DualPivotQuicksort_sort_SorteraJIII (d + 213) 0 [xR (-1), xR 64, xI 0, xI lo, xI hi, xZ, xZ, xZ, xZ, xZ, xZ, xZ, xZ, xZ, xZ, xZ, xZ, xZ, xZ, xZ, xZ, xZ, xZ, xZ, xZ] [] h (fun v9 h9 => xwp G m_DualPivotQuicksort_sort_aJIII (d + 214) 76 [xZ, xZ, xZ, xZ, xZ, xZ, xZ] (xpush v9 []) h9 (fun v9 h9 => xwp G m_Arrays_sort (d + 215) 14 [xZ, xZ, xZ] (xpush v9 []) h9 Q X) X) X := by
          refine s_sortD 64 (d + 8) 0 lo hi h _ (by decide) (Int.le_refl _) (by decide) F l0 l1 l2 l8 (fun o => absurd o (by decide)) rn rs (fun h' S T n9 l9 => ?_)
          refine v_DualPivotQuicksort_sort_aJIII_76 S.1.1 ?_
          refine v_Arrays_sort_14 S.1.1 ?_
          exact hq h' S T n9 l9
        refine v_DualPivotQuicksort_sort_aJIII_0 F ?_
        refine ⟨?_, ?_⟩
        · exact ⟨by omega, by omega⟩
        · refine ⟨fun q1 => ?_, fun q1 => ?_⟩
          · exact go
          · refine ⟨fun q2 => ?_, fun q2 => ?_⟩
            · exact go
            · omega
      · omega
    · omega
  · omega

end
