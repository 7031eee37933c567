/-! ===== sortd ===== -/
section
theorem s_sortD {G : XG} {X : Nat → XH → Prop} : ∀ (n d : Nat) (b lo hi : Int) (h : XH) (Q : XV → XH → Prop), 384 < b + 6 * ((n : Int) + 1) → 0 ≤ b → b ≤ 385 → xFix h → 0 ≤ lo → lo ≤ hi → hi ≤ 12000 → hi - lo ≤ 8192 → (b % 2 = 1 → 1 ≤ lo ∧ ∀ i, lo ≤ i → i < hi → xpl h 64 (lo - 1) ≤ xpl h 64 i) → xnx h + kN n (hi - lo) b ≤ xKC → xsl h + kS n (hi - lo) b ≤ xKS →
    (∀ h', SPx h h' lo hi → Srt h' lo hi → xnx h' ≤ xnx h + kN n (hi - lo) b → xsl h' ≤ xsl h + kS n (hi - lo) b → Q xN h') → xwp G m_DualPivotQuicksort_sort_SorteraJIII (d + n + 141) 0 [xR (-1), xR 64, xI b, xI lo, xI hi, xZ, xZ, xZ, xZ, xZ, xZ, xZ, xZ, xZ, xZ, xZ, xZ, xZ, xZ, xZ, xZ, xZ, xZ, xZ, xZ] [] h Q X := by
  intro n
  -- room
  have room : ∀ (n : Nat) (s b : Int), 44 ≤ s → (b = 0 ∨ 4096 < s) → 2 ≤ kN n s b ∧ 127 + s ≤ kS n s b := fun n s b s44 hb => by
    unfold kN kS
    rw [if_neg (by omega), if_neg (by omega)]
    by_cases z : s ≤ 4096
    · rw [if_pos z, if_pos z, if_pos (by omega), if_pos (by omega)]; omega
    · rw [if_neg z, if_neg z]; omega
  -- in a heap
  have hp : ∀ (n d : Nat) (b lo hi : Int) (h hA : XH) (Q : XV → XH → Prop), 0 ≤ lo → lo ≤ hi → hi ≤ 12000 → 44 ≤ hi - lo → SPx h hA lo hi → ((xnx hA = xnx h ∧ xsl hA = xsl h) ∨ ((b = 0 ∨ 4096 < hi - lo) ∧ xnx hA ≤ xnx h + 1 ∧ xsl hA ≤ xsl h + 127)) → (∀ h', SPx h h' lo hi → Srt h' lo hi → xnx h' ≤ xnx h + kN n (hi - lo) b → xsl h' ≤ xsl h + kS n (hi - lo) b → Q xN h') → xwp G m_DualPivotQuicksort_heapSort (d + 140) 0 [xR 64, xI lo, xI hi, xZ, xZ] [] hA (fun v9 h9 => xwp G m_DualPivotQuicksort_sort_SorteraJIII (d + 141) 108 [xZ, xZ, xZ, xZ, xZ, xZ, xZ, xZ, xZ, xZ, xZ, xZ, xZ, xZ, xZ, xZ, xZ, xZ, xZ, xZ, xZ, xZ, xZ, xZ, xZ] (xpush v9 []) h9 Q X) X := fun n d b lo hi h hA Q l0 l1 l2 s44 S g hq => by
    refine s_heapSort S.1.1 l0 l1 l2 (fun h' S2 T => ?_)
    refine v_DualPivotQuicksort_sort_SorteraJIII_108 S2.1.1 ?_
    have nn := kS_nn n (s := hi - lo) (b := b) (by omega)
    have e1 := S2.1.2.2.1
    have e2 := S2.1.2.2.2
    rcases g with ⟨g1, g2⟩ | ⟨g0, g1, g2⟩
    · exact hq h' (S.trans S2.x) T (by omega) (by omega)
    · have r := room n (hi - lo) b s44 g0
      exact hq h' (S.trans S2.x) T (by omega) (by omega)
  induction n with
  | zero =>
    intro d b lo hi h Q hb b0 b1 F l0 l1 l2 s8 odd rn rs hq
    refine s_sort0 F b0 (by omega) l0 l1 l2 odd (fun s44 z => by have := room 0 (hi - lo) b s44 z; omega) (fun h' S T g => ?_) (fun s44 hA S g => ?_)
    · have nn := kS_nn 0 (s := hi - lo) (b := b) (by omega)
      rcases g with ⟨g1, g2⟩ | ⟨s44, g0, g1, g2⟩
      · exact hq h' S T (by omega) (by omega)
      · have r := room 0 (hi - lo) b s44 g0
        exact hq h' S T (by omega) (by omega)
    · refine v_DualPivotQuicksort_sort_SorteraJIII_91 S.1.1 ?_
      refine ⟨?_, ?_⟩
      · exact ⟨by omega, by omega⟩
      · refine ⟨fun q1 => ?_, fun q1 => ?_⟩
        · refine ⟨?_, ?_⟩
          · exact ⟨by omega, by omega⟩
          · refine ⟨?_, ?_⟩
            · exact ⟨by omega, by omega⟩
            · refine ⟨?_, ?_⟩
              · exact ⟨by omega, by omega⟩
              · refine ⟨?_, ?_⟩
                · exact ⟨by omega, by omega⟩
                · refine ⟨?_, ?_⟩
                  · exact ⟨by omega, by omega⟩
                  · refine ⟨?_, ?_⟩
                    · exact ⟨by omega, by omega⟩
                    · refine ⟨?_, ?_⟩
                      · exact ⟨by omega, by omega⟩
                      · refine ⟨?_, ?_⟩
                        · exact ⟨by omega, by omega⟩
                        · refine ⟨?_, ?_⟩
                          · exact ⟨by omega, by omega⟩
                          · refine ⟨?_, ?_⟩
                            · exact ⟨by omega, by omega⟩
                            · refine ⟨?_, ?_⟩
                              · exact ⟨by omega, by omega⟩
                              · refine ⟨?_, ?_⟩
                                · exact ⟨by omega, by omega⟩
                                · refine ⟨?_, ?_⟩
                                  · exact ⟨by omega, by omega⟩
                                  · refine ⟨fun q2 => ?_, fun q2 => ?_⟩
                                    · omega
                                    · intro F9
                                      omega
        · exact hp 0 (d + 0) b lo hi h hA Q l0 l1 l2 s44 S g hq
  | succ n ih =>
    intro d b lo hi h Q hb b0 b1 F l0 l1 l2 s8 odd rn rs hq
    refine s_sort0 F b0 (by omega) l0 l1 l2 odd (fun s44 z => by have := room (n + 1) (hi - lo) b s44 z; omega) (fun h' S T g => ?_) (fun s44 hA S g => ?_)
    · have nn := kS_nn (n + 1) (s := hi - lo) (b := b) (by omega)
      rcases g with ⟨g1, g2⟩ | ⟨s44, g0, g1, g2⟩
      · exact hq h' S T (by omega) (by omega)
      · have r := room (n + 1) (hi - lo) b s44 g0
        exact hq h' S T (by omega) (by omega)
    · -- what is used so far, and the least ahead
      have used : ∀ s1 s2 s3 b1 b2 b3 : Int, 0 ≤ s1 → 0 ≤ s2 → 0 ≤ s3 → s1 + s2 + s3 ≤ hi - lo → b1 ≠ 0 → b2 ≠ 0 → b3 ≠ 0 → xnx hA + (kN n s1 b1 + kN n s2 b2 + kN n s3 b3) ≤ xnx h + kN (n + 1) (hi - lo) b ∧ xsl hA + (kS n s1 b1 + kS n s2 b2 + kS n s3 b3) ≤ xsl h + kS (n + 1) (hi - lo) b := fun s1 s2 s3 b1 b2 b3 h1 h2 h3 hs n1 n2 n3 => by
        obtain ⟨p1, p2⟩ := kS_parts n (b := b) h1 h2 h3 hs s44 s8 n1 n2 n3
        rcases g with ⟨g1, g2⟩ | ⟨g0, g1, g2⟩
        · omega
        · have := p2 g0; omega
      have sent : b % 2 = 1 → 1 ≤ lo ∧ ∀ i, lo ≤ i → i < hi → xpl hA 64 (lo - 1) ≤ xpl hA 64 i := fun o => by
        obtain ⟨o1, o2⟩ := odd o
        refine ⟨o1, fun i i0 i1 => ?_⟩
        rw [S.2.2 (lo - 1) (Or.inl (by omega))]
        exact S.le o2 i i0 i1
      by_cases b384 : b + 6 ≤ 384
      · obtain ⟨b6, hb6⟩ : ∃ b6, b6 = b + 6 := ⟨_, rfl⟩
        have xo := xior_1 (v := b6) (by omega) (by omega)
        obtain ⟨b7, hb7⟩ : ∃ b7, b7 = xior b6 1 := ⟨_, rfl⟩
        have b7r : b6 ≤ b7 ∧ b7 ≤ b6 + 1 ∧ b7 % 2 = 1 := by
          rw [hb7, xo]
          split <;> omega
        have dd : d + (n + 1) + 140 = d + n + 141 := by omega
        have dd1 : d + (n + 1) + 141 = d + 1 + n + 141 := by omega
        -- a right part
        have right : ∀ (a c : Int) (h2 : XH) (Q2 : XV → XH → Prop), xFix h2 → lo < a → a ≤ c → c ≤ hi → (∀ i, a ≤ i → i < c → xpl h2 64 (a - 1) ≤ xpl h2 64 i) → xnx h2 + kN n (c - a) b7 ≤ xKC → xsl h2 + kS n (c - a) b7 ≤ xKS → (∀ h', SPx h2 h' a c → Srt h' a c → xnx h' ≤ xnx h2 + kN n (c - a) b7 → xsl h' ≤ xsl h2 + kS n (c - a) b7 → Q2 xN h') → xwp G m_DualPivotQuicksort_sort_SorteraJIII (d + (n + 1) + 140) 0 [xR (-1), xR 64, xI b7, xI a, xI c, xZ, xZ, xZ, xZ, xZ, xZ, xZ, xZ, xZ, xZ, xZ, xZ, xZ, xZ, xZ, xZ, xZ, xZ, xZ, xZ] [] h2 Q2 X := fun a c h2 Q2 F2 a0 ac ch se r1 r2 q9 => by
          rw [dd]
          exact ih d b7 a c h2 Q2 (by omega) (by omega) (by omega) F2 (by omega) ac (by omega) (by omega) (fun _ => ⟨by omega, se⟩) r1 r2 q9
        -- the left part
        have left : ∀ (l : Int) (h2 : XH), lo ≤ l → l ≤ hi → xFix h2 → (b % 2 = 1 → 1 ≤ lo ∧ ∀ i, lo ≤ i → i < l → xpl h2 64 (lo - 1) ≤ xpl h2 64 i) → xnx h2 + kN n (l - lo) b6 ≤ xKC → xsl h2 + kS n (l - lo) b6 ≤ xKS → (∀ h', SPx h2 h' lo l → Srt h' lo l → xnx h' ≤ xnx h2 + kN n (l - lo) b6 → xsl h' ≤ xsl h2 + kS n (l - lo) b6 → Q xN h') → xwp G m_DualPivotQuicksort_sort_SorteraJIII (d + (n + 1) + 141) 963 [xR (-1), xR 64, xI b6, xI lo, xZ, xZ, xZ, xZ, xZ, xZ, xZ, xZ, xZ, xZ, xZ, xI l, xZ, xZ, xZ, xZ, xZ, xZ, xZ, xZ, xZ] [] h2 Q X := fun l h2 a0 a1 F2 se r1 r2 q9 => by
          refine v_DualPivotQuicksort_sort_SorteraJIII_963 F2 ?_
          rw [dd1]
          exact ih (d + 1) b6 lo l h2 Q (by omega) (by omega) (by omega) F2 l0 a0 (by omega) (by omega) (fun o => se (by omega)) r1 r2 q9
        -- parted by two
        have two : ∀ (h3 : XH) (l u p1 p2 : Int), p1 ≤ p2 → lo ≤ l → l < u → u ≤ hi - 1 → SP hA h3 lo hi → (∀ i, lo ≤ i → i < l → xpl h3 64 i ≤ p1) → xpl h3 64 l = p1 → (∀ i, l < i → i < u → p1 ≤ xpl h3 64 i ∧ xpl h3 64 i ≤ p2) → xpl h3 64 u = p2 → (∀ i, u < i → i < hi → p2 ≤ xpl h3 64 i) → xwp G m_DualPivotQuicksort_sort_SorteraJIII (d + (n + 1) + 141) 764 [xR (-1), xR 64, xI b6, xI lo, xI hi, xZ, xZ, xZ, xZ, xZ, xZ, xZ, xZ, xZ, xZ, xI l, xI u, xZ, xZ, xZ, xZ, xZ, xZ, xZ, xZ] [] h3 Q X := fun h3 l u p1 p2 pp i1 i2 i3 S3 A vl C vu B => by
          have us := used (u - (l + 1)) (hi - (u + 1)) (l - lo) b7 b7 b6 (by omega) (by omega) (by omega) (by omega) (by omega) (by omega) (by omega)
          have e1 := S3.1.2.2.1
          have e2 := S3.1.2.2.2
          have k2 := kS_nn n (s := hi - (u + 1)) (b := b7) (by omega)
          have k3 := kS_nn n (s := l - lo) (b := b6) (by omega)
          refine v_DualPivotQuicksort_sort_SorteraJIII_764 S3.1.1 ?_
          refine ⟨?_, ?_⟩
          · exact ⟨by omega, by omega⟩
          · rw [← hb7]
            refine right (l + 1) u h3 _ S3.1.1 (by omega) (by omega) (by omega) (fun i a c => by rw [show l + 1 - 1 = l by omega, vl]; exact (C i (by omega) c).1) (by omega) (by omega) (fun h4 S4 T4 n4 l4 => ?_)
            have o4 : ∀ i, (i < l + 1 ∨ u ≤ i) → xpl h4 64 i = xpl h3 64 i := S4.2.2
            refine v_DualPivotQuicksort_sort_SorteraJIII_778 S4.1.1 ?_
            refine ⟨?_, ?_⟩
            · exact ⟨by omega, by omega⟩
            · rw [← hb7]
              refine right (u + 1) hi h4 _ S4.1.1 (by omega) (by omega) (Int.le_refl _) (fun i a c => by rw [show u + 1 - 1 = u by omega, o4 u (Or.inr (Int.le_refl _)), o4 i (Or.inr (by omega)), vu]; exact B i (by omega) c) (by omega) (by omega) (fun h5 S5 T5 n5 l5 => ?_)
              have o5 : ∀ i, (i < u + 1 ∨ hi ≤ i) → xpl h5 64 i = xpl h4 64 i := S5.2.2
              refine v_DualPivotQuicksort_sort_SorteraJIII_792 S5.1.1 ?_
              refine left l h5 i1 (by omega) S5.1.1 (fun o => ?_) (by omega) (by omega) (fun h6 S6 T6 n6 l6 => ?_)
              · obtain ⟨o1, o2⟩ := sent o
                refine ⟨o1, fun i a c => ?_⟩
                rw [o5 i (Or.inl (by omega)), o4 i (Or.inl (by omega)), o5 (lo - 1) (Or.inl (by omega)), o4 (lo - 1) (Or.inl (by omega)), S3.2.2 (lo - 1) (Or.inl (by omega))]
                exact S3.le o2 i a (by omega)
              · have o6 : ∀ i, (i < lo ∨ l ≤ i) → xpl h6 64 i = xpl h5 64 i := S6.2.2
                have w6 := ((S.trans S3.x).trans (S4.wide (lo' := lo) (hi' := hi) (by omega) (by omega) (by omega))).trans (S5.wide (lo' := lo) (hi' := hi) (by omega) (by omega) (Int.le_refl _))
                refine hq h6 (w6.trans (S6.wide (Int.le_refl _) i1 (by omega))) (fun i j i0 ij jk => ?_) (by omega) (by omega)
                have z1 : ∀ x, lo ≤ x → x < l → xpl h6 64 x ≤ p1 := fun x x0 x1 => S6.ge (fun y y0 y1 => by rw [o5 y (Or.inl (by omega)), o4 y (Or.inl (by omega))]; exact A y y0 y1) x x0 x1
                have z2 : xpl h6 64 l = p1 := by rw [o6 l (Or.inr (Int.le_refl _)), o5 l (Or.inl (by omega)), o4 l (Or.inl (by omega))]; exact vl
                have z3 : ∀ x, l < x → x < u → p1 ≤ xpl h6 64 x ∧ xpl h6 64 x ≤ p2 := fun x x0 x1 => by
                  rw [o6 x (Or.inr (by omega)), o5 x (Or.inl (by omega))]
                  exact ⟨S4.le (fun y y0 y1 => (C y (by omega) y1).1) x (by omega) x1, S4.ge (fun y y0 y1 => (C y (by omega) y1).2) x (by omega) x1⟩
                have z4 : xpl h6 64 u = p2 := by rw [o6 u (Or.inr (by omega)), o5 u (Or.inl (by omega)), o4 u (Or.inr (Int.le_refl _))]; exact vu
                have z5 : ∀ x, u < x → x < hi → p2 ≤ xpl h6 64 x := fun x x0 x1 => by
                  rw [o6 x (Or.inr (by omega))]
                  exact S5.le (fun y y0 y1 => by rw [o4 y (Or.inr (by omega))]; exact B y (by omega) y1) x (by omega) x1
                by_cases a1 : j < l
                · exact T6 i j i0 ij a1
                · by_cases a2 : i < l
                  · have q1 := z1 i i0 a2
                    by_cases a3 : j = l
                    · rw [a3, z2]; exact q1
                    · by_cases a4 : j < u
                      · have := z3 j (by omega) a4; omega
                      · by_cases a5 : j = u
                        · rw [a5, z4]; omega
                        · have := z5 j (by omega) jk; omega
                  · by_cases a3 : i = l
                    · rw [a3, z2]
                      by_cases a4 : j < u
                      · exact (z3 j (by omega) a4).1
                      · by_cases a5 : j = u
                        · rw [a5, z4]; exact pp
                        · have := z5 j (by omega) jk; omega
                    · by_cases a4 : j < u
                      · rw [o6 i (Or.inr (by omega)), o6 j (Or.inr (by omega)), o5 i (Or.inl (by omega)), o5 j (Or.inl (by omega))]
                        exact T4 i j (by omega) ij a4
                      · by_cases a5 : i < u
                        · have q1 := z3 i (by omega) a5
                          by_cases a6 : j = u
                          · rw [a6, z4]; exact q1.2
                          · have := z5 j (by omega) jk; omega
                        · by_cases a6 : i = u
                          · rw [a6, z4]; exact z5 j (by omega) jk
                          · rw [o6 i (Or.inr (by omega)), o6 j (Or.inr (by omega))]
                            exact T5 i j (by omega) ij jk
        -- parted by one
        have one : ∀ (h3 : XH) (l u p : Int), lo ≤ l → l < u → u ≤ hi → SP hA h3 lo hi → (∀ i, lo ≤ i → i < l → xpl h3 64 i ≤ p) → (∀ i, l ≤ i → i < u → xpl h3 64 i = p) → (∀ i, u ≤ i → i < hi → p ≤ xpl h3 64 i) → xwp G m_DualPivotQuicksort_sort_SorteraJIII (d + (n + 1) + 141) 951 [xR (-1), xR 64, xI b6, xI lo, xI hi, xZ, xZ, xZ, xZ, xZ, xZ, xZ, xZ, xZ, xZ, xI l, xI u, xZ, xZ, xZ, xZ, xZ, xZ, xZ, xZ] [] h3 Q X := fun h3 l u p i1 i2 i3 S3 A C B => by
          have us := used (hi - u) 0 (l - lo) b7 b7 b6 (by omega) (by omega) (by omega) (by omega) (by omega) (by omega) (by omega)
          have e1 := S3.1.2.2.1
          have e2 := S3.1.2.2.2
          have k2 := kS_nn n (s := 0) (b := b7) (by omega)
          have k3 := kS_nn n (s := l - lo) (b := b6) (by omega)
          refine v_DualPivotQuicksort_sort_SorteraJIII_951 S3.1.1 ?_
          rw [← hb7]
          refine right u hi h3 _ S3.1.1 (by omega) i3 (Int.le_refl _) (fun i a c => by rw [C (u - 1) (by omega) (by omega)]; exact B i a c) (by omega) (by omega) (fun h4 S4 T4 n4 l4 => ?_)
          have o4 : ∀ i, (i < u ∨ hi ≤ i) → xpl h4 64 i = xpl h3 64 i := S4.2.2
          refine left l h4 i1 (by omega) S4.1.1 (fun o => ?_) (by omega) (by omega) (fun h6 S6 T6 n6 l6 => ?_)
          · obtain ⟨o1, o2⟩ := sent o
            refine ⟨o1, fun i a c => ?_⟩
            rw [o4 i (Or.inl (by omega)), o4 (lo - 1) (Or.inl (by omega)), S3.2.2 (lo - 1) (Or.inl (by omega))]
            exact S3.le o2 i a (by omega)
          · have o6 : ∀ i, (i < lo ∨ l ≤ i) → xpl h6 64 i = xpl h4 64 i := S6.2.2
            have w6 := (S.trans S3.x).trans (S4.wide (lo' := lo) (hi' := hi) (by omega) i3 (Int.le_refl _))
            refine hq h6 (w6.trans (S6.wide (Int.le_refl _) i1 (by omega))) (fun i j i0 ij jk => ?_) (by omega) (by omega)
            have z1 : ∀ x, lo ≤ x → x < l → xpl h6 64 x ≤ p := fun x x0 x1 => S6.ge (fun y y0 y1 => by rw [o4 y (Or.inl (by omega))]; exact A y y0 y1) x x0 x1
            have z2 : ∀ x, l ≤ x → x < u → xpl h6 64 x = p := fun x x0 x1 => by rw [o6 x (Or.inr x0), o4 x (Or.inl x1)]; exact C x x0 x1
            have z3 : ∀ x, u ≤ x → x < hi → p ≤ xpl h6 64 x := fun x x0 x1 => by
              rw [o6 x (Or.inr (by omega))]
              exact S4.le (fun y y0 y1 => B y y0 y1) x x0 x1
            by_cases a1 : j < l
            · exact T6 i j i0 ij a1
            · by_cases a2 : i < l
              · have q1 := z1 i i0 a2
                by_cases a4 : j < u
                · rw [z2 j (by omega) a4]; exact q1
                · have := z3 j (by omega) jk; omega
              · by_cases a4 : i < u
                · rw [z2 i (by omega) a4]
                  by_cases a5 : j < u
                  · rw [z2 j (by omega) a5]; exact Int.le_refl _
                  · exact z3 j (by omega) jk
                · rw [o6 i (Or.inr (by omega)), o6 j (Or.inr (by omega))]
                  exact T4 i j (by omega) ij jk
        sorry
      · refine v_DualPivotQuicksort_sort_SorteraJIII_91 S.1.1 ?_
        refine ⟨?_, ?_⟩
        · exact ⟨by omega, by omega⟩
        · refine ⟨fun q1 => ?_, fun q1 => ?_⟩
          · refine ⟨?_, ?_⟩
            · exact ⟨by omega, by omega⟩
            · refine ⟨?_, ?_⟩
              · exact ⟨by omega, by omega⟩
              · refine ⟨?_, ?_⟩
                · exact ⟨by omega, by omega⟩
                · refine ⟨?_, ?_⟩
                  · exact ⟨by omega, by omega⟩
                  · refine ⟨?_, ?_⟩
                    · exact ⟨by omega, by omega⟩
                    · refine ⟨?_, ?_⟩
                      · exact ⟨by omega, by omega⟩
                      · refine ⟨?_, ?_⟩
                        · exact ⟨by omega, by omega⟩
                        · refine ⟨?_, ?_⟩
                          · exact ⟨by omega, by omega⟩
                          · refine ⟨?_, ?_⟩
                            · exact ⟨by omega, by omega⟩
                            · refine ⟨?_, ?_⟩
                              · exact ⟨by omega, by omega⟩
                              · refine ⟨?_, ?_⟩
                                · exact ⟨by omega, by omega⟩
                                · refine ⟨?_, ?_⟩
                                  · exact ⟨by omega, by omega⟩
                                  · refine ⟨?_, ?_⟩
                                    · exact ⟨by omega, by omega⟩
                                    · refine ⟨fun q2 => ?_, fun q2 => ?_⟩
                                      · omega
                                      · intro F9
                                        omega
          · exact hp (n + 1) (d + (n + 1)) b lo hi h hA Q l0 l1 l2 s44 S g hq

end
