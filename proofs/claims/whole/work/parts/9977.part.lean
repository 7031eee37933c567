/-! ===== part ===== -/
section
/-! a stretch is parted by two of its numbers, or by one -/
def P2 (hB h : XH) (lo hi p1 p2 : Int) : Prop := (xFix h ∧ xsm (fun c => c = 64) hB h ∧ xnx h = xnx hB ∧ xsl h = xsl hB) ∧ (∀ w, cnR (xpl h 64) w lo hi + cw p1 w + cw p2 w - cw (xpl h 64 lo) w - cw (xpl h 64 (hi - 1)) w = cnR (xpl hB 64) w lo hi) ∧ ∀ i, (i < lo ∨ hi ≤ i) → xpl h 64 i = xpl hB 64 i
/-- two inner places are exchanged -/
theorem P2.swap {hB h : XH} {lo hi p1 p2 p q a c : Int} (S : P2 hB h lo hi p1 p2) (l0 : 0 ≤ lo) (p0 : lo < p) (p9 : p < hi - 1) (q0 : lo < q) (q9 : q < hi - 1) (ha : a = xpl h 64 q) (hc : c = xpl h 64 p) (F : xFix (xst (xst h 64 p a) 64 q c)) : P2 hB (xst (xst h 64 p a) 64 q c) lo hi p1 p2 := by
  refine ⟨⟨F, (S.1.2.1.st (by omega) (Or.inl rfl)).st (by omega) (Or.inl rfl), S.1.2.2.1, S.1.2.2.2⟩, fun w => ?_, fun i hi => ?_⟩
  · rw [cnR_st (by omega) (by omega), cnR_st (by omega) (by omega), ha, hc, xpl_ok (show lo ≠ q by omega), xpl_ok (show lo ≠ p by omega), xpl_ok (show hi - 1 ≠ q by omega), xpl_ok (show hi - 1 ≠ p by omega)]
    have := S.2.1 w
    by_cases z : p = q
    · rw [z, xpl_hit]; omega
    · rw [xpl_ok (fun y => z y.symm)]; omega
  · rw [xpl_ok (by omega), xpl_ok (by omega)]; exact S.2.2 i hi
/-- three: k gets what is at u, u what is at l, l what was at k -/
theorem P2.rot {hB h : XH} {lo hi p1 p2 k u l a b c : Int} (S : P2 hB h lo hi p1 p2) (l0 : 0 ≤ lo) (k0 : lo < k) (k9 : k < hi - 1) (u0 : lo < u) (u9 : u < hi - 1) (g0 : lo < l) (g9 : l < hi - 1) (lk : l ≠ k) (lu : l ≠ u) (ha : a = xpl h 64 u) (hb : b = xpl h 64 l) (hc : c = xpl h 64 k) (F : xFix (xst (xst (xst h 64 k a) 64 u b) 64 l c)) : P2 hB (xst (xst (xst h 64 k a) 64 u b) 64 l c) lo hi p1 p2 := by
  refine ⟨⟨F, ((S.1.2.1.st (by omega) (Or.inl rfl)).st (by omega) (Or.inl rfl)).st (by omega) (Or.inl rfl), S.1.2.2.1, S.1.2.2.2⟩, fun w => ?_, fun i hi => ?_⟩
  · rw [cnR_st (by omega) (by omega), cnR_st (by omega) (by omega), cnR_st (by omega) (by omega), ha, hb, hc, xpl_ok (show lo ≠ l by omega), xpl_ok (show lo ≠ u by omega), xpl_ok (show lo ≠ k by omega), xpl_ok (show hi - 1 ≠ l by omega), xpl_ok (show hi - 1 ≠ u by omega), xpl_ok (show hi - 1 ≠ k by omega), xpl_ok lu, xpl_ok lk]
    have := S.2.1 w
    by_cases z : u = k
    · rw [z, xpl_hit]; omega
    · rw [xpl_ok z]; omega
  · rw [xpl_ok (by omega), xpl_ok (by omega), xpl_ok (by omega)]; exact S.2.2 i hi
/-- where the parting stands -/
def P2I (h : XH) (lo hi p1 p2 l u k : Int) : Prop := (lo ≤ l ∧ l < u ∧ u ≤ hi - 1 ∧ l ≤ k ∧ k ≤ u) ∧ (∀ i, lo < i → i ≤ l → xpl h 64 i < p1) ∧ (∀ i, u ≤ i → i < hi - 1 → p2 < xpl h 64 i) ∧ ∀ i, k ≤ i → l < i → i < u → p1 ≤ xpl h 64 i ∧ xpl h 64 i ≤ p2
theorem s_part2 {G : XG} {d : Nat} {Q : XV → XH → Prop} {X : Nat → XH → Prop} {hB : XH} {b lo hi sz p1 p2 : Int} (l0 : 0 ≤ lo) (h12 : hi ≤ 12000) (pp : p1 ≤ p2) (cont : ∀ h3 l u, lo ≤ l → l < u → u ≤ hi - 1 → SP hB h3 lo hi → (∀ i, lo ≤ i → i < l → xpl h3 64 i ≤ p1) → xpl h3 64 l = p1 → (∀ i, l < i → i < u → p1 ≤ xpl h3 64 i ∧ xpl h3 64 i ≤ p2) → xpl h3 64 u = p2 → (∀ i, u < i → i < hi → p2 ≤ xpl h3 64 i) → xwp G m_DualPivotQuicksort_sort_SorteraJIII (d + 141) 764 [xR (-1), xR 64, xI b, xI lo, xI hi, xZ, xZ, xZ, xZ, xZ, xZ, xZ, xZ, xZ, xZ, xI l, xI u, xZ, xZ, xZ, xZ, xZ, xZ, xZ, xZ] [] h3 Q X) {m1 m4 : Int} (m0 : lo < m1) (m14 : m1 ≤ m4) (m9 : m4 < hi - 1) : ∀ h2, P2 hB h2 lo hi p1 p2 → p1 ≤ xpl h2 64 m1 → xpl h2 64 m4 ≤ p2 → xwp G m_DualPivotQuicksort_sort_SorteraJIII (d + 141) 529 [xR (-1), xR 64, xI b, xI lo, xI hi, xI (hi - 1), xI sz, xZ, xZ, xZ, xZ, xZ, xZ, xZ, xZ, xI lo, xI (hi - 1), xL p1, xZ, xL p2, xZ, xZ, xZ, xZ, xZ] [] h2 Q X := by
  -- the parting is over
  have fin : ∀ l u k h2, P2 hB h2 lo hi p1 p2 → P2I h2 lo hi p1 p2 l u k → k - 1 ≤ l → xFix (xst (xst (xst (xst h2 64 lo (xpl h2 64 l)) 64 l p1) 64 (hi - 1) (xpl (xst (xst h2 64 lo (xpl h2 64 l)) 64 l p1) 64 u)) 64 u p2) → xwp G m_DualPivotQuicksort_sort_SorteraJIII (d + 141) 764 [xR (-1), xR 64, xI b, xI lo, xI hi, xZ, xZ, xZ, xZ, xZ, xZ, xZ, xZ, xZ, xZ, xI l, xI u, xZ, xZ, xZ, xZ, xZ, xZ, xZ, xZ] [] (xst (xst (xst (xst h2 64 lo (xpl h2 64 l)) 64 l p1) 64 (hi - 1) (xpl (xst (xst h2 64 lo (xpl h2 64 l)) 64 l p1) 64 u)) 64 u p2) Q X := fun l u k h2 S I kl F => by
    obtain ⟨⟨i1, i2, i3, i4, i5⟩, A, B, C⟩ := I
    have eu : xpl (xst (xst h2 64 lo (xpl h2 64 l)) 64 l p1) 64 u = xpl h2 64 u := by rw [xpl_ok (by omega), xpl_ok (by omega)]
    rw [eu] at F ⊢
    obtain ⟨H, hH⟩ : ∃ H, H = xst (xst (xst (xst h2 64 lo (xpl h2 64 l)) 64 l p1) 64 (hi - 1) (xpl h2 64 u)) 64 u p2 := ⟨_, rfl⟩
    have vu : xpl H 64 u = p2 := by rw [hH, xpl_hit]
    have vl : xpl H 64 l = p1 := by rw [hH, xpl_ok (by omega), xpl_ok (by omega), xpl_hit]
    have ve : u < hi - 1 → xpl H 64 (hi - 1) = xpl h2 64 u := fun y => by rw [hH, xpl_ok (by omega), xpl_hit]
    have vs : lo < l → xpl H 64 lo = xpl h2 64 l := fun y => by rw [hH, xpl_ok (by omega), xpl_ok (by omega), xpl_ok (by omega), xpl_hit]
    have vo : ∀ i, i ≠ lo → i ≠ l → i ≠ hi - 1 → i ≠ u → xpl H 64 i = xpl h2 64 i := fun i a b c e => by rw [hH, xpl_ok e, xpl_ok c, xpl_ok b, xpl_ok a]
    have SPH : SP hB H lo hi := by
      rw [hH]
      refine ⟨⟨F, (((S.1.2.1.st (by omega) (Or.inl rfl)).st (by omega) (Or.inl rfl)).st (by omega) (Or.inl rfl)).st (by omega) (Or.inl rfl), S.1.2.2.1, S.1.2.2.2⟩, fun w => ?_, fun i hi => ?_⟩
      · have e1 : xpl (xst h2 64 lo (xpl h2 64 l)) 64 l = xpl h2 64 l := by
          by_cases z : l = lo
          · rw [z, xpl_hit]
          · rw [xpl_ok z]
        have e2 : xpl (xst (xst h2 64 lo (xpl h2 64 l)) 64 l p1) 64 (hi - 1) = xpl h2 64 (hi - 1) := by rw [xpl_ok (by omega), xpl_ok (by omega)]
        have e3 : xpl (xst (xst (xst h2 64 lo (xpl h2 64 l)) 64 l p1) 64 (hi - 1) (xpl h2 64 u)) 64 u = xpl h2 64 u := by
          by_cases z : u = hi - 1
          · rw [z, xpl_hit]
          · rw [xpl_ok z]; exact eu
        rw [cnR_st (by omega) (by omega), cnR_st (by omega) (by omega), cnR_st (by omega) (by omega), cnR_st (by omega) (by omega), e1, e2, e3]
        have := S.2.1 w
        omega
      · rw [xpl_ok (by omega), xpl_ok (by omega), xpl_ok (by omega), xpl_ok (by omega)]; exact S.2.2 i hi
    rw [← hH]
    refine cont H l u i1 i2 i3 SPH (fun i i0 il => ?_) vl (fun i il iu => ?_) vu (fun i iu ih => ?_)
    · by_cases z : i = lo
      · rw [z, vs (by omega)]
        have := A l (by omega) (Int.le_refl _)
        omega
      · rw [vo i z (by omega) (by omega) (by omega)]
        have := A i (by omega) (by omega)
        omega
    · rw [vo i (by omega) (by omega) (by omega) (by omega)]; exact C i (by omega) il iu
    · by_cases z : i = hi - 1
      · rw [z, ve (by omega)]
        have := B u (Int.le_refl _) (by omega)
        omega
      · rw [vo i (by omega) (by omega) z (by omega)]
        have := B i (by omega) (by omega)
        omega
  have l575 : ∀ (n : Nat) (k l u : Int) (h2 : XH), k - lo ≤ n → P2 hB h2 lo hi p1 p2 → P2I h2 lo hi p1 p2 l u k → xwp G m_DualPivotQuicksort_sort_SorteraJIII (d + 141) 575 [xR (-1), xR 64, xI b, xI lo, xI hi, xI (hi - 1), xI sz, xZ, xZ, xZ, xZ, xZ, xZ, xZ, xZ, xI l, xI u, xL p1, xZ, xL p2, xZ, xZ, xI k, xZ, xZ] [] h2 Q X := by
    intro n
    induction n with
    | zero =>
      intro k l u h2 e S I
      have i9 := I.1
      have eh : hi - 1 = hi - 1 := rfl
      refine v_DualPivotQuicksort_sort_SorteraJIII_575 S.1.1 ?_
      refine ⟨?_, ?_⟩
      · first | exact ⟨by omega, by omega⟩ | omega
      · refine ⟨fun q1 => ?_, fun q1 => ?_⟩
        · refine ⟨?_, ?_⟩
          · first | exact ⟨by omega, by omega⟩ | omega
          · refine ⟨?_, ?_⟩
            · first | exact ⟨by omega, by omega⟩ | omega
            · refine ⟨?_, ?_⟩
              · first | exact ⟨by omega, by omega⟩ | omega
              · refine ⟨?_, ?_⟩
                · first | exact ⟨by omega, by omega⟩ | omega
                · refine ⟨?_, ?_⟩
                  · first | exact ⟨by omega, by omega⟩ | omega
                  · refine ⟨?_, ?_⟩
                    · first | exact ⟨by omega, by omega⟩ | omega
                    · refine ⟨?_, ?_⟩
                      · first | exact ⟨by omega, by omega⟩ | omega
                      · refine ⟨?_, ?_⟩
                        · first | exact ⟨by omega, by omega⟩ | omega
                        · refine ⟨fun q2 => ?_, fun q2 => ?_⟩
                          · intro F9
                            exact fin l u k h2 S I (by omega) F9
                          · intro F9
                            exact fin l u k h2 S I (by omega) F9
        · refine ⟨?_, ?_⟩
          · first | exact ⟨by omega, by omega⟩ | omega
          · refine ⟨?_, ?_⟩
            · first | exact ⟨by omega, by omega⟩ | omega
            · refine ⟨fun q2 => ?_, fun q2 => ?_⟩
              · refine ⟨fun q3 => ?_, fun q3 => ?_⟩
                · omega
                · refine ⟨?_, ?_⟩
                  · first | exact ⟨by omega, by omega⟩ | omega
                  · refine ⟨?_, ?_⟩
                    · first | exact ⟨by omega, by omega⟩ | omega
                    · refine ⟨?_, ?_⟩
                      · first | exact ⟨by omega, by omega⟩ | omega
                      · intro F9
                        omega
              · omega
    | succ n ih =>
      intro k l u h2 e S I
      obtain ⟨⟨i1, i2, i3, i4, i5⟩, A, B, C⟩ := id I
      have ke : k + -1 = k - 1 := by omega
      have ue : u + -1 = u - 1 := by omega
      -- a small one is brought to the left
      have left : k - 1 > l → xpl h2 64 (k - 1) < p1 → ∀ (m : Nat) (l2 : Int), k - 1 - l2 ≤ m → l ≤ l2 → l2 ≤ k - 1 → (∀ i, lo < i → i ≤ l2 → xpl h2 64 i < p1) → xwp G m_DualPivotQuicksort_sort_SorteraJIII (d + 141) 599 [xR (-1), xR 64, xI b, xI lo, xI hi, xI (hi - 1), xI sz, xZ, xZ, xZ, xZ, xZ, xZ, xZ, xZ, xI l2, xI u, xL p1, xZ, xL p2, xZ, xZ, xI (k - 1), xL (xpl h2 64 (k - 1)), xZ] [] h2 Q X := by
        intro kl ak m
        induction m with
        | zero =>
          intro l2 e2 a0 a1 A2
          have el : l2 = k - 1 := by omega
          refine v_DualPivotQuicksort_sort_SorteraJIII_599 S.1.1 ?_
          refine ⟨fun q1 => ?_, fun q1 => ?_⟩
          · exact ih (k - 1) l2 u h2 (by omega) S ⟨⟨by omega, by omega, by omega, by omega, by omega⟩, A2, B, fun i a b c => C i (by omega) (by omega) c⟩
          · refine ⟨?_, ?_⟩
            · first | exact ⟨by omega, by omega⟩ | omega
            · refine ⟨?_, ?_⟩
              · first | exact ⟨by omega, by omega⟩ | omega
              · refine ⟨fun q2 => ?_, fun q2 => ?_⟩
                · omega
                · refine ⟨fun q3 => ?_, fun q3 => ?_⟩
                  · refine ⟨?_, ?_⟩
                    · first | exact ⟨by omega, by omega⟩ | omega
                    · intro F9
                      omega
                  · refine ⟨?_, ?_⟩
                    · first | exact ⟨by omega, by omega⟩ | omega
                    · refine ⟨?_, ?_⟩
                      · first | exact ⟨by omega, by omega⟩ | omega
                      · refine ⟨?_, ?_⟩
                        · first | exact ⟨by omega, by omega⟩ | omega
                        · refine ⟨?_, ?_⟩
                          · first | exact ⟨by omega, by omega⟩ | omega
                          · intro F9
                            omega
        | succ m ihm =>
          intro l2 e2 a0 a1 A2
          refine v_DualPivotQuicksort_sort_SorteraJIII_599 S.1.1 ?_
          refine ⟨fun q1 => ?_, fun q1 => ?_⟩
          · exact ih (k - 1) l2 u h2 (by omega) S ⟨⟨by omega, by omega, by omega, by omega, by omega⟩, A2, B, fun i a b c => C i (by omega) (by omega) c⟩
          · refine ⟨?_, ?_⟩
            · first | exact ⟨by omega, by omega⟩ | omega
            · refine ⟨?_, ?_⟩
              · first | exact ⟨by omega, by omega⟩ | omega
              · refine ⟨fun q2 => ?_, fun q2 => ?_⟩
                · refine ihm (l2 + 1) (by omega) (by omega) (by omega) (fun i a b => ?_)
                  by_cases z : i = l2 + 1
                  · rw [z]; exact q2
                  · exact A2 i a (by omega)
                · refine ⟨fun q3 => ?_, fun q3 => ?_⟩
                  · refine ⟨?_, ?_⟩
                    · first | exact ⟨by omega, by omega⟩ | omega
                    · intro F9
                      have nk : l2 + 1 ≠ k - 1 := fun y => by rw [y] at q2; omega
                      have S9 := S.swap (p := k - 1) (q := l2 + 1) l0 (by omega) (by omega) (by omega) (by omega) rfl rfl F9
                      have vk : xpl (xst (xst h2 64 (k - 1) (xpl h2 64 (l2 + 1))) 64 (l2 + 1) (xpl h2 64 (k - 1))) 64 (k - 1) = xpl h2 64 (l2 + 1) := by rw [xpl_ok (by omega), xpl_hit]
                      have vl : xpl (xst (xst h2 64 (k - 1) (xpl h2 64 (l2 + 1))) 64 (l2 + 1) (xpl h2 64 (k - 1))) 64 (l2 + 1) = xpl h2 64 (k - 1) := by rw [xpl_hit]
                      have vo : ∀ i, i ≠ k - 1 → i ≠ l2 + 1 → xpl (xst (xst h2 64 (k - 1) (xpl h2 64 (l2 + 1))) 64 (l2 + 1) (xpl h2 64 (k - 1))) 64 i = xpl h2 64 i := fun i a b => by rw [xpl_ok b, xpl_ok a]
                      refine ih (k - 1) (l2 + 1) u _ (by omega) S9 ⟨⟨by omega, by omega, by omega, by omega, by omega⟩, fun i a b => ?_, fun i a b => ?_, fun i a b c => ?_⟩
                      · by_cases z : i = l2 + 1
                        · rw [z, vl]; exact ak
                        · rw [vo i (by omega) z]; exact A2 i a (by omega)
                      · rw [vo i (by omega) (by omega)]; exact B i a b
                      · by_cases z : i = k - 1
                        · rw [z, vk]; omega
                        · rw [vo i z (by omega)]; exact C i (by omega) (by omega) c
                  · refine ⟨?_, ?_⟩
                    · first | exact ⟨by omega, by omega⟩ | omega
                    · refine ⟨?_, ?_⟩
                      · first | exact ⟨by omega, by omega⟩ | omega
                      · refine ⟨?_, ?_⟩
                        · first | exact ⟨by omega, by omega⟩ | omega
                        · refine ⟨?_, ?_⟩
                          · first | exact ⟨by omega, by omega⟩ | omega
                          · intro F9
                            have nk : l2 + 1 ≠ k - 1 := fun y => by rw [y] at q2; omega
                            rw [ue] at F9 ⊢
                            have el : xpl (xst h2 64 (k - 1) (xpl h2 64 (u - 1))) 64 (l2 + 1) = xpl h2 64 (l2 + 1) := xpl_ok nk
                            rw [el] at F9 ⊢
                            have S9 := S.rot (k := k - 1) (u := u - 1) (l := l2 + 1) l0 (by omega) (by omega) (by omega) (by omega) (by omega) (by omega) nk (by omega) rfl rfl rfl F9
                            obtain ⟨H, hH⟩ : ∃ H, H = xst (xst (xst h2 64 (k - 1) (xpl h2 64 (u - 1))) 64 (u - 1) (xpl h2 64 (l2 + 1))) 64 (l2 + 1) (xpl h2 64 (k - 1)) := ⟨_, rfl⟩
                            have vl : xpl H 64 (l2 + 1) = xpl h2 64 (k - 1) := by rw [hH, xpl_hit]
                            have vu : xpl H 64 (u - 1) = xpl h2 64 (l2 + 1) := by rw [hH, xpl_ok (by omega), xpl_hit]
                            have vk : k < u → xpl H 64 (k - 1) = xpl h2 64 (u - 1) := fun y => by rw [hH, xpl_ok (by omega), xpl_ok (by omega), xpl_hit]
                            have vo : ∀ i, i ≠ k - 1 → i ≠ l2 + 1 → i ≠ u - 1 → xpl H 64 i = xpl h2 64 i := fun i a b c => by rw [hH, xpl_ok b, xpl_ok c, xpl_ok a]
                            rw [← hH] at S9 ⊢
                            refine ih (k - 1) (l2 + 1) (u - 1) H (by omega) S9 ⟨⟨by omega, by omega, by omega, by omega, by omega⟩, fun i a b => ?_, fun i a b => ?_, fun i a b c => ?_⟩
                            · by_cases z : i = l2 + 1
                              · rw [z, vl]; exact ak
                              · rw [vo i (by omega) z (by omega)]; exact A2 i a (by omega)
                            · by_cases z : i = u - 1
                              · rw [z, vu]; omega
                              · rw [vo i (by omega) (by omega) z]; exact B i (by omega) b
                            · by_cases z : i = k - 1
                              · rw [z, vk (by omega)]; exact C (u - 1) (by omega) (by omega) (by omega)
                              · rw [vo i z (by omega) (by omega)]; exact C i (by omega) (by omega) (by omega)
      refine v_DualPivotQuicksort_sort_SorteraJIII_575 S.1.1 ?_
      refine ⟨?_, ?_⟩
      · first | exact ⟨by omega, by omega⟩ | omega
      · refine ⟨fun q1 => ?_, fun q1 => ?_⟩
        · refine ⟨?_, ?_⟩
          · first | exact ⟨by omega, by omega⟩ | omega
          · refine ⟨?_, ?_⟩
            · first | exact ⟨by omega, by omega⟩ | omega
            · refine ⟨?_, ?_⟩
              · first | exact ⟨by omega, by omega⟩ | omega
              · refine ⟨?_, ?_⟩
                · first | exact ⟨by omega, by omega⟩ | omega
                · refine ⟨?_, ?_⟩
                  · first | exact ⟨by omega, by omega⟩ | omega
                  · refine ⟨?_, ?_⟩
                    · first | exact ⟨by omega, by omega⟩ | omega
                    · refine ⟨?_, ?_⟩
                      · first | exact ⟨by omega, by omega⟩ | omega
                      · refine ⟨?_, ?_⟩
                        · first | exact ⟨by omega, by omega⟩ | omega
                        · refine ⟨fun q2 => ?_, fun q2 => ?_⟩
                          · intro F9
                            exact fin l u k h2 S I (by omega) F9
                          · intro F9
                            exact fin l u k h2 S I (by omega) F9
        · refine ⟨?_, ?_⟩
          · first | exact ⟨by omega, by omega⟩ | omega
          · refine ⟨?_, ?_⟩
            · first | exact ⟨by omega, by omega⟩ | omega
            · refine ⟨fun q2 => ?_, fun q2 => ?_⟩
              · refine ⟨fun q3 => ?_, fun q3 => ?_⟩
                · rw [ke] at q2 q3 ⊢
                  refine ih (k - 1) l u h2 (by omega) S ⟨⟨i1, i2, i3, by omega, by omega⟩, A, B, fun i a b c => ?_⟩
                  by_cases z : i = k - 1
                  · rw [z]; exact ⟨q2, q3⟩
                  · exact C i (by omega) b c
                · refine ⟨?_, ?_⟩
                  · first | exact ⟨by omega, by omega⟩ | omega
                  · refine ⟨?_, ?_⟩
                    · first | exact ⟨by omega, by omega⟩ | omega
                    · refine ⟨?_, ?_⟩
                      · first | exact ⟨by omega, by omega⟩ | omega
                      · intro F9
                        rw [ke, ue] at F9 ⊢
                        rw [ke] at q2 q3
                        have S9 := S.swap (p := k - 1) (q := u - 1) l0 (by omega) (by omega) (by omega) (by omega) rfl rfl F9
                        have vu : xpl (xst (xst h2 64 (k - 1) (xpl h2 64 (u - 1))) 64 (u - 1) (xpl h2 64 (k - 1))) 64 (u - 1) = xpl h2 64 (k - 1) := by rw [xpl_hit]
                        have vk : k < u → xpl (xst (xst h2 64 (k - 1) (xpl h2 64 (u - 1))) 64 (u - 1) (xpl h2 64 (k - 1))) 64 (k - 1) = xpl h2 64 (u - 1) := fun y => by rw [xpl_ok (by omega), xpl_hit]
                        have vo : ∀ i, i ≠ k - 1 → i ≠ u - 1 → xpl (xst (xst h2 64 (k - 1) (xpl h2 64 (u - 1))) 64 (u - 1) (xpl h2 64 (k - 1))) 64 i = xpl h2 64 i := fun i a c => by rw [xpl_ok c, xpl_ok a]
                        refine ih (k - 1) l (u - 1) _ (by omega) S9 ⟨⟨by omega, by omega, by omega, by omega, by omega⟩, fun i a b => ?_, fun i a b => ?_, fun i a b c => ?_⟩
                        · rw [vo i (by omega) (by omega)]; exact A i a b
                        · by_cases z : i = u - 1
                          · rw [z, vu]; omega
                          · rw [vo i (by omega) z]; exact B i (by omega) b
                        · by_cases z : i = k - 1
                          · rw [z, vk (by omega)]; exact C (u - 1) (by omega) (by omega) (by omega)
                          · rw [vo i z (by omega)]; exact C i (by omega) (by omega) (by omega)
              · rw [ke] at q2 ⊢
                exact left (by omega) (by omega) (k - 1 - l).toNat l (by omega) (Int.le_refl _) (by omega) A
  intro h2 S s1 s4
  have l545 : ∀ (n : Nat) (u l : Int), u - m4 ≤ n → m4 < u → u ≤ hi - 1 → lo < l → l ≤ m1 → (∀ i, lo < i → i < l → xpl h2 64 i < p1) → (∀ i, u ≤ i → i < hi - 1 → p2 < xpl h2 64 i) → xwp G m_DualPivotQuicksort_sort_SorteraJIII (d + 141) 545 [xR (-1), xR 64, xI b, xI lo, xI hi, xI (hi - 1), xI sz, xZ, xZ, xZ, xZ, xZ, xZ, xZ, xZ, xI l, xI u, xL p1, xZ, xL p2, xZ, xZ, xZ, xZ, xZ] [] h2 Q X := by
    intro n
    induction n with
    | zero => intro u l e u0; omega
    | succ n ih =>
      intro u l e u0 u1 l1 l2 A B
      have ue : u + -1 = u - 1 := by omega
      refine v_DualPivotQuicksort_sort_SorteraJIII_545 S.1.1 ?_
      refine ⟨?_, ?_⟩
      · first | exact ⟨by omega, by omega⟩ | omega
      · refine ⟨?_, ?_⟩
        · first | exact ⟨by omega, by omega⟩ | omega
        · refine ⟨?_, ?_⟩
          · first | exact ⟨by omega, by omega⟩ | omega
          · refine ⟨fun q1 => ?_, fun q1 => ?_⟩
            · refine ⟨?_, ?_⟩
              · first | exact ⟨by omega, by omega⟩ | omega
              · rw [show u + -1 + 1 = u by omega, show l + -1 = l - 1 by omega]
                exact l575 (u - lo).toNat u (l - 1) u h2 (by omega) S ⟨⟨by omega, by omega, u1, by omega, Int.le_refl _⟩, fun i a b => A i a (by omega), B, fun i a b c => by omega⟩
            · rw [ue] at q1 ⊢
              have nm : u - 1 ≠ m4 := fun y => by rw [y] at q1; omega
              refine ih (u - 1) l (by omega) (by omega) (by omega) l1 l2 A (fun i a b => ?_)
              by_cases z : i = u - 1
              · rw [z]; omega
              · exact B i (by omega) b
  have l529 : ∀ (n : Nat) (l : Int), m1 - l ≤ n → lo ≤ l → l < m1 → (∀ i, lo < i → i ≤ l → xpl h2 64 i < p1) → xwp G m_DualPivotQuicksort_sort_SorteraJIII (d + 141) 529 [xR (-1), xR 64, xI b, xI lo, xI hi, xI (hi - 1), xI sz, xZ, xZ, xZ, xZ, xZ, xZ, xZ, xZ, xI l, xI (hi - 1), xL p1, xZ, xL p2, xZ, xZ, xZ, xZ, xZ] [] h2 Q X := by
    intro n
    induction n with
    | zero => intro l e a0 a1; omega
    | succ n ih =>
      intro l e a0 a1 A
      refine v_DualPivotQuicksort_sort_SorteraJIII_529 S.1.1 ?_
      refine ⟨?_, ?_⟩
      · first | exact ⟨by omega, by omega⟩ | omega
      · refine ⟨?_, ?_⟩
        · first | exact ⟨by omega, by omega⟩ | omega
        · refine ⟨?_, ?_⟩
          · first | exact ⟨by omega, by omega⟩ | omega
          · refine ⟨fun q1 => ?_, fun q1 => ?_⟩
            · exact l545 (hi - 1 - m4).toNat (hi - 1) (l + 1) (by omega) (by omega) (Int.le_refl _) (by omega) (by omega) (fun i a b => A i a (by omega)) (fun i a b => by omega)
            · have nm : l + 1 ≠ m1 := fun y => by rw [y] at q1; omega
              refine ih (l + 1) (by omega) (by omega) (by omega) (fun i a b => ?_)
              by_cases z : i = l + 1
              · rw [z]; omega
              · exact A i a (by omega)
  exact l529 (m1 - lo).toNat lo (by omega) (Int.le_refl _) m0 (fun i a b => by omega)

end
