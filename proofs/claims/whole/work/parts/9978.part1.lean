/-! ===== part1 ===== -/
section
def P1 (hB h : XH) (lo hi p : Int) : Prop := (xFix h ∧ xsm (fun c => c = 64) hB h ∧ xnx h = xnx hB ∧ xsl h = xsl hB) ∧ (∀ w, cnR (xpl h 64) w lo hi + cw p w - cw (xpl h 64 lo) w = cnR (xpl hB 64) w lo hi) ∧ ∀ i, (i < lo ∨ hi ≤ i) → xpl h 64 i = xpl hB 64 i
def P1I (h : XH) (lo hi p l u k : Int) : Prop := (lo ≤ l ∧ l < u ∧ u ≤ hi ∧ l ≤ k ∧ k ≤ u) ∧ (∀ i, lo < i → i ≤ l → xpl h 64 i < p) ∧ (∀ i, u ≤ i → i < hi → p < xpl h 64 i) ∧ ∀ i, k ≤ i → l < i → i < u → xpl h 64 i = p
theorem s_part1 {G : XG} {d : Nat} {Q : XV → XH → Prop} {X : Nat → XH → Prop} {hB : XH} {b lo hi sz p : Int} (l0 : 0 ≤ lo) (h12 : hi ≤ 12000) (cont : ∀ h3 l u, lo ≤ l → l < u → u ≤ hi → SP hB h3 lo hi → (∀ i, lo ≤ i → i < l → xpl h3 64 i ≤ p) → (∀ i, l ≤ i → i < u → xpl h3 64 i = p) → (∀ i, u ≤ i → i < hi → p ≤ xpl h3 64 i) → xwp G m_DualPivotQuicksort_sort_SorteraJIII (d + 141) 951 [xR (-1), xR 64, xI b, xI lo, xI hi, xZ, xZ, xZ, xZ, xZ, xZ, xZ, xZ, xZ, xZ, xI l, xI u, xZ, xZ, xZ, xZ, xZ, xZ, xZ, xZ] [] h3 Q X) : ∀ (n : Nat) (k l u : Int) (h2 : XH), k - lo ≤ n → P1 hB h2 lo hi p → P1I h2 lo hi p l u k → xwp G m_DualPivotQuicksort_sort_SorteraJIII (d + 141) 816 [xR (-1), xR 64, xI b, xI lo, xI hi, xZ, xI sz, xZ, xZ, xZ, xZ, xZ, xZ, xZ, xZ, xI l, xI u, xL p, xZ, xI k, xZ, xZ, xZ, xZ, xZ] [] h2 Q X := by
  have fin : ∀ l u k h2, P1 hB h2 lo hi p → P1I h2 lo hi p l u k → k - 1 ≤ l → xFix (xst (xst h2 64 lo (xpl h2 64 l)) 64 l p) → xwp G m_DualPivotQuicksort_sort_SorteraJIII (d + 141) 951 [xR (-1), xR 64, xI b, xI lo, xI hi, xZ, xZ, xZ, xZ, xZ, xZ, xZ, xZ, xZ, xZ, xI l, xI u, xZ, xZ, xZ, xZ, xZ, xZ, xZ, xZ] [] (xst (xst h2 64 lo (xpl h2 64 l)) 64 l p) Q X := fun l u k h2 S I kl F => by
    obtain ⟨⟨i1, i2, i3, i4, i5⟩, A, B, C⟩ := I
    obtain ⟨H, hH⟩ : ∃ H, H = xst (xst h2 64 lo (xpl h2 64 l)) 64 l p := ⟨_, rfl⟩
    have vl : xpl H 64 l = p := by rw [hH, xpl_hit]
    have vs : lo < l → xpl H 64 lo = xpl h2 64 l := fun y => by rw [hH, xpl_ok (by omega), xpl_hit]
    have vo : ∀ i, i ≠ lo → i ≠ l → xpl H 64 i = xpl h2 64 i := fun i a b => by rw [hH, xpl_ok b, xpl_ok a]
    have SPH : SP hB H lo hi := by
      rw [hH]
      refine ⟨⟨F, (S.1.2.1.st (by omega) (Or.inl rfl)).st (by omega) (Or.inl rfl), S.1.2.2.1, S.1.2.2.2⟩, fun w => ?_, fun i hi => ?_⟩
      · have e1 : xpl (xst h2 64 lo (xpl h2 64 l)) 64 l = xpl h2 64 l := by
          by_cases z : l = lo
          · rw [z, xpl_hit]
          · rw [xpl_ok z]
        rw [cnR_st (by omega) (by omega), cnR_st (by omega) (by omega), e1]
        have := S.2.1 w
        omega
      · rw [xpl_ok (by omega), xpl_ok (by omega)]; exact S.2.2 i hi
    rw [← hH]
    refine cont H l u i1 i2 i3 SPH (fun i i0 il => ?_) (fun i il iu => ?_) (fun i iu ih => ?_)
    · by_cases z : i = lo
      · rw [z, vs (by omega)]
        have := A l (by omega) (Int.le_refl _)
        omega
      · rw [vo i z (by omega)]
        have := A i (by omega) (by omega)
        omega
    · by_cases z : i = l
      · rw [z]; exact vl
      · rw [vo i (by omega) z]; exact C i (by omega) (by omega) iu
    · rw [vo i (by omega) (by omega)]
      have := B i iu ih
      omega
  intro n
  induction n with
  | zero =>
    intro k l u h2 e S I
    have i9 := I.1
    refine v_DualPivotQuicksort_sort_SorteraJIII_816 S.1.1 ?_
    refine ⟨?_, ?_⟩
    · first | exact ⟨by omega, by omega⟩ | omega
    · refine ⟨fun q1 => ?_, fun q1 => ?_⟩
      · refine ⟨?_, ?_⟩
        · first | exact ⟨by omega, by omega⟩ | omega
        · refine ⟨?_, ?_⟩
          · first | exact ⟨by omega, by omega⟩ | omega
          · refine ⟨?_, ?_⟩
            · first | exact ⟨by omega, by omega⟩ | omega
            · refine ⟨?_, ?_⟩
              · first | exact ⟨by omega, by omega⟩ | omega
              · refine ⟨fun q2 => ?_, fun q2 => ?_⟩
                · intro F9
                  exact fin l u k h2 S I (by omega) F9
                · intro F9
                  exact fin l u k h2 S I (by omega) F9
      · refine ⟨?_, ?_⟩
        · first | exact ⟨by omega, by omega⟩ | omega
        · refine ⟨?_, ?_⟩
          · first | exact ⟨by omega, by omega⟩ | omega
          · refine ⟨fun q2 => ?_, fun q2 => ?_⟩
            · omega
            · refine ⟨fun q3 => ?_, fun q3 => ?_⟩
              · refine ⟨?_, ?_⟩
                · first | exact ⟨by omega, by omega⟩ | omega
                · refine ⟨?_, ?_⟩
                  · first | exact ⟨by omega, by omega⟩ | omega
                  · refine ⟨?_, ?_⟩
                    · first | exact ⟨by omega, by omega⟩ | omega
                    · intro F9
                      omega
              · intro F9
                omega
  | succ n ih =>
    intro k l u h2 e S I
    obtain ⟨⟨i1, i2, i3, i4, i5⟩, A, B, C⟩ := id I
    have ke : k + -1 = k - 1 := by omega
    have ue : u + -1 = u - 1 := by omega
    -- the small one in hand goes to the left
    have left : k - 1 > l → xpl h2 64 (k - 1) < p → xFix (xst h2 64 (k - 1) p) → ∀ (m : Nat) (l2 : Int), k - 1 - l2 ≤ m → l ≤ l2 → l2 < k - 1 → (∀ i, lo < i → i ≤ l2 → xpl h2 64 i < p) → xwp G m_DualPivotQuicksort_sort_SorteraJIII (d + 141) 854 [xR (-1), xR 64, xI b, xI lo, xI hi, xZ, xI sz, xZ, xZ, xZ, xZ, xZ, xZ, xZ, xZ, xI l2, xI u, xL p, xZ, xI (k - 1), xL (xpl h2 64 (k - 1)), xZ, xZ, xZ, xZ] [] (xst h2 64 (k - 1) p) Q X := by
      intro kl ak F1 m
      have vk : xpl (xst h2 64 (k - 1) p) 64 (k - 1) = p := by rw [xpl_hit]
      have vo : ∀ i, i ≠ k - 1 → xpl (xst h2 64 (k - 1) p) 64 i = xpl h2 64 i := fun i a => xpl_ok a
      have cn : ∀ w, cnR (xpl (xst h2 64 (k - 1) p) 64) w lo hi = cnR (xpl h2 64) w lo hi - cw (xpl h2 64 (k - 1)) w + cw p w := fun w => cnR_st (by omega) (by omega)
      induction m with
      | zero => intro l2 e2 a0 a1; omega
      | succ m ihm =>
        intro l2 e2 a0 a1 A2
        have l2k : l2 + 1 ≤ k - 1 := by omega
        refine v_DualPivotQuicksort_sort_SorteraJIII_854 F1 ?_
        refine ⟨?_, ?_⟩
        · first | exact ⟨by omega, by omega⟩ | omega
        · refine ⟨?_, ?_⟩
          · first | exact ⟨by omega, by omega⟩ | omega
          · refine ⟨?_, ?_⟩
            · first | exact ⟨by omega, by omega⟩ | omega
            · refine ⟨fun q1 => ?_, fun q1 => ?_⟩
              · refine ⟨fun q2 => ?_, fun q2 => ?_⟩
                · intro F9
                  refine ih (k - 1) (l2 + 1) u _ (by omega) ⟨⟨F9, (S.1.2.1.st (by omega) (Or.inl rfl)).st (by omega) (Or.inl rfl), S.1.2.2.1, S.1.2.2.2⟩, fun w => ?_, fun i hi => by rw [xpl_ok (by omega), xpl_ok (by omega)]; exact S.2.2 i hi⟩ ⟨⟨by omega, by omega, by omega, by omega, by omega⟩, fun i a b => ?_, fun i a b => ?_, fun i a b c => ?_⟩
                  · have e1 : xpl (xst h2 64 (k - 1) p) 64 (l2 + 1) = p := by omega
                    rw [cnR_st (by omega) (by omega), cn w, e1, xpl_ok (show lo ≠ l2 + 1 by omega), xpl_ok (show lo ≠ k - 1 by omega)]
                    have := S.2.1 w
                    omega
                  · by_cases z : i = l2 + 1
                    · rw [z, xpl_hit]; exact ak
                    · rw [xpl_ok z, vo i (by omega)]; exact A2 i a (by omega)
                  · rw [xpl_ok (by omega), vo i (by omega)]; exact B i a b
                  · rw [xpl_ok (by omega)]
                    by_cases z : i = k - 1
                    · rw [z]; exact vk
                    · rw [vo i z]; exact C i (by omega) (by omega) c
                · refine ⟨?_, ?_⟩
                  · first | exact ⟨by omega, by omega⟩ | omega
                  · refine ⟨?_, ?_⟩
                    · first | exact ⟨by omega, by omega⟩ | omega
                    · refine ⟨?_, ?_⟩
                      · first | exact ⟨by omega, by omega⟩ | omega
                      · intro F9
                        rw [ue] at F9 ⊢
                        have nk : l2 + 1 ≠ k - 1 := fun y => by rw [y, vk] at q2; omega
                        have el : xpl (xst h2 64 (k - 1) p) 64 (l2 + 1) = xpl h2 64 (l2 + 1) := vo _ nk
                        rw [el] at q2 F9 ⊢
                        refine ih (k - 1) (l2 + 1) (u - 1) _ (by omega) ⟨⟨F9, ((S.1.2.1.st (by omega) (Or.inl rfl)).st (by omega) (Or.inl rfl)).st (by omega) (Or.inl rfl), S.1.2.2.1, S.1.2.2.2⟩, fun w => ?_, fun i hi => by rw [xpl_ok (by omega), xpl_ok (by omega), xpl_ok (by omega)]; exact S.2.2 i hi⟩ ⟨⟨by omega, by omega, by omega, by omega, by omega⟩, fun i a b => ?_, fun i a b => ?_, fun i a b c => ?_⟩
                        · have e1 : xpl (xst (xst h2 64 (k - 1) p) 64 (u - 1) (xpl h2 64 (l2 + 1))) 64 (l2 + 1) = xpl h2 64 (l2 + 1) := by rw [xpl_ok (by omega)]; exact el
                          have e2 : xpl (xst h2 64 (k - 1) p) 64 (u - 1) = p := by
                            by_cases z : u - 1 = k - 1
                            · rw [z]; exact vk
                            · rw [vo _ z]; exact C (u - 1) (by omega) (by omega) (by omega)
                          rw [cnR_st (by omega) (by omega), cnR_st (by omega) (by omega), cn w, e1, e2, xpl_ok (show lo ≠ l2 + 1 by omega), xpl_ok (show lo ≠ u - 1 by omega), xpl_ok (show lo ≠ k - 1 by omega)]
                          have := S.2.1 w
                          omega
                        · by_cases z : i = l2 + 1
                          · rw [z, xpl_hit]; exact ak
                          · rw [xpl_ok z, xpl_ok (by omega), vo i (by omega)]; exact A2 i a (by omega)
                        · rw [xpl_ok (by omega)]
                          by_cases z : i = u - 1
                          · rw [z, xpl_hit]; omega
                          · rw [xpl_ok z, vo i (by omega)]; exact B i (by omega) b
                        · rw [xpl_ok (by omega), xpl_ok (by omega)]
                          by_cases z : i = k - 1
                          · rw [z]; exact vk
                          · rw [vo i z]; exact C i (by omega) (by omega) (by omega)
              · have nk : l2 + 1 ≠ k - 1 := fun y => by rw [y, vk] at q1; omega
                refine ihm (l2 + 1) (by omega) (by omega) (by omega) (fun i a b => ?_)
                by_cases z : i = l2 + 1
                · rw [z]
                  rw [vo _ nk] at q1
                  omega
                · exact A2 i a (by omega)
    refine v_DualPivotQuicksort_sort_SorteraJIII_816 S.1.1 ?_
    refine ⟨?_, ?_⟩
    · first | exact ⟨by omega, by omega⟩ | omega
    · refine ⟨fun q1 => ?_, fun q1 => ?_⟩
      · refine ⟨?_, ?_⟩
        · first | exact ⟨by omega, by omega⟩ | omega
        · refine ⟨?_, ?_⟩
          · first | exact ⟨by omega, by omega⟩ | omega
          · refine ⟨?_, ?_⟩
            · first | exact ⟨by omega, by omega⟩ | omega
            · refine ⟨?_, ?_⟩
              · first | exact ⟨by omega, by omega⟩ | omega
              · refine ⟨fun q2 => ?_, fun q2 => ?_⟩
                · intro F9
                  exact fin l u k h2 S I (by omega) F9
                · intro F9
                  exact fin l u k h2 S I (by omega) F9
      · refine ⟨?_, ?_⟩
        · first | exact ⟨by omega, by omega⟩ | omega
        · refine ⟨?_, ?_⟩
          · first | exact ⟨by omega, by omega⟩ | omega
          · refine ⟨fun q2 => ?_, fun q2 => ?_⟩
            · rw [ke] at q2 ⊢
              refine ih (k - 1) l u h2 (by omega) S ⟨⟨i1, i2, i3, by omega, by omega⟩, A, B, fun i a b c => ?_⟩
              by_cases z : i = k - 1
              · rw [z]; exact q2
              · exact C i (by omega) b c
            · refine ⟨fun q3 => ?_, fun q3 => ?_⟩
              · refine ⟨?_, ?_⟩
                · first | exact ⟨by omega, by omega⟩ | omega
                · refine ⟨?_, ?_⟩
                  · first | exact ⟨by omega, by omega⟩ | omega
                  · refine ⟨?_, ?_⟩
                    · first | exact ⟨by omega, by omega⟩ | omega
                    · intro F9
                      rw [ke, ue] at F9 ⊢
                      rw [ke] at q2 q3
                      have e2 : xpl (xst h2 64 (k - 1) p) 64 (u - 1) = p := by
                        by_cases z : u - 1 = k - 1
                        · rw [z, xpl_hit]
                        · rw [xpl_ok z]; exact C (u - 1) (by omega) (by omega) (by omega)
                      refine ih (k - 1) l (u - 1) _ (by omega) ⟨⟨F9, (S.1.2.1.st (by omega) (Or.inl rfl)).st (by omega) (Or.inl rfl), S.1.2.2.1, S.1.2.2.2⟩, fun w => ?_, fun i hi => by rw [xpl_ok (by omega), xpl_ok (by omega)]; exact S.2.2 i hi⟩ ⟨⟨by omega, by omega, by omega, by omega, by omega⟩, fun i a b => ?_, fun i a b => ?_, fun i a b c => ?_⟩
                      · rw [cnR_st (by omega) (by omega), cnR_st (by omega) (by omega), e2, xpl_ok (show lo ≠ u - 1 by omega), xpl_ok (show lo ≠ k - 1 by omega)]
                        have := S.2.1 w
                        omega
                      · rw [xpl_ok (by omega), xpl_ok (by omega)]; exact A i a b
                      · by_cases z : i = u - 1
                        · rw [z, xpl_hit]; omega
                        · rw [xpl_ok z, xpl_ok (by omega)]; exact B i (by omega) b
                      · rw [xpl_ok (by omega)]
                        by_cases z : i = k - 1
                        · rw [z, xpl_hit]
                        · rw [xpl_ok z]; exact C i (by omega) (by omega) (by omega)
              · intro F9
                rw [ke] at F9 ⊢
                rw [ke] at q2 q3
                exact left (by omega) (by omega) F9 (k - 1 - l).toNat l (by omega) (Int.le_refl _) (by omega) A

end
