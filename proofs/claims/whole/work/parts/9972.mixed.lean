/-! ===== mixed ===== -/
section
/-! insertion sort of a stretch that has a least one ahead of it -/
theorem hl_21 {G : XG} {d : Nat} {Q : XV → XH → Prop} {X : Nat → XH → Prop} {h0 : XH} {lo hi k v en hg pin q : Int} (l1 : 1 ≤ lo) (h12 : hi ≤ 12000) (hs : xpl h0 64 (lo - 1) ≤ v) (cont : ∀ h5, SP h0 h5 lo hi → Srt h5 lo (k + 1) → xwp G m_DualPivotQuicksort_mixedInsertionSort (d + 1) 5 [xR 64, xI k, xI en, xZ, xZ, xZ, xZ, xZ, xZ, xZ, xZ] [] h5 Q X) : ∀ (m : Nat) (p : Int) (h4 : XH), p - lo ≤ m → Hol h0 h4 lo hi k p v → xwp G m_DualPivotQuicksort_mixedInsertionSort (d + 1) 21 [xR 64, xI k, xI en, xZ, xI p, xL v, xZ, xZ, xZ, xZ, xZ] [] h4 Q X := by
  intro m
  induction m with
  | zero =>
    intro p h4 e H
    have hb := H.2.2.2.2.2
    have fr := H.2.2.1 (lo - 1) (Or.inl (by omega))
    have ep : p = lo := by omega
    have pe : p + -1 = lo - 1 := by omega
    refine v_DualPivotQuicksort_mixedInsertionSort_21 H.1.1 ?_
    refine ⟨?_, ?_⟩
    · first | exact ⟨by omega, by omega⟩ | omega
    · refine ⟨?_, ?_⟩
      · first | exact ⟨by omega, by omega⟩ | omega
      · refine ⟨?_, ?_⟩
        · first | exact ⟨by omega, by omega⟩ | omega
        · refine ⟨fun q1 => ?_, fun q1 => ?_⟩
          · refine ⟨?_, ?_⟩
            · first | exact ⟨by omega, by omega⟩ | omega
            · intro F9
              rw [show p + -1 + 1 = p by omega] at F9 ⊢
              obtain ⟨r1, r2⟩ := H.fill (Or.inl ep) F9
              exact cont _ r1 r2
          · refine ⟨?_, ?_⟩
            · first | exact ⟨by omega, by omega⟩ | omega
            · intro F9
              rw [pe, fr] at q1; omega
  | succ m ih =>
    intro p h4 e H
    have hb := H.2.2.2.2.2
    have fr := H.2.2.1 (lo - 1) (Or.inl (by omega))
    have pe : p + -1 = p - 1 := by omega
    refine v_DualPivotQuicksort_mixedInsertionSort_21 H.1.1 ?_
    refine ⟨?_, ?_⟩
    · first | exact ⟨by omega, by omega⟩ | omega
    · refine ⟨?_, ?_⟩
      · first | exact ⟨by omega, by omega⟩ | omega
      · refine ⟨?_, ?_⟩
        · first | exact ⟨by omega, by omega⟩ | omega
        · refine ⟨fun q1 => ?_, fun q1 => ?_⟩
          · refine ⟨?_, ?_⟩
            · first | exact ⟨by omega, by omega⟩ | omega
            · intro F9
              rw [show p + -1 + 1 = p by omega] at F9 ⊢
              rw [pe] at q1
              obtain ⟨r1, r2⟩ := H.fill (Or.inr q1) F9
              exact cont _ r1 r2
          · refine ⟨?_, ?_⟩
            · first | exact ⟨by omega, by omega⟩ | omega
            · intro F9
              rw [show p + -1 + 1 = p by omega, pe] at F9 ⊢
              rw [pe] at q1
              have lp : lo ≤ p - 1 := by
                by_cases z : lo ≤ p - 1
                · exact z
                · rw [show p - 1 = lo - 1 by omega, fr] at q1; omega
              exact ih (p - 1) _ (by omega) (H.move lp (by omega) F9)
theorem hl_108 {G : XG} {d : Nat} {Q : XV → XH → Prop} {X : Nat → XH → Prop} {h0 : XH} {lo hi k v en hg pin q : Int} (l1 : 1 ≤ lo) (h12 : hi ≤ 12000) (hs : xpl h0 64 (lo - 1) ≤ v) (cont : ∀ h5, SP h0 h5 lo hi → Srt h5 lo (k + 1) → xwp G m_DualPivotQuicksort_mixedInsertionSort (d + 1) 69 [xR 64, xI k, xI en, xI hg, xL pin, xZ, xZ, xI q, xZ, xZ, xZ] [] h5 Q X) : ∀ (m : Nat) (p : Int) (h4 : XH), p - lo ≤ m → Hol h0 h4 lo hi k p v → xwp G m_DualPivotQuicksort_mixedInsertionSort (d + 1) 108 [xR 64, xI k, xI en, xI hg, xL pin, xZ, xI p, xI q, xL v, xZ, xZ] [] h4 Q X := by
  intro m
  induction m with
  | zero =>
    intro p h4 e H
    have hb := H.2.2.2.2.2
    have fr := H.2.2.1 (lo - 1) (Or.inl (by omega))
    have ep : p = lo := by omega
    have pe : p + -1 = lo - 1 := by omega
    refine v_DualPivotQuicksort_mixedInsertionSort_108 H.1.1 ?_
    refine ⟨?_, ?_⟩
    · first | exact ⟨by omega, by omega⟩ | omega
    · refine ⟨?_, ?_⟩
      · first | exact ⟨by omega, by omega⟩ | omega
      · refine ⟨?_, ?_⟩
        · first | exact ⟨by omega, by omega⟩ | omega
        · refine ⟨fun q1 => ?_, fun q1 => ?_⟩
          · refine ⟨?_, ?_⟩
            · first | exact ⟨by omega, by omega⟩ | omega
            · intro F9
              rw [show p + -1 + 1 = p by omega] at F9 ⊢
              obtain ⟨r1, r2⟩ := H.fill (Or.inl ep) F9
              exact cont _ r1 r2
          · refine ⟨?_, ?_⟩
            · first | exact ⟨by omega, by omega⟩ | omega
            · intro F9
              rw [pe, fr] at q1; omega
  | succ m ih =>
    intro p h4 e H
    have hb := H.2.2.2.2.2
    have fr := H.2.2.1 (lo - 1) (Or.inl (by omega))
    have pe : p + -1 = p - 1 := by omega
    refine v_DualPivotQuicksort_mixedInsertionSort_108 H.1.1 ?_
    refine ⟨?_, ?_⟩
    · first | exact ⟨by omega, by omega⟩ | omega
    · refine ⟨?_, ?_⟩
      · first | exact ⟨by omega, by omega⟩ | omega
      · refine ⟨?_, ?_⟩
        · first | exact ⟨by omega, by omega⟩ | omega
        · refine ⟨fun q1 => ?_, fun q1 => ?_⟩
          · refine ⟨?_, ?_⟩
            · first | exact ⟨by omega, by omega⟩ | omega
            · intro F9
              rw [show p + -1 + 1 = p by omega] at F9 ⊢
              rw [pe] at q1
              obtain ⟨r1, r2⟩ := H.fill (Or.inr q1) F9
              exact cont _ r1 r2
          · refine ⟨?_, ?_⟩
            · first | exact ⟨by omega, by omega⟩ | omega
            · intro F9
              rw [show p + -1 + 1 = p by omega, pe] at F9 ⊢
              rw [pe] at q1
              have lp : lo ≤ p - 1 := by
                by_cases z : lo ≤ p - 1
                · exact z
                · rw [show p - 1 = lo - 1 by omega, fr] at q1; omega
              exact ih (p - 1) _ (by omega) (H.move lp (by omega) F9)
theorem hl_197 {G : XG} {d : Nat} {Q : XV → XH → Prop} {X : Nat → XH → Prop} {h0 : XH} {lo hi k v en hg pin q : Int} (l1 : 1 ≤ lo) (h12 : hi ≤ 12000) (hs : xpl h0 64 (lo - 1) ≤ v) (cont : ∀ h5, SP h0 h5 lo hi → Srt h5 lo (k + 1) → xwp G m_DualPivotQuicksort_mixedInsertionSort (d + 1) 69 [xR 64, xI k, xI en, xI hg, xL pin, xZ, xZ, xI q, xZ, xZ, xZ] [] h5 Q X) : ∀ (m : Nat) (p : Int) (h4 : XH), p - lo ≤ m → Hol h0 h4 lo hi k p v → xwp G m_DualPivotQuicksort_mixedInsertionSort (d + 1) 197 [xR 64, xI k, xI en, xI hg, xL pin, xZ, xI p, xI q, xL v, xZ, xZ] [] h4 Q X := by
  intro m
  induction m with
  | zero =>
    intro p h4 e H
    have hb := H.2.2.2.2.2
    have fr := H.2.2.1 (lo - 1) (Or.inl (by omega))
    have ep : p = lo := by omega
    have pe : p + -1 = lo - 1 := by omega
    refine v_DualPivotQuicksort_mixedInsertionSort_197 H.1.1 ?_
    refine ⟨?_, ?_⟩
    · first | exact ⟨by omega, by omega⟩ | omega
    · refine ⟨?_, ?_⟩
      · first | exact ⟨by omega, by omega⟩ | omega
      · refine ⟨?_, ?_⟩
        · first | exact ⟨by omega, by omega⟩ | omega
        · refine ⟨fun q1 => ?_, fun q1 => ?_⟩
          · refine ⟨?_, ?_⟩
            · first | exact ⟨by omega, by omega⟩ | omega
            · intro F9
              rw [show p + -1 + 1 = p by omega] at F9 ⊢
              obtain ⟨r1, r2⟩ := H.fill (Or.inl ep) F9
              exact cont _ r1 r2
          · refine ⟨?_, ?_⟩
            · first | exact ⟨by omega, by omega⟩ | omega
            · intro F9
              rw [pe, fr] at q1; omega
  | succ m ih =>
    intro p h4 e H
    have hb := H.2.2.2.2.2
    have fr := H.2.2.1 (lo - 1) (Or.inl (by omega))
    have pe : p + -1 = p - 1 := by omega
    refine v_DualPivotQuicksort_mixedInsertionSort_197 H.1.1 ?_
    refine ⟨?_, ?_⟩
    · first | exact ⟨by omega, by omega⟩ | omega
    · refine ⟨?_, ?_⟩
      · first | exact ⟨by omega, by omega⟩ | omega
      · refine ⟨?_, ?_⟩
        · first | exact ⟨by omega, by omega⟩ | omega
        · refine ⟨fun q1 => ?_, fun q1 => ?_⟩
          · refine ⟨?_, ?_⟩
            · first | exact ⟨by omega, by omega⟩ | omega
            · intro F9
              rw [show p + -1 + 1 = p by omega] at F9 ⊢
              rw [pe] at q1
              obtain ⟨r1, r2⟩ := H.fill (Or.inr q1) F9
              exact cont _ r1 r2
          · refine ⟨?_, ?_⟩
            · first | exact ⟨by omega, by omega⟩ | omega
            · intro F9
              rw [show p + -1 + 1 = p by omega, pe] at F9 ⊢
              rw [pe] at q1
              have lp : lo ≤ p - 1 := by
                by_cases z : lo ≤ p - 1
                · exact z
                · rw [show p - 1 = lo - 1 by omega, fr] at q1; omega
              exact ih (p - 1) _ (by omega) (H.move lp (by omega) F9)
theorem hl_300 {G : XG} {d : Nat} {Q : XV → XH → Prop} {X : Nat → XH → Prop} {h0 : XH} {lo hi k v en hg pin q : Int} (l1 : 1 ≤ lo) (h12 : hi ≤ 12000) (hs : xpl h0 64 (lo - 1) ≤ v) (cont : ∀ h5, SP h0 h5 lo hi → Srt h5 lo (k + 1) → xwp G m_DualPivotQuicksort_mixedInsertionSort (d + 1) 234 [xR 64, xI (k + 1), xZ, xI hg, xZ, xZ, xZ, xZ, xZ, xZ, xZ] [] h5 Q X) : ∀ (m : Nat) (p : Int) (h4 : XH), p - lo ≤ m → Hol h0 h4 lo hi k p v → xwp G m_DualPivotQuicksort_mixedInsertionSort (d + 1) 300 [xR 64, xI k, xZ, xI hg, xZ, xZ, xI p, xZ, xZ, xL v, xZ] [] h4 Q X := by
  intro m
  induction m with
  | zero =>
    intro p h4 e H
    have hb := H.2.2.2.2.2
    have fr := H.2.2.1 (lo - 1) (Or.inl (by omega))
    have ep : p = lo := by omega
    have pe : p + -1 = lo - 1 := by omega
    refine v_DualPivotQuicksort_mixedInsertionSort_300 H.1.1 ?_
    refine ⟨?_, ?_⟩
    · first | exact ⟨by omega, by omega⟩ | omega
    · refine ⟨?_, ?_⟩
      · first | exact ⟨by omega, by omega⟩ | omega
      · refine ⟨?_, ?_⟩
        · first | exact ⟨by omega, by omega⟩ | omega
        · refine ⟨fun q1 => ?_, fun q1 => ?_⟩
          · refine ⟨?_, ?_⟩
            · first | exact ⟨by omega, by omega⟩ | omega
            · refine ⟨?_, ?_⟩
              · first | exact ⟨by omega, by omega⟩ | omega
              · intro F9
                rw [show p + -1 + 1 = p by omega] at F9 ⊢
                obtain ⟨r1, r2⟩ := H.fill (Or.inl ep) F9
                exact cont _ r1 r2
          · refine ⟨?_, ?_⟩
            · first | exact ⟨by omega, by omega⟩ | omega
            · intro F9
              rw [pe, fr] at q1; omega
  | succ m ih =>
    intro p h4 e H
    have hb := H.2.2.2.2.2
    have fr := H.2.2.1 (lo - 1) (Or.inl (by omega))
    have pe : p + -1 = p - 1 := by omega
    refine v_DualPivotQuicksort_mixedInsertionSort_300 H.1.1 ?_
    refine ⟨?_, ?_⟩
    · first | exact ⟨by omega, by omega⟩ | omega
    · refine ⟨?_, ?_⟩
      · first | exact ⟨by omega, by omega⟩ | omega
      · refine ⟨?_, ?_⟩
        · first | exact ⟨by omega, by omega⟩ | omega
        · refine ⟨fun q1 => ?_, fun q1 => ?_⟩
          · refine ⟨?_, ?_⟩
            · first | exact ⟨by omega, by omega⟩ | omega
            · refine ⟨?_, ?_⟩
              · first | exact ⟨by omega, by omega⟩ | omega
              · intro F9
                rw [show p + -1 + 1 = p by omega] at F9 ⊢
                rw [pe] at q1
                obtain ⟨r1, r2⟩ := H.fill (Or.inr q1) F9
                exact cont _ r1 r2
          · refine ⟨?_, ?_⟩
            · first | exact ⟨by omega, by omega⟩ | omega
            · intro F9
              rw [show p + -1 + 1 = p by omega, pe] at F9 ⊢
              rw [pe] at q1
              have lp : lo ≤ p - 1 := by
                by_cases z : lo ≤ p - 1
                · exact z
                · rw [show p - 1 = lo - 1 by omega, fr] at q1; omega
              exact ih (p - 1) _ (by omega) (H.move lp (by omega) F9)
theorem hl_386 {G : XG} {d : Nat} {Q : XV → XH → Prop} {X : Nat → XH → Prop} {h0 : XH} {lo hi k v en hg pin q : Int} (l1 : 1 ≤ lo) (h12 : hi ≤ 12000) (hs : xpl h0 64 (lo - 1) ≤ v) (cont : ∀ h5, SP h0 h5 lo hi → Srt h5 lo (k + 1) → xwp G m_DualPivotQuicksort_mixedInsertionSort (d + 1) 234 [xR 64, xI (k + 1), xZ, xI hg, xZ, xZ, xZ, xZ, xZ, xZ, xZ] [] h5 Q X) : ∀ (m : Nat) (p : Int) (h4 : XH), p - lo ≤ m → Hol h0 h4 lo hi k p v → xwp G m_DualPivotQuicksort_mixedInsertionSort (d + 1) 386 [xR 64, xI k, xZ, xI hg, xZ, xZ, xI p, xL v, xZ, xZ, xZ] [] h4 Q X := by
  intro m
  induction m with
  | zero =>
    intro p h4 e H
    have hb := H.2.2.2.2.2
    have fr := H.2.2.1 (lo - 1) (Or.inl (by omega))
    have ep : p = lo := by omega
    have pe : p + -1 = lo - 1 := by omega
    refine v_DualPivotQuicksort_mixedInsertionSort_386 H.1.1 ?_
    refine ⟨?_, ?_⟩
    · first | exact ⟨by omega, by omega⟩ | omega
    · refine ⟨?_, ?_⟩
      · first | exact ⟨by omega, by omega⟩ | omega
      · refine ⟨?_, ?_⟩
        · first | exact ⟨by omega, by omega⟩ | omega
        · refine ⟨fun q1 => ?_, fun q1 => ?_⟩
          · refine ⟨?_, ?_⟩
            · first | exact ⟨by omega, by omega⟩ | omega
            · refine ⟨?_, ?_⟩
              · first | exact ⟨by omega, by omega⟩ | omega
              · intro F9
                rw [show p + -1 + 1 = p by omega] at F9 ⊢
                obtain ⟨r1, r2⟩ := H.fill (Or.inl ep) F9
                exact cont _ r1 r2
          · refine ⟨?_, ?_⟩
            · first | exact ⟨by omega, by omega⟩ | omega
            · intro F9
              rw [pe, fr] at q1; omega
  | succ m ih =>
    intro p h4 e H
    have hb := H.2.2.2.2.2
    have fr := H.2.2.1 (lo - 1) (Or.inl (by omega))
    have pe : p + -1 = p - 1 := by omega
    refine v_DualPivotQuicksort_mixedInsertionSort_386 H.1.1 ?_
    refine ⟨?_, ?_⟩
    · first | exact ⟨by omega, by omega⟩ | omega
    · refine ⟨?_, ?_⟩
      · first | exact ⟨by omega, by omega⟩ | omega
      · refine ⟨?_, ?_⟩
        · first | exact ⟨by omega, by omega⟩ | omega
        · refine ⟨fun q1 => ?_, fun q1 => ?_⟩
          · refine ⟨?_, ?_⟩
            · first | exact ⟨by omega, by omega⟩ | omega
            · refine ⟨?_, ?_⟩
              · first | exact ⟨by omega, by omega⟩ | omega
              · intro F9
                rw [show p + -1 + 1 = p by omega] at F9 ⊢
                rw [pe] at q1
                obtain ⟨r1, r2⟩ := H.fill (Or.inr q1) F9
                exact cont _ r1 r2
          · refine ⟨?_, ?_⟩
            · first | exact ⟨by omega, by omega⟩ | omega
            · intro F9
              rw [show p + -1 + 1 = p by omega, pe] at F9 ⊢
              rw [pe] at q1
              have lp : lo ≤ p - 1 := by
                by_cases z : lo ≤ p - 1
                · exact z
                · rw [show p - 1 = lo - 1 by omega, fr] at q1; omega
              exact ih (p - 1) _ (by omega) (H.move lp (by omega) F9)
/-- two holes, at p and p + 1, for v1 and v2 that isn't greater -/
def Hol2 (h0 h : XH) (lo hi k p v1 v2 : Int) : Prop := (xFix h ∧ xsm (fun c => c = 64) h0 h ∧ xnx h = xnx h0 ∧ xsl h = xsl h0) ∧ (∀ w, cnR (xpl h 64) w lo hi + cw v1 w + cw v2 w - cw (xpl h 64 p) w - cw (xpl h 64 (p + 1)) w = cnR (xpl h0 64) w lo hi) ∧ (∀ i, (i < lo ∨ hi ≤ i) → xpl h 64 i = xpl h0 64 i) ∧ (∀ i j, lo ≤ i → i < j → j ≤ k → i ≠ p → j ≠ p → i ≠ p + 1 → j ≠ p + 1 → xpl h 64 i ≤ xpl h 64 j) ∧ (∀ j, p + 1 < j → j ≤ k → v1 ≤ xpl h 64 j) ∧ v2 ≤ v1 ∧ lo ≤ p ∧ p + 1 ≤ k ∧ k < hi ∧ 0 ≤ lo
theorem Hol2.opn {h0 h : XH} {lo hi k v1 v2 : Int} (S : SP h0 h lo hi) (T : Srt h lo k) (h1 : lo ≤ k) (h2 : k + 1 < hi) (l0 : 0 ≤ lo) (hv : v2 ≤ v1) (he : (v1 = xpl h 64 k ∧ v2 = xpl h 64 (k + 1)) ∨ (v2 = xpl h 64 k ∧ v1 = xpl h 64 (k + 1))) : Hol2 h0 h lo hi (k + 1) k v1 v2 :=
  ⟨S.1, fun w => by
    rw [S.2.1 w]
    rcases he with ⟨e1, e2⟩ | ⟨e1, e2⟩ <;> rw [e1, e2] <;> omega, S.2.2, fun i j i0 ij jk _ hj _ hj2 => T i j i0 ij (by omega), fun j j0 j1 => by omega, hv, h1, Int.le_refl _, h2, l0⟩
theorem Hol2.move {h0 h : XH} {lo hi k p v1 v2 : Int} (H : Hol2 h0 h lo hi k p v1 v2) (h1 : lo ≤ p - 1) (h2 : v1 ≤ xpl h 64 (p - 1)) (F : xFix (xst h 64 (p + 1) (xpl h 64 (p - 1)))) : Hol2 h0 (xst h 64 (p + 1) (xpl h 64 (p - 1))) lo hi k (p - 1) v1 v2 := by
  obtain ⟨⟨a1, a2, a3, a4⟩, b, c, d, e, f0, f1, f2, f3, f4⟩ := H
  refine ⟨⟨F, a2.st (by omega) (Or.inl rfl), a3, a4⟩, fun w => ?_, fun i hi => by rw [xpl_ok (by omega)]; exact c i hi, fun i j i0 ij jk hi hj hi2 hj2 => ?_, fun j j0 j1 => ?_, f0, h1, by omega, f3, f4⟩
  · rw [cnR_st (by omega) (by omega), xpl_ok (by omega), xpl_ok (by omega), show p - 1 + 1 = p by omega]
    have := b w
    omega
  · by_cases z : i = p + 1
    · rw [z, xpl_hit, xpl_ok (by omega)]; exact d (p - 1) j h1 (by omega) jk (by omega) (by omega) (by omega) (by omega)
    · rw [xpl_ok z]
      by_cases y : j = p + 1
      · rw [y, xpl_hit]; exact d i (p - 1) i0 (by omega) (by omega) (by omega) (by omega) z (by omega)
      · rw [xpl_ok y]; exact d i j i0 ij jk (by omega) (by omega) z y
  · by_cases z : j = p + 1
    · rw [z, xpl_hit]; exact h2
    · rw [xpl_ok z]; exact e j (by omega) j1
theorem Hol2.fill {h0 h : XH} {lo hi k p v1 v2 : Int} (H : Hol2 h0 h lo hi k p v1 v2) (h1 : p = lo ∨ xpl h 64 (p - 1) ≤ v1) (F : xFix (xst h 64 (p + 1) v1)) : Hol h0 (xst h 64 (p + 1) v1) lo hi k p v2 := by
  obtain ⟨⟨a1, a2, a3, a4⟩, b, c, d, e, f0, f1, f2, f3, f4⟩ := H
  refine ⟨⟨F, a2.st (by omega) (Or.inl rfl), a3, a4⟩, fun w => ?_, fun i hi => by rw [xpl_ok (by omega)]; exact c i hi, fun i j i0 ij jk hi hj => ?_, fun j j0 j1 => ?_, f1, by omega, f3, f4⟩
  · rw [cnR_st (by omega) (by omega), xpl_ok (by omega)]
    have := b w
    omega
  · by_cases z : i = p + 1
    · rw [z, xpl_hit, xpl_ok (by omega)]; exact e j (by omega) jk
    · rw [xpl_ok z]
      by_cases y : j = p + 1
      · rw [y, xpl_hit]
        rcases h1 with w | w
        · omega
        · by_cases x : i = p - 1
          · rw [x]; exact w
          · have := d i (p - 1) i0 (by omega) (by omega) hi (by omega) z (by omega)
            omega
      · rw [xpl_ok y]; exact d i j i0 ij jk hi hj z y
  · by_cases z : j = p + 1
    · rw [z, xpl_hit]; exact f0
    · rw [xpl_ok z]
      have := e j (by omega) j1
      omega
theorem hl_263 {G : XG} {d : Nat} {Q : XV → XH → Prop} {X : Nat → XH → Prop} {h0 : XH} {lo hi k v1 v2 hg : Int} (l1 : 1 ≤ lo) (h12 : hi ≤ 12000) (hs : xpl h0 64 (lo - 1) ≤ v1) (cont : ∀ h5 p, Hol h0 h5 lo hi k p v2 → xwp G m_DualPivotQuicksort_mixedInsertionSort (d + 1) 300 [xR 64, xI k, xZ, xI hg, xZ, xZ, xI p, xZ, xZ, xL v2, xZ] [] h5 Q X) : ∀ (m : Nat) (p : Int) (h4 : XH), p - lo ≤ m → Hol2 h0 h4 lo hi k p v1 v2 → xwp G m_DualPivotQuicksort_mixedInsertionSort (d + 1) 263 [xR 64, xI k, xZ, xI hg, xZ, xZ, xI p, xL v1, xZ, xL v2, xZ] [] h4 Q X := by
  intro m
  induction m with
  | zero =>
    intro p h4 e H
    have hb := H.2.2.2.2.2.2
    have fr := H.2.2.1 (lo - 1) (Or.inl (by omega))
    have ep : p = lo := by omega
    have pe : p + -1 = lo - 1 := by omega
    refine v_DualPivotQuicksort_mixedInsertionSort_263 H.1.1 ?_
    refine ⟨?_, ?_⟩
    · first | exact ⟨by omega, by omega⟩ | omega
    · refine ⟨?_, ?_⟩
      · first | exact ⟨by omega, by omega⟩ | omega
      · refine ⟨?_, ?_⟩
        · first | exact ⟨by omega, by omega⟩ | omega
        · refine ⟨fun q1 => ?_, fun q1 => ?_⟩
          · refine ⟨?_, ?_⟩
            · first | exact ⟨by omega, by omega⟩ | omega
            · intro F9
              rw [show p + -1 + 1 = p by omega] at F9 ⊢
              exact cont _ p (H.fill (Or.inl ep) F9)
          · refine ⟨?_, ?_⟩
            · first | exact ⟨by omega, by omega⟩ | omega
            · intro F9
              rw [pe, fr] at q1; omega
  | succ m ih =>
    intro p h4 e H
    have hb := H.2.2.2.2.2.2
    have fr := H.2.2.1 (lo - 1) (Or.inl (by omega))
    have pe : p + -1 = p - 1 := by omega
    refine v_DualPivotQuicksort_mixedInsertionSort_263 H.1.1 ?_
    refine ⟨?_, ?_⟩
    · first | exact ⟨by omega, by omega⟩ | omega
    · refine ⟨?_, ?_⟩
      · first | exact ⟨by omega, by omega⟩ | omega
      · refine ⟨?_, ?_⟩
        · first | exact ⟨by omega, by omega⟩ | omega
        · refine ⟨fun q1 => ?_, fun q1 => ?_⟩
          · refine ⟨?_, ?_⟩
            · first | exact ⟨by omega, by omega⟩ | omega
            · intro F9
              rw [show p + -1 + 1 = p by omega] at F9 ⊢
              rw [pe] at q1
              exact cont _ p (H.fill (Or.inr q1) F9)
          · refine ⟨?_, ?_⟩
            · first | exact ⟨by omega, by omega⟩ | omega
            · intro F9
              rw [show p + -1 + 2 = p + 1 by omega, pe] at F9 ⊢
              rw [pe] at q1
              have lp : lo ≤ p - 1 := by
                by_cases z : lo ≤ p - 1
                · exact z
                · rw [show p - 1 = lo - 1 by omega, fr] at q1; omega
              exact ih (p - 1) _ (by omega) (H.move lp (by omega) F9)
theorem hl_349 {G : XG} {d : Nat} {Q : XV → XH → Prop} {X : Nat → XH → Prop} {h0 : XH} {lo hi k v1 v2 hg : Int} (l1 : 1 ≤ lo) (h12 : hi ≤ 12000) (hs : xpl h0 64 (lo - 1) ≤ v1) (cont : ∀ h5 p, Hol h0 h5 lo hi k p v2 → xwp G m_DualPivotQuicksort_mixedInsertionSort (d + 1) 386 [xR 64, xI k, xZ, xI hg, xZ, xZ, xI p, xL v2, xZ, xZ, xZ] [] h5 Q X) : ∀ (m : Nat) (p : Int) (h4 : XH), p - lo ≤ m → Hol2 h0 h4 lo hi k p v1 v2 → xwp G m_DualPivotQuicksort_mixedInsertionSort (d + 1) 349 [xR 64, xI k, xZ, xI hg, xZ, xZ, xI p, xL v2, xZ, xL v1, xZ] [] h4 Q X := by
  intro m
  induction m with
  | zero =>
    intro p h4 e H
    have hb := H.2.2.2.2.2.2
    have fr := H.2.2.1 (lo - 1) (Or.inl (by omega))
    have ep : p = lo := by omega
    have pe : p + -1 = lo - 1 := by omega
    refine v_DualPivotQuicksort_mixedInsertionSort_349 H.1.1 ?_
    refine ⟨?_, ?_⟩
    · first | exact ⟨by omega, by omega⟩ | omega
    · refine ⟨?_, ?_⟩
      · first | exact ⟨by omega, by omega⟩ | omega
      · refine ⟨?_, ?_⟩
        · first | exact ⟨by omega, by omega⟩ | omega
        · refine ⟨fun q1 => ?_, fun q1 => ?_⟩
          · refine ⟨?_, ?_⟩
            · first | exact ⟨by omega, by omega⟩ | omega
            · intro F9
              rw [show p + -1 + 1 = p by omega] at F9 ⊢
              exact cont _ p (H.fill (Or.inl ep) F9)
          · refine ⟨?_, ?_⟩
            · first | exact ⟨by omega, by omega⟩ | omega
            · intro F9
              rw [pe, fr] at q1; omega
  | succ m ih =>
    intro p h4 e H
    have hb := H.2.2.2.2.2.2
    have fr := H.2.2.1 (lo - 1) (Or.inl (by omega))
    have pe : p + -1 = p - 1 := by omega
    refine v_DualPivotQuicksort_mixedInsertionSort_349 H.1.1 ?_
    refine ⟨?_, ?_⟩
    · first | exact ⟨by omega, by omega⟩ | omega
    · refine ⟨?_, ?_⟩
      · first | exact ⟨by omega, by omega⟩ | omega
      · refine ⟨?_, ?_⟩
        · first | exact ⟨by omega, by omega⟩ | omega
        · refine ⟨fun q1 => ?_, fun q1 => ?_⟩
          · refine ⟨?_, ?_⟩
            · first | exact ⟨by omega, by omega⟩ | omega
            · intro F9
              rw [show p + -1 + 1 = p by omega] at F9 ⊢
              rw [pe] at q1
              exact cont _ p (H.fill (Or.inr q1) F9)
          · refine ⟨?_, ?_⟩
            · first | exact ⟨by omega, by omega⟩ | omega
            · intro F9
              rw [show p + -1 + 2 = p + 1 by omega, pe] at F9 ⊢
              rw [pe] at q1
              have lp : lo ≤ p - 1 := by
                by_cases z : lo ≤ p - 1
                · exact z
                · rw [show p - 1 = lo - 1 by omega, fr] at q1; omega
              exact ih (p - 1) _ (by omega) (H.move lp (by omega) F9)
theorem s_mixed {G : XG} {d : Nat} {h : XH} {Q : XV → XH → Prop} {X : Nat → XH → Prop} {lo en hi : Int} (F : xFix h) (l1 : 1 ≤ lo) (h1 : lo < en) (h2 : en ≤ hi) (h3 : hi ≤ 12000) (ev : en = hi ∨ (hi - en) % 2 = 0) (hs : ∀ i, lo ≤ i → i < hi → xpl h 64 (lo - 1) ≤ xpl h 64 i) (hq : ∀ h', SP h h' lo hi → Srt h' lo hi → Q xN h') : xwp G m_DualPivotQuicksort_mixedInsertionSort (d + 1) 0 [xR 64, xI lo, xI en, xI hi, xZ, xZ, xZ, xZ, xZ, xZ, xZ] [] h Q X := by
  have sen : ∀ h2, SP h h2 lo hi → ∀ i, lo ≤ i → i < hi → xpl h 64 (lo - 1) ≤ xpl h2 64 i := fun h2 S => S.le hs
  have tiny : en = hi → ∀ (n : Nat) (k : Int) (h4 : XH), hi - k ≤ n → lo ≤ k → k ≤ hi → SP h h4 lo hi → Srt h4 lo (k + 1) → xwp G m_DualPivotQuicksort_mixedInsertionSort (d + 1) 5 [xR 64, xI k, xI en, xZ, xZ, xZ, xZ, xZ, xZ, xZ, xZ] [] h4 Q X := by
    intro eh n
    induction n with
    | zero =>
      intro k h4 e k0 k9 S T
      refine v_DualPivotQuicksort_mixedInsertionSort_5 S.1.1 ?_
      refine ⟨?_, ?_⟩
      · first | exact ⟨by omega, by omega⟩ | omega
      · refine ⟨fun q1 => ?_, fun q1 => ?_⟩
        · exact hq h4 S (fun i j i0 ij jk => T i j i0 ij (by omega))
        · refine ⟨?_, ?_⟩
          · first | exact ⟨by omega, by omega⟩ | omega
          · refine ⟨?_, ?_⟩
            · first | exact ⟨by omega, by omega⟩ | omega
            · omega
    | succ n ih =>
      intro k h4 e k0 k9 S T
      refine v_DualPivotQuicksort_mixedInsertionSort_5 S.1.1 ?_
      refine ⟨?_, ?_⟩
      · first | exact ⟨by omega, by omega⟩ | omega
      · refine ⟨fun q1 => ?_, fun q1 => ?_⟩
        · exact hq h4 S (fun i j i0 ij jk => T i j i0 ij (by omega))
        · refine ⟨?_, ?_⟩
          · first | exact ⟨by omega, by omega⟩ | omega
          · refine ⟨?_, ?_⟩
            · first | exact ⟨by omega, by omega⟩ | omega
            · exact hl_21 (h0 := h) (hg := 0) (pin := 0) (q := 0) l1 h3 (sen h4 S (k + 1) (by omega) (by omega)) (fun h5 S5 T5 => ih (k + 1) h5 (by omega) (by omega) (by omega) S5 T5) (k + 1 - lo).toNat (k + 1) h4 (by omega) (Hol.opn S T (by omega) (by omega) (by omega))
  have pairs : ∀ (n : Nat) (k : Int) (h4 : XH), hi - k ≤ n → lo < k → k ≤ hi → (hi - k) % 2 = 0 → SP h h4 lo hi → Srt h4 lo k → xwp G m_DualPivotQuicksort_mixedInsertionSort (d + 1) 234 [xR 64, xI k, xZ, xI hi, xZ, xZ, xZ, xZ, xZ, xZ, xZ] [] h4 Q X := by
    intro n
    induction n with
    | zero =>
      intro k h4 e k0 k1 ev S T
      refine v_DualPivotQuicksort_mixedInsertionSort_234 S.1.1 ?_
      refine ⟨fun q1 => ?_, fun q1 => ?_⟩
      · exact hq h4 S (fun i j i0 ij jk => T i j i0 ij (by omega))
      · refine ⟨?_, ?_⟩
        · first | exact ⟨by omega, by omega⟩ | omega
        · refine ⟨?_, ?_⟩
          · first | exact ⟨by omega, by omega⟩ | omega
          · refine ⟨?_, ?_⟩
            · first | exact ⟨by omega, by omega⟩ | omega
            · refine ⟨fun q2 => ?_, fun q2 => ?_⟩
              · refine ⟨?_, ?_⟩
                · first | exact ⟨by omega, by omega⟩ | omega
                · refine ⟨fun q3 => ?_, fun q3 => ?_⟩
                  · omega
                  · omega
              · omega
    | succ n ih =>
      intro k h4 e k0 k1 ev S T
      refine v_DualPivotQuicksort_mixedInsertionSort_234 S.1.1 ?_
      refine ⟨fun q1 => ?_, fun q1 => ?_⟩
      · exact hq h4 S (fun i j i0 ij jk => T i j i0 ij (by omega))
      · refine ⟨?_, ?_⟩
        · first | exact ⟨by omega, by omega⟩ | omega
        · refine ⟨?_, ?_⟩
          · first | exact ⟨by omega, by omega⟩ | omega
          · refine ⟨?_, ?_⟩
            · first | exact ⟨by omega, by omega⟩ | omega
            · refine ⟨fun q2 => ?_, fun q2 => ?_⟩
              · refine ⟨?_, ?_⟩
                · first | exact ⟨by omega, by omega⟩ | omega
                · refine ⟨fun q3 => ?_, fun q3 => ?_⟩
                  · refine ih (k + 1 + 1) h4 (by omega) (by omega) (by omega) (by omega) S (fun i j i0 ij jk => ?_)
                    by_cases z : j = k + 1
                    · rw [z]
                      by_cases y : i = k
                      · rw [y]; exact q2
                      · by_cases x : i = k - 1
                        · rw [x]; omega
                        · have := T i (k - 1) i0 (by omega) (by omega)
                          omega
                    · by_cases y : j = k
                      · rw [y]
                        by_cases x : i = k - 1
                        · rw [x]; exact q3
                        · have := T i (k - 1) i0 (by omega) (by omega)
                          omega
                      · exact T i j i0 ij (by omega)
                  · refine hl_349 (h0 := h) (v1 := xpl h4 64 (k + 1)) (v2 := xpl h4 64 k) l1 h3 (sen h4 S (k + 1) (by omega) (by omega)) (fun h5 p H5 => ?_) (k - lo).toNat k h4 (by omega) (Hol2.opn S T (by omega) (by omega) (by omega) q2 (Or.inr ⟨rfl, rfl⟩))
                    exact hl_386 (h0 := h) (en := 0) (pin := 0) (q := 0) l1 h3 (sen h4 S k (by omega) (by omega)) (fun h6 S6 T6 => ih (k + 1 + 1) h6 (by omega) (by omega) (by omega) (by omega) S6 T6) (p - lo).toNat p h5 (by omega) H5
              · refine hl_263 (h0 := h) (v1 := xpl h4 64 k) (v2 := xpl h4 64 (k + 1)) l1 h3 (sen h4 S k (by omega) (by omega)) (fun h5 p H5 => ?_) (k - lo).toNat k h4 (by omega) (Hol2.opn S T (by omega) (by omega) (by omega) (by omega) (Or.inl ⟨rfl, rfl⟩))
                exact hl_300 (h0 := h) (en := 0) (pin := 0) (q := 0) l1 h3 (sen h4 S (k + 1) (by omega) (by omega)) (fun h6 S6 T6 => ih (k + 1 + 1) h6 (by omega) (by omega) (by omega) (by omega) S6 T6) (p - lo).toNat p h5 (by omega) H5
  have pins : (hi - en) % 2 = 0 → en < hi → ∀ (pin : Int), xpl h 64 (lo - 1) ≤ pin → ∀ (n : Nat) (k q : Int) (h4 : XH), hi - k ≤ n → lo ≤ k → k < en → lo - 1 ≤ q → q ≤ hi → SP h h4 lo hi → Srt h4 lo (k + 1) → xwp G m_DualPivotQuicksort_mixedInsertionSort (d + 1) 69 [xR 64, xI k, xI en, xI hi, xL pin, xZ, xZ, xI q, xZ, xZ, xZ] [] h4 Q X := by
    intro ev2 eh pin hpin n
    induction n with
    | zero => intro k q h4 e k0 k1; omega
    | succ n ih =>
      intro k q h4 e k0 k1 q0 q9 S T
      have nxt : xpl h4 64 (k + 1 - 1) ≤ xpl h4 64 (k + 1) → Srt h4 lo (k + 1 + 1) := fun w i j i0 ij jk => by
        rw [show k + 1 - 1 = k by omega] at w
        by_cases z : j = k + 1
        · rw [z]
          by_cases y : i = k
          · rw [y]; exact w
          · have := T i k i0 (by omega) (by omega)
            omega
        · exact T i j i0 ij (by omega)
      have scan : k + 1 < en → ∀ (m : Nat) (y2 : Int), y2 - lo ≤ m → lo ≤ y2 → y2 ≤ hi → xwp G m_DualPivotQuicksort_mixedInsertionSort (d + 1) 160 [xR 64, xI (k + 1), xI en, xI hi, xL pin, xZ, xI (k + 1), xI y2, xL (xpl h4 64 (k + 1)), xZ, xZ] [] h4 Q X := by
        intro hk m
        have fr := S.2.2 (lo - 1) (Or.inl (by omega))
        have done : ∀ q3, lo ≤ q3 → q3 ≤ hi → xpl h4 64 (q3 + -1) ≤ pin → (q3 + -1 ≤ k + 1 → xwp G m_DualPivotQuicksort_mixedInsertionSort (d + 1) 197 [xR 64, xI (k + 1), xI en, xI hi, xL pin, xZ, xI (k + 1), xI (q3 + -1), xL (xpl h4 64 (k + 1)), xZ, xZ] [] h4 Q X) ∧ (¬ q3 + -1 ≤ k + 1 → xFix (xst h4 64 (q3 + -1) (xpl h4 64 (k + 1))) → xwp G m_DualPivotQuicksort_mixedInsertionSort (d + 1) 197 [xR 64, xI (k + 1), xI en, xI hi, xL pin, xZ, xI (k + 1), xI (q3 + -1), xL (xpl h4 64 (q3 + -1)), xZ, xZ] [] (xst h4 64 (q3 + -1) (xpl h4 64 (k + 1))) Q X) := fun q3 q30 q31 q32 => by
          refine ⟨fun z => ?_, fun z F5 => ?_⟩
          · exact hl_197 (h0 := h) l1 h3 (sen h4 S (k + 1) (by omega) (by omega)) (fun h5 S5 T5 => ih (k + 1) (q3 + -1) h5 (by omega) (by omega) (by omega) (by omega) (by omega) S5 T5) (k + 1 - lo).toNat (k + 1) h4 (by omega) (Hol.opn S T (by omega) (by omega) (by omega))
          · have H5 : Hol h (xst h4 64 (q3 + -1) (xpl h4 64 (k + 1))) lo hi (k + 1) (k + 1) (xpl h4 64 (q3 + -1)) := by
              refine ⟨⟨F5, S.1.2.1.st (by omega) (Or.inl rfl), S.1.2.2.1, S.1.2.2.2⟩, fun w => ?_, fun i hi => by rw [xpl_ok (by omega)]; exact S.2.2 i hi, fun i j i0 ij jk hi hj => ?_, fun j j0 j1 => by omega, by omega, Int.le_refl _, by omega, by omega⟩
              · rw [cnR_st (by omega) (by omega), xpl_ok (by omega), S.2.1 w]; omega
              · rw [xpl_ok (by omega), xpl_ok (by omega)]; exact T i j i0 ij (by omega)
            exact hl_197 (h0 := h) l1 h3 (sen h4 S (q3 + -1) (by omega) (by omega)) (fun h5 S5 T5 => ih (k + 1) (q3 + -1) h5 (by omega) (by omega) (by omega) (by omega) (by omega) S5 T5) (k + 1 - lo).toNat (k + 1) _ (by omega) H5
        induction m with
        | zero =>
          intro y2 e2 y20 y21
          have ep : y2 + -1 = lo - 1 := by omega
          refine v_DualPivotQuicksort_mixedInsertionSort_160 S.1.1 ?_
          refine ⟨?_, ?_⟩
          · first | exact ⟨by omega, by omega⟩ | omega
          · refine ⟨?_, ?_⟩
            · first | exact ⟨by omega, by omega⟩ | omega
            · refine ⟨?_, ?_⟩
              · first | exact ⟨by omega, by omega⟩ | omega
              · refine ⟨fun q1 => ?_, fun q1 => ?_⟩
                · refine ⟨fun q2 => ?_, fun q2 => ?_⟩
                  · exact (done y2 y20 y21 q1).1 q2
                  · refine ⟨?_, ?_⟩
                    · first | exact ⟨by omega, by omega⟩ | omega
                    · intro F9
                      exact (done y2 y20 y21 q1).2 q2 F9
                · rw [ep, fr] at q1; omega
        | succ m ihm =>
          intro y2 e2 y20 y21
          refine v_DualPivotQuicksort_mixedInsertionSort_160 S.1.1 ?_
          refine ⟨?_, ?_⟩
          · first | exact ⟨by omega, by omega⟩ | omega
          · refine ⟨?_, ?_⟩
            · first | exact ⟨by omega, by omega⟩ | omega
            · refine ⟨?_, ?_⟩
              · first | exact ⟨by omega, by omega⟩ | omega
              · refine ⟨fun q1 => ?_, fun q1 => ?_⟩
                · refine ⟨fun q2 => ?_, fun q2 => ?_⟩
                  · exact (done y2 y20 y21 q1).1 q2
                  · refine ⟨?_, ?_⟩
                    · first | exact ⟨by omega, by omega⟩ | omega
                    · intro F9
                      exact (done y2 y20 y21 q1).2 q2 F9
                · refine ihm (y2 + -1) (by omega) ?_ (by omega)
                  by_cases z : lo ≤ y2 + -1
                  · exact z
                  · rw [show y2 + -1 = lo - 1 by omega, fr] at q1; omega
      refine v_DualPivotQuicksort_mixedInsertionSort_69 S.1.1 ?_
      refine ⟨?_, ?_⟩
      · first | exact ⟨by omega, by omega⟩ | omega
      · refine ⟨fun q1 => ?_, fun q1 => ?_⟩
        · have ek : k + 1 = en := by omega
          rw [ek] at T ⊢
          exact pairs (hi - en).toNat en h4 (by omega) h1 h2 ev2 S T
        · refine ⟨?_, ?_⟩
          · first | exact ⟨by omega, by omega⟩ | omega
          · refine ⟨?_, ?_⟩
            · first | exact ⟨by omega, by omega⟩ | omega
            · refine ⟨?_, ?_⟩
              · first | exact ⟨by omega, by omega⟩ | omega
              · refine ⟨fun q2 => ?_, fun q2 => ?_⟩
                · refine ⟨fun q3 => ?_, fun q3 => ?_⟩
                  · exact ih (k + 1) q h4 (by omega) (by omega) (by omega) q0 q9 S (nxt q2)
                  · refine ⟨fun q4 => ?_, fun q4 => ?_⟩
                    · exact ih (k + 1) q h4 (by omega) (by omega) (by omega) q0 q9 S (nxt q2)
                    · exact scan (by omega) (q - lo).toNat q (by omega) (by omega) q9
                · intro F9
                  have H0 := Hol.opn (hi := hi) S T (by omega) (by omega) (by omega)
                  have pe : k + 1 + -1 = k + 1 - 1 := by omega
                  rw [pe] at F9 ⊢
                  have lk : lo ≤ k + 1 - 1 := by omega
                  exact hl_108 (h0 := h) l1 h3 (sen h4 S (k + 1) (by omega) (by omega)) (fun h5 S5 T5 => ih (k + 1) q h5 (by omega) (by omega) (by omega) q0 q9 S5 T5) (k + 1 - lo).toNat (k + 1 - 1) _ (by omega) (H0.move lk (by omega) F9)
  refine v_DualPivotQuicksort_mixedInsertionSort_0 F ?_
  refine ⟨fun q1 => ?_, fun q1 => ?_⟩
  · exact tiny q1 (hi - lo).toNat lo h (by omega) (Int.le_refl _) (by omega) (SP.refl F lo hi) (fun i j i0 ij jk => by omega)
  · refine ⟨?_, ?_⟩
    · omega
    · refine ⟨?_, ?_⟩
      · omega
      · exact pins (by omega) (by omega) (xpl h 64 en) (hs en (by omega) (by omega)) (hi - lo).toNat lo hi h (by omega) (Int.le_refl _) h1 (by omega) (Int.le_refl _) (SP.refl F lo hi) (fun i j i0 ij jk => by omega)

end
