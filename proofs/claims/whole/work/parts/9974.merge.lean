/-! ===== merge ===== -/
section
/-! runs are merged -/
def SrtG (g : Int → Int) (lo hi : Int) : Prop := ∀ i j, lo ≤ i → i < j → j < hi → g i ≤ g j
/-- where a merge stands: k, l1, l2 are the next places -/
def MgI (h0 h : XH) (D A1 A2 k0 lo1 hi1 lo2 hi2 k l1 l2 : Int) : Prop :=
  (xFix h ∧ xsm (fun c => c = D) h0 h ∧ xnx h = xnx h0 ∧ xsl h = xsl h0) ∧ (k = k0 + (l1 - lo1) + (l2 - lo2) ∧ (lo1 ≤ l1 ∧ l1 ≤ hi1) ∧ lo2 ≤ l2 ∧ l2 ≤ hi2) ∧ (∀ i, (i < k0 ∨ k ≤ i) → xpl h D i = xpl h0 D i) ∧
  (∀ w, cnR (xpl h D) w k0 k + cnR (xpl h0 A1) w l1 hi1 + cnR (xpl h0 A2) w l2 hi2 = cnR (xpl h0 A1) w lo1 hi1 + cnR (xpl h0 A2) w lo2 hi2) ∧
  SrtG (xpl h D) k0 k ∧ (∀ i j, k0 ≤ i → i < k → l1 ≤ j → j < hi1 → xpl h D i ≤ xpl h0 A1 j) ∧ ∀ i j, k0 ≤ i → i < k → l2 ≤ j → j < hi2 → xpl h D i ≤ xpl h0 A2 j
theorem MgI.one {h0 h : XH} {D A1 A2 k0 lo1 hi1 lo2 hi2 k l1 l2 : Int} (M : MgI h0 h D A1 A2 k0 lo1 hi1 lo2 hi2 k l1 l2) (p0 : 0 ≤ k0) (s1 : SrtG (xpl h0 A1) lo1 hi1) (hl : l1 < hi1) (h2 : ∀ j, l2 ≤ j → j < hi2 → xpl h0 A1 l1 ≤ xpl h0 A2 j) {v : Int} (hv : v = xpl h0 A1 l1) (F : xFix (xst h D k v)) : MgI h0 (xst h D k v) D A1 A2 k0 lo1 hi1 lo2 hi2 (k + 1) (l1 + 1) l2 := by
  obtain ⟨⟨a1, a2, a3, a4⟩, ⟨b1, b2, b3⟩, c, e, f, g1, g2⟩ := M
  subst hv
  refine ⟨⟨F, a2.st (by omega) (Or.inl rfl), a3, a4⟩, ⟨by omega, by omega, b3⟩, fun i hi => by rw [xpl_ok (by omega)]; exact c i (by omega), fun w => ?_, fun i j i0 ij jk => ?_, fun i j i0 i1 j0 j1 => ?_, fun i j i0 i1 j0 j1 => ?_⟩
  · have s := cnR_split (xpl (xst h D k (xpl h0 A1 l1)) D) w (lo := k0) (m := k) (hi := k + 1) (by omega) (by omega)
    have o := cnR_one (xpl (xst h D k (xpl h0 A1 l1)) D) w k
    rw [xpl_hit] at o
    have q : cnR (xpl (xst h D k (xpl h0 A1 l1)) D) w k0 k = cnR (xpl h D) w k0 k := cnR_congr (fun i _ i1 => xpl_ok (by omega))
    have t := cnR_split (xpl h0 A1) w (lo := l1) (m := l1 + 1) (hi := hi1) (by omega) (by omega)
    have t1 := cnR_one (xpl h0 A1) w l1
    have := e w
    omega
  · rw [xpl_ok (show i ≠ k by omega)]
    by_cases z : j = k
    · rw [z, xpl_hit]; exact g1 i l1 i0 (by omega) (Int.le_refl _) hl
    · rw [xpl_ok z]; exact f i j i0 ij (by omega)
  · by_cases z : i = k
    · rw [z, xpl_hit]; exact s1 l1 j b2.1 (by omega) j1
    · rw [xpl_ok z]; exact g1 i j i0 (by omega) (by omega) j1
  · by_cases z : i = k
    · rw [z, xpl_hit]; exact h2 j j0 j1
    · rw [xpl_ok z]; exact g2 i j i0 (by omega) j0 j1
theorem MgI.two {h0 h : XH} {D A1 A2 k0 lo1 hi1 lo2 hi2 k l1 l2 : Int} (M : MgI h0 h D A1 A2 k0 lo1 hi1 lo2 hi2 k l1 l2) (p0 : 0 ≤ k0) (s2 : SrtG (xpl h0 A2) lo2 hi2) (hl : l2 < hi2) (h1 : ∀ j, l1 ≤ j → j < hi1 → xpl h0 A2 l2 ≤ xpl h0 A1 j) {v : Int} (hv : v = xpl h0 A2 l2) (F : xFix (xst h D k v)) : MgI h0 (xst h D k v) D A1 A2 k0 lo1 hi1 lo2 hi2 (k + 1) l1 (l2 + 1) := by
  obtain ⟨⟨a1, a2, a3, a4⟩, ⟨b1, b2, b3⟩, c, e, f, g1, g2⟩ := M
  subst hv
  refine ⟨⟨F, a2.st (by omega) (Or.inl rfl), a3, a4⟩, ⟨by omega, b2, by omega⟩, fun i hi => by rw [xpl_ok (by omega)]; exact c i (by omega), fun w => ?_, fun i j i0 ij jk => ?_, fun i j i0 i1 j0 j1 => ?_, fun i j i0 i1 j0 j1 => ?_⟩
  · have s := cnR_split (xpl (xst h D k (xpl h0 A2 l2)) D) w (lo := k0) (m := k) (hi := k + 1) (by omega) (by omega)
    have o := cnR_one (xpl (xst h D k (xpl h0 A2 l2)) D) w k
    rw [xpl_hit] at o
    have q : cnR (xpl (xst h D k (xpl h0 A2 l2)) D) w k0 k = cnR (xpl h D) w k0 k := cnR_congr (fun i _ i1 => xpl_ok (by omega))
    have t := cnR_split (xpl h0 A2) w (lo := l2) (m := l2 + 1) (hi := hi2) (by omega) (by omega)
    have t1 := cnR_one (xpl h0 A2) w l2
    have := e w
    omega
  · rw [xpl_ok (show i ≠ k by omega)]
    by_cases z : j = k
    · rw [z, xpl_hit]; exact g2 i l2 i0 (by omega) (Int.le_refl _) hl
    · rw [xpl_ok z]; exact f i j i0 ij (by omega)
  · by_cases z : i = k
    · rw [z, xpl_hit]; exact h1 j j0 j1
    · rw [xpl_ok z]; exact g1 i j i0 (by omega) j0 j1
  · by_cases z : i = k
    · rw [z, xpl_hit]; exact s2 l2 j b3.1 (by omega) j1
    · rw [xpl_ok z]; exact g2 i j i0 (by omega) (by omega) j1
/-- what a merge leaves -/
def MgE (h0 h : XH) (D A1 A2 k0 lo1 hi1 lo2 hi2 : Int) : Prop :=
  (xFix h ∧ xsm (fun c => c = D) h0 h ∧ xnx h = xnx h0 ∧ xsl h = xsl h0) ∧ (∀ i, (i < k0 ∨ k0 + (hi1 - lo1) + (hi2 - lo2) ≤ i) → xpl h D i = xpl h0 D i) ∧
  (∀ w, cnR (xpl h D) w k0 (k0 + (hi1 - lo1) + (hi2 - lo2)) = cnR (xpl h0 A1) w lo1 hi1 + cnR (xpl h0 A2) w lo2 hi2) ∧ SrtG (xpl h D) k0 (k0 + (hi1 - lo1) + (hi2 - lo2))
theorem cnR_nil (g : Int → Int) (w lo : Int) : cnR g w lo lo = 0 := by
  unfold cnR
  rw [show (lo - lo).toNat = 0 by omega]; rfl
theorem s_mergeParts {G : XG} {d : Nat} {h : XH} {Q : XV → XH → Prop} {X : Nat → XH → Prop} {D A1 A2 k0 lo1 hi1 lo2 hi2 : Int} (F : xFix h) (n1 : A1 < xnx h) (n2 : A2 < xnx h) (nD : D < xnx h) (t1 : xtg h A1 = 101) (t2 : xtg h A2 = 101) (tD : xtg h D = 101) (z1 : 0 ≤ A1) (z2 : 0 ≤ A2) (zD : 0 ≤ D) (r1 : 0 ≤ lo1 ∧ lo1 ≤ hi1 ∧ hi1 ≤ xln h A1) (r2 : 0 ≤ lo2 ∧ lo2 ≤ hi2 ∧ hi2 ≤ xln h A2) (rD : 0 ≤ k0 ∧ k0 + (hi1 - lo1) + (hi2 - lo2) ≤ xln h D) (rI : xln h D ≤ 1000000 ∧ xln h A1 ≤ 1000000 ∧ xln h A2 ≤ 1000000) (d1 : D ≠ A1) (d2 : D = A2 → k0 + (hi1 - lo1) = lo2) (s1 : SrtG (xpl h A1) lo1 hi1) (s2 : SrtG (xpl h A2) lo2 hi2)
    (hq : ∀ h', MgE h h' D A1 A2 k0 lo1 hi1 lo2 hi2 → Q xN h') : xwp G m_DualPivotQuicksort_mergeParts (d + 1) 0 [xR (-1), xR D, xI k0, xR A1, xI lo1, xI hi1, xR A2, xI lo2, xI hi2, xZ, xZ, xZ, xZ, xZ, xZ] [] h Q X := by
  have rd1 : ∀ h2 k l1 l2, MgI h h2 D A1 A2 k0 lo1 hi1 lo2 hi2 k l1 l2 → (xtg h2 A1 = 101 ∧ xln h2 A1 = xln h A1 ∧ ∀ i, xpl h2 A1 i = xpl h A1 i) ∧ (xtg h2 A2 = 101 ∧ xln h2 A2 = xln h A2 ∧ ∀ i, l2 ≤ i → xpl h2 A2 i = xpl h A2 i) ∧ xtg h2 D = 101 ∧ xln h2 D = xln h D := fun h2 k l1 l2 M => by
    obtain ⟨⟨a1, a2, a3, a4⟩, ⟨b1, b2, b3⟩, c, -⟩ := M
    refine ⟨⟨(a2.tg n1).trans t1, a2.ln n1, fun i => a2.pl n1 (fun y => d1 y.symm) i⟩, ⟨(a2.tg n2).trans t2, a2.ln n2, fun i hi => ?_⟩, (a2.tg nD).trans tD, a2.ln nD⟩
    by_cases y : D = A2
    · have := d2 y
      rw [← y]; exact c i (Or.inr (by omega))
    · exact a2.pl n2 (fun w => y w.symm) i
  -- the rest of the second
  have l271 : ∀ (n : Nat) (k l2 : Int) (h2 : XH), hi2 - l2 ≤ n → MgI h h2 D A1 A2 k0 lo1 hi1 lo2 hi2 k hi1 l2 → xwp G m_DualPivotQuicksort_mergeParts (d + 1) 271 [xZ, xR D, xI k, xZ, xZ, xZ, xR A2, xI l2, xI hi2, xZ, xZ, xZ, xZ, xZ, xZ] [] h2 Q X := by
    intro n
    have stop : ∀ (k l2 : Int) (h2 : XH), hi2 ≤ l2 → MgI h h2 D A1 A2 k0 lo1 hi1 lo2 hi2 k hi1 l2 → Q xN h2 := fun k l2 h2 e M => by
      obtain ⟨a, ⟨b1, b2, b3⟩, c, e2, f, g1, g2⟩ := M
      have ek : k = k0 + (hi1 - lo1) + (hi2 - lo2) := by omega
      rw [ek] at c e2 f
      refine hq h2 ⟨a, c, fun w => ?_, f⟩
      have := e2 w
      rw [cnR_nil, show l2 = hi2 by omega, cnR_nil] at this
      omega
    induction n with
    | zero =>
      intro k l2 h2 e M
      obtain ⟨⟨u1, u2, u3⟩, ⟨v1, v2, v3⟩, w1, w2⟩ := rd1 h2 k hi1 l2 M
      have hb := M.2.1
      refine v_DualPivotQuicksort_mergeParts_271 M.1.1 ?_
      refine ⟨fun q1 => ?_, fun q1 => ?_⟩
      · exact stop k l2 h2 (by omega) M
      · refine ⟨?_, ?_⟩
        · first | exact v1 | exact w1 | exact zD | exact ⟨by omega, by omega⟩ | omega
        · refine ⟨?_, ?_⟩
          · first | exact v1 | exact w1 | exact zD | exact ⟨by omega, by omega⟩ | omega
          · refine ⟨?_, ?_⟩
            · first | exact v1 | exact w1 | exact zD | exact ⟨by omega, by omega⟩ | omega
            · refine ⟨?_, ?_⟩
              · first | exact v1 | exact w1 | exact zD | exact ⟨by omega, by omega⟩ | omega
              · refine ⟨?_, ?_⟩
                · first | exact v1 | exact w1 | exact zD | exact ⟨by omega, by omega⟩ | omega
                · refine ⟨?_, ?_⟩
                  · first | exact v1 | exact w1 | exact zD | exact ⟨by omega, by omega⟩ | omega
                  · refine ⟨?_, ?_⟩
                    · first | exact v1 | exact w1 | exact zD | exact ⟨by omega, by omega⟩ | omega
                    · refine ⟨?_, ?_⟩
                      · first | exact v1 | exact w1 | exact zD | exact ⟨by omega, by omega⟩ | omega
                      · intro F9
                        omega
    | succ n ih =>
      intro k l2 h2 e M
      obtain ⟨⟨u1, u2, u3⟩, ⟨v1, v2, v3⟩, w1, w2⟩ := rd1 h2 k hi1 l2 M
      have hb := M.2.1
      refine v_DualPivotQuicksort_mergeParts_271 M.1.1 ?_
      refine ⟨fun q1 => ?_, fun q1 => ?_⟩
      · exact stop k l2 h2 (by omega) M
      · refine ⟨?_, ?_⟩
        · first | exact v1 | exact w1 | exact zD | exact ⟨by omega, by omega⟩ | omega
        · refine ⟨?_, ?_⟩
          · first | exact v1 | exact w1 | exact zD | exact ⟨by omega, by omega⟩ | omega
          · refine ⟨?_, ?_⟩
            · first | exact v1 | exact w1 | exact zD | exact ⟨by omega, by omega⟩ | omega
            · refine ⟨?_, ?_⟩
              · first | exact v1 | exact w1 | exact zD | exact ⟨by omega, by omega⟩ | omega
              · refine ⟨?_, ?_⟩
                · first | exact v1 | exact w1 | exact zD | exact ⟨by omega, by omega⟩ | omega
                · refine ⟨?_, ?_⟩
                  · first | exact v1 | exact w1 | exact zD | exact ⟨by omega, by omega⟩ | omega
                  · refine ⟨?_, ?_⟩
                    · first | exact v1 | exact w1 | exact zD | exact ⟨by omega, by omega⟩ | omega
                    · refine ⟨?_, ?_⟩
                      · first | exact v1 | exact w1 | exact zD | exact ⟨by omega, by omega⟩ | omega
                      · intro F9
                        exact ih (k + 1) (l2 + 1) _ (by omega) (M.two rD.1 s2 (by omega) (fun j j0 j1 => by omega) (v3 l2 (Int.le_refl _)) F9)
  have l259 : ∀ (k l2 : Int) (h2 : XH), MgI h h2 D A1 A2 k0 lo1 hi1 lo2 hi2 k hi1 l2 → xwp G m_DualPivotQuicksort_mergeParts (d + 1) 259 [xZ, xR D, xI k, xZ, xZ, xZ, xR A2, xI l2, xI hi2, xZ, xZ, xZ, xZ, xZ, xZ] [] h2 Q X := fun k l2 h2 M => by
    refine v_DualPivotQuicksort_mergeParts_259 M.1.1 ?_
    refine ⟨?_, ?_⟩
    · exact Or.inr ⟨Or.inl (by omega), Or.inl (by omega), Or.inl (by omega)⟩
    · refine ⟨fun q1 => ?_, fun q1 => ?_⟩
      · refine ⟨fun q2 => ?_, fun q2 => ?_⟩
        · obtain ⟨a, ⟨b1, b2, b3⟩, c, e2, f, g1, g2⟩ := M
          have e3 := d2 q1
          have ek : k = l2 := by omega
          have er : k0 + (hi1 - lo1) + (hi2 - lo2) = hi2 := by omega
          refine hq h2 ⟨a, fun i hi => c i (by omega), fun w => ?_, fun i j i0 ij jk => ?_⟩
          · rw [er]
            have s := cnR_split (xpl h2 D) w (lo := k0) (m := k) (hi := hi2) (by omega) (by omega)
            have q : cnR (xpl h2 D) w k hi2 = cnR (xpl h A2) w l2 hi2 := by
              rw [ek, ← q1]
              exact cnR_congr (fun i i0 _ => c i (Or.inr (by omega)))
            have := e2 w
            rw [cnR_nil] at this
            omega
          · rw [er] at jk
            by_cases y : j < k
            · exact f i j i0 ij y
            · have ej : xpl h2 D j = xpl h A2 j := by rw [← q1]; exact c j (Or.inr (by omega))
              rw [ej]
              by_cases x : i < k
              · exact g2 i j i0 x (by omega) jk
              · have ei : xpl h2 D i = xpl h A2 i := by rw [← q1]; exact c i (Or.inr (by omega))
                rw [ei]; exact s2 i j (by omega) ij jk
        · exact l271 (hi2 - l2).toNat k l2 h2 (by omega) M
      · exact l271 (hi2 - l2).toNat k l2 h2 (by omega) M
  have l236 : ∀ (n : Nat) (k l1 l2 : Int) (h2 : XH), hi1 - l1 ≤ n → (l1 = hi1 ∨ l2 = hi2) → MgI h h2 D A1 A2 k0 lo1 hi1 lo2 hi2 k l1 l2 → xwp G m_DualPivotQuicksort_mergeParts (d + 1) 236 [xZ, xR D, xI k, xR A1, xI l1, xI hi1, xR A2, xI l2, xI hi2, xZ, xZ, xZ, xZ, xZ, xZ] [] h2 Q X := by
    intro n
    induction n with
    | zero =>
      intro k l1 l2 h2 e o M
      obtain ⟨⟨u1, u2, u3⟩, ⟨v1, v2, v3⟩, w1, w2⟩ := rd1 h2 k l1 l2 M
      have hb := M.2.1
      refine v_DualPivotQuicksort_mergeParts_236 M.1.1 ?_
      refine ⟨fun q1 => ?_, fun q1 => ?_⟩
      · rw [show l1 = hi1 by omega] at M
        exact l259 k l2 h2 M
      · refine ⟨?_, ?_⟩
        · first | exact u1 | exact w1 | exact zD | exact ⟨by omega, by omega⟩ | omega
        · refine ⟨?_, ?_⟩
          · first | exact u1 | exact w1 | exact zD | exact ⟨by omega, by omega⟩ | omega
          · refine ⟨?_, ?_⟩
            · first | exact u1 | exact w1 | exact zD | exact ⟨by omega, by omega⟩ | omega
            · refine ⟨?_, ?_⟩
              · first | exact u1 | exact w1 | exact zD | exact ⟨by omega, by omega⟩ | omega
              · refine ⟨?_, ?_⟩
                · first | exact u1 | exact w1 | exact zD | exact ⟨by omega, by omega⟩ | omega
                · refine ⟨?_, ?_⟩
                  · first | exact u1 | exact w1 | exact zD | exact ⟨by omega, by omega⟩ | omega
                  · refine ⟨?_, ?_⟩
                    · first | exact u1 | exact w1 | exact zD | exact ⟨by omega, by omega⟩ | omega
                    · refine ⟨?_, ?_⟩
                      · first | exact u1 | exact w1 | exact zD | exact ⟨by omega, by omega⟩ | omega
                      · intro F9
                        omega
    | succ n ih =>
      intro k l1 l2 h2 e o M
      obtain ⟨⟨u1, u2, u3⟩, ⟨v1, v2, v3⟩, w1, w2⟩ := rd1 h2 k l1 l2 M
      have hb := M.2.1
      refine v_DualPivotQuicksort_mergeParts_236 M.1.1 ?_
      refine ⟨fun q1 => ?_, fun q1 => ?_⟩
      · rw [show l1 = hi1 by omega] at M
        exact l259 k l2 h2 M
      · refine ⟨?_, ?_⟩
        · first | exact u1 | exact w1 | exact zD | exact ⟨by omega, by omega⟩ | omega
        · refine ⟨?_, ?_⟩
          · first | exact u1 | exact w1 | exact zD | exact ⟨by omega, by omega⟩ | omega
          · refine ⟨?_, ?_⟩
            · first | exact u1 | exact w1 | exact zD | exact ⟨by omega, by omega⟩ | omega
            · refine ⟨?_, ?_⟩
              · first | exact u1 | exact w1 | exact zD | exact ⟨by omega, by omega⟩ | omega
              · refine ⟨?_, ?_⟩
                · first | exact u1 | exact w1 | exact zD | exact ⟨by omega, by omega⟩ | omega
                · refine ⟨?_, ?_⟩
                  · first | exact u1 | exact w1 | exact zD | exact ⟨by omega, by omega⟩ | omega
                  · refine ⟨?_, ?_⟩
                    · first | exact u1 | exact w1 | exact zD | exact ⟨by omega, by omega⟩ | omega
                    · refine ⟨?_, ?_⟩
                      · first | exact u1 | exact w1 | exact zD | exact ⟨by omega, by omega⟩ | omega
                      · intro F9
                        exact ih (k + 1) (l1 + 1) l2 _ (by omega) (by omega) (M.one rD.1 s1 (by omega) (fun j j0 j1 => by omega) (u3 l1) F9)
  have l225 : ∀ (k l1 l2 : Int) (h2 : XH), (l1 = hi1 ∨ l2 = hi2) → MgI h h2 D A1 A2 k0 lo1 hi1 lo2 hi2 k l1 l2 → xwp G m_DualPivotQuicksort_mergeParts (d + 1) 225 [xZ, xR D, xI k, xR A1, xI l1, xI hi1, xR A2, xI l2, xI hi2, xZ, xZ, xZ, xZ, xZ, xZ] [] h2 Q X := fun k l1 l2 h2 o M => by
    refine v_DualPivotQuicksort_mergeParts_225 M.1.1 ?_
    refine ⟨?_, ?_⟩
    · exact Or.inr ⟨Or.inl (by omega), Or.inl (by omega), Or.inl (by omega)⟩
    · refine ⟨fun q1 => ?_, fun q1 => ?_⟩
      · refine ⟨fun q2 => ?_, fun q2 => ?_⟩
        · exact absurd q1 d1
        · exact absurd q1 d1
      · exact l236 (hi1 - l1).toNat k l1 l2 h2 (by omega) o M
  have l171 : ∀ (n : Nat) (k l1 l2 : Int) (h2 : XH), (hi1 - l1) + (hi2 - l2) ≤ n → MgI h h2 D A1 A2 k0 lo1 hi1 lo2 hi2 k l1 l2 → xwp G m_DualPivotQuicksort_mergeParts (d + 1) 171 [xZ, xR D, xI k, xR A1, xI l1, xI hi1, xR A2, xI l2, xI hi2, xZ, xZ, xZ, xZ, xZ, xZ] [] h2 Q X := by
    intro n
    induction n with
    | zero =>
      intro k l1 l2 h2 e M
      obtain ⟨⟨u1, u2, u3⟩, ⟨v1, v2, v3⟩, w1, w2⟩ := rd1 h2 k l1 l2 M
      have hb := M.2.1
      refine v_DualPivotQuicksort_mergeParts_171 M.1.1 ?_
      refine ⟨fun q1 => ?_, fun q1 => ?_⟩
      · exact l225 k l1 l2 h2 (Or.inl (by omega)) M
      · refine ⟨fun q2 => ?_, fun q2 => ?_⟩
        · exact l225 k l1 l2 h2 (Or.inr (by omega)) M
        · refine ⟨?_, ?_⟩
          · first | exact u1 | exact v1 | exact w1 | exact zD | exact ⟨by omega, by omega⟩ | omega
          · refine ⟨?_, ?_⟩
            · first | exact u1 | exact v1 | exact w1 | exact zD | exact ⟨by omega, by omega⟩ | omega
            · refine ⟨?_, ?_⟩
              · first | exact u1 | exact v1 | exact w1 | exact zD | exact ⟨by omega, by omega⟩ | omega
              · refine ⟨?_, ?_⟩
                · first | exact u1 | exact v1 | exact w1 | exact zD | exact ⟨by omega, by omega⟩ | omega
                · refine ⟨?_, ?_⟩
                  · first | exact u1 | exact v1 | exact w1 | exact zD | exact ⟨by omega, by omega⟩ | omega
                  · refine ⟨?_, ?_⟩
                    · first | exact u1 | exact v1 | exact w1 | exact zD | exact ⟨by omega, by omega⟩ | omega
                    · refine ⟨?_, ?_⟩
                      · first | exact u1 | exact v1 | exact w1 | exact zD | exact ⟨by omega, by omega⟩ | omega
                      · refine ⟨fun q3 => ?_, fun q3 => ?_⟩
                        · refine ⟨?_, ?_⟩
                          · first | exact u1 | exact v1 | exact w1 | exact zD | exact ⟨by omega, by omega⟩ | omega
                          · refine ⟨?_, ?_⟩
                            · first | exact u1 | exact v1 | exact w1 | exact zD | exact ⟨by omega, by omega⟩ | omega
                            · refine ⟨?_, ?_⟩
                              · first | exact u1 | exact v1 | exact w1 | exact zD | exact ⟨by omega, by omega⟩ | omega
                              · refine ⟨?_, ?_⟩
                                · first | exact u1 | exact v1 | exact w1 | exact zD | exact ⟨by omega, by omega⟩ | omega
                                · intro F9
                                  omega
                        · refine ⟨?_, ?_⟩
                          · first | exact u1 | exact v1 | exact w1 | exact zD | exact ⟨by omega, by omega⟩ | omega
                          · refine ⟨?_, ?_⟩
                            · first | exact u1 | exact v1 | exact w1 | exact zD | exact ⟨by omega, by omega⟩ | omega
                            · refine ⟨?_, ?_⟩
                              · first | exact u1 | exact v1 | exact w1 | exact zD | exact ⟨by omega, by omega⟩ | omega
                              · refine ⟨?_, ?_⟩
                                · first | exact u1 | exact v1 | exact w1 | exact zD | exact ⟨by omega, by omega⟩ | omega
                                · intro F9
                                  omega
    | succ n ih =>
      intro k l1 l2 h2 e M
      obtain ⟨⟨u1, u2, u3⟩, ⟨v1, v2, v3⟩, w1, w2⟩ := rd1 h2 k l1 l2 M
      have hb := M.2.1
      have e2 := v3 l2 (Int.le_refl _)
      have e1 := u3 l1
      refine v_DualPivotQuicksort_mergeParts_171 M.1.1 ?_
      refine ⟨fun q1 => ?_, fun q1 => ?_⟩
      · exact l225 k l1 l2 h2 (Or.inl (by omega)) M
      · refine ⟨fun q2 => ?_, fun q2 => ?_⟩
        · exact l225 k l1 l2 h2 (Or.inr (by omega)) M
        · refine ⟨?_, ?_⟩
          · first | exact u1 | exact v1 | exact w1 | exact zD | exact ⟨by omega, by omega⟩ | omega
          · refine ⟨?_, ?_⟩
            · first | exact u1 | exact v1 | exact w1 | exact zD | exact ⟨by omega, by omega⟩ | omega
            · refine ⟨?_, ?_⟩
              · first | exact u1 | exact v1 | exact w1 | exact zD | exact ⟨by omega, by omega⟩ | omega
              · refine ⟨?_, ?_⟩
                · first | exact u1 | exact v1 | exact w1 | exact zD | exact ⟨by omega, by omega⟩ | omega
                · refine ⟨?_, ?_⟩
                  · first | exact u1 | exact v1 | exact w1 | exact zD | exact ⟨by omega, by omega⟩ | omega
                  · refine ⟨?_, ?_⟩
                    · first | exact u1 | exact v1 | exact w1 | exact zD | exact ⟨by omega, by omega⟩ | omega
                    · refine ⟨?_, ?_⟩
                      · first | exact u1 | exact v1 | exact w1 | exact zD | exact ⟨by omega, by omega⟩ | omega
                      · refine ⟨fun q3 => ?_, fun q3 => ?_⟩
                        · refine ⟨?_, ?_⟩
                          · first | exact u1 | exact v1 | exact w1 | exact zD | exact ⟨by omega, by omega⟩ | omega
                          · refine ⟨?_, ?_⟩
                            · first | exact u1 | exact v1 | exact w1 | exact zD | exact ⟨by omega, by omega⟩ | omega
                            · refine ⟨?_, ?_⟩
                              · first | exact u1 | exact v1 | exact w1 | exact zD | exact ⟨by omega, by omega⟩ | omega
                              · refine ⟨?_, ?_⟩
                                · first | exact u1 | exact v1 | exact w1 | exact zD | exact ⟨by omega, by omega⟩ | omega
                                · intro F9
                                  rw [e1, e2] at q3
                                  refine ih (k + 1) l1 (l2 + 1) _ (by omega) (M.two rD.1 s2 (by omega) (fun j j0 j1 => ?_) e2 F9)
                                  by_cases y : j = l1
                                  · rw [y]; exact q3
                                  · have := s1 l1 j (by omega) (by omega) j1
                                    omega
                        · refine ⟨?_, ?_⟩
                          · first | exact u1 | exact v1 | exact w1 | exact zD | exact ⟨by omega, by omega⟩ | omega
                          · refine ⟨?_, ?_⟩
                            · first | exact u1 | exact v1 | exact w1 | exact zD | exact ⟨by omega, by omega⟩ | omega
                            · refine ⟨?_, ?_⟩
                              · first | exact u1 | exact v1 | exact w1 | exact zD | exact ⟨by omega, by omega⟩ | omega
                              · refine ⟨?_, ?_⟩
                                · first | exact u1 | exact v1 | exact w1 | exact zD | exact ⟨by omega, by omega⟩ | omega
                                · intro F9
                                  rw [e1, e2] at q3
                                  refine ih (k + 1) (l1 + 1) l2 _ (by omega) (M.one rD.1 s1 (by omega) (fun j j0 j1 => ?_) e1 F9)
                                  by_cases y : j = l2
                                  · rw [y]; omega
                                  · have := s2 l2 j (by omega) (by omega) j1
                                    omega
  refine v_DualPivotQuicksort_mergeParts_0 F ?_
  exact l171 ((hi1 - lo1) + (hi2 - lo2)).toNat k0 lo1 lo2 h (by omega) ⟨⟨F, xsm.refl h, rfl, rfl⟩, ⟨by omega, ⟨by omega, by omega⟩, by omega, by omega⟩, fun _ _ => rfl, fun w => by rw [cnR_nil]; omega, fun i j i0 ij jk => by omega, fun i j i0 i1 => by omega, fun i j i0 i1 => by omega⟩

end
