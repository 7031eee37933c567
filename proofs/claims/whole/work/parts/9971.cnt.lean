/-! ===== cnt ===== -/
section
/-! how often a number stands in a stretch of a row; a stretch that is put in order -/
def cw (v w : Int) : Int := if v = w then 1 else 0
def cnF (g : Int → Int) (w : Int) : Nat → Int → Int
  | 0, _ => 0
  | n + 1, lo => cw (g lo) w + cnF g w n (lo + 1)
def cnR (g : Int → Int) (w lo hi : Int) : Int := cnF g w (hi - lo).toNat lo
theorem cw_rng (v w : Int) : 0 ≤ cw v w ∧ cw v w ≤ 1 := by unfold cw; split <;> omega
theorem cw_self (v : Int) : cw v v = 1 := if_pos rfl
theorem cnF_nn (g : Int → Int) (w : Int) : ∀ (n : Nat) (lo : Int), 0 ≤ cnF g w n lo
  | 0, _ => Int.le_refl _
  | n + 1, lo => by
    have a := cnF_nn g w n (lo + 1)
    have b := cw_rng (g lo) w
    show 0 ≤ cw (g lo) w + cnF g w n (lo + 1)
    omega
theorem cnF_congr {g g' : Int → Int} (w : Int) : ∀ (n : Nat) (lo : Int), (∀ i, lo ≤ i → i < lo + n → g' i = g i) → cnF g' w n lo = cnF g w n lo
  | 0, _, _ => rfl
  | n + 1, lo, h => by
    show cw (g' lo) w + cnF g' w n (lo + 1) = cw (g lo) w + cnF g w n (lo + 1)
    rw [h lo (Int.le_refl _) (by omega), cnF_congr w n (lo + 1) (fun i h0 h1 => h i (by omega) (by omega))]
theorem cnF_app (g : Int → Int) (w : Int) : ∀ (n m : Nat) (lo : Int), cnF g w (n + m) lo = cnF g w n lo + cnF g w m (lo + n)
  | 0, m, lo => by
    rw [Nat.zero_add, show lo + ((0 : Nat) : Int) = lo by omega]
    show _ = 0 + _
    omega
  | n + 1, m, lo => by
    rw [show n + 1 + m = (n + m) + 1 by omega]
    show cw (g lo) w + cnF g w (n + m) (lo + 1) = cw (g lo) w + cnF g w n (lo + 1) + _
    rw [cnF_app g w n m (lo + 1), show lo + 1 + (n : Int) = lo + ((n + 1 : Nat) : Int) by omega]
    omega
theorem cnF_mem {g : Int → Int} {w : Int} : ∀ (n : Nat) (lo : Int), 1 ≤ cnF g w n lo → ∃ i, lo ≤ i ∧ i < lo + n ∧ g i = w
  | 0, lo, h => by
    have h : (1 : Int) ≤ 0 := h
    omega
  | n + 1, lo, h => by
    have h : 1 ≤ cw (g lo) w + cnF g w n (lo + 1) := h
    by_cases z : g lo = w
    · exact ⟨lo, Int.le_refl _, by omega, z⟩
    · have e : cw (g lo) w = 0 := if_neg z
      obtain ⟨i, i0, i1, i2⟩ := cnF_mem (g := g) (w := w) n (lo + 1) (by omega)
      exact ⟨i, by omega, by omega, i2⟩
theorem cnR_split (g : Int → Int) (w : Int) {lo m hi : Int} (h0 : lo ≤ m) (h1 : m ≤ hi) : cnR g w lo hi = cnR g w lo m + cnR g w m hi := by
  unfold cnR
  rw [show (hi - lo).toNat = (m - lo).toNat + (hi - m).toNat by omega, cnF_app, show lo + (((m - lo).toNat : Nat) : Int) = m by omega]
theorem cnR_one (g : Int → Int) (w lo : Int) : cnR g w lo (lo + 1) = cw (g lo) w := by
  unfold cnR
  rw [show (lo + 1 - lo).toNat = 1 by omega]
  show cw (g lo) w + 0 = _
  omega
theorem cnR_congr {g g' : Int → Int} {w lo hi : Int} (h : ∀ i, lo ≤ i → i < hi → g' i = g i) : cnR g' w lo hi = cnR g w lo hi := by
  unfold cnR
  exact cnF_congr w _ _ (fun i h0 h1 => h i h0 (by omega))
theorem cnR_nn (g : Int → Int) (w lo hi : Int) : 0 ≤ cnR g w lo hi := cnF_nn g w _ _
theorem cnR_mem {g : Int → Int} {w lo hi : Int} (h : 1 ≤ cnR g w lo hi) : ∃ i, lo ≤ i ∧ i < hi ∧ g i = w := by
  obtain ⟨i, i0, i1, i2⟩ := cnF_mem _ _ h
  exact ⟨i, i0, by omega, i2⟩
theorem cnR_has (g : Int → Int) {i lo hi : Int} (h0 : lo ≤ i) (h1 : i < hi) : 1 ≤ cnR g (g i) lo hi := by
  have a := cnR_split g (g i) (lo := lo) (m := i) (hi := hi) h0 (by omega)
  have b := cnR_split g (g i) (lo := i) (m := i + 1) (hi := hi) (by omega) (by omega)
  have c := cnR_one g (g i) i
  have d := cw_self (g i)
  have e := cnR_nn g (g i) lo i
  have f := cnR_nn g (g i) (i + 1) hi
  omega
/-- one place is set -/
theorem cnR_st {h : XH} {A p v w lo hi : Int} (h0 : lo ≤ p) (h1 : p < hi) : cnR (xpl (xst h A p v) A) w lo hi = cnR (xpl h A) w lo hi - cw (xpl h A p) w + cw v w := by
  have hit : xpl (xst h A p v) A p = v := xpl_hit _ _ _ _
  have a := cnR_split (xpl (xst h A p v) A) w (lo := lo) (m := p) (hi := hi) h0 (by omega)
  have b := cnR_split (xpl (xst h A p v) A) w (lo := p) (m := p + 1) (hi := hi) (by omega) (by omega)
  have c := cnR_one (xpl (xst h A p v) A) w p
  have a' := cnR_split (xpl h A) w (lo := lo) (m := p) (hi := hi) h0 (by omega)
  have b' := cnR_split (xpl h A) w (lo := p) (m := p + 1) (hi := hi) (by omega) (by omega)
  have c' := cnR_one (xpl h A) w p
  have e1 : cnR (xpl (xst h A p v) A) w lo p = cnR (xpl h A) w lo p := cnR_congr (fun i _ i1 => xpl_ok (by omega))
  have e2 : cnR (xpl (xst h A p v) A) w (p + 1) hi = cnR (xpl h A) w (p + 1) hi := cnR_congr (fun i i0 _ => xpl_ok (by omega))
  rw [hit] at c
  omega
/-- the same numbers, in some order, between two places; what lies outside stays -/
def SP (h0 h : XH) (lo hi : Int) : Prop := (xFix h ∧ xsm (fun c => c = 64) h0 h ∧ xnx h = xnx h0 ∧ xsl h = xsl h0) ∧ (∀ w, cnR (xpl h 64) w lo hi = cnR (xpl h0 64) w lo hi) ∧ ∀ i, (i < lo ∨ hi ≤ i) → xpl h 64 i = xpl h0 64 i
def Srt (h : XH) (lo hi : Int) : Prop := ∀ i j, lo ≤ i → i < j → j < hi → xpl h 64 i ≤ xpl h 64 j
theorem SP.refl {h : XH} (F : xFix h) (lo hi : Int) : SP h h lo hi := ⟨⟨F, xsm.refl h, rfl, rfl⟩, fun _ => rfl, fun _ _ => rfl⟩
theorem SP.trans {h0 h1 h2 : XH} {lo hi : Int} (a : SP h0 h1 lo hi) (b : SP h1 h2 lo hi) : SP h0 h2 lo hi := ⟨⟨b.1.1, a.1.2.1.trans b.1.2.1, b.1.2.2.1.trans a.1.2.2.1, b.1.2.2.2.trans a.1.2.2.2⟩, fun w => (b.2.1 w).trans (a.2.1 w), fun i hi => (b.2.2 i hi).trans (a.2.2 i hi)⟩
theorem SP.mem {h0 h : XH} {lo hi i : Int} (S : SP h0 h lo hi) (i0 : lo ≤ i) (i1 : i < hi) : ∃ j, lo ≤ j ∧ j < hi ∧ xpl h 64 i = xpl h0 64 j := by
  have a := cnR_has (xpl h 64) i0 i1
  rw [S.2.1] at a
  obtain ⟨j, j0, j1, j2⟩ := cnR_mem a
  exact ⟨j, j0, j1, j2.symm⟩
/-- of a stretch to a wider one -/
theorem SP.wide {h0 h : XH} {lo hi lo' hi' : Int} (S : SP h0 h lo hi) (a0 : lo' ≤ lo) (a1 : lo ≤ hi) (a2 : hi ≤ hi') : SP h0 h lo' hi' := by
  refine ⟨S.1, fun w => ?_, fun i hi => S.2.2 i (by omega)⟩
  rw [cnR_split (xpl h 64) w (lo := lo') (m := lo) (hi := hi') a0 (by omega), cnR_split (xpl h 64) w (lo := lo) (m := hi) (hi := hi') a1 a2, cnR_split (xpl h0 64) w (lo := lo') (m := lo) (hi := hi') a0 (by omega), cnR_split (xpl h0 64) w (lo := lo) (m := hi) (hi := hi') a1 a2, S.2.1 w, cnR_congr (fun i _ i1 => S.2.2 i (Or.inl i1)), cnR_congr (fun i i0 _ => S.2.2 i (Or.inr i0))]
theorem SP.le {h0 h : XH} {lo hi v : Int} (S : SP h0 h lo hi) (hv : ∀ i, lo ≤ i → i < hi → v ≤ xpl h0 64 i) : ∀ i, lo ≤ i → i < hi → v ≤ xpl h 64 i := fun i i0 i1 => by
  obtain ⟨j, j0, j1, j2⟩ := S.mem i0 i1
  rw [j2]; exact hv j j0 j1
theorem SP.ge {h0 h : XH} {lo hi v : Int} (S : SP h0 h lo hi) (hv : ∀ i, lo ≤ i → i < hi → xpl h0 64 i ≤ v) : ∀ i, lo ≤ i → i < hi → xpl h 64 i ≤ v := fun i i0 i1 => by
  obtain ⟨j, j0, j1, j2⟩ := S.mem i0 i1
  rw [j2]; exact hv j j0 j1
/-- two places are exchanged -/
theorem SP.swap {h0 h : XH} {lo hi p q a b : Int} (S : SP h0 h lo hi) (p0 : lo ≤ p) (p1 : p < hi) (q0 : lo ≤ q) (q1 : q < hi) (l0 : 0 ≤ lo) (ha : a = xpl h 64 q) (hb : b = xpl h 64 p) (F : xFix (xst (xst h 64 p a) 64 q b)) : SP h0 (xst (xst h 64 p a) 64 q b) lo hi := by
  refine ⟨⟨F, (S.1.2.1.st (by omega) (Or.inl rfl)).st (by omega) (Or.inl rfl), S.1.2.2.1, S.1.2.2.2⟩, fun w => ?_, fun i hi => ?_⟩
  · rw [cnR_st q0 q1, cnR_st p0 p1, S.2.1 w, ha, hb]
    by_cases z : p = q
    · rw [z, xpl_hit]; omega
    · rw [xpl_ok (fun y => z y.symm)]; omega
  · rw [xpl_ok (by omega), xpl_ok (by omega)]; exact S.2.2 i hi
/-- a stretch with a hole at p, where v belongs; it is in order up to k -/
def Hol (h0 h : XH) (lo hi k p v : Int) : Prop := (xFix h ∧ xsm (fun c => c = 64) h0 h ∧ xnx h = xnx h0 ∧ xsl h = xsl h0) ∧ (∀ w, cnR (xpl h 64) w lo hi + cw v w - cw (xpl h 64 p) w = cnR (xpl h0 64) w lo hi) ∧ (∀ i, (i < lo ∨ hi ≤ i) → xpl h 64 i = xpl h0 64 i) ∧ (∀ i j, lo ≤ i → i < j → j ≤ k → i ≠ p → j ≠ p → xpl h 64 i ≤ xpl h 64 j) ∧ (∀ j, p < j → j ≤ k → v ≤ xpl h 64 j) ∧ lo ≤ p ∧ p ≤ k ∧ k < hi ∧ 0 ≤ lo
theorem Hol.opn {h0 h : XH} {lo hi k : Int} (S : SP h0 h lo hi) (T : Srt h lo k) (h1 : lo ≤ k) (h2 : k < hi) (l0 : 0 ≤ lo) : Hol h0 h lo hi k k (xpl h 64 k) :=
  ⟨S.1, fun w => by rw [S.2.1 w]; omega, S.2.2, fun i j i0 ij jk _ hj => T i j i0 ij (by omega), fun j j0 j1 => by omega, h1, Int.le_refl _, h2, l0⟩
theorem Hol.move {h0 h : XH} {lo hi k p v : Int} (H : Hol h0 h lo hi k p v) (h1 : lo ≤ p - 1) (h2 : v ≤ xpl h 64 (p - 1)) (F : xFix (xst h 64 p (xpl h 64 (p - 1)))) : Hol h0 (xst h 64 p (xpl h 64 (p - 1))) lo hi k (p - 1) v := by
  obtain ⟨⟨a1, a2, a3, a4⟩, b, c, d, e, f1, f2, f3, f4⟩ := H
  refine ⟨⟨F, a2.st (by omega) (Or.inl rfl), a3, a4⟩, fun w => ?_, fun i hi => by rw [xpl_ok (by omega)]; exact c i hi, fun i j i0 ij jk hi hj => ?_, fun j j0 j1 => ?_, h1, by omega, f3, f4⟩
  · rw [cnR_st f1 (by omega), xpl_ok (by omega)]
    have := b w
    omega
  · by_cases z : i = p
    · rw [z, xpl_hit, xpl_ok (by omega)]; exact d (p - 1) j h1 (by omega) jk (by omega) (by omega)
    · rw [xpl_ok z]
      by_cases y : j = p
      · rw [y, xpl_hit]; exact d i (p - 1) i0 (by omega) (by omega) z (by omega)
      · rw [xpl_ok y]; exact d i j i0 ij jk z y
  · by_cases z : j = p
    · rw [z, xpl_hit]; exact h2
    · rw [xpl_ok z]; exact e j (by omega) j1
theorem Hol.fill {h0 h : XH} {lo hi k p v : Int} (H : Hol h0 h lo hi k p v) (h1 : p = lo ∨ xpl h 64 (p - 1) ≤ v) (F : xFix (xst h 64 p v)) : SP h0 (xst h 64 p v) lo hi ∧ Srt (xst h 64 p v) lo (k + 1) := by
  obtain ⟨⟨a1, a2, a3, a4⟩, b, c, d, e, f1, f2, f3, f4⟩ := H
  refine ⟨⟨⟨F, a2.st (by omega) (Or.inl rfl), a3, a4⟩, fun w => ?_, fun i hi => by rw [xpl_ok (by omega)]; exact c i hi⟩, fun i j i0 ij jk => ?_⟩
  · rw [cnR_st f1 (by omega)]
    have := b w
    omega
  · by_cases z : i = p
    · rw [z, xpl_hit, xpl_ok (by omega)]; exact e j (by omega) (by omega)
    · rw [xpl_ok z]
      by_cases y : j = p
      · rw [y, xpl_hit]
        rcases h1 with w | w
        · omega
        · by_cases x : i = p - 1
          · rw [x]; exact w
          · have := d i (p - 1) i0 (by omega) (by omega) z (by omega)
            omega
      · rw [xpl_ok y]; exact d i j i0 ij (by omega) z y
theorem s_insertionSort {G : XG} {d : Nat} {h : XH} {Q : XV → XH → Prop} {X : Nat → XH → Prop} {lo hi : Int} (F : xFix h) (h0 : 0 ≤ lo) (h1 : lo ≤ hi) (h2 : hi ≤ 12000) (hq : ∀ h', SP h h' lo hi → Srt h' lo hi → Q xN h') : xwp G m_DualPivotQuicksort_insertionSort (d + 1) 0 [xR 64, xI lo, xI hi, xZ, xZ, xZ, xZ] [] h Q X := by
  have loop : ∀ (n : Nat) (k : Int) (h2' : XH), hi - k ≤ n → lo ≤ k → k ≤ hi → SP h h2' lo hi → Srt h2' lo (k + 1) → xwp G m_DualPivotQuicksort_insertionSort (d + 1) 3 [xR 64, xI lo, xI hi, xZ, xI k, xZ, xZ] [] h2' Q X := by
    intro n
    induction n with
    | zero =>
      intro k h3 e k0 k9 S T
      refine v_DualPivotQuicksort_insertionSort_3 S.1.1 ?_
      refine ⟨?_, ?_⟩
      · first | exact ⟨by omega, by omega⟩ | omega
      · refine ⟨fun q1 => ?_, fun q1 => ?_⟩
        · exact hq h3 S (fun i j i0 ij jk => T i j i0 ij (by omega))
        · refine ⟨?_, ?_⟩
          · first | exact ⟨by omega, by omega⟩ | omega
          · refine ⟨?_, ?_⟩
            · first | exact ⟨by omega, by omega⟩ | omega
            · refine ⟨?_, ?_⟩
              · first | exact ⟨by omega, by omega⟩ | omega
              · refine ⟨fun q2 => ?_, fun q2 => ?_⟩
                · omega
                · omega
    | succ n ih =>
      intro k h3 e k0 k9 S T
      have hole : ∀ (m : Nat) (p v : Int) (h4 : XH), p - lo ≤ m → Hol h h4 lo hi (k + 1) p v → xwp G m_DualPivotQuicksort_insertionSort (d + 1) 31 [xR 64, xI lo, xI hi, xI p, xI (k + 1), xL v, xZ] [] h4 Q X := by
        intro m
        have fin : ∀ (p v : Int) (h4 : XH), Hol h h4 lo hi (k + 1) p v → (p = lo ∨ xpl h4 64 (p - 1) ≤ v) → xwp G m_DualPivotQuicksort_insertionSort (d + 1) 59 [xR 64, xI lo, xI hi, xI (p + -1), xI (k + 1), xL v, xZ] [] h4 Q X := fun p v h4 H hp => by
          have hb := H.2.2.2.2.2
          refine v_DualPivotQuicksort_insertionSort_59 H.1.1 ?_
          refine ⟨?_, ?_⟩
          · first | exact ⟨by omega, by omega⟩ | omega
          · refine ⟨?_, ?_⟩
            · first | exact ⟨by omega, by omega⟩ | omega
            · refine ⟨?_, ?_⟩
              · first | exact ⟨by omega, by omega⟩ | omega
              · intro F9
                rw [show p + -1 + 1 = p by omega] at F9 ⊢
                obtain ⟨r1, r2⟩ := H.fill hp F9
                exact ih (k + 1) _ (by omega) (by omega) (by omega) r1 r2
        induction m with
        | zero =>
          intro p v h4 e4 H
          have hb := H.2.2.2.2.2
          refine v_DualPivotQuicksort_insertionSort_31 H.1.1 ?_
          refine ⟨?_, ?_⟩
          · first | exact ⟨by omega, by omega⟩ | omega
          · refine ⟨fun q1 => ?_, fun q1 => ?_⟩
            · exact fin p v h4 H (Or.inl (by omega))
            · refine ⟨?_, ?_⟩
              · first | exact ⟨by omega, by omega⟩ | omega
              · refine ⟨?_, ?_⟩
                · first | exact ⟨by omega, by omega⟩ | omega
                · refine ⟨fun q2 => ?_, fun q2 => ?_⟩
                  · omega
                  · refine ⟨?_, ?_⟩
                    · first | exact ⟨by omega, by omega⟩ | omega
                    · intro F9
                      omega
        | succ m ihm =>
          intro p v h4 e4 H
          have hb := H.2.2.2.2.2
          refine v_DualPivotQuicksort_insertionSort_31 H.1.1 ?_
          refine ⟨?_, ?_⟩
          · first | exact ⟨by omega, by omega⟩ | omega
          · refine ⟨fun q1 => ?_, fun q1 => ?_⟩
            · exact fin p v h4 H (Or.inl (by omega))
            · refine ⟨?_, ?_⟩
              · first | exact ⟨by omega, by omega⟩ | omega
              · refine ⟨?_, ?_⟩
                · first | exact ⟨by omega, by omega⟩ | omega
                · refine ⟨fun q2 => ?_, fun q2 => ?_⟩
                  · exact fin p v h4 H (Or.inr (by rw [show p - 1 = p + -1 by omega]; exact q2))
                  · refine ⟨?_, ?_⟩
                    · first | exact ⟨by omega, by omega⟩ | omega
                    · intro F9
                      rw [show p + -1 + 1 = p by omega, show p + -1 = p - 1 by omega] at F9 ⊢
                      rw [show p + -1 = p - 1 by omega] at q2
                      exact ihm (p - 1) v _ (by omega) (H.move (by omega) (by omega) F9)
      refine v_DualPivotQuicksort_insertionSort_3 S.1.1 ?_
      refine ⟨?_, ?_⟩
      · first | exact ⟨by omega, by omega⟩ | omega
      · refine ⟨fun q1 => ?_, fun q1 => ?_⟩
        · exact hq h3 S (fun i j i0 ij jk => T i j i0 ij (by omega))
        · refine ⟨?_, ?_⟩
          · first | exact ⟨by omega, by omega⟩ | omega
          · refine ⟨?_, ?_⟩
            · first | exact ⟨by omega, by omega⟩ | omega
            · refine ⟨?_, ?_⟩
              · first | exact ⟨by omega, by omega⟩ | omega
              · refine ⟨fun q2 => ?_, fun q2 => ?_⟩
                · refine ih (k + 1) h3 (by omega) (by omega) (by omega) S (fun i j i0 ij jk => ?_)
                  rw [show k + 1 - 1 = k by omega] at q2
                  by_cases z : j = k + 1
                  · rw [z]
                    by_cases y : i = k
                    · rw [y]; exact q2
                    · have := T i k i0 (by omega) (by omega)
                      omega
                  · exact T i j i0 ij (by omega)
                · exact hole (k + 1 - lo).toNat (k + 1) (xpl h3 64 (k + 1)) h3 (by omega) (Hol.opn S (fun i j i0 ij jk => T i j i0 ij jk) (by omega) (by omega) h0)
  refine v_DualPivotQuicksort_insertionSort_0 F ?_
  exact loop (hi - lo).toNat lo h (by omega) (Int.le_refl _) h1 (SP.refl F lo hi) (fun i j i0 ij jk => by omega)

end
