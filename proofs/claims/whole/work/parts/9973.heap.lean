/-! ===== heap ===== -/
section
/-! heap sort of a stretch -/
theorem xushr_1 {v : Int} (h0 : 0 ≤ v) (h1 : v ≤ 2147483647) : xushr v 1 = v / 2 := by
  unfold xushr
  obtain ⟨n, rfl⟩ : ∃ n : Nat, v = n := ⟨v.toNat, by omega⟩
  have e : Int32.ofInt (n : Int) = nI n := Int32.ofInt_eq_ofNat
  rw [e, pk_ushrN (n := n) (by omega) (Int32.ofInt 1) 1 (by decide), nI_toInt (by omega)]
  omega
theorem xshl_1 {v : Int} (h0 : 0 ≤ v) (h1 : v ≤ 1000000) : xshl v 1 = 2 * v := by
  unfold xshl
  obtain ⟨n, rfl⟩ : ∃ n : Nat, v = n := ⟨v.toNat, by omega⟩
  have e : Int32.ofInt (n : Int) = nI n := Int32.ofInt_eq_ofNat
  rw [e, pk_shlN (n := n) (Int32.ofInt 1 &&& 31) 1 (by decide) (by omega), nI_toInt (by omega)]
  omega
/-- c is one of the two below p -/
def Chd (lo p c : Int) : Prop := c = 2 * p - lo + 1 ∨ c = 2 * p - lo + 2
def Hea (g : Int → Int) (lo s hi : Int) : Prop := ∀ p c, s ≤ p → Chd lo p c → c < hi → g c ≤ g p
/-- what pushing down changes: one number goes, another one comes -/
def PD (h0 h : XH) (lo s hi o v : Int) : Prop := (xFix h ∧ xsm (fun c => c = 64) h0 h ∧ xnx h = xnx h0 ∧ xsl h = xsl h0) ∧ (∀ w, cnR (xpl h 64) w lo hi = cnR (xpl h0 64) w lo hi - cw o w + cw v w) ∧ (∀ i, (i < s ∨ hi ≤ i) → xpl h 64 i = xpl h0 64 i)
theorem s_pushDown {G : XG} {d : Nat} {Q : XV → XH → Prop} {X : Nat → XH → Prop} {lo s hi o v : Int} {h0 : XH} (l0 : 0 ≤ lo) (ls : lo ≤ s) (lh : hi ≤ 12000)
    (hq : ∀ h', PD h0 h' lo s hi o v → Hea (xpl h' 64) lo s hi → Q xN h') : ∀ (n : Nat) (p : Int) (h2 : XH), hi - p ≤ n → s ≤ p → p < hi → ((xFix h2 ∧ xsm (fun c => c = 64) h0 h2 ∧ xnx h2 = xnx h0 ∧ xsl h2 = xsl h0) ∧ (∀ w, cnR (xpl h2 64) w lo hi - cw (xpl h2 64 p) w = cnR (xpl h0 64) w lo hi - cw o w) ∧ ∀ i, (i < s ∨ hi ≤ i) → xpl h2 64 i = xpl h0 64 i) →
    (∀ q c, s ≤ q → Chd lo q c → c < hi → q ≠ p → c ≠ p → xpl h2 64 c ≤ xpl h2 64 q) → (∀ r, s ≤ r → Chd lo r p → v ≤ xpl h2 64 r ∧ ∀ c, Chd lo p c → c < hi → xpl h2 64 c ≤ xpl h2 64 r) → xwp G m_DualPivotQuicksort_pushDown (d + 1) 0 [xR 64, xI p, xL v, xZ, xI lo, xI hi, xZ] [] h2 Q X := by
  intro n
  induction n with
  | zero => intro p h2 e p0 p1; omega
  | succ n ih =>
    intro p h2 e p0 p1 A B C
    have sh := xshl_1 (v := p) (by omega) (by omega)
    -- the number comes to its place
    have fin : (∀ c, Chd lo p c → c < hi → xpl h2 64 c ≤ v) → xFix (xst h2 64 p v) → Q xN (xst h2 64 p v) := fun hc F9 => by
      obtain ⟨⟨a1, a2, a3, a4⟩, a5, a6⟩ := A
      refine hq _ ⟨⟨F9, a2.st (by omega) (Or.inl rfl), a3, a4⟩, fun w => ?_, fun i hi => by rw [xpl_ok (by omega)]; exact a6 i hi⟩ (fun q c q0 qc ch => ?_)
      · rw [cnR_st (by omega) p1]
        have := a5 w
        omega
      · by_cases z : q = p
        · rw [z, xpl_hit, xpl_ok (by rw [z] at qc; unfold Chd at qc; omega)]
          exact hc c (by rw [← z]; exact qc) ch
        · rw [xpl_ok z]
          by_cases y : c = p
          · rw [y, xpl_hit]; exact (C q q0 (by rw [← y]; exact qc)).1
          · rw [xpl_ok y]; exact B q c q0 qc ch z y
    -- one step down, to the greater one below
    have at44 : ∀ k, Chd lo p k → k < hi → (∀ c, Chd lo p c → c < hi → xpl h2 64 c ≤ xpl h2 64 k) → xwp G m_DualPivotQuicksort_pushDown (d + 1) 44 [xR 64, xI p, xL v, xZ, xI lo, xI hi, xI k] [] h2 Q X := fun k kc kh km => by
      have kp : p < k := by unfold Chd at kc; omega
      refine v_DualPivotQuicksort_pushDown_44 A.1.1 ?_
      refine ⟨?_, ?_⟩
      · omega
      · refine ⟨?_, ?_⟩
        · omega
        · refine ⟨fun q1 => ?_, fun q1 => ?_⟩
          · refine ⟨?_, ?_⟩
            · omega
            · refine ⟨?_, ?_⟩
              · omega
              · intro F9
                obtain ⟨⟨a1, a2, a3, a4⟩, a5, a6⟩ := A
                refine ih k _ (by omega) (by omega) kh ⟨⟨F9, a2.st (by omega) (Or.inl rfl), a3, a4⟩, fun w => ?_, fun i hi => by rw [xpl_ok (by omega)]; exact a6 i hi⟩ (fun q c q0 qc ch qk ck => ?_) (fun r r0 rc => ?_)
                · rw [cnR_st (by omega) p1, xpl_ok (by omega)]
                  have := a5 w
                  omega
                · by_cases z : q = p
                  · rw [z] at qc ⊢
                    rw [xpl_hit, xpl_ok (by unfold Chd at qc; omega)]
                    exact km c qc ch
                  · rw [xpl_ok z]
                    by_cases y : c = p
                    · rw [y] at qc ⊢
                      rw [xpl_hit]; exact (C q q0 qc).2 k kc kh
                    · rw [xpl_ok y]; exact B q c q0 qc ch z y
                · have rp : r = p := by unfold Chd at rc kc; omega
                  rw [rp, xpl_hit]
                  refine ⟨by omega, fun c cc ch => ?_⟩
                  have ck : k < c := by unfold Chd at cc; omega
                  rw [xpl_ok (by omega)]
                  exact B k c (by omega) cc ch (by omega) (by omega)
          · refine ⟨?_, ?_⟩
            · omega
            · refine ⟨?_, ?_⟩
              · omega
              · intro F9
                exact fin (fun c cc ch => by have := km c cc ch; omega) F9
    refine v_DualPivotQuicksort_pushDown_0 A.1.1 ?_
    refine ⟨?_, ?_⟩
    · first | (rw [sh]; exact ⟨by omega, by omega⟩) | (rw [sh]; omega) | omega
    · refine ⟨?_, ?_⟩
      · first | (rw [sh]; exact ⟨by omega, by omega⟩) | (rw [sh]; omega) | omega
      · refine ⟨fun q1 => ?_, fun q1 => ?_⟩
        · refine ⟨fun q2 => ?_, fun q2 => ?_⟩
          · rw [sh] at q2 ⊢
            refine v_DualPivotQuicksort_pushDown_41 A.1.1 ?_
            refine ⟨?_, ?_⟩
            · exact ⟨by omega, by omega⟩
            · exact at44 (2 * p - lo + 2 + -1) (Or.inl (by omega)) (by omega) (fun c cc ch => by
                unfold Chd at cc
                rw [show c = 2 * p - lo + 2 + -1 by omega]; exact Int.le_refl _)
          · refine ⟨?_, ?_⟩
            · first | (rw [sh]; exact ⟨by omega, by omega⟩) | (rw [sh]; omega) | omega
            · refine ⟨?_, ?_⟩
              · first | (rw [sh]; exact ⟨by omega, by omega⟩) | (rw [sh]; omega) | omega
              · refine ⟨?_, ?_⟩
                · first | (rw [sh]; exact ⟨by omega, by omega⟩) | (rw [sh]; omega) | omega
                · refine ⟨fun q3 => ?_, fun q3 => ?_⟩
                  · rw [sh] at q1 q2 q3 ⊢
                    refine at44 (2 * p - lo + 2) (Or.inr rfl) (by omega) (fun c cc ch => ?_)
                    rcases cc with y | y
                    · rw [y, show 2 * p - lo + 1 = 2 * p - lo + 2 - 1 by omega]; exact q3
                    · rw [y]; exact Int.le_refl _
                  · rw [sh] at q1 q2 q3 ⊢
                    refine v_DualPivotQuicksort_pushDown_41 A.1.1 ?_
                    refine ⟨?_, ?_⟩
                    · exact ⟨by omega, by omega⟩
                    · refine at44 (2 * p - lo + 2 + -1) (Or.inl (by omega)) (by omega) (fun c cc ch => ?_)
                      rcases cc with y | y
                      · rw [show c = 2 * p - lo + 2 + -1 by omega]; exact Int.le_refl _
                      · rw [y, show 2 * p - lo + 2 + -1 = 2 * p - lo + 2 - 1 by omega]; omega
        · refine ⟨?_, ?_⟩
          · first | (rw [sh]; exact ⟨by omega, by omega⟩) | (rw [sh]; omega) | omega
          · refine ⟨?_, ?_⟩
            · first | (rw [sh]; exact ⟨by omega, by omega⟩) | (rw [sh]; omega) | omega
            · intro F9
              rw [sh] at q1
              exact fin (fun c cc ch => by unfold Chd at cc; omega) F9
theorem Hea.top {g : Int → Int} {lo hi : Int} (H : Hea g lo lo hi) : ∀ (n : Nat) (i : Int), i - lo ≤ n → lo ≤ i → i < hi → g i ≤ g lo := by
  intro n
  induction n with
  | zero => intro i e i0 i1; rw [show i = lo by omega]; exact Int.le_refl _
  | succ n ih =>
    intro i e i0 i1
    by_cases z : i = lo
    · rw [z]; exact Int.le_refl _
    · have a := ih (lo + (i - lo - 1) / 2) (by omega) (by omega) (by omega)
      have b := H (lo + (i - lo - 1) / 2) i (by omega) (by unfold Chd; omega) i1
      omega
theorem s_heapSort {G : XG} {d : Nat} {h : XH} {Q : XV → XH → Prop} {X : Nat → XH → Prop} {lo hi : Int} (F : xFix h) (l0 : 0 ≤ lo) (lh0 : lo ≤ hi) (lh : hi ≤ 12000) (hq : ∀ h', SP h h' lo hi → Srt h' lo hi → Q xN h') : xwp G m_DualPivotQuicksort_heapSort (d + 2) 0 [xR 64, xI lo, xI hi, xZ, xZ] [] h Q X := by
  have down : ∀ (n : Nat) (H : Int) (h2 : XH), H - lo ≤ n → lo ≤ H → H ≤ hi → SP h h2 lo hi → Hea (xpl h2 64) lo lo H → Srt h2 H hi → (∀ i j, lo ≤ i → i < H → H ≤ j → j < hi → xpl h2 64 i ≤ xpl h2 64 j) → xwp G m_DualPivotQuicksort_heapSort (d + 2) 27 [xR 64, xI lo, xI H, xZ, xZ] [] h2 Q X := by
    intro n
    have stop : ∀ (H : Int) (h2 : XH), H - 1 ≤ lo → lo ≤ H → SP h h2 lo hi → Srt h2 H hi → (∀ i j, lo ≤ i → i < H → H ≤ j → j < hi → xpl h2 64 i ≤ xpl h2 64 j) → Q xN h2 := fun H h2 e H0 S T C => hq h2 S (fun i j i0 ij jk => by
      by_cases z : i < H
      · exact C i j i0 z (by omega) jk
      · exact T i j (by omega) ij jk)
    induction n with
    | zero =>
      intro H h2 e H0 H1 S A T C
      refine v_DualPivotQuicksort_heapSort_27 S.1.1 ?_
      refine ⟨?_, ?_⟩
      · first | exact ⟨by omega, by omega⟩ | omega
      · refine ⟨fun q1 => ?_, fun q1 => ?_⟩
        · exact stop H h2 (by omega) H0 S T C
        · refine ⟨?_, ?_⟩
          · first | exact ⟨by omega, by omega⟩ | omega
          · refine ⟨?_, ?_⟩
            · first | exact ⟨by omega, by omega⟩ | omega
            · refine ⟨?_, ?_⟩
              · first | exact ⟨by omega, by omega⟩ | omega
              · omega
    | succ n ih =>
      intro H h2 e H0 H1 S A T C
      refine v_DualPivotQuicksort_heapSort_27 S.1.1 ?_
      refine ⟨?_, ?_⟩
      · first | exact ⟨by omega, by omega⟩ | omega
      · refine ⟨fun q1 => ?_, fun q1 => ?_⟩
        · exact stop H h2 (by omega) H0 S T C
        · refine ⟨?_, ?_⟩
          · first | exact ⟨by omega, by omega⟩ | omega
          · refine ⟨?_, ?_⟩
            · first | exact ⟨by omega, by omega⟩ | omega
            · refine ⟨?_, ?_⟩
              · first | exact ⟨by omega, by omega⟩ | omega
              · have e1 : H + -1 = H - 1 := by omega
                rw [e1]
                have top := A.top (hi := H)
                refine s_pushDown (lo := lo) (s := lo) (hi := H - 1) (o := xpl h2 64 lo) (v := xpl h2 64 (H - 1)) (h0 := h2) l0 (Int.le_refl _) (by omega) (fun h3 D3 A3 => ?_) (H - 1 - lo).toNat lo h2 (by omega) (Int.le_refl _) (by omega) ⟨⟨S.1.1, xsm.refl h2, rfl, rfl⟩, fun w => rfl, fun _ _ => rfl⟩ (fun q c q0 qc ch _ _ => A q c q0 qc (by omega)) (fun r r0 rc => by unfold Chd at rc; omega)
                obtain ⟨⟨b1, b2, b3, b4⟩, b5, b6⟩ := D3
                refine v_DualPivotQuicksort_heapSort_49 b1 ?_
                refine ⟨?_, ?_⟩
                · omega
                · refine ⟨?_, ?_⟩
                  · omega
                  · intro F9
                    have mx : ∀ i, lo ≤ i → i < H → xpl h2 64 i ≤ xpl h2 64 lo := fun i i0 i1 => top (i - lo).toNat i (by omega) i0 i1
                    have m3 : ∀ i, lo ≤ i → i < H - 1 → ∃ j, lo ≤ j ∧ j < H ∧ xpl h3 64 i = xpl h2 64 j := fun i i0 i1 => by
                      have a := cnR_has (xpl h3 64) (lo := lo) (hi := H - 1) i0 i1
                      rw [b5] at a
                      have c1 := cw_rng (xpl h2 64 lo) (xpl h3 64 i)
                      have c2 := cw_rng (xpl h2 64 (H - 1)) (xpl h3 64 i)
                      by_cases z : xpl h2 64 (H - 1) = xpl h3 64 i
                      · exact ⟨H - 1, by omega, by omega, z.symm⟩
                      · have c3 : cw (xpl h2 64 (H - 1)) (xpl h3 64 i) = 0 := if_neg z
                        obtain ⟨j, j0, j1, j2⟩ := cnR_mem (g := xpl h2 64) (w := xpl h3 64 i) (lo := lo) (hi := H - 1) (by omega)
                        exact ⟨j, j0, by omega, j2.symm⟩
                    refine ih (H - 1) _ (by omega) (by omega) (by omega) ⟨⟨F9, (S.1.2.1.trans b2).st (by omega) (Or.inl rfl), b3.trans S.1.2.2.1, b4.trans S.1.2.2.2⟩, fun w => ?_, fun i hi => ?_⟩ (fun p c p0 pc ch => ?_) (fun i j i0 ij jk => ?_) (fun i j i0 i1 j0 j1 => ?_)
                    · rw [cnR_st (by omega) (by omega), b6 (H - 1) (Or.inr (Int.le_refl _))]
                      have s3 := cnR_split (xpl h3 64) w (lo := lo) (m := H - 1) (hi := hi) (by omega) (by omega)
                      have s2 := cnR_split (xpl h2 64) w (lo := lo) (m := H - 1) (hi := hi) (by omega) (by omega)
                      have eq : cnR (xpl h3 64) w (H - 1) hi = cnR (xpl h2 64) w (H - 1) hi := cnR_congr (fun i i0 _ => b6 i (Or.inr i0))
                      have := b5 w
                      have := S.2.1 w
                      omega
                    · rw [xpl_ok (by omega), b6 i (by omega)]; exact S.2.2 i hi
                    · rw [xpl_ok (by omega), xpl_ok (by unfold Chd at pc; omega)]; exact A3 p c p0 pc ch
                    · by_cases z : i = H - 1
                      · rw [z, xpl_hit, xpl_ok (by omega), b6 j (Or.inr (by omega))]; exact C lo j (Int.le_refl _) (by omega) (by omega) jk
                      · rw [xpl_ok z, xpl_ok (by omega), b6 i (Or.inr (by omega)), b6 j (Or.inr (by omega))]; exact T i j (by omega) ij jk
                    · rw [xpl_ok (by omega)]
                      obtain ⟨q, q0, q1, q2⟩ := m3 i i0 i1
                      rw [q2]
                      by_cases z : j = H - 1
                      · rw [z, xpl_hit]; exact mx q q0 q1
                      · rw [xpl_ok z, b6 j (Or.inr (by omega))]; exact C q j q0 q1 (by omega) j1
  have build : ∀ (n : Nat) (k : Int) (h2 : XH), k - lo ≤ n → lo ≤ k → 2 * k ≤ lo + hi → SP h h2 lo hi → Hea (xpl h2 64) lo k hi → xwp G m_DualPivotQuicksort_heapSort (d + 2) 6 [xR 64, xI lo, xI hi, xI k, xZ] [] h2 Q X := by
    intro n
    have go : ∀ (h2 : XH), SP h h2 lo hi → Hea (xpl h2 64) lo lo hi → xwp G m_DualPivotQuicksort_heapSort (d + 2) 27 [xR 64, xI lo, xI hi, xZ, xZ] [] h2 Q X := fun h2 S A => down (hi - lo).toNat hi h2 (by omega) lh0 (Int.le_refl _) S A (fun i j i0 ij jk => by omega) (fun i j i0 i1 j0 j1 => by omega)
    induction n with
    | zero =>
      intro k h2 e k0 k1 S A
      have ek : k = lo := by omega
      rw [ek] at A ⊢
      refine v_DualPivotQuicksort_heapSort_6 S.1.1 ?_
      refine ⟨fun q1 => ?_, fun q1 => ?_⟩
      · exact go h2 S A
      · refine ⟨?_, ?_⟩
        · omega
        · refine ⟨?_, ?_⟩
          · omega
          · omega
    | succ n ih =>
      intro k h2 e k0 k1 S A
      refine v_DualPivotQuicksort_heapSort_6 S.1.1 ?_
      refine ⟨fun q1 => ?_, fun q1 => ?_⟩
      · rw [show k = lo by omega] at A
        exact go h2 S A
      · refine ⟨?_, ?_⟩
        · omega
        · refine ⟨?_, ?_⟩
          · omega
          · have e1 : k + -1 = k - 1 := by omega
            rw [e1]
            refine s_pushDown (lo := lo) (s := k - 1) (hi := hi) (o := xpl h2 64 (k - 1)) (v := xpl h2 64 (k - 1)) (h0 := h2) l0 (by omega) lh (fun h3 D3 A3 => ?_) (hi - (k - 1)).toNat (k - 1) h2 (by omega) (Int.le_refl _) (by omega) ⟨⟨S.1.1, xsm.refl h2, rfl, rfl⟩, fun w => rfl, fun _ _ => rfl⟩ (fun q c q0 qc ch q9 _ => A q c (by omega) qc ch) (fun r r0 rc => by unfold Chd at rc; omega)
            refine v_DualPivotQuicksort_heapSort_24 D3.1.1 ?_
            refine ih (k - 1) h3 (by omega) (by omega) (by omega) (S.trans ⟨D3.1, fun w => ?_, fun i hi => D3.2.2 i (by omega)⟩) A3
            have := D3.2.1 w
            omega
  refine v_DualPivotQuicksort_heapSort_0 F ?_
  refine ⟨?_, ?_⟩
  · exact ⟨by omega, by omega⟩
  · have su := xushr_1 (v := lo + hi) (by omega) (by omega)
    rw [su]
    exact build ((lo + hi) / 2 - lo).toNat _ h (by omega) (by omega) (by omega) (SP.refl F lo hi) (fun p c p0 pc ch => by unfold Chd at pc; omega)

end
