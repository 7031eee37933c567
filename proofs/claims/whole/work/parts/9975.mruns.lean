/-! ===== mruns ===== -/
section
/-! merging runs, two and two -/
/-- a stretch of the row, from p to q, or the same behind an offset in the other row -/
def oB (B off r : Int) : Int := if r = B then off else 0
def MrE (h0 h : XH) (B off r p q : Int) : Prop :=
  (xFix h ∧ xsm (fun c => c = 64 ∨ c = B) h0 h ∧ xnx h = xnx h0 ∧ xsl h = xsl h0) ∧ (∀ i, (i < p ∨ q ≤ i) → xpl h 64 i = xpl h0 64 i) ∧ (∀ i, (i < p - off ∨ q - off ≤ i) → xpl h B i = xpl h0 B i) ∧ (r = 64 ∨ r = B) ∧
  (∀ w, cnR (xpl h r) w (p - oB B off r) (q - oB B off r) = cnR (xpl h0 64) w p q) ∧ SrtG (xpl h r) (p - oB B off r) (q - oB B off r)
/-- counts of a stretch that is moved -/
theorem cnF_shift {g g' : Int → Int} (w o : Int) : ∀ (n : Nat) (lo : Int), (∀ i, lo ≤ i → i < lo + n → g' (i - o) = g i) → cnF g' w n (lo - o) = cnF g w n lo
  | 0, _, _ => rfl
  | n + 1, lo, h => by
    show cw (g' (lo - o)) w + cnF g' w n (lo - o + 1) = cw (g lo) w + cnF g w n (lo + 1)
    rw [h lo (Int.le_refl _) (by omega), show lo - o + 1 = lo + 1 - o by omega, cnF_shift w o n (lo + 1) (fun i h0 h1 => h i (by omega) (by omega))]
theorem cnR_shift {g g' : Int → Int} {w o lo hi : Int} (h : ∀ i, lo ≤ i → i < hi → g' (i - o) = g i) : cnR g' w (lo - o) (hi - o) = cnR g w lo hi := by
  unfold cnR
  rw [show hi - o - (lo - o) = hi - lo by omega]
  exact cnF_shift w o _ _ (fun i h0 h1 => h i h0 (by omega))
theorem xacmp {h : XH} {a b : Int} (ha : -1 ≤ a) (hb : -1 ≤ b) : a = b ∨ ((-1 ≤ a ∨ -1 ≤ b) ∧ (-1 ≤ a ∨ xtg h a < 200) ∧ (-1 ≤ b ∨ xtg h b < 200)) := Or.inr ⟨Or.inl ha, Or.inl ha, Or.inl hb⟩
theorem s_mergeRuns {G : XG} {X : Nat → XH → Prop} {B off R : Int} (B93 : 93 ≤ B) (R93 : 93 ≤ R) (RB : R ≠ B) (o0 : 0 ≤ off) : ∀ (n d : Nat) (lo hi aim : Int) (h : XH) (Q : XV → XH → Prop), hi - lo ≤ n → lo < hi → 0 ≤ lo → (aim = 1 ∨ aim = -1 ∨ aim = 0) → xFix h → (B < xnx h ∧ R < xnx h) → (xtg h B = 101 ∧ xtg h R = 100) → (hi < xln h R ∧ xln h R ≤ 100000) → xln h B ≤ 100000 →
    (∀ j, lo ≤ j → j < hi → xpl h R j < xpl h R (j + 1)) → (off ≤ xpl h R lo ∧ xpl h R hi ≤ 12000 ∧ xpl h R hi - off ≤ xln h B) → (∀ j, lo ≤ j → j < hi → SrtG (xpl h 64) (xpl h R j) (xpl h R (j + 1))) →
    (∀ h' r, MrE h h' B off r (xpl h R lo) (xpl h R hi) → (aim = 1 → r = 64) → (aim = -1 → r = B) → Q (xR r) h') → xwp G m_DualPivotQuicksort_mergeRuns (d + n + 2) 0 [xR 64, xR B, xI off, xI aim, xI 0, xR R, xI lo, xI hi, xZ, xZ, xZ, xZ, xZ, xZ, xZ, xZ, xZ, xZ] [] h Q X := by
  intro n
  induction n with
  | zero => intro d lo hi aim h Q e h1; omega
  | succ n ih =>
    intro d lo hi aim h Q e h1 l0 ha F nx tg lR lB mono rg srt hq
    have mon : ∀ (m : Nat) (i : Int), lo ≤ i → i + m ≤ hi → xpl h R i + m ≤ xpl h R (i + m) := by
      intro m
      induction m with
      | zero => intro i i0 i1; rw [show i + ((0 : Nat) : Int) = i by omega]; omega
      | succ m ihm =>
        intro i i0 i1
        have a := ihm i i0 (by omega)
        have b := mono (i + m) (by omega) (by omega)
        rw [show i + ((m + 1 : Nat) : Int) = i + m + 1 by omega]
        omega
    have mono2 : ∀ i j, lo ≤ i → i ≤ j → j ≤ hi → xpl h R i + (j - i) ≤ xpl h R j := fun i j i0 ij j1 => by
      have := mon (j - i).toNat i i0 (by omega)
      rw [show i + (((j - i).toNat : Nat) : Int) = j by omega] at this
      omega
    have full := mono2 lo hi (Int.le_refl _) (by omega) (Int.le_refl _)
    have t64 := ft_64 F
    have l64 := fl_64 F
    have hnx := F.nx
    refine v_DualPivotQuicksort_mergeRuns_0 F ?_
    refine ⟨?_, ?_⟩
    · first | exact tg.2 | exact ⟨by omega, by omega⟩ | omega
    · refine ⟨fun q1 => ?_, fun q1 => ?_⟩
      · refine ⟨fun q2 => ?_, fun q2 => ?_⟩
        · refine ⟨?_, ?_⟩
          · first | exact tg.2 | exact ⟨by omega, by omega⟩ | omega
          · refine ⟨?_, ?_⟩
            · first | exact tg.2 | exact ⟨by omega, by omega⟩ | omega
            · refine ⟨?_, ?_⟩
              · first | exact tg.2 | exact ⟨by omega, by omega⟩ | omega
              · refine ⟨?_, ?_⟩
                · first | exact tg.2 | exact ⟨by omega, by omega⟩ | omega
                · refine ⟨?_, ?_⟩
                  · first | exact tg.2 | exact ⟨by omega, by omega⟩ | omega
                  · -- one run is copied
                    have e1 : lo + 1 = hi := by omega
                    have sr := srt lo (Int.le_refl _) h1
                    rw [e1] at sr
                    have cp : ∀ (m : Nat) (i : Int) (h2 : XH), i - xpl h R lo ≤ m → xpl h R lo ≤ i → i ≤ xpl h R hi → (xFix h2 ∧ xsm (fun c => c = B) h h2 ∧ xnx h2 = xnx h ∧ xsl h2 = xsl h) → (∀ j, (j < xpl h R lo - off ∨ xpl h R hi - off ≤ j) → xpl h2 B j = xpl h B j) → (∀ j, i ≤ j → j < xpl h R hi → xpl h2 B (j - off) = xpl h 64 j) → xwp G m_DualPivotQuicksort_mergeRuns (d + (n + 1) + 2) 35 [xR 64, xR B, xZ, xZ, xZ, xZ, xZ, xZ, xI i, xI (i - off), xI (xpl h R lo), xZ, xZ, xZ, xZ, xZ, xZ, xZ] [] h2 Q X := by
                      intro m
                      have stop : ∀ (i : Int) (h2 : XH), i = xpl h R lo → (xFix h2 ∧ xsm (fun c => c = B) h h2 ∧ xnx h2 = xnx h ∧ xsl h2 = xsl h) → (∀ j, (j < xpl h R lo - off ∨ xpl h R hi - off ≤ j) → xpl h2 B j = xpl h B j) → (∀ j, i ≤ j → j < xpl h R hi → xpl h2 B (j - off) = xpl h 64 j) → Q (xR B) h2 := fun i h2 ei a b c => by
                        refine hq h2 B ⟨⟨a.1, a.2.1.mono (fun c _ w => Or.inr w), a.2.2⟩, fun j hj => a.2.1.pl (by omega) (by omega) j, b, Or.inr rfl, fun w => ?_, fun x y x0 xy y1 => ?_⟩ (fun w => by omega) (fun _ => rfl)
                        · unfold oB
                          rw [if_pos rfl]
                          exact cnR_shift (fun j j0 j1 => c j (by omega) j1)
                        · unfold oB at x0 y1
                          rw [if_pos rfl] at x0 y1
                          have cx := c (x + off) (by omega) (by omega)
                          have cy := c (y + off) (by omega) (by omega)
                          rw [show x + off - off = x by omega] at cx
                          rw [show y + off - off = y by omega] at cy
                          rw [cx, cy]
                          exact sr (x + off) (y + off) (by omega) (by omega) (by omega)
                      induction m with
                      | zero =>
                        intro i h2 em i0 i1 a b c
                        refine v_DualPivotQuicksort_mergeRuns_35 a.1 ?_
                        refine ⟨fun q1 => ?_, fun q1 => ?_⟩
                        · exact stop i h2 (by omega) a b c
                        · refine ⟨?_, ?_⟩
                          · exfalso; omega
                          · refine ⟨?_, ?_⟩
                            · exfalso; omega
                            · refine ⟨?_, ?_⟩
                              · exfalso; omega
                              · refine ⟨?_, ?_⟩
                                · exfalso; omega
                                · refine ⟨?_, ?_⟩
                                  · exfalso; omega
                                  · refine ⟨?_, ?_⟩
                                    · exfalso; omega
                                    · refine ⟨?_, ?_⟩
                                      · exfalso; omega
                                      · refine ⟨?_, ?_⟩
                                        · exfalso; omega
                                        · intro F9
                                          omega
                      | succ m ihm =>
                        intro i h2 em i0 i1 a b c
                        have t2 : xtg h2 64 = 101 := ft_64 a.1
                        have l2 : xln h2 64 = 12000 := fl_64 a.1
                        have tB : xtg h2 B = 101 := (a.2.1.tg nx.1).trans tg.1
                        have lB2 : xln h2 B = xln h B := a.2.1.ln nx.1
                        have v64 : ∀ j, xpl h2 64 j = xpl h 64 j := fun j => a.2.1.pl (by omega) (by omega) j
                        refine v_DualPivotQuicksort_mergeRuns_35 a.1 ?_
                        refine ⟨fun q1 => ?_, fun q1 => ?_⟩
                        · exact stop i h2 (by omega) a b c
                        · refine ⟨?_, ?_⟩
                          · first | exact t2 | exact tB | exact ⟨by omega, by omega⟩ | omega
                          · refine ⟨?_, ?_⟩
                            · first | exact t2 | exact tB | exact ⟨by omega, by omega⟩ | omega
                            · refine ⟨?_, ?_⟩
                              · first | exact t2 | exact tB | exact ⟨by omega, by omega⟩ | omega
                              · refine ⟨?_, ?_⟩
                                · first | exact t2 | exact tB | exact ⟨by omega, by omega⟩ | omega
                                · refine ⟨?_, ?_⟩
                                  · first | exact t2 | exact tB | exact ⟨by omega, by omega⟩ | omega
                                  · refine ⟨?_, ?_⟩
                                    · first | exact t2 | exact tB | exact ⟨by omega, by omega⟩ | omega
                                    · refine ⟨?_, ?_⟩
                                      · first | exact t2 | exact tB | exact ⟨by omega, by omega⟩ | omega
                                      · refine ⟨?_, ?_⟩
                                        · first | exact t2 | exact tB | exact ⟨by omega, by omega⟩ | omega
                                        · intro F9
                                          rw [v64, show i - off + -1 = i + -1 - off by omega] at F9 ⊢
                                          refine ihm (i + -1) _ (by omega) (by omega) (by omega) ⟨F9, a.2.1.st (by omega) (Or.inl rfl), a.2.2⟩ (fun j hj => by rw [xpl_ok (by omega)]; exact b j hj) (fun j j0 j1 => ?_)
                                          by_cases z : j = i + -1
                                          · rw [z, xpl_hit]
                                          · rw [xpl_ok (by omega)]; exact c j (by omega) j1
                    exact cp (xpl h R hi - xpl h R lo).toNat (xpl h R hi) h (by omega) (by omega) (Int.le_refl _) ⟨F, xsm.refl h, rfl, rfl⟩ (fun _ _ => rfl) (fun j j0 j1 => by omega)
        · -- one run stays
          have e1 : lo + 1 = hi := by omega
          have sr := srt lo (Int.le_refl _) h1
          rw [e1] at sr
          have o64 : oB B off 64 = 0 := if_neg (by omega)
          refine hq h 64 ⟨⟨F, xsm.refl h, rfl, rfl⟩, fun _ _ => rfl, fun _ _ => rfl, Or.inl rfl, fun w => ?_, ?_⟩ (fun _ => rfl) (fun w => by omega)
          · rw [o64, show xpl h R lo - 0 = xpl h R lo by omega, show xpl h R hi - 0 = xpl h R hi by omega]
          · rw [o64, show xpl h R lo - 0 = xpl h R lo by omega, show xpl h R hi - 0 = xpl h R hi by omega]; exact sr
      · refine ⟨?_, ?_⟩
        · first | exact tg.2 | exact ⟨by omega, by omega⟩ | omega
        · refine ⟨?_, ?_⟩
          · first | exact tg.2 | exact ⟨by omega, by omega⟩ | omega
          · refine ⟨?_, ?_⟩
            · first | exact tg.2 | exact ⟨by omega, by omega⟩ | omega
            · refine ⟨?_, ?_⟩
              · first | exact tg.2 | exact ⟨by omega, by omega⟩ | omega
              · refine ⟨?_, ?_⟩
                · first | exact tg.2 | exact ⟨by omega, by omega⟩ | omega
                · refine ⟨?_, ?_⟩
                  · first | exact tg.2 | exact ⟨by omega, by omega⟩ | omega
                  · -- two halves
                    have su := xushr_1 (v := xpl h R lo + xpl h R hi) (by omega) (by omega)
                    rw [su]
                    have main : ∀ mi : Int, lo < mi → mi < hi → xwp G m_DualPivotQuicksort_mergeRuns (d + (n + 1) + 2) 164 [xR 64, xR B, xI off, xI aim, xI 0, xR R, xI lo, xI hi, xI mi, xZ, xZ, xZ, xZ, xZ, xZ, xZ, xZ, xZ] [] h Q X := fun mi m0 m1 => by
                      have pm := mono2 lo mi (Int.le_refl _) (by omega) (by omega)
                      have mq := mono2 mi hi (by omega) (by omega) (Int.le_refl _)
                      refine v_DualPivotQuicksort_mergeRuns_164 F ?_
                      refine ⟨?_, ?_⟩
                      · exact ⟨by omega, by omega⟩
                      · refine ih d lo mi (-aim) h _ (by omega) m0 l0 (by omega) F nx tg ⟨by omega, by omega⟩ lB (fun j j0 j1 => mono j j0 (by omega)) ⟨by omega, by omega, by omega⟩ (fun j j0 j1 => srt j j0 (by omega)) (fun h2 r1 E1 a1 b1 => ?_)
                        obtain ⟨⟨F2, S2, n2, s2⟩, f64, fB, or1, c1, T1⟩ := E1
                        have R2 : ∀ j, xpl h2 R j = xpl h R j := fun j => S2.pl nx.2 (by omega) j
                        have tg2 : xtg h2 B = 101 ∧ xtg h2 R = 100 := ⟨(S2.tg nx.1).trans tg.1, (S2.tg nx.2).trans tg.2⟩
                        have lR2 : xln h2 R = xln h R := S2.ln nx.2
                        have lB2 : xln h2 B = xln h B := S2.ln nx.1
                        have nx2 : B < xnx h2 ∧ R < xnx h2 := ⟨by omega, by omega⟩
                        refine v_DualPivotQuicksort_mergeRuns_179 F2 ?_
                        refine ih d mi hi 0 h2 _ (by omega) m1 (by omega) (Or.inr (Or.inr rfl)) F2 nx2 tg2 ⟨by omega, by omega⟩ (by omega) (fun j j0 j1 => by rw [R2, R2]; exact mono j (by omega) j1) ⟨by rw [R2]; omega, by rw [R2]; omega, by rw [R2]; omega⟩ (fun j j0 j1 => ?_) (fun h3 r2 E2 a2 b2 => ?_)
                        · rw [R2, R2]
                          have := mono2 mi j (by omega) j0 (by omega)
                          intro x y x0 xy y1
                          rw [f64 x (Or.inr (by omega)), f64 y (Or.inr (by omega))]
                          exact srt j (by omega) j1 x y x0 xy y1
                        · rw [R2, R2] at E2
                          obtain ⟨⟨F3, S3, n3, s3⟩, g64, gB, or2, c2, T2⟩ := E2
                          have R3 : ∀ j, xpl h3 R j = xpl h R j := fun j => (S3.pl (by omega) (by omega) j).trans (R2 j)
                          have tg3 : xtg h3 B = 101 ∧ xtg h3 R = 100 := ⟨(S3.tg nx2.1).trans tg2.1, (S3.tg nx2.2).trans tg2.2⟩
                          have lR3 : xln h3 R = xln h R := (S3.ln nx2.2).trans lR2
                          have lB3 : xln h3 B = xln h B := (S3.ln nx2.1).trans lB2
                          have t643 := ft_64 F3
                          have l643 := fl_64 F3
                          have o64 : oB B off 64 = 0 := if_neg (by omega)
                          have oBB : oB B off B = off := if_pos rfl
                          -- the left half lies where it lay
                          have k1 : ∀ x, xpl h R lo - oB B off r1 ≤ x → x < xpl h R mi - oB B off r1 → xpl h3 r1 x = xpl h2 r1 x := fun x x0 x1 => by
                            rcases or1 with y | y
                            · rw [y] at x0 x1 ⊢; rw [o64] at x0 x1; exact g64 x (Or.inl (by omega))
                            · rw [y] at x0 x1 ⊢; rw [oBB] at x0 x1; exact gB x (Or.inl (by omega))
                          have C1 : ∀ w, cnR (xpl h3 r1) w (xpl h R lo - oB B off r1) (xpl h R mi - oB B off r1) = cnR (xpl h 64) w (xpl h R lo) (xpl h R mi) := fun w => (cnR_congr k1).trans (c1 w)
                          have T1' : SrtG (xpl h3 r1) (xpl h R lo - oB B off r1) (xpl h R mi - oB B off r1) := fun x y x0 xy y1 => by
                            rw [k1 x x0 (by omega), k1 y (by omega) y1]; exact T1 x y x0 xy y1
                          have C2 : ∀ w, cnR (xpl h3 r2) w (xpl h R mi - oB B off r2) (xpl h R hi - oB B off r2) = cnR (xpl h 64) w (xpl h R mi) (xpl h R hi) := fun w => (c2 w).trans (cnR_congr (fun x x0 x1 => f64 x (Or.inr x0)))
                          -- the merge itself
                          have fin : ∀ D, (D = 64 ∨ D = B) → D ≠ r1 → (aim = 1 → D = 64) → (aim = -1 → D = B) → xwp G m_DualPivotQuicksort_mergeRuns (d + (n + 1) + 2) 323 [xZ, xZ, xZ, xZ, xI 0, xZ, xZ, xZ, xZ, xZ, xR r1, xR r2, xR D, xI (xpl h R lo - oB B off D), xI (xpl h R lo - oB B off r1), xI (xpl h R mi - oB B off r1), xI (xpl h R mi - oB B off r2), xZ] [xI (xpl h R hi - oB B off r2)] h3 Q X := fun D hD dn da db => by
                            have facts : ∀ r, (r = 64 ∨ r = B) → (0 ≤ r ∧ r < xnx h3) ∧ xtg h3 r = 101 ∧ xln h3 r ≤ 100000 ∧ ∀ p q, xpl h R lo ≤ p → p ≤ q → q ≤ xpl h R hi → 0 ≤ p - oB B off r ∧ q - oB B off r ≤ xln h3 r := fun r hr => by
                              rcases hr with y | y
                              · rw [y, o64]; exact ⟨⟨by decide, by omega⟩, t643, by omega, fun p q p0 pq q1 => ⟨by omega, by omega⟩⟩
                              · rw [y, oBB]; exact ⟨⟨by omega, by omega⟩, tg3.1, by omega, fun p q p0 pq q1 => ⟨by omega, by omega⟩⟩
                            obtain ⟨⟨z1, x1⟩, t1, y1, w1⟩ := facts r1 or1
                            obtain ⟨⟨z2, x2⟩, t2, y2, w2⟩ := facts r2 or2
                            obtain ⟨⟨zD, xD⟩, tD, yD, wD⟩ := facts D hD
                            have u1 := w1 (xpl h R lo) (xpl h R mi) (Int.le_refl _) (by omega) (by omega)
                            have u2 := w2 (xpl h R mi) (xpl h R hi) (by omega) (by omega) (Int.le_refl _)
                            have uD := wD (xpl h R lo) (xpl h R hi) (Int.le_refl _) (by omega) (Int.le_refl _)
                            refine v_DualPivotQuicksort_mergeRuns_323 F3 ?_
                            refine ⟨fun q1 => ?_, fun q1 => ?_⟩
                            · refine s_mergeParts F3 x1 x2 xD t1 t2 tD z1 z2 zD ⟨u1.1, by omega, u1.2⟩ ⟨u2.1, by omega, u2.2⟩ ⟨uD.1, by omega⟩ ⟨by omega, by omega, by omega⟩ dn (fun y => ?_) T1' T2 (fun h4 E4 => ?_)
                              · rw [y]; omega
                              · refine v_DualPivotQuicksort_mergeRuns_381 E4.1.1 ?_
                                obtain ⟨⟨F4, S4, n4, s4⟩, e4, c4, T4⟩ := E4
                                have em : xpl h R lo - oB B off D + (xpl h R mi - oB B off r1 - (xpl h R lo - oB B off r1)) + (xpl h R hi - oB B off r2 - (xpl h R mi - oB B off r2)) = xpl h R hi - oB B off D := by omega
                                rw [em] at e4 c4 T4
                                refine hq h4 D ⟨⟨F4, (S2.trans S3).trans (S4.mono (fun c _ w => by rcases hD with y | y <;> rw [y] at w <;> omega)), by omega, by omega⟩, fun i hi => ?_, fun i hi => ?_, hD, fun w => ?_, T4⟩ da db
                                · have e23 : xpl h3 64 i = xpl h 64 i := (g64 i (by omega)).trans (f64 i (by omega))
                                  rcases hD with y | y
                                  · rw [y, o64] at e4; rw [e4 i (by omega)]; exact e23
                                  · exact (S4.pl (by omega) (by rw [y]; omega) i).trans e23
                                · have e23 : xpl h3 B i = xpl h B i := (gB i (by omega)).trans (fB i (by omega))
                                  rcases hD with y | y
                                  · exact (S4.pl (by omega) (by rw [y]; omega) i).trans e23
                                  · rw [y, oBB] at e4; rw [e4 i (by omega)]; exact e23
                                · rw [c4 w, C1 w, C2 w, ← cnR_split (xpl h 64) w (by omega) (by omega)]
                            · exact absurd rfl q1
                          have c64 : (-1 : Int) ≤ 64 := by decide
                          have cB : -1 ≤ B := by omega
                          have cr1 : -1 ≤ r1 := by omega
                          have cr2 : -1 ≤ r2 := by omega
                          have RI : ∀ j, lo ≤ j → j ≤ hi → 0 ≤ xpl h3 R j ∧ xpl h3 R j ≤ 12000 := fun j j0 j1 => by
                            rw [R3]
                            have a := mono2 lo j (Int.le_refl _) j0 j1
                            have b := mono2 j hi j0 j1 (Int.le_refl _)
                            omega
                          have rlo := RI lo (Int.le_refl _) (by omega)
                          have rmi := RI mi (by omega) (by omega)
                          have rhi := RI hi (by omega) (Int.le_refl _)
                          have tR3 := tg3.2
                          have tail : ∀ D, (D = 64 ∨ D = B) → D ≠ r1 → (aim = 1 → D = 64) → (aim = -1 → D = B) → xwp G m_DualPivotQuicksort_mergeRuns (d + (n + 1) + 2) 231 [xZ, xR B, xI off, xZ, xI 0, xR R, xI lo, xI hi, xI mi, xZ, xR r1, xR r2, xR D, xZ, xZ, xZ, xZ, xZ] [xI (xpl h R lo - oB B off D)] h3 Q X := fun D hD dn da db => by
                            have g := fin D hD dn da db
                            -- the right half's end
                            have at300 : xwp G m_DualPivotQuicksort_mergeRuns (d + (n + 1) + 2) 300 [xZ, xR B, xI off, xZ, xI 0, xR R, xZ, xI hi, xZ, xZ, xR r1, xR r2, xR D, xI (xpl h R lo - oB B off D), xI (xpl h R lo - oB B off r1), xI (xpl h R mi - oB B off r1), xZ, xZ] [xI (xpl h R mi - oB B off r2)] h3 Q X := by
                              refine v_DualPivotQuicksort_mergeRuns_300 F3 ?_
                              refine ⟨?_, ?_⟩
                              · first | exact xacmp cr2 cB | exact tR3 | exact ⟨by omega, by omega⟩ | omega
                              · refine ⟨fun q1 => ?_, fun q1 => ?_⟩
                                · refine ⟨?_, ?_⟩
                                  · first | exact xacmp cr2 cB | exact tR3 | exact ⟨by omega, by omega⟩ | omega
                                  · refine ⟨?_, ?_⟩
                                    · first | exact xacmp cr2 cB | exact tR3 | exact ⟨by omega, by omega⟩ | omega
                                    · refine ⟨?_, ?_⟩
                                      · first | exact xacmp cr2 cB | exact tR3 | exact ⟨by omega, by omega⟩ | omega
                                      · refine ⟨?_, ?_⟩
                                        · first | exact xacmp cr2 cB | exact tR3 | exact ⟨by omega, by omega⟩ | omega
                                        · have e9 : xpl h R hi - oB B off r2 = xpl h3 R hi - off := by rw [R3, q1, oBB]
                                          rw [e9] at g; exact g
                                · refine ⟨?_, ?_⟩
                                  · first | exact xacmp cr2 cB | exact tR3 | exact ⟨by omega, by omega⟩ | omega
                                  · refine ⟨?_, ?_⟩
                                    · first | exact xacmp cr2 cB | exact tR3 | exact ⟨by omega, by omega⟩ | omega
                                    · refine ⟨?_, ?_⟩
                                      · first | exact xacmp cr2 cB | exact tR3 | exact ⟨by omega, by omega⟩ | omega
                                      · have e9 : xpl h R hi - oB B off r2 = xpl h3 R hi := by rw [R3, or2.resolve_right q1, o64]; omega
                                        rw [e9] at g; exact g
                            have at277 : xwp G m_DualPivotQuicksort_mergeRuns (d + (n + 1) + 2) 277 [xZ, xR B, xI off, xZ, xI 0, xR R, xZ, xI hi, xI mi, xZ, xR r1, xR r2, xR D, xI (xpl h R lo - oB B off D), xI (xpl h R lo - oB B off r1), xZ, xZ, xZ] [xI (xpl h R mi - oB B off r1)] h3 Q X := by
                              refine v_DualPivotQuicksort_mergeRuns_277 F3 ?_
                              refine ⟨?_, ?_⟩
                              · first | exact xacmp cr2 cB | exact tR3 | exact ⟨by omega, by omega⟩ | omega
                              · refine ⟨fun q1 => ?_, fun q1 => ?_⟩
                                · refine ⟨?_, ?_⟩
                                  · first | exact xacmp cr2 cB | exact tR3 | exact ⟨by omega, by omega⟩ | omega
                                  · refine ⟨?_, ?_⟩
                                    · first | exact xacmp cr2 cB | exact tR3 | exact ⟨by omega, by omega⟩ | omega
                                    · refine ⟨?_, ?_⟩
                                      · first | exact xacmp cr2 cB | exact tR3 | exact ⟨by omega, by omega⟩ | omega
                                      · refine ⟨?_, ?_⟩
                                        · first | exact xacmp cr2 cB | exact tR3 | exact ⟨by omega, by omega⟩ | omega
                                        · have e9 : xpl h R mi - oB B off r2 = xpl h3 R mi - off := by rw [R3, q1, oBB]
                                          rw [e9] at at300; exact at300
                                · refine ⟨?_, ?_⟩
                                  · first | exact xacmp cr2 cB | exact tR3 | exact ⟨by omega, by omega⟩ | omega
                                  · refine ⟨?_, ?_⟩
                                    · first | exact xacmp cr2 cB | exact tR3 | exact ⟨by omega, by omega⟩ | omega
                                    · refine ⟨?_, ?_⟩
                                      · first | exact xacmp cr2 cB | exact tR3 | exact ⟨by omega, by omega⟩ | omega
                                      · have e9 : xpl h R mi - oB B off r2 = xpl h3 R mi := by rw [R3, or2.resolve_right q1, o64]; omega
                                        rw [e9] at at300; exact at300
                            have at254 : xwp G m_DualPivotQuicksort_mergeRuns (d + (n + 1) + 2) 254 [xZ, xR B, xI off, xZ, xI 0, xR R, xZ, xI hi, xI mi, xZ, xR r1, xR r2, xR D, xI (xpl h R lo - oB B off D), xZ, xZ, xZ, xZ] [xI (xpl h R lo - oB B off r1)] h3 Q X := by
                              refine v_DualPivotQuicksort_mergeRuns_254 F3 ?_
                              refine ⟨?_, ?_⟩
                              · first | exact xacmp cr1 cB | exact tR3 | exact ⟨by omega, by omega⟩ | omega
                              · refine ⟨fun q1 => ?_, fun q1 => ?_⟩
                                · refine ⟨?_, ?_⟩
                                  · first | exact xacmp cr1 cB | exact tR3 | exact ⟨by omega, by omega⟩ | omega
                                  · refine ⟨?_, ?_⟩
                                    · first | exact xacmp cr1 cB | exact tR3 | exact ⟨by omega, by omega⟩ | omega
                                    · refine ⟨?_, ?_⟩
                                      · first | exact xacmp cr1 cB | exact tR3 | exact ⟨by omega, by omega⟩ | omega
                                      · refine ⟨?_, ?_⟩
                                        · first | exact xacmp cr1 cB | exact tR3 | exact ⟨by omega, by omega⟩ | omega
                                        · have e9 : xpl h R mi - oB B off r1 = xpl h3 R mi - off := by rw [R3, q1, oBB]
                                          rw [e9] at at277; exact at277
                                · refine ⟨?_, ?_⟩
                                  · first | exact xacmp cr1 cB | exact tR3 | exact ⟨by omega, by omega⟩ | omega
                                  · refine ⟨?_, ?_⟩
                                    · first | exact xacmp cr1 cB | exact tR3 | exact ⟨by omega, by omega⟩ | omega
                                    · refine ⟨?_, ?_⟩
                                      · first | exact xacmp cr1 cB | exact tR3 | exact ⟨by omega, by omega⟩ | omega
                                      · have e9 : xpl h R mi - oB B off r1 = xpl h3 R mi := by rw [R3, or1.resolve_right q1, o64]; omega
                                        rw [e9] at at277; exact at277
                            refine v_DualPivotQuicksort_mergeRuns_231 F3 ?_
                            refine ⟨?_, ?_⟩
                            · first | exact xacmp cr1 cB | exact tR3 | exact ⟨by omega, by omega⟩ | omega
                            · refine ⟨fun q1 => ?_, fun q1 => ?_⟩
                              · refine ⟨?_, ?_⟩
                                · first | exact xacmp cr1 cB | exact tR3 | exact ⟨by omega, by omega⟩ | omega
                                · refine ⟨?_, ?_⟩
                                  · first | exact xacmp cr1 cB | exact tR3 | exact ⟨by omega, by omega⟩ | omega
                                  · refine ⟨?_, ?_⟩
                                    · first | exact xacmp cr1 cB | exact tR3 | exact ⟨by omega, by omega⟩ | omega
                                    · refine ⟨?_, ?_⟩
                                      · first | exact xacmp cr1 cB | exact tR3 | exact ⟨by omega, by omega⟩ | omega
                                      · have e9 : xpl h R lo - oB B off r1 = xpl h3 R lo - off := by rw [R3, q1, oBB]
                                        rw [e9] at at254; exact at254
                              · refine ⟨?_, ?_⟩
                                · first | exact xacmp cr1 cB | exact tR3 | exact ⟨by omega, by omega⟩ | omega
                                · refine ⟨?_, ?_⟩
                                  · first | exact xacmp cr1 cB | exact tR3 | exact ⟨by omega, by omega⟩ | omega
                                  · refine ⟨?_, ?_⟩
                                    · first | exact xacmp cr1 cB | exact tR3 | exact ⟨by omega, by omega⟩ | omega
                                    · have e9 : xpl h R lo - oB B off r1 = xpl h3 R lo := by rw [R3, or1.resolve_right q1, o64]; omega
                                      rw [e9] at at254; exact at254
                          refine v_DualPivotQuicksort_mergeRuns_195 F3 ?_
                          refine v_DualPivotQuicksort_mergeRuns_197 F3 ?_
                          refine ⟨?_, ?_⟩
                          · exact xacmp cr1 c64
                          · refine ⟨fun q1 => ?_, fun q1 => ?_⟩
                            · have q0 := q1
                              refine v_DualPivotQuicksort_mergeRuns_208 F3 ?_
                              refine ⟨?_, ?_⟩
                              · first | exact xacmp cr1 c64 | exact tR3 | exact ⟨by omega, by omega⟩ | omega
                              · refine ⟨fun q1 => ?_, fun q1 => ?_⟩
                                · refine ⟨?_, ?_⟩
                                  · first | exact xacmp cr1 c64 | exact tR3 | exact ⟨by omega, by omega⟩ | omega
                                  · refine ⟨?_, ?_⟩
                                    · first | exact xacmp cr1 c64 | exact tR3 | exact ⟨by omega, by omega⟩ | omega
                                    · refine ⟨?_, ?_⟩
                                      · first | exact xacmp cr1 c64 | exact tR3 | exact ⟨by omega, by omega⟩ | omega
                                      · refine ⟨?_, ?_⟩
                                        · first | exact xacmp cr1 c64 | exact tR3 | exact ⟨by omega, by omega⟩ | omega
                                        · have t9 := tail B (Or.inr rfl) (by omega) (fun w => by have := b1 (by omega); omega) (fun _ => rfl)
                                          have e9 : xpl h R lo - oB B off B = xpl h3 R lo - off := by rw [R3, oBB]
                                          rw [e9] at t9; exact t9
                                · refine ⟨?_, ?_⟩
                                  · first | exact xacmp cr1 c64 | exact tR3 | exact ⟨by omega, by omega⟩ | omega
                                  · refine ⟨?_, ?_⟩
                                    · first | exact xacmp cr1 c64 | exact tR3 | exact ⟨by omega, by omega⟩ | omega
                                    · refine ⟨?_, ?_⟩
                                      · first | exact xacmp cr1 c64 | exact tR3 | exact ⟨by omega, by omega⟩ | omega
                                      · exact absurd q0 q1
                            · have q0 := q1
                              refine v_DualPivotQuicksort_mergeRuns_208 F3 ?_
                              refine ⟨?_, ?_⟩
                              · first | exact xacmp cr1 c64 | exact tR3 | exact ⟨by omega, by omega⟩ | omega
                              · refine ⟨fun q1 => ?_, fun q1 => ?_⟩
                                · refine ⟨?_, ?_⟩
                                  · first | exact xacmp cr1 c64 | exact tR3 | exact ⟨by omega, by omega⟩ | omega
                                  · refine ⟨?_, ?_⟩
                                    · first | exact xacmp cr1 c64 | exact tR3 | exact ⟨by omega, by omega⟩ | omega
                                    · refine ⟨?_, ?_⟩
                                      · first | exact xacmp cr1 c64 | exact tR3 | exact ⟨by omega, by omega⟩ | omega
                                      · refine ⟨?_, ?_⟩
                                        · first | exact xacmp cr1 c64 | exact tR3 | exact ⟨by omega, by omega⟩ | omega
                                        · exact absurd q1 q0
                                · refine ⟨?_, ?_⟩
                                  · first | exact xacmp cr1 c64 | exact tR3 | exact ⟨by omega, by omega⟩ | omega
                                  · refine ⟨?_, ?_⟩
                                    · first | exact xacmp cr1 c64 | exact tR3 | exact ⟨by omega, by omega⟩ | omega
                                    · refine ⟨?_, ?_⟩
                                      · first | exact xacmp cr1 c64 | exact tR3 | exact ⟨by omega, by omega⟩ | omega
                                      · have t9 := tail 64 (Or.inl rfl) (fun y => q1 y.symm) (fun _ => rfl) (fun w => absurd (a1 (by omega)) q1)
                                        have e9 : xpl h R lo - oB B off 64 = xpl h3 R lo := by rw [R3, o64]; omega
                                        rw [e9] at t9; exact t9
                    -- where they are parted
                    have part : ∀ (m : Nat) (i : Int), hi - i ≤ m → lo ≤ i → i + 1 < hi → (∀ j, lo < j → j ≤ i → j + 1 ≤ hi → xpl h R (j + 1) ≤ (xpl h R lo + xpl h R hi) / 2) → xwp G m_DualPivotQuicksort_mergeRuns (d + (n + 1) + 2) 80 [xR 64, xR B, xI off, xI aim, xI 0, xR R, xI lo, xI hi, xI i, xI ((xpl h R lo + xpl h R hi) / 2), xZ, xZ, xZ, xZ, xZ, xZ, xZ, xZ] [] h Q X := by
                      intro m
                      induction m with
                      | zero => intro i em i0 i1; omega
                      | succ m ihm =>
                        intro i em i0 i1 hb
                        refine v_DualPivotQuicksort_mergeRuns_80 F ?_
                        refine ⟨?_, ?_⟩
                        · first | exact tg.2 | exact ⟨by omega, by omega⟩ | omega
                        · refine ⟨?_, ?_⟩
                          · first | exact tg.2 | exact ⟨by omega, by omega⟩ | omega
                          · refine ⟨?_, ?_⟩
                            · first | exact tg.2 | exact ⟨by omega, by omega⟩ | omega
                            · refine ⟨?_, ?_⟩
                              · first | exact tg.2 | exact ⟨by omega, by omega⟩ | omega
                              · refine ⟨?_, ?_⟩
                                · first | exact tg.2 | exact ⟨by omega, by omega⟩ | omega
                                · refine ⟨fun q1 => ?_, fun q1 => ?_⟩
                                  · refine ⟨fun q2 => ?_, fun q2 => ?_⟩
                                    · exact main (i + 1) (by omega) (by omega)
                                    · refine ⟨?_, ?_⟩
                                      · first | exact tg.2 | exact ⟨by omega, by omega⟩ | omega
                                      · refine ⟨fun q3 => ?_, fun q3 => ?_⟩
                                        · exact absurd rfl q2
                                        · exact absurd rfl q2
                                  · have lt : i + 1 + 1 < hi := by
                                      by_cases z : i + 1 + 1 < hi
                                      · exact z
                                      · rw [show i + 1 + 1 = hi by omega] at q1; omega
                                    refine ihm (i + 1) (by omega) (by omega) lt (fun j j0 j1 j2 => ?_)
                                    by_cases z : j = i + 1
                                    · rw [z]; omega
                                    · exact hb j j0 (by omega) j2
                    exact part (hi - lo).toNat lo (by omega) (Int.le_refl _) (by omega) (fun j j0 j1 => by omega)

end
