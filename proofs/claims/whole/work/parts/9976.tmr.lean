/-! ===== tmr ===== -/
section
/-! runs are sought, and merged where there are few -/
theorem run127 {v : Int} (h0 : 0 ≤ v) (h1 : v ≤ 12000) : xand (xior (xshr v 10) 127) 1023 = 127 := by
  rw [xshr_div h0 (by omega) (by decide) (by decide), show ((10 : Int)).toNat = 10 from rfl, show (2 : Int) ^ 10 = 1024 from rfl]
  have key : ∀ i : Fin 12, xand (xior (i.val : Int) 127) 1023 = 127 := by decide +kernel
  have := key ⟨(v / 1024).toNat, by omega⟩
  rwa [show ((⟨(v / 1024).toNat, by omega⟩ : Fin 12).val : Int) = v / 1024 by show (((v / 1024).toNat : Nat) : Int) = _; omega] at this
theorem xshr_7 {v : Int} (h0 : 0 ≤ v) (h1 : v ≤ 12000) : xshr v 7 = v / 128 := by
  rw [xshr_div h0 (by omega) (by decide) (by decide)]; rfl
def SPx (h0 h : XH) (lo hi : Int) : Prop := (xFix h ∧ xsm (fun c => c = 64) h0 h) ∧ (∀ w, cnR (xpl h 64) w lo hi = cnR (xpl h0 64) w lo hi) ∧ ∀ i, (i < lo ∨ hi ≤ i) → xpl h 64 i = xpl h0 64 i
theorem SP.x {h0 h : XH} {lo hi : Int} (S : SP h0 h lo hi) : SPx h0 h lo hi := ⟨⟨S.1.1, S.1.2.1⟩, S.2⟩
theorem SPx.trans {h0 h1 h2 : XH} {lo hi : Int} (a : SPx h0 h1 lo hi) (b : SPx h1 h2 lo hi) : SPx h0 h2 lo hi := ⟨⟨b.1.1, a.1.2.trans b.1.2⟩, fun w => (b.2.1 w).trans (a.2.1 w), fun i hi => (b.2.2 i hi).trans (a.2.2 i hi)⟩
/-- the runs that are known -/
def Runs (h0 h : XH) (lo R cnt last : Int) : Prop :=
  (R = -1 ∧ cnt = 1 ∧ last = lo ∧ xnx h = xnx h0 ∧ xsl h = xsl h0) ∨
  ((xnx h0 ≤ R ∧ R < xnx h ∧ xtg h R = 100 ∧ xln h R = 127) ∧ (xnx h = xnx h0 + 1 ∧ xsl h = xsl h0 + 127) ∧ (1 ≤ cnt ∧ cnt ≤ 94 ∧ xpl h R 0 = lo ∧ xpl h R cnt = last) ∧ (∀ j, 0 ≤ j → j < cnt → xpl h R j < xpl h R (j + 1)) ∧ ∀ j, 0 ≤ j → j < cnt → SrtG (xpl h 64) (xpl h R j) (xpl h R (j + 1)))
theorem Runs.mono {h0 h : XH} {lo R cnt last : Int} (U : ∀ j, 0 ≤ j → j < cnt → xpl h R j < xpl h R (j + 1)) (e : xpl h R cnt = last) : ∀ (m : Nat) (j : Int), 0 ≤ j → j + m = cnt → xpl h R j + m ≤ last := by
  intro m
  induction m with
  | zero => intro j j0 j1; rw [show j = cnt by omega, e]; omega
  | succ m ih =>
    intro j j0 j1
    have a := ih (j + 1) (by omega) (by omega)
    have b := U j j0 (by omega)
    omega
/-- what lies behind the last run's beginning may change -/
theorem Runs.keep {h0 h h' : XH} {lo R cnt last : Int} (U : Runs h0 h lo R cnt last) (hn : 93 ≤ xnx h0) (n : xnx h' = xnx h) (l : xsl h' = xsl h) (e : xsm (fun c => c = 64) h h') (e64 : ∀ i, i < last → xpl h' 64 i = xpl h 64 i) : Runs h0 h' lo R cnt last := by
  rcases U with ⟨a, b, c, d, f⟩ | ⟨⟨a1, a2, a3, a4⟩, ⟨b1, b2⟩, ⟨c1, c2, c3, c4⟩, d, f⟩
  · exact Or.inl ⟨a, b, c, by omega, by omega⟩
  · have eR : ∀ j, xpl h' R j = xpl h R j := fun j => e.pl a2 (by omega) j
    refine Or.inr ⟨⟨a1, by omega, (e.tg a2).trans a3, (e.ln a2).trans a4⟩, ⟨by omega, by omega⟩, ⟨c1, c2, (eR 0).trans c3, (eR cnt).trans c4⟩, fun j j0 j1 => by rw [eR, eR]; exact d j j0 j1, fun j j0 j1 => ?_⟩
    rw [eR, eR]
    have m := Runs.mono (h0 := h0) (lo := lo) d c4 (cnt - (j + 1)).toNat (j + 1) (by omega) (by omega)
    intro x y x0 xy y1
    rw [e64 x (by omega), e64 y (by omega)]
    exact f j j0 j1 x y x0 xy y1
theorem s_tryMergeRuns {G : XG} {d : Nat} {h : XH} {Q : XV → XH → Prop} {X : Nat → XH → Prop} {lo sz : Int} (F : xFix h) (l0 : 0 ≤ lo) (z0 : 2 ≤ sz) (z1 : lo + sz ≤ 12000) (cK : xnx h + 2 ≤ xKC) (sK : xsl h + 127 + sz ≤ xKS)
    (hq1 : ∀ h', SPx h h' lo (lo + sz) → Srt h' lo (lo + sz) → xnx h' ≤ xnx h + 2 → xsl h' ≤ xsl h + 127 + sz → Q (xI 1) h') (hq0 : ∀ h', SPx h h' lo (lo + sz) → xnx h' ≤ xnx h + 1 → xsl h' ≤ xsl h + 127 → Q (xI 0) h') : xwp G m_DualPivotQuicksort_tryMergeRuns (d + 140) 0 [xR (-1), xR 64, xI lo, xI sz, xZ, xZ, xZ, xZ, xZ, xZ, xZ, xZ, xZ] [] h Q X := by
  obtain ⟨hi, hh⟩ : ∃ hi, hi = lo + sz := ⟨_, rfl⟩
  rw [← hh] at hq1 hq0 z1
  have hnx := F.nx
  have xk : xKC = xKC := rfl
  -- the end
  have finish : ∀ (h2 : XH) (R cnt : Int), SPx h h2 lo hi → Runs h h2 lo R cnt hi → R ≠ -1 → (cnt ≤ 1 → Q (xI 1) h2) ∧ (¬ cnt ≤ 1 → xwp G m_DualPivotQuicksort_tryMergeRuns (d + 140) 355 [xR (-1), xR 64, xZ, xI sz, xR R, xZ, xI cnt, xZ, xZ, xI lo, xZ, xZ, xZ] [] h2 Q X) := fun h2 R cnt S U nR => by
    rcases U with ⟨a, -⟩ | ⟨⟨a1, a2, a3, a4⟩, ⟨b1, b2⟩, ⟨c1, c2, c3, c4⟩, dm, f⟩
    · exact absurd a nR
    · refine ⟨fun z => ?_, fun z => ?_⟩
      · have e1 : cnt = 1 := by omega
        rw [e1] at c4
        have f0 := f 0 (Int.le_refl _) (by omega)
        rw [c3, show (0 : Int) + 1 = 1 from rfl, c4] at f0
        exact hq1 h2 S f0 (by omega) (by omega)
      · refine v_DualPivotQuicksort_tryMergeRuns_355 S.1.1 ?_
        refine ⟨?_, ?_⟩
        · omega
        · refine ⟨?_, ?_⟩
          · omega
          · refine ⟨?_, ?_⟩
            · omega
            · refine ⟨?_, ?_⟩
              · omega
              · intro F9
                have eo : ∀ c, c < xnx h2 → (∀ k, xpl (xmk h2 101 sz (fun _ => 0)) c k = xpl h2 c k) ∧ xtg (xmk h2 101 sz (fun _ => 0)) c = xtg h2 c ∧ xln (xmk h2 101 sz (fun _ => 0)) c = xln h2 c := fun c hc => ⟨fun k => by rw [xpl_mk, if_neg (by omega)], by rw [xtg_mk, if_neg (by omega)], by rw [xln_mk, if_neg (by omega)]⟩
                have hn2 := S.1.1.nx
                obtain ⟨r1, r2, r3⟩ := eo R a2
                obtain ⟨q1, -, -⟩ := eo 64 (by omega)
                refine v_DualPivotQuicksort_tryMergeRuns_369 F9 ?_
                have g := s_mergeRuns (G := G) (X := X) (B := xnx h2) (off := lo) (R := R) (by omega) (by omega) (by omega) l0 94 (d + 43) 0 cnt 1 (xmk h2 101 sz (fun _ => 0)) (fun v9 h9 => xwp G m_DualPivotQuicksort_tryMergeRuns (d + 140) 392 [xZ, xZ, xZ, xZ, xZ, xZ, xZ, xZ, xZ, xZ, xZ, xZ, xZ] (xpush v9 []) h9 Q X) (by omega) (by omega) (Int.le_refl _) (Or.inl rfl) F9 ⟨by rw [xnx_mk]; omega, by rw [xnx_mk]; omega⟩ ⟨by rw [xtg_mk, if_pos rfl], by rw [r2]; exact a3⟩ ⟨by rw [r3]; omega, by rw [r3]; omega⟩ (by rw [xln_mk, if_pos rfl]; omega) (fun j j0 j1 => by rw [r1, r1]; exact dm j j0 j1) ⟨by rw [r1]; omega, by rw [r1]; omega, by rw [r1, xln_mk, if_pos rfl]; omega⟩ (fun j j0 j1 => by rw [r1, r1]; intro x y x0 xy y1; rw [q1, q1]; exact f j j0 j1 x y x0 xy y1) (fun h' r E a9 _ => ?_)
                · exact g
                · have er := a9 rfl
                  subst er
                  obtain ⟨⟨F5, S5, n5, l5⟩, g64, gB, -, cc, tt⟩ := E
                  have o64 : oB (xnx h2) lo 64 = 0 := if_neg (by omega)
                  rw [r1, r1, c3, c4] at g64
                  rw [r1, r1, c3, c4, o64] at cc tt
                  rw [show lo - 0 = lo by omega, show hi - 0 = hi by omega] at cc tt
                  refine v_DualPivotQuicksort_tryMergeRuns_392 F5 ?_
                  rw [xnx_mk] at n5
                  rw [xsl_mk] at l5
                  have S6 : xsm (fun c => c = 64) h2 h' := by
                    have s1 : xsm (fun c => c = 64) h2 (xmk h2 101 sz (fun _ => 0)) := (xsm.refl h2).mk (by omega)
                    refine ⟨by omega, by omega, fun c hc => ?_⟩
                    obtain ⟨w1, w2, w3, w4⟩ := S5.2.2 c (by rw [xnx_mk]; omega)
                    obtain ⟨v1, v2, v3⟩ := eo c hc
                    exact ⟨w1.trans v2, w2.trans v3, w3.trans (v1 (-1)), fun hn k => (w4 (by omega) k).trans (v1 k)⟩
                  refine hq1 h' ⟨⟨F5, S.1.2.trans S6⟩, fun w => ?_, fun i hi => ?_⟩ tt (by omega) (by omega)
                  · rw [cc w, cnR_congr (fun i _ _ => q1 i)]; exact S.2.1 w
                  · rw [g64 i hi, q1]; exact S.2.2 i hi
  -- where a run is counted
  have run316 : ∀ (R cnt last k : Int) (h2 : XH), SPx h h2 lo hi → Runs h h2 lo R cnt last → R ≠ -1 → lo ≤ last → last < k → k ≤ hi → SrtG (xpl h2 64) last k → ∀ c, ((c = cnt ∧ xpl h2 64 (last - 1) ≤ xpl h2 64 last) ∨ (c = cnt + 1 ∧ c ≤ 94)) → c ≤ (k - lo) / 128 + 1 →
      (∀ h3, SPx h h3 lo hi → Runs h h3 lo R c k → xwp G m_DualPivotQuicksort_tryMergeRuns (d + 140) 19 [xR (-1), xR 64, xI lo, xI sz, xR R, xI hi, xI c, xI k, xI k, xZ, xZ, xZ, xZ] [] h3 Q X) → xwp G m_DualPivotQuicksort_tryMergeRuns (d + 140) 316 [xR (-1), xR 64, xI lo, xI sz, xR R, xI hi, xI c, xZ, xI k, xZ, xZ, xZ, xZ] [] h2 Q X := fun R cnt last k h2 S U nR l1 l2 l3 T c hc cb go => by
    rcases U with ⟨a, -⟩ | ⟨⟨a1, a2, a3, a4⟩, ⟨b1, b2⟩, ⟨c1, c2, c3, c4⟩, dm, f⟩
    · exact absurd a nR
    · have mm := fun j j0 j1 => Runs.mono (h0 := h) (h := h2) (lo := lo) (R := R) (cnt := cnt) (last := last) dm c4 (cnt - j).toNat j j0 j1
      have c0 : 0 < c ∧ c ≤ 94 := by omega
      refine v_DualPivotQuicksort_tryMergeRuns_316 S.1.1 ?_
      refine ⟨?_, ?_⟩
      · first | exact a3 | omega
      · refine ⟨?_, ?_⟩
        · first | exact a3 | omega
        · refine ⟨?_, ?_⟩
          · first | exact a3 | omega
          · refine ⟨?_, ?_⟩
            · first | exact a3 | omega
            · intro F9
              have e64 : ∀ i, xpl (xst h2 R c k) 64 i = xpl h2 64 i := fun i => xpl_oa (by omega)
              have S3 : SPx h (xst h2 R c k) lo hi := ⟨⟨F9, S.1.2.st (by omega) (Or.inr a1)⟩, fun w => by rw [cnR_congr (fun i _ _ => e64 i)]; exact S.2.1 w, fun i hi => by rw [e64]; exact S.2.2 i hi⟩
              refine go _ S3 (Or.inr ⟨⟨a1, a2, a3, a4⟩, ⟨b1, b2⟩, ⟨by omega, by omega, by rw [xpl_ok (by omega)]; exact c3, by rw [xpl_hit]⟩, fun j j0 j1 => ?_, fun j j0 j1 => ?_⟩)
              · rw [xpl_ok (by omega)]
                have m0 := mm j j0
                by_cases z : j + 1 = c
                · rw [z, xpl_hit]
                  have := mm j j0 (by omega)
                  omega
                · rw [xpl_ok z]; exact dm j j0 (by omega)
              · rw [xpl_ok (by omega)]
                by_cases z : j + 1 = c
                · rw [z, xpl_hit]
                  rcases hc with ⟨y1, y2⟩ | ⟨y1, y2⟩
                  · -- the last run grows
                    have fj := f j j0 (by omega)
                    rw [show j + 1 = cnt by omega, c4] at fj
                    intro x y x0 xy yk
                    rw [e64, e64]
                    by_cases w : y < last
                    · exact fj x y x0 xy w
                    · by_cases v : last ≤ x
                      · exact T x y v xy yk
                      · have q1 : xpl h2 64 x ≤ xpl h2 64 (last - 1) := by
                          by_cases u : x = last - 1
                          · rw [u]; exact Int.le_refl _
                          · exact fj x (last - 1) x0 (by omega) (by omega)
                        have q2 : xpl h2 64 last ≤ xpl h2 64 y := by
                          by_cases u : y = last
                          · rw [u]; exact Int.le_refl _
                          · exact T last y (Int.le_refl _) (by omega) yk
                        omega
                  · have ej : j = cnt := by omega
                    rw [ej, c4]
                    intro x y x0 xy yk
                    rw [e64, e64]; exact T x y x0 xy yk
                · rw [xpl_ok z]
                  intro x y x0 xy yk
                  rw [e64, e64]
                  exact f j j0 (by omega) x y x0 xy yk
  -- a run has ended
  have run208 : ∀ (R cnt last k : Int) (h2 : XH), SPx h h2 lo hi → Runs h h2 lo R cnt last → lo ≤ last → last < k → k ≤ hi → SrtG (xpl h2 64) last k → cnt ≤ (last - lo) / 128 + 1 →
      (∀ R3 c h3, SPx h h3 lo hi → Runs h h3 lo R3 c k → R3 ≠ -1 → c ≤ (k - lo) / 128 + 1 → xwp G m_DualPivotQuicksort_tryMergeRuns (d + 140) 19 [xR (-1), xR 64, xI lo, xI sz, xR R3, xI hi, xI c, xI k, xI k, xZ, xZ, xZ, xZ] [] h3 Q X) → xwp G m_DualPivotQuicksort_tryMergeRuns (d + 140) 208 [xR (-1), xR 64, xI lo, xI sz, xR R, xI hi, xI cnt, xI last, xI k, xZ, xZ, xZ, xZ] [] h2 Q X := fun R cnt last k h2 S U l1 l2 l3 T cb go => by
    have e127 := run127 (v := sz) (by omega) (by omega)
    have hn2 := S.1.1.nx
    have e7 := xshr_7 (v := k - lo) (by omega) (by omega)
    have szs : R = -1 → xnx h2 = xnx h ∧ xsl h2 = xsl h ∧ last = lo := fun w => by
      rcases U with ⟨-, -, a, b, c⟩ | ⟨⟨a1, -⟩, -⟩
      · exact ⟨b, c, a⟩
      · omega
    have szr : R ≠ -1 → xnx h2 = xnx h + 1 ∧ xsl h2 = xsl h + 127 ∧ (1 ≤ cnt ∧ cnt ≤ 94 ∧ lo < last) ∧ xtg h2 R = 100 ∧ xln h2 R = 127 := fun w => by
      rcases U with ⟨a, -⟩ | ⟨⟨a1, a2, a3, a4⟩, ⟨b1, b2⟩, ⟨c1, c2, c3, c4⟩, dm, -⟩
      · exact absurd a w
      · have mm := Runs.mono (h0 := h) (h := h2) (lo := lo) (R := R) (cnt := cnt) (last := last) dm c4 cnt.toNat 0 (Int.le_refl _) (by omega)
        exact ⟨b1, b2, ⟨c1, c2, by omega⟩, a3, a4⟩
    by_cases zR : R = -1
    · obtain ⟨s1, s2, s3⟩ := szs zR
      refine v_DualPivotQuicksort_tryMergeRuns_208 S.1.1 ?_
      refine ⟨fun q1 => ?_, fun q1 => ?_⟩
      · refine ⟨fun q2 => ?_, fun q2 => ?_⟩
        · refine hq1 h2 S ?_ (by omega) (by omega)
          rw [q2, s3] at T; exact T
        · refine ⟨?_, ?_⟩
          · first | (rw [e127]; omega) | exact ⟨by omega, by omega⟩ | omega
          · refine ⟨fun q3 => ?_, fun q3 => ?_⟩
            · refine ⟨?_, ?_⟩
              · first | (rw [e127]; omega) | exact ⟨by omega, by omega⟩ | omega
              · refine ⟨?_, ?_⟩
                · first | (rw [e127]; omega) | exact ⟨by omega, by omega⟩ | omega
                · refine ⟨?_, ?_⟩
                  · first | (rw [e127]; omega) | exact ⟨by omega, by omega⟩ | omega
                  · refine ⟨?_, ?_⟩
                    · first | (rw [e127]; omega) | exact ⟨by omega, by omega⟩ | omega
                    · refine ⟨?_, ?_⟩
                      · first | (rw [e127]; omega) | exact ⟨by omega, by omega⟩ | omega
                      · intro F9
                        rw [e127] at F9 ⊢
                        have eo : ∀ c, c < xnx h2 → (∀ k, xpl (xst (xmk h2 100 127 (fun _ => 0)) (xnx h2) 0 lo) c k = xpl h2 c k) ∧ xtg (xst (xmk h2 100 127 (fun _ => 0)) (xnx h2) 0 lo) c = xtg h2 c ∧ xln (xst (xmk h2 100 127 (fun _ => 0)) (xnx h2) 0 lo) c = xln h2 c := fun c hc => ⟨fun k => by rw [xpl_oa (by omega), xpl_mk, if_neg (by omega)], by show xtg (xmk h2 100 127 (fun _ => 0)) c = _; rw [xtg_mk, if_neg (by omega)], by show xln (xmk h2 100 127 (fun _ => 0)) c = _; rw [xln_mk, if_neg (by omega)]⟩
                        obtain ⟨e64, -, -⟩ := eo 64 (by omega)
                        have S3 : SPx h (xst (xmk h2 100 127 (fun _ => 0)) (xnx h2) 0 lo) lo hi := ⟨⟨F9, (S.1.2.mk (by decide)).st (by decide) (Or.inr (by omega))⟩, fun w => by rw [cnR_congr (fun i _ _ => e64 i)]; exact S.2.1 w, fun i hi => by rw [e64]; exact S.2.2 i hi⟩
                        have c1 : cnt = 1 := by
                          rcases U with ⟨-, a, -⟩ | ⟨⟨a1, -⟩, -⟩
                          · exact a
                          · omega
                        rw [c1]
                        have tN : xtg (xst (xmk h2 100 127 (fun _ => 0)) (xnx h2) 0 lo) (xnx h2) = 100 := by show xtg (xmk h2 100 127 (fun _ => 0)) (xnx h2) = _; rw [xtg_mk, if_pos rfl]
                        have lN : xln (xst (xmk h2 100 127 (fun _ => 0)) (xnx h2) 0 lo) (xnx h2) = 127 := by show xln (xmk h2 100 127 (fun _ => 0)) (xnx h2) = _; rw [xln_mk, if_pos rfl]
                        have v0 : xpl (xst (xmk h2 100 127 (fun _ => 0)) (xnx h2) 0 lo) (xnx h2) 0 = lo := xpl_hit _ _ _ _
                        have nN : xnx (xst (xmk h2 100 127 (fun _ => 0)) (xnx h2) 0 lo) = xnx h2 + 1 := rfl
                        have sN : xsl (xst (xmk h2 100 127 (fun _ => 0)) (xnx h2) 0 lo) = xsl h2 + 127 := rfl
                        refine v_DualPivotQuicksort_tryMergeRuns_316 F9 ?_
                        refine ⟨?_, ?_⟩
                        · first | exact tN | (rw [lN]; decide) | omega
                        · refine ⟨?_, ?_⟩
                          · first | exact tN | (rw [lN]; decide) | omega
                          · refine ⟨?_, ?_⟩
                            · first | exact tN | (rw [lN]; decide) | omega
                            · refine ⟨?_, ?_⟩
                              · first | exact tN | (rw [lN]; decide) | omega
                              · intro F9
                                have e64' : ∀ i, xpl (xst (xst (xmk h2 100 127 (fun _ => 0)) (xnx h2) 0 lo) (xnx h2) 1 k) 64 i = xpl h2 64 i := fun i => (xpl_oa (by omega)).trans (e64 i)
                                refine go (xnx h2) 1 _ ⟨⟨F9, S3.1.2.st (by decide) (Or.inr (by omega))⟩, fun w => by rw [cnR_congr (fun i _ _ => e64' i)]; exact S.2.1 w, fun i hi => by rw [e64']; exact S.2.2 i hi⟩ (Or.inr ⟨⟨by omega, by show xnx h2 < xnx h2 + 1; omega, tN, lN⟩, ⟨by show xnx h2 + 1 = _; omega, by show xsl h2 + 127 = _; omega⟩, ⟨by decide, by decide, (xpl_ok (by decide)).trans v0, xpl_hit _ _ _ _⟩, fun j j0 j1 => ?_, fun j j0 j1 => ?_⟩) (by omega) (by omega)
                                · rw [show j = 0 by omega, show (0 : Int) + 1 = 1 from rfl, xpl_hit, xpl_ok (by decide), v0]; omega
                                · rw [show j = 0 by omega, show (0 : Int) + 1 = 1 from rfl, xpl_hit, xpl_ok (by decide), v0]
                                  intro x y x0 xy yk
                                  rw [e64', e64']
                                  exact T x y (by omega) xy yk
            · exact hq0 h2 S (by omega) (by omega)
      · refine ⟨?_, ?_⟩
        · first | (rw [e127]; omega) | exact ⟨by omega, by omega⟩ | omega
        · refine ⟨?_, ?_⟩
          · first | (rw [e127]; omega) | exact ⟨by omega, by omega⟩ | omega
          · refine ⟨?_, ?_⟩
            · first | (rw [e127]; omega) | exact ⟨by omega, by omega⟩ | omega
            · refine ⟨?_, ?_⟩
              · first | (rw [e127]; omega) | exact ⟨by omega, by omega⟩ | omega
              · refine ⟨fun q2 => ?_, fun q2 => ?_⟩
                · exact absurd zR q1
                · refine ⟨?_, ?_⟩
                  · first | (rw [e127]; omega) | exact ⟨by omega, by omega⟩ | omega
                  · refine ⟨fun q3 => ?_, fun q3 => ?_⟩
                    · refine ⟨?_, ?_⟩
                      · first | (rw [e127]; omega) | exact ⟨by omega, by omega⟩ | omega
                      · refine ⟨fun q4 => ?_, fun q4 => ?_⟩
                        · exact absurd zR q1
                        · refine ⟨?_, ?_⟩
                          · first | (rw [e127]; omega) | exact ⟨by omega, by omega⟩ | omega
                          · refine ⟨fun q5 => ?_, fun q5 => ?_⟩
                            · exact absurd zR q1
                            · exact absurd zR q1
                    · exact absurd zR q1
    · obtain ⟨s1, s2, s3, s4, s5⟩ := szr zR
      refine v_DualPivotQuicksort_tryMergeRuns_208 S.1.1 ?_
      refine ⟨fun q1 => ?_, fun q1 => ?_⟩
      · refine ⟨fun q2 => ?_, fun q2 => ?_⟩
        · exact absurd q1 zR
        · refine ⟨?_, ?_⟩
          · first | exact s4 | exact absurd q1 zR | exact ⟨by omega, by omega⟩ | omega
          · refine ⟨fun q3 => ?_, fun q3 => ?_⟩
            · refine ⟨?_, ?_⟩
              · first | exact s4 | exact absurd q1 zR | exact ⟨by omega, by omega⟩ | omega
              · refine ⟨?_, ?_⟩
                · first | exact s4 | exact absurd q1 zR | exact ⟨by omega, by omega⟩ | omega
                · refine ⟨?_, ?_⟩
                  · first | exact s4 | exact absurd q1 zR | exact ⟨by omega, by omega⟩ | omega
                  · refine ⟨?_, ?_⟩
                    · first | exact s4 | exact absurd q1 zR | exact ⟨by omega, by omega⟩ | omega
                    · refine ⟨?_, ?_⟩
                      · first | exact s4 | exact absurd q1 zR | exact ⟨by omega, by omega⟩ | omega
                      · intro F9
                        exact absurd q1 zR
            · exact absurd q1 zR
      · refine ⟨?_, ?_⟩
        · first | exact s4 | exact absurd q1 zR | exact ⟨by omega, by omega⟩ | omega
        · refine ⟨?_, ?_⟩
          · first | exact s4 | exact absurd q1 zR | exact ⟨by omega, by omega⟩ | omega
          · refine ⟨?_, ?_⟩
            · first | exact s4 | exact absurd q1 zR | exact ⟨by omega, by omega⟩ | omega
            · refine ⟨?_, ?_⟩
              · first | exact s4 | exact absurd q1 zR | exact ⟨by omega, by omega⟩ | omega
              · refine ⟨fun q2 => ?_, fun q2 => ?_⟩
                · exact run316 R cnt last k h2 S U zR l1 l2 l3 T cnt (Or.inl ⟨rfl, q2⟩) (by omega) (fun h3 S3 U3 => go R cnt h3 S3 U3 zR (by omega))
                · refine ⟨?_, ?_⟩
                  · first | exact s4 | exact absurd q1 zR | exact ⟨by omega, by omega⟩ | omega
                  · refine ⟨fun q3 => ?_, fun q3 => ?_⟩
                    · refine ⟨?_, ?_⟩
                      · first | exact s4 | exact absurd q1 zR | exact ⟨by omega, by omega⟩ | omega
                      · refine ⟨fun q4 => ?_, fun q4 => ?_⟩
                        · exact hq0 h2 S (by omega) (by omega)
                        · refine ⟨?_, ?_⟩
                          · first | exact s4 | exact absurd q1 zR | exact ⟨by omega, by omega⟩ | omega
                          · refine ⟨fun q5 => ?_, fun q5 => ?_⟩
                            · rw [s5] at q5; omega
                            · rw [e7] at q3
                              exact run316 R cnt last k h2 S U zR l1 l2 l3 T (cnt + 1) (Or.inr ⟨rfl, by omega⟩) (by omega) (fun h3 S3 U3 => go R (cnt + 1) h3 S3 U3 zR (by omega))
                    · exact hq0 h2 S (by omega) (by omega)
  have loop : ∀ (n : Nat) (R cnt last k : Int) (h2 : XH), hi - k ≤ n → SPx h h2 lo hi → Runs h h2 lo R cnt last → lo ≤ last → last ≤ k → k ≤ hi → lo < k → cnt ≤ (last - lo) / 128 + 1 → (R = -1 → k < hi) → (k = hi → last = hi) → (∀ i j, last ≤ i → i < j → j < k → xpl h2 64 i = xpl h2 64 j) → xwp G m_DualPivotQuicksort_tryMergeRuns (d + 140) 19 [xR (-1), xR 64, xI lo, xI sz, xR R, xI hi, xI cnt, xI last, xI k, xZ, xZ, xZ, xZ] [] h2 Q X := by
    intro n
    have out : ∀ (R cnt last k : Int) (h2 : XH), SPx h h2 lo hi → Runs h h2 lo R cnt last → k = hi → (R = -1 → k < hi) → (k = hi → last = hi) → (cnt ≤ 1 → Q (xI 1) h2) ∧ (¬ cnt ≤ 1 → xwp G m_DualPivotQuicksort_tryMergeRuns (d + 140) 355 [xR (-1), xR 64, xZ, xI sz, xR R, xZ, xI cnt, xZ, xZ, xI lo, xZ, xZ, xZ] [] h2 Q X) := fun R cnt last k h2 S U ek nR lh => by
      rw [lh ek] at U
      exact finish h2 R cnt S U (fun y => by have := nR y; omega)
    induction n with
    | zero =>
      intro R cnt last k h2 e S U l1 l2 l3 l4 cb nR lh C
      have ek : k = hi := by omega
      have o := out R cnt last k h2 S U ek nR lh
      refine v_DualPivotQuicksort_tryMergeRuns_19 S.1.1 ?_
      refine ⟨fun q1 => ?_, fun q1 => ?_⟩
      · refine ⟨fun q2 => ?_, fun q2 => ?_⟩
        · exact o.1 q2
        · exact o.2 q2
      · refine ⟨?_, ?_⟩
        · exfalso; omega
        · refine ⟨?_, ?_⟩
          · exfalso; omega
          · refine ⟨?_, ?_⟩
            · exfalso; omega
            · refine ⟨?_, ?_⟩
              · exfalso; omega
              · refine ⟨fun q2 => ?_, fun q2 => ?_⟩
                · refine ⟨fun q3 => ?_, fun q3 => ?_⟩
                  · omega
                  · omega
                · omega
    | succ n ih =>
      intro R cnt last k h2 e S U l1 l2 l3 l4 cb nR lh C
      have hn2 := S.1.1.nx
      -- behind a run that ends at k2
      have next : ∀ (k2 : Int) (h3 : XH), SPx h h3 lo hi → Runs h h3 lo R cnt last → k < k2 → k2 ≤ hi → SrtG (xpl h3 64) last k2 → xwp G m_DualPivotQuicksort_tryMergeRuns (d + 140) 208 [xR (-1), xR 64, xI lo, xI sz, xR R, xI hi, xI cnt, xI last, xI k2, xZ, xZ, xZ, xZ] [] h3 Q X := fun k2 h3 S3 U3 b1 b2 T => run208 R cnt last k2 h3 S3 U3 l1 (by omega) b2 T cb (fun R3 c h4 S4 U4 nR3 cb3 => ih R3 c k2 k2 h4 (by omega) S4 U4 (by omega) (Int.le_refl _) b2 (by omega) cb3 (fun y => absurd y nR3) (fun y => y) (fun i j i0 ij jk => by omega))
      -- it rises
      have up : ∀ (m : Nat) (p : Int), hi - p ≤ m → k ≤ p → p < hi → SrtG (xpl h2 64) last (p + 1) → xwp G m_DualPivotQuicksort_tryMergeRuns (d + 140) 40 [xR (-1), xR 64, xI lo, xI sz, xR R, xI hi, xI cnt, xI last, xI p, xZ, xZ, xZ, xZ] [] h2 Q X := by
        intro m
        induction m with
        | zero => intro p e2 p0 p1; omega
        | succ m ihm =>
          intro p e2 p0 p1 T
          refine v_DualPivotQuicksort_tryMergeRuns_40 S.1.1 ?_
          refine ⟨?_, ?_⟩
          · first | exact ⟨by omega, by omega⟩ | omega
          · refine ⟨fun q1 => ?_, fun q1 => ?_⟩
            · exact next (p + 1) h2 S U (by omega) (by omega) T
            · refine ⟨?_, ?_⟩
              · first | exact ⟨by omega, by omega⟩ | omega
              · refine ⟨?_, ?_⟩
                · first | exact ⟨by omega, by omega⟩ | omega
                · refine ⟨?_, ?_⟩
                  · first | exact ⟨by omega, by omega⟩ | omega
                  · refine ⟨fun q2 => ?_, fun q2 => ?_⟩
                    · exact next (p + 1) h2 S U (by omega) (by omega) T
                    · rw [show p + 1 - 1 = p by omega] at q2
                      refine ihm (p + 1) (by omega) (by omega) (by omega) (fun x y x0 xy yk => ?_)
                      by_cases z : y = p + 1
                      · rw [z]
                        by_cases w : x = p
                        · rw [w]; omega
                        · have := T x p x0 (by omega) (by omega)
                          omega
                      · exact T x y x0 xy (by omega)
      -- it is turned round
      have turn : ∀ (m : Nat) (i j k2 : Int) (h3 : XH), j - i ≤ m → k < k2 → k2 ≤ hi → SP h2 h3 lo hi → (∀ x, x < last → xpl h3 64 x = xpl h2 64 x) → last - 1 ≤ i → i - (last - 1) = k2 - j → j ≤ k2 → i < j → (∀ x y, last ≤ x → x < y → y < k2 → (x ≤ i ∨ j ≤ y) → xpl h3 64 x ≤ xpl h3 64 y) → (∀ x y, i < x → x < y → y < j → xpl h3 64 y ≤ xpl h3 64 x) → xwp G m_DualPivotQuicksort_tryMergeRuns (d + 140) 118 [xR (-1), xR 64, xI lo, xI sz, xR R, xI hi, xI cnt, xI last, xI k2, xI i, xI j, xZ, xZ] [] h3 Q X := by
        intro m
        have done : ∀ (i j k2 : Int) (h3 : XH), k < k2 → k2 ≤ hi → SP h2 h3 lo hi → (∀ x, x < last → xpl h3 64 x = xpl h2 64 x) → (∀ x y, last ≤ x → x < y → y < k2 → (x ≤ i ∨ j ≤ y) → xpl h3 64 x ≤ xpl h3 64 y) → (∀ x y, i < x → x < y → y < j → xpl h3 64 x ≤ xpl h3 64 y) → xwp G m_DualPivotQuicksort_tryMergeRuns (d + 140) 166 [xR (-1), xR 64, xI lo, xI sz, xR R, xI hi, xI cnt, xI last, xI k2, xZ, xZ, xZ, xZ] [] h3 Q X := fun i j k2 h3 b1 b2 S3 o A B => by
          refine v_DualPivotQuicksort_tryMergeRuns_166 S3.1.1 ?_
          refine next k2 h3 (S.trans S3.x) (U.keep hnx S3.1.2.2.1 S3.1.2.2.2 S3.1.2.1 o) b1 b2 (fun x y x0 xy yk => ?_)
          by_cases z : x ≤ i ∨ j ≤ y
          · exact A x y x0 xy yk z
          · exact B x y (by omega) xy (by omega)
        induction m with
        | zero => intro i j k2 h3 e3 b1 b2 S3 o i0 ij jk lt; omega
        | succ m ihm =>
          intro i j k2 h3 e3 b1 b2 S3 o i0 ij jk lt A B
          have pe : j + -1 = j - 1 := by omega
          refine v_DualPivotQuicksort_tryMergeRuns_118 S3.1.1 ?_
          refine ⟨?_, ?_⟩
          · first | exact ⟨by omega, by omega⟩ | omega
          · refine ⟨?_, ?_⟩
            · first | exact ⟨by omega, by omega⟩ | omega
            · refine ⟨fun q1 => ?_, fun q1 => ?_⟩
              · exact done i j k2 h3 b1 b2 S3 o A (fun x y x0 xy yk => by omega)
              · refine ⟨?_, ?_⟩
                · first | exact ⟨by omega, by omega⟩ | omega
                · refine ⟨?_, ?_⟩
                  · first | exact ⟨by omega, by omega⟩ | omega
                  · refine ⟨?_, ?_⟩
                    · first | exact ⟨by omega, by omega⟩ | omega
                    · refine ⟨fun q2 => ?_, fun q2 => ?_⟩
                      · rw [pe] at q2
                        refine done i j k2 h3 b1 b2 S3 o A (fun x y x0 xy yk => ?_)
                        have a1 : xpl h3 64 x ≤ xpl h3 64 (i + 1) := by
                          by_cases z : x = i + 1
                          · rw [z]; exact Int.le_refl _
                          · exact B (i + 1) x (by omega) (by omega) (by omega)
                        have a2 : xpl h3 64 (j - 1) ≤ xpl h3 64 y := by
                          by_cases z : y = j - 1
                          · rw [z]; exact Int.le_refl _
                          · exact B y (j - 1) (by omega) (by omega) (by omega)
                        omega
                      · intro F9
                        rw [pe] at q1 q2 F9 ⊢
                        have sw := S3.swap (p := i + 1) (q := j - 1) (by omega) (by omega) (by omega) (by omega) l0 rfl rfl F9
                        have vl : xpl (xst (xst h3 64 (i + 1) (xpl h3 64 (j - 1))) 64 (j - 1) (xpl h3 64 (i + 1))) 64 (i + 1) = xpl h3 64 (j - 1) := by rw [xpl_ok (by omega), xpl_hit]
                        have vr : xpl (xst (xst h3 64 (i + 1) (xpl h3 64 (j - 1))) 64 (j - 1) (xpl h3 64 (i + 1))) 64 (j - 1) = xpl h3 64 (i + 1) := by rw [xpl_hit]
                        have vo : ∀ x, x ≠ i + 1 → x ≠ j - 1 → xpl (xst (xst h3 64 (i + 1) (xpl h3 64 (j - 1))) 64 (j - 1) (xpl h3 64 (i + 1))) 64 x = xpl h3 64 x := fun x a b => by rw [xpl_ok b, xpl_ok a]
                        have mid : xpl h3 64 (j - 1) ≤ xpl h3 64 (i + 1) := by omega
                        refine ihm (i + 1) (j - 1) k2 _ (by omega) b1 b2 sw (fun x hx => by rw [vo x (by omega) (by omega)]; exact o x hx) (by omega) (by omega) (by omega) (by omega) (fun x y x0 xy yk hxy => ?_) (fun x y x0 xy yk => ?_)
                        · by_cases z1 : x = i + 1
                          · rw [z1, vl]
                            by_cases z2 : y = j - 1
                            · rw [z2, vr]; exact mid
                            · rw [vo y (by omega) z2]
                              by_cases z3 : y < j
                              · exact B y (j - 1) (by omega) (by omega) (by omega)
                              · exact A (j - 1) y (by omega) (by omega) yk (Or.inr (by omega))
                          · by_cases z2 : x = j - 1
                            · rw [z2, vr, vo y (by omega) (by omega)]
                              exact A (i + 1) y (by omega) (by omega) yk (Or.inr (by omega))
                            · rw [vo x z1 z2]
                              by_cases z3 : y = i + 1
                              · rw [z3, vl]; exact A x (j - 1) x0 (by omega) (by omega) (Or.inl (by omega))
                              · by_cases z4 : y = j - 1
                                · rw [z4, vr]
                                  by_cases z5 : x ≤ i
                                  · exact A x (i + 1) x0 (by omega) (by omega) (Or.inl z5)
                                  · exact B (i + 1) x (by omega) (by omega) (by omega)
                                · rw [vo y z3 z4]; exact A x y x0 xy yk (by omega)
                        · rw [vo x (by omega) (by omega), vo y (by omega) (by omega)]; exact B x y (by omega) xy (by omega)
      have down : ∀ (m : Nat) (p : Int), hi - p ≤ m → k ≤ p → p < hi → (∀ x y, last ≤ x → x < y → y < p + 1 → xpl h2 64 y ≤ xpl h2 64 x) → xwp G m_DualPivotQuicksort_tryMergeRuns (d + 140) 81 [xR (-1), xR 64, xI lo, xI sz, xR R, xI hi, xI cnt, xI last, xI p, xZ, xZ, xZ, xZ] [] h2 Q X := by
        intro m
        induction m with
        | zero => intro p e2 p0 p1; omega
        | succ m ihm =>
          intro p e2 p0 p1 T
          have tn := turn (p + 1 - (last - 1)).toNat (last - 1) (p + 1) (p + 1) h2 (by omega) (by omega) (by omega) (SP.refl S.1.1 lo hi) (fun _ _ => rfl) (Int.le_refl _) (by omega) (Int.le_refl _) (by omega) (fun x y x0 xy yk w => by omega) (fun x y x0 xy yk => T x y (by omega) xy yk)
          refine v_DualPivotQuicksort_tryMergeRuns_81 S.1.1 ?_
          refine ⟨?_, ?_⟩
          · first | exact ⟨by omega, by omega⟩ | omega
          · refine ⟨fun q1 => ?_, fun q1 => ?_⟩
            · refine ⟨?_, ?_⟩
              · first | exact ⟨by omega, by omega⟩ | omega
              · exact tn
            · refine ⟨?_, ?_⟩
              · first | exact ⟨by omega, by omega⟩ | omega
              · refine ⟨?_, ?_⟩
                · first | exact ⟨by omega, by omega⟩ | omega
                · refine ⟨?_, ?_⟩
                  · first | exact ⟨by omega, by omega⟩ | omega
                  · refine ⟨fun q2 => ?_, fun q2 => ?_⟩
                    · refine ⟨?_, ?_⟩
                      · first | exact ⟨by omega, by omega⟩ | omega
                      · exact tn
                    · rw [show p + 1 - 1 = p by omega] at q2
                      refine ihm (p + 1) (by omega) (by omega) (by omega) (fun x y x0 xy yk => ?_)
                      by_cases z : y = p + 1
                      · rw [z]
                        by_cases w : x = p
                        · rw [w]; omega
                        · have := T x p x0 (by omega) (by omega)
                          omega
                      · exact T x y x0 xy (by omega)
      have flat : ∀ (m : Nat) (p v : Int), hi - p ≤ m → k ≤ p → p < hi → v = xpl h2 64 p → (∀ x y, last ≤ x → x < y → y < p + 1 → xpl h2 64 x = xpl h2 64 y) → xwp G m_DualPivotQuicksort_tryMergeRuns (d + 140) 175 [xR (-1), xR 64, xI lo, xI sz, xR R, xI hi, xI cnt, xI last, xI p, xL v, xZ, xZ, xZ] [] h2 Q X := by
        intro m
        induction m with
        | zero => intro p v e2 p0 p1; omega
        | succ m ihm =>
          intro p v e2 p0 p1 hv T
          have at198 : xwp G m_DualPivotQuicksort_tryMergeRuns (d + 140) 198 [xR (-1), xR 64, xI lo, xI sz, xR R, xI hi, xI cnt, xI last, xI (p + 1), xZ, xZ, xZ, xZ] [] h2 Q X := by
            refine v_DualPivotQuicksort_tryMergeRuns_198 S.1.1 ?_
            refine ⟨fun q1 => ?_, fun q1 => ?_⟩
            · exact next (p + 1) h2 S U (by omega) (by omega) (fun x y x0 xy yk => Int.le_of_eq (T x y x0 xy yk))
            · exact ih R cnt last (p + 1) h2 (by omega) S U l1 (by omega) (by omega) (by omega) cb (fun _ => by omega) (fun y => by omega) T
          refine v_DualPivotQuicksort_tryMergeRuns_175 S.1.1 ?_
          refine ⟨?_, ?_⟩
          · first | exact ⟨by omega, by omega⟩ | omega
          · refine ⟨fun q1 => ?_, fun q1 => ?_⟩
            · exact at198
            · refine ⟨?_, ?_⟩
              · first | exact ⟨by omega, by omega⟩ | omega
              · refine ⟨?_, ?_⟩
                · first | exact ⟨by omega, by omega⟩ | omega
                · refine ⟨fun q2 => ?_, fun q2 => ?_⟩
                  · refine ihm (p + 1) v (by omega) (by omega) (by omega) q2 (fun x y x0 xy yk => ?_)
                    by_cases z : y = p + 1
                    · rw [z, ← q2, hv]
                      by_cases w : x = p
                      · rw [w]
                      · exact T x p x0 (by omega) (by omega)
                    · exact T x y x0 xy (by omega)
                  · exact at198
      have o := fun ek => out R cnt last k h2 S U ek nR lh
      refine v_DualPivotQuicksort_tryMergeRuns_19 S.1.1 ?_
      refine ⟨fun q1 => ?_, fun q1 => ?_⟩
      · refine ⟨fun q2 => ?_, fun q2 => ?_⟩
        · exact (o (by omega)).1 q2
        · exact (o (by omega)).2 q2
      · refine ⟨?_, ?_⟩
        · first | exact ⟨by omega, by omega⟩ | omega
        · refine ⟨?_, ?_⟩
          · first | exact ⟨by omega, by omega⟩ | omega
          · refine ⟨?_, ?_⟩
            · first | exact ⟨by omega, by omega⟩ | omega
            · refine ⟨?_, ?_⟩
              · first | exact ⟨by omega, by omega⟩ | omega
              · refine ⟨fun q2 => ?_, fun q2 => ?_⟩
                · refine ⟨fun q3 => ?_, fun q3 => ?_⟩
                  · have eq : xpl h2 64 (k - 1) = xpl h2 64 k := by omega
                    refine flat (hi - k).toNat k _ (by omega) (Int.le_refl _) (by omega) rfl (fun x y x0 xy yk => ?_)
                    by_cases z : y = k
                    · rw [z, ← eq]
                      by_cases w : x = k - 1
                      · rw [w]
                      · exact C x (k - 1) x0 (by omega) (by omega)
                    · exact C x y x0 xy (by omega)
                  · refine down (hi - k).toNat k (by omega) (Int.le_refl _) (by omega) (fun x y x0 xy yk => ?_)
                    by_cases z : y = k
                    · rw [z]
                      by_cases w : x = k - 1
                      · rw [w]; omega
                      · have := C x (k - 1) x0 (by omega) (by omega)
                        omega
                    · exact Int.le_of_eq (C x y x0 xy (by omega)).symm
                · refine up (hi - k).toNat k (by omega) (Int.le_refl _) (by omega) (fun x y x0 xy yk => ?_)
                  by_cases z : y = k
                  · rw [z]
                    by_cases w : x = k - 1
                    · rw [w]; omega
                    · have := C x (k - 1) x0 (by omega) (by omega)
                      omega
                  · exact Int.le_of_eq (C x y x0 xy (by omega))
  refine v_DualPivotQuicksort_tryMergeRuns_0 F ?_
  refine ⟨?_, ?_⟩
  · exact ⟨by omega, by omega⟩
  · refine ⟨?_, ?_⟩
    · exact ⟨by omega, by omega⟩
    · rw [← hh]
      exact loop (hi - lo).toNat (-1) 1 lo (lo + 1) h (by omega) ⟨⟨F, xsm.refl h⟩, fun _ => rfl, fun _ _ => rfl⟩ (Or.inl ⟨rfl, rfl, rfl, rfl, rfl⟩) (Int.le_refl _) (by omega) (by omega) (by omega) (by omega) (fun _ => by omega) (fun _ => by omega) (fun i j i0 ij jk => by omega)

end
