/-! ===== sort0 ===== -/
section
/-! the sort itself -/
theorem SPx.mem {h0 h : XH} {lo hi i : Int} (S : SPx h0 h lo hi) (i0 : lo ≤ i) (i1 : i < hi) : ∃ j, lo ≤ j ∧ j < hi ∧ xpl h 64 i = xpl h0 64 j := by
  have a := cnR_has (xpl h 64) i0 i1
  rw [S.2.1] at a
  obtain ⟨j, j0, j1, j2⟩ := cnR_mem a
  exact ⟨j, j0, j1, j2.symm⟩
theorem SPx.wide {h0 h : XH} {lo hi lo' hi' : Int} (S : SPx h0 h lo hi) (a0 : lo' ≤ lo) (a1 : lo ≤ hi) (a2 : hi ≤ hi') : SPx h0 h lo' hi' := by
  refine ⟨S.1, fun w => ?_, fun i hi => S.2.2 i (by omega)⟩
  rw [cnR_split (xpl h 64) w (lo := lo') (m := lo) (hi := hi') a0 (by omega), cnR_split (xpl h 64) w (lo := lo) (m := hi) (hi := hi') a1 a2, cnR_split (xpl h0 64) w (lo := lo') (m := lo) (hi := hi') a0 (by omega), cnR_split (xpl h0 64) w (lo := lo) (m := hi) (hi := hi') a1 a2, S.2.1 w, cnR_congr (fun i _ i1 => S.2.2 i (Or.inl i1)), cnR_congr (fun i i0 _ => S.2.2 i (Or.inr i0))]
theorem SPx.le {h0 h : XH} {lo hi v : Int} (S : SPx h0 h lo hi) (hv : ∀ i, lo ≤ i → i < hi → v ≤ xpl h0 64 i) : ∀ i, lo ≤ i → i < hi → v ≤ xpl h 64 i := fun i i0 i1 => by
  obtain ⟨j, j0, j1, j2⟩ := S.mem i0 i1
  rw [j2]; exact hv j j0 j1
theorem SPx.ge {h0 h : XH} {lo hi v : Int} (S : SPx h0 h lo hi) (hv : ∀ i, lo ≤ i → i < hi → xpl h0 64 i ≤ v) : ∀ i, lo ≤ i → i < hi → xpl h 64 i ≤ v := fun i i0 i1 => by
  obtain ⟨j, j0, j1, j2⟩ := S.mem i0 i1
  rw [j2]; exact hv j j0 j1
/-- three are exchanged in a ring -/
theorem SP.rot {h0 h : XH} {lo hi p q r a b c : Int} (S : SP h0 h lo hi) (l0 : 0 ≤ lo) (p0 : lo ≤ p) (p1 : p < hi) (q0 : lo ≤ q) (q1 : q < hi) (r0 : lo ≤ r) (r1 : r < hi) (pq : p ≠ q) (pr : p ≠ r) (qr : q ≠ r) (ha : a = xpl h 64 q) (hb : b = xpl h 64 r) (hc : c = xpl h 64 p) (F : xFix (xst (xst (xst h 64 p a) 64 q b) 64 r c)) : SP h0 (xst (xst (xst h 64 p a) 64 q b) 64 r c) lo hi := by
  refine ⟨⟨F, ((S.1.2.1.st (by omega) (Or.inl rfl)).st (by omega) (Or.inl rfl)).st (by omega) (Or.inl rfl), S.1.2.2.1, S.1.2.2.2⟩, fun w => ?_, fun i hi => ?_⟩
  · rw [cnR_st r0 r1, cnR_st q0 q1, cnR_st p0 p1, xpl_ok (fun y => qr y.symm), xpl_ok (fun y => pr y.symm), xpl_ok (fun y => pq y.symm), S.2.1 w, ha, hb, hc]
    omega
  · rw [xpl_ok (by omega), xpl_ok (by omega), xpl_ok (by omega)]; exact S.2.2 i hi
theorem xand_1 {v : Int} (h0 : 0 ≤ v) (h1 : v ≤ 400) : xand v 1 = v % 2 := by
  have key : ∀ i : Fin 401, xand (i.val : Int) 1 = (i.val : Int) % 2 := by decide +kernel
  have := key ⟨v.toNat, by omega⟩
  rwa [show ((⟨v.toNat, by omega⟩ : Fin 401).val : Int) = v by show ((v.toNat : Nat) : Int) = v; omega] at this
theorem xior_1 {v : Int} (h0 : 0 ≤ v) (h1 : v ≤ 400) : xior v 1 = if v % 2 = 1 then v else v + 1 := by
  have key : ∀ i : Fin 401, xior (i.val : Int) 1 = if (i.val : Int) % 2 = 1 then (i.val : Int) else (i.val : Int) + 1 := by decide +kernel
  have := key ⟨v.toNat, by omega⟩
  rwa [show ((⟨v.toNat, by omega⟩ : Fin 401).val : Int) = v by show ((v.toNat : Nat) : Int) = v; omega] at this
theorem xshl_3 {v : Int} (h0 : 0 ≤ v) (h1 : v ≤ 1000000) : xshl v 3 = 8 * v := by
  unfold xshl
  obtain ⟨n, rfl⟩ : ∃ n : Nat, v = n := ⟨v.toNat, by omega⟩
  have e : Int32.ofInt (n : Int) = nI n := Int32.ofInt_eq_ofNat
  rw [e, pk_shlN (n := n) (Int32.ofInt 3 &&& 31) 3 (by decide) (by omega), nI_toInt (by omega)]
  omega
theorem s_sort0 {G : XG} {d : Nat} {h : XH} {Q : XV → XH → Prop} {X : Nat → XH → Prop} {b lo hi : Int} (F : xFix h) (b0 : 0 ≤ b) (b1 : b ≤ 400) (l0 : 0 ≤ lo) (l1 : lo ≤ hi) (l2 : hi ≤ 12000) (odd : b % 2 = 1 → 1 ≤ lo ∧ ∀ i, lo ≤ i → i < hi → xpl h 64 (lo - 1) ≤ xpl h 64 i) (rm : 44 ≤ hi - lo → (b = 0 ∨ 4096 < hi - lo) → xnx h + 2 ≤ xKC ∧ xsl h + 127 + (hi - lo) ≤ xKS)
    (hq : ∀ h', SPx h h' lo hi → Srt h' lo hi → ((xnx h' = xnx h ∧ xsl h' = xsl h) ∨ (44 ≤ hi - lo ∧ (b = 0 ∨ 4096 < hi - lo) ∧ xnx h' ≤ xnx h + 2 ∧ xsl h' ≤ xsl h + 127 + (hi - lo))) → Q xN h')
    (c91 : 44 ≤ hi - lo → ∀ hA, SPx h hA lo hi → ((xnx hA = xnx h ∧ xsl hA = xsl h) ∨ ((b = 0 ∨ 4096 < hi - lo) ∧ xnx hA ≤ xnx h + 1 ∧ xsl hA ≤ xsl h + 127)) → xwp G m_DualPivotQuicksort_sort_SorteraJIII (d + 141) 91 [xR (-1), xR 64, xI b, xI lo, xI hi, xI (hi - 1), xI (hi - lo), xZ, xZ, xZ, xZ, xZ, xZ, xZ, xZ, xZ, xZ, xZ, xZ, xZ, xZ, xZ, xZ, xZ, xZ] [] hA Q X) : xwp G m_DualPivotQuicksort_sort_SorteraJIII (d + 141) 0 [xR (-1), xR 64, xI b, xI lo, xI hi, xZ, xZ, xZ, xZ, xZ, xZ, xZ, xZ, xZ, xZ, xZ, xZ, xZ, xZ, xZ, xZ, xZ, xZ, xZ, xZ] [] h Q X := by
  have xa := xand_1 b0 b1
  have same : ∀ h', SP h h' lo hi → Srt h' lo hi → Q xN h' := fun h' S T => hq h' S.x T (Or.inl ⟨S.1.2.2.1, S.1.2.2.2⟩)
  have try_ : 44 ≤ hi - lo → (b = 0 ∨ 4096 < hi - lo) → xwp G m_DualPivotQuicksort_tryMergeRuns (d + 140) 0 [xR (-1), xR 64, xI lo, xI (hi - lo), xZ, xZ, xZ, xZ, xZ, xZ, xZ, xZ, xZ] [] h (fun v9 h9 => xwp G m_DualPivotQuicksort_sort_SorteraJIII (d + 141) 87 [xR (-1), xR 64, xI b, xI lo, xI hi, xI (hi - 1), xI (hi - lo), xZ, xZ, xZ, xZ, xZ, xZ, xZ, xZ, xZ, xZ, xZ, xZ, xZ, xZ, xZ, xZ, xZ, xZ] (xpush v9 []) h9 Q X) X := fun s44 hb => by
    obtain ⟨r1, r2⟩ := rm s44 hb
    have e : lo + (hi - lo) = hi := by omega
    refine s_tryMergeRuns F l0 (by omega) (by omega) r1 r2 (fun h' S T n9 l9 => ?_) (fun h' S n9 l9 => ?_)
    · rw [e] at S T
      refine v_DualPivotQuicksort_sort_SorteraJIII_87 S.1.1 ?_
      refine ⟨fun q1 => ?_, fun q1 => ?_⟩
      · exact absurd q1 (by decide)
      · exact hq h' S T (Or.inr ⟨s44, hb, n9, l9⟩)
    · rw [e] at S
      refine v_DualPivotQuicksort_sort_SorteraJIII_87 S.1.1 ?_
      refine ⟨fun q1 => ?_, fun q1 => ?_⟩
      · exact c91 s44 h' S (Or.inr ⟨hb, n9, l9⟩)
      · exact absurd rfl q1
  have at46 : xwp G m_DualPivotQuicksort_sort_SorteraJIII (d + 141) 46 [xR (-1), xR 64, xI b, xI lo, xI hi, xI (hi - 1), xI (hi - lo), xZ, xZ, xZ, xZ, xZ, xZ, xZ, xZ, xZ, xZ, xZ, xZ, xZ, xZ, xZ, xZ, xZ, xZ] [] h Q X := by
    have id91 := fun s44 : 44 ≤ hi - lo => c91 s44 h ⟨⟨F, xsm.refl h⟩, fun _ => rfl, fun _ _ => rfl⟩ (Or.inl ⟨rfl, rfl⟩)
    refine v_DualPivotQuicksort_sort_SorteraJIII_46 F ?_
    refine ⟨fun q1 => ?_, fun q1 => ?_⟩
    · refine ⟨fun q2 => ?_, fun q2 => ?_⟩
      · exact try_ q1 (Or.inl q2)
      · refine ⟨fun q3 => ?_, fun q3 => ?_⟩
        · exact id91 q1
        · refine ⟨fun q4 => ?_, fun q4 => ?_⟩
          · exact id91 q1
          · exact try_ q1 (Or.inr (by omega))
    · refine s_insertionSort F l0 l1 l2 (fun h' S T => ?_)
      refine v_DualPivotQuicksort_sort_SorteraJIII_60 S.1.1 ?_
      exact same h' S T
  by_cases s450 : hi - lo ≤ 100000
  · have sh5 : xshr (hi - lo) 5 = (hi - lo) / 32 := by rw [xshr_div (by omega) (by omega) (by decide) (by decide)]; rfl
    have sl3 := xshl_3 (v := (hi - lo) / 32) (by omega) (by omega)
    have sl4 : xshl (xshr (hi - lo) 5) 3 = 8 * ((hi - lo) / 32) := by rw [sh5]; exact sl3
    refine v_DualPivotQuicksort_sort_SorteraJIII_0 F ?_
    refine ⟨?_, ?_⟩
    · exact ⟨by omega, by omega⟩
    · refine ⟨?_, ?_⟩
      · exact ⟨by omega, by omega⟩
      · refine ⟨?_, ?_⟩
        · exact ⟨by omega, by omega⟩
        · refine ⟨fun q1 => ?_, fun q1 => ?_⟩
          · exact at46
          · refine ⟨fun q2 => ?_, fun q2 => ?_⟩
            · exact at46
            · refine ⟨?_, ?_⟩
              · exact ⟨by omega, by omega⟩
              · refine ⟨?_, ?_⟩
                · exact ⟨by omega, by omega⟩
                · rw [xa] at q2
                  obtain ⟨o1, o2⟩ := odd (by omega)
                  rw [sl4]
                  have post : ∀ h', SP h h' lo hi → Srt h' lo hi → xwp G m_DualPivotQuicksort_sort_SorteraJIII (d + 141) 45 [xZ, xZ, xZ, xZ, xZ, xZ, xZ, xZ, xZ, xZ, xZ, xZ, xZ, xZ, xZ, xZ, xZ, xZ, xZ, xZ, xZ, xZ, xZ, xZ, xZ] (xpush xN []) h' Q X := fun h' S T => v_DualPivotQuicksort_sort_SorteraJIII_45 S.1.1 (same h' S T)
                  by_cases z : lo = hi
                  · refine v_DualPivotQuicksort_mixedInsertionSort_0 F ?_
                    refine ⟨fun q1 => ?_, fun q1 => ?_⟩
                    · refine v_DualPivotQuicksort_mixedInsertionSort_5 F ?_
                      refine ⟨?_, ?_⟩
                      · first | exact ⟨by omega, by omega⟩ | omega
                      · refine ⟨fun q1 => ?_, fun q1 => ?_⟩
                        · exact post h (SP.refl F lo hi) (fun i j i0 ij jk => by omega)
                        · refine ⟨?_, ?_⟩
                          · first | exact ⟨by omega, by omega⟩ | omega
                          · refine ⟨?_, ?_⟩
                            · first | exact ⟨by omega, by omega⟩ | omega
                            · omega
                    · refine ⟨?_, ?_⟩
                      · omega
                      · refine ⟨?_, ?_⟩
                        · omega
                        · omega
                  · exact s_mixed F o1 (by omega) (by omega) l2 (by omega) o2 post
  · omega
def kS (n : Nat) (s b : Int) : Int := if s < 44 then 0 else if s ≤ 4096 then (if b = 0 then 127 + s else 0) else 127 * (n + 1) + s
def kN (n : Nat) (s b : Int) : Int := if s < 44 then 0 else if s ≤ 4096 then (if b = 0 then 2 else 0) else 2 * (n + 1)
theorem kS_nn (n : Nat) {s b : Int} (h : 0 ≤ s) : 0 ≤ kS n s b ∧ 0 ≤ kN n s b := by
  unfold kS kN
  by_cases a : s < 44
  · rw [if_pos a, if_pos a]; exact ⟨by decide, by decide⟩
  · rw [if_neg a, if_neg a]
    by_cases c : s ≤ 4096
    · rw [if_pos c, if_pos c]; split <;> omega
    · rw [if_neg c, if_neg c]; omega
theorem kS_one (n : Nat) {s b : Int} (hb : b ≠ 0) : (s ≤ 4096 → kS n s b = 0 ∧ kN n s b = 0) ∧ (4096 < s → kS n s b = 127 * (n + 1) + s ∧ kN n s b = 2 * (n + 1)) := by
  unfold kS kN
  refine ⟨fun z => ?_, fun z => ?_⟩
  · by_cases a : s < 44
    · rw [if_pos a, if_pos a]; exact ⟨rfl, rfl⟩
    · rw [if_neg a, if_neg a, if_pos z, if_pos z, if_neg hb, if_neg hb]; exact ⟨rfl, rfl⟩
  · rw [if_neg (by omega), if_neg (by omega), if_neg (by omega), if_neg (by omega)]; exact ⟨rfl, rfl⟩
/-- the parts of a stretch take no more than it has -/
theorem kS_parts (n : Nat) {s s1 s2 s3 b b1 b2 b3 : Int} (h1 : 0 ≤ s1) (h2 : 0 ≤ s2) (h3 : 0 ≤ s3) (hs : s1 + s2 + s3 ≤ s) (s44 : 44 ≤ s) (s8 : s ≤ 8192) (n1 : b1 ≠ 0) (n2 : b2 ≠ 0) (n3 : b3 ≠ 0) : (kS n s1 b1 + kS n s2 b2 + kS n s3 b3 ≤ kS (n + 1) s b ∧ kN n s1 b1 + kN n s2 b2 + kN n s3 b3 ≤ kN (n + 1) s b) ∧ ((b = 0 ∨ 4096 < s) → 127 + (kS n s1 b1 + kS n s2 b2 + kS n s3 b3) ≤ kS (n + 1) s b ∧ 1 + (kN n s1 b1 + kN n s2 b2 + kN n s3 b3) ≤ kN (n + 1) s b) := by
  obtain ⟨a1, a2⟩ := kS_one n (s := s1) n1
  obtain ⟨c1, c2⟩ := kS_one n (s := s2) n2
  obtain ⟨e1, e2⟩ := kS_one n (s := s3) n3
  by_cases z : s ≤ 4096
  · have a := a1 (by omega)
    have c := c1 (by omega)
    have e := e1 (by omega)
    have nn := kS_nn (n + 1) (s := s) (b := b) (by omega)
    refine ⟨⟨by omega, by omega⟩, fun hb => ?_⟩
    have hb : b = 0 := by omega
    have k1 : kS (n + 1) s b = 127 + s := by unfold kS; rw [if_neg (by omega), if_pos z, if_pos hb]
    have k2 : kN (n + 1) s b = 2 := by unfold kN; rw [if_neg (by omega), if_pos z, if_pos hb]
    omega
  · have k1 : kS (n + 1) s b = 127 * (((n + 1 : Nat) : Int) + 1) + s := by unfold kS; rw [if_neg (by omega), if_neg z]
    have k2 : kN (n + 1) s b = 2 * (((n + 1 : Nat) : Int) + 1) := by unfold kN; rw [if_neg (by omega), if_neg z]
    by_cases u1 : s1 ≤ 4096
    · have a := a1 u1
      by_cases u2 : s2 ≤ 4096
      · have c := c1 u2
        by_cases u3 : s3 ≤ 4096
        · have e := e1 u3; omega
        · have e := e2 (by omega); omega
      · have c := c2 (by omega)
        have e := e1 (by omega)
        omega
    · have a := a2 (by omega)
      have c := c1 (by omega)
      have e := e1 (by omega)
      omega

end
