/-! ===== mowords2 ===== -/
section
theorem wvF_succ {ls : List Int} {k : Nat} (hk : k ≤ 11) : wvF ls (k + 1) = wvF ls k + sgn (ls[k]?.getD 0) * 37 ^ (11 - k) := by
  obtain ⟨a, b, -⟩ := wvF_rng (ls := ls) k (by omega)
  have hs := sgn_rng (ls[k]?.getD 0)
  have e : wvF ls (k + 1) = wsg (wvF ls k) k (sgn (ls[k]?.getD 0)) := rfl
  have ep : p37 (11 - (k : Int)) = 37 ^ (11 - k) := by
    rw [show (11 : Int) - (k : Int) = ((11 - k : Nat) : Int) by omega]
    exact p37_nat _ (by omega)
  have e12 : (37 : Int) ^ (12 - k) = 37 ^ (11 - k) * 37 := by rw [show 12 - k = 11 - k + 1 by omega]; exact Int.pow_succ _ _
  have hp := pow37_le (11 - k) (by omega)
  obtain ⟨P, hP⟩ : ∃ P : Int, P = 37 ^ (11 - k) := ⟨_, rfl⟩
  obtain ⟨S, hS⟩ : ∃ S : Int, S = sgn (ls[k]?.getD 0) := ⟨_, rfl⟩
  rw [← hP] at ep e12 hp ⊢
  rw [← hS] at hs e ⊢
  have m1 : S * P ≤ 36 * P := Int.mul_le_mul_of_nonneg_right hs.2 (by omega)
  have m0 : 0 ≤ S * P := Int.mul_nonneg hs.1 (by omega)
  rw [e12] at b
  rw [e]
  unfold wsg
  rw [ep, xw64_id (show xlR (S * P) by exact ⟨by omega, by omega⟩), xw64_id (show xlR (wvF ls k + S * P) by exact ⟨by omega, by omega⟩)]
theorem wvF_congr {ls ms : List Int} : ∀ k : Nat, (∀ j : Nat, j < k → ls[j]? = ms[j]?) → wvF ls k = wvF ms k
  | 0, _ => rfl
  | k + 1, h => by
    have a : wvF ls (k + 1) = wsg (wvF ls k) k (sgn (ls[k]?.getD 0)) := rfl
    have b : wvF ms (k + 1) = wsg (wvF ms k) k (sgn (ms[k]?.getD 0)) := rfl
    rw [a, b, wvF_congr k (fun j hj => h j (by omega)), h k (by omega)]
theorem p_M_packed {G : XG} {d : Nat} {h : XH} {Q : XV → XH → Prop} {X : Nat → XH → Prop} {n : Nat} {ls : List Int} (F : xFix h) (L : MLet h ls) (hn : n ≤ ls.length) (hl : ∀ c ∈ ls, sgn c ≠ 0 ∧ fo c = c) (hq : Q (xL (wvF ls n)) h) : xwp G m_M_packed (d + 2) 0 [xR 53, xI n, xZ, xZ, xZ] [] h Q X := by
  obtain ⟨l1, l2⟩ := L
  have loop : ∀ (m k : Nat) (w : Int), k + m = 12 → 0 ≤ w → w * 37 ^ (12 - k) = wvF ls (min k n) → xwp G m_M_packed (d + 2) 5 [xR 53, xI n, xL w, xZ, xI k] [] h Q X := by
    intro m
    induction m with
    | zero =>
      intro k w e w0 hv
      have ek : k = 12 := by omega
      subst ek
      have hv : w * 37 ^ 0 = wvF ls (min 12 n) := hv
      rw [Int.pow_zero, Int.mul_one, Nat.min_eq_right (by omega)] at hv
      refine v_M_packed_5 F ?_
      refine ⟨fun q1 => ?_, fun q1 => ?_⟩
      · rw [hv]; exact hq
      · refine ⟨fun q2 => ?_, fun q2 => ?_⟩
        · omega
        · refine ⟨?_, ?_⟩
          · first | omega | assumption | exact ⟨by omega, by omega⟩ | (simp only [*]; done) | grind
          · omega
    | succ m ih =>
      intro k w e w0 hv
      have hk : k ≤ 11 := by omega
      have e12 : (37 : Int) ^ (12 - k) = 37 ^ (11 - k) * 37 := by rw [show 12 - k = 11 - k + 1 by omega]; exact Int.pow_succ _ _
      have hp := pow37_le (11 - k) (by omega)
      obtain ⟨b0, b1, -⟩ := wvF_rng (ls := ls) (min k n) (by omega)
      have hp2 := pow37_le (12 - min k n) (by omega)
      have hw : w * 37 ≤ wvF ls (min k n) := by
        rw [← hv, e12, ← Int.mul_assoc, Int.mul_right_comm]
        have : w * 37 * 1 ≤ w * 37 * 37 ^ (11 - k) := Int.mul_le_mul_of_nonneg_left hp.1 (by omega)
        rw [Int.mul_one] at this
        exact this
      have x1 : xw64 (w * 37) = w * 37 := xw64_id (show xlR (w * 37) from ⟨by omega, by omega⟩)
      have dist : ∀ s : Int, (w * 37 + s) * 37 ^ (11 - k) = wvF ls (min k n) + s * 37 ^ (11 - k) := fun s => by
        rw [Int.add_mul, ← hv, e12, ← Int.mul_assoc, Int.mul_right_comm]
      refine v_M_packed_5 F ?_
      refine ⟨fun q1 => ?_, fun q1 => ?_⟩
      · omega
      · refine ⟨fun q2 => ?_, fun q2 => ?_⟩
        · rw [x1, xw64_id (show xlR (w * 37 + 0) from ⟨by omega, by omega⟩)]
          refine ih (k + 1) (w * 37 + 0) (by omega) (by omega) ?_
          rw [show 12 - (k + 1) = 11 - k by omega, dist, Int.zero_mul, Int.add_zero, show min (k + 1) n = min k n by omega]
        · refine ⟨?_, ?_⟩
          · omega
          · have hkn : k < n := by omega
            have lk := l2 k (by omega)
            have lm := List.mem_of_getElem? lk
            obtain ⟨g1, g2⟩ := hl _ lm
            refine p_M_digitOf F g1 g2 ?_
            have sr := sgn_rng (xpl h 63 k)
            rw [x1]
            refine v_M_packed_33 F ?_
            refine ⟨?_, ?_⟩
            · exact ⟨by omega, by omega⟩
            · rw [xw64_id (show xlR (w * 37 + sgn (xpl h 63 k)) from ⟨by omega, by omega⟩)]
              refine ih (k + 1) _ (by omega) (by omega) ?_
              rw [show 12 - (k + 1) = 11 - k by omega, dist, show min (k + 1) n = k + 1 by omega, show min k n = k by omega, wvF_succ hk, lk]
              rfl
  refine v_M_packed_0 F ?_
  refine loop 12 0 0 rfl (Int.le_refl _) ?_
  rw [Int.zero_mul, show min 0 n = 0 by omega]; rfl
theorem fo_idem {b : Int} (h : sgn b ≠ 0) : sgn (byt (sgn b)) ≠ 0 ∧ fo (byt (sgn b)) = byt (sgn b) := by
  refine ⟨by rw [byt_sgn h]; exact h, ?_⟩
  have r := sgn_rng b
  unfold byt fo
  split <;> rw [if_neg (by omega)]
theorem runL_let {bs : List Int} {x n : Int} (hr : ∀ k, 0 ≤ k → k < n → sgn (lat bs (x + k)) ≠ 0) : ∀ c ∈ runL bs x (x + n), sgn c ≠ 0 ∧ fo c = c := by
  intro c hc
  unfold runL at hc
  obtain ⟨k, k1, k2⟩ := List.mem_map.mp hc
  rw [List.mem_range] at k1
  rw [← k2]
  exact fo_idem (hr k (by omega) (by omega))
theorem s_M_cutToLetters {G : XG} {d : Nat} {h : XH} {Q : XV → XH → Prop} {X : Nat → XH → Prop} {x n : Int} {bs : List Int} (F : xFix h) (R : MTR h bs) (h0 : 0 ≤ x) (h1 : 0 ≤ n) (h2 : x + n ≤ bs.length) (hr : ∀ k, 0 ≤ k → k < n → sgn (lat bs (x + k)) ≠ 0)
    (hq : ∀ h', xFix h' → xsm (fun c => c = 63) h h' → MLet h' (runL bs x (x + n)) → xnx h' = xnx h → xsl h' = xsl h → Q (xI (runL bs x (x + n)).length) h') : xwp G m_M_cutToLetters (d + 3) 0 [xR 53, xI x, xI n, xZ, xZ] [] h Q X := by
  have rl := runL_len (bs := bs) (s := x) (e := x + n) (by omega)
  have em : min n 12 = (runL bs x (x + n)).length := by omega
  have hnx := F.nx
  have hb := R.2.1
  have loop : ∀ (m k : Nat) (h2 : XH), k + m = (runL bs x (x + n)).length → xFix h2 → xsm (fun c => c = 63) h h2 → (∀ j : Nat, j < k → (runL bs x (x + n))[j]? = some (xpl h2 63 j)) → xnx h2 = xnx h → xsl h2 = xsl h → xwp G m_M_cutToLetters (d + 3) 10 [xR 53, xI x, xZ, xI (runL bs x (x + n)).length, xI k] [] h2 Q X := by
    intro m
    induction m with
    | zero =>
      intro k h2 e F2 S2 hk n2 l2
      refine v_M_cutToLetters_10 F2 ?_
      refine ⟨fun q1 => ?_, fun q1 => ?_⟩
      · exact hq h2 F2 S2 ⟨by omega, fun i hi => hk i (by omega)⟩ n2 l2
      · refine ⟨?_, ?_⟩
        · exact ⟨by omega, by omega⟩
        · omega
    | succ m ih =>
      intro k h2 e F2 S2 hk n2 l2
      have at1 := R.at (x := x + k) (by omega) (by omega)
      have ek := runL_at (bs := bs) (s := x) (e := x + n) (k := k) (by omega)
      rw [fo_byt (hr k (by omega) (by omega))] at ek
      have e54 : xpl h2 54 (x + k) = lat bs (x + k) := (S2.pl (by omega) (by decide) _).trans at1.1
      refine v_M_cutToLetters_10 F2 ?_
      refine ⟨fun q1 => ?_, fun q1 => ?_⟩
      · omega
      · refine ⟨?_, ?_⟩
        · exact ⟨by omega, by omega⟩
        · refine p_M_folded F2 (by omega) (by omega) ?_
          rw [e54]
          refine v_M_cutToLetters_30 F2 ?_
          refine ⟨?_, ?_⟩
          · first | exact ft_63 F2 | (rw [fl_63 F2]; omega) | exact ⟨by omega, by omega⟩ | omega
          · refine ⟨?_, ?_⟩
            · first | exact ft_63 F2 | (rw [fl_63 F2]; omega) | exact ⟨by omega, by omega⟩ | omega
            · refine ⟨?_, ?_⟩
              · first | exact ft_63 F2 | (rw [fl_63 F2]; omega) | exact ⟨by omega, by omega⟩ | omega
              · intro F9
                refine ih (k + 1) _ (by omega) F9 (S2.st (by omega) (Or.inl rfl)) (fun j hj => ?_) n2 l2
                rw [xpl_st]
                by_cases z : j = k
                · rw [z, if_pos ⟨rfl, rfl⟩]; exact ek
                · rw [if_neg (by omega)]; exact hk j (by omega)
  refine v_M_cutToLetters_0 F ?_
  rw [em]
  exact loop (runL bs x (x + n)).length 0 h (by omega) F (xsm.refl h) (fun j hj => absurd hj (Nat.not_lt_zero j)) rfl rfl
theorem s_M_wordAt {G : XG} {d : Nat} {h : XH} {Q : XV → XH → Prop} {X : Nat → XH → Prop} {x n : Int} {bs : List Int} (F : xFix h) (R : MTR h bs) (h0 : 0 ≤ x) (h1 : 0 < n) (h2 : x + n ≤ bs.length) (hr : ∀ k, 0 ≤ k → k < n → sgn (lat bs (x + k)) ≠ 0)
    (hq : ∀ h', xFix h' → xsm (fun c => c = 63) h h' → xnx h' = xnx h → xsl h' = xsl h → Q (xL (rwL (runL bs x (x + n)))) h') : xwp G m_M_wordAt (d + 7) 0 [xR 53, xI x, xI n, xZ] [] h Q X := by
  have rl := runL_len (bs := bs) (s := x) (e := x + n) (by omega)
  refine v_M_wordAt_0 F ?_
  refine s_M_cutToLetters F R h0 (by omega) h2 hr (fun h' F' S' L n' l' => ?_)
  have hl := runL_let hr
  obtain ⟨ls, hls⟩ : ∃ ls, ls = runL bs x (x + n) := ⟨_, rfl⟩
  rw [← hls] at L hl hq rl ⊢
  have q := hq h' F' S' n' l'
  have len : ∀ cs, endsW ls cs = true → cs.length ≤ ls.length := fun cs e => by
    unfold endsW at e
    rw [Bool.and_eq_true] at e
    exact of_decide_eq_true e.1
  -- the rest of the cases, from behind
  have c124 : (¬ (endsW ls [105, 110, 103] = true ∧ 5 < ls.length)) → Q (xL (if endsW ls [101, 100] = true ∧ 4 < ls.length then wvF ls (ls.length - 2) else wvF ls ls.length)) h' → xwp G m_M_wordAt (d + 7) 124 [xR 53, xZ, xZ, xI ls.length] [] h' Q X := fun _ q => by
    refine v_M_wordAt_124 F' ?_
    refine ⟨fun q1 => ?_, fun q1 => ?_⟩
    · rw [if_neg (by omega)] at q
      refine p_M_packed F' L (Nat.le_refl _) hl ?_
      exact v_M_wordAt_150 F' q
    · refine p_M_doesEnd F' L (str_48 F') (by decide) ?_
      refine v_M_wordAt_137 F' ?_
      refine ⟨fun q1 => ?_, fun q1 => ?_⟩
      · rw [if_neg (fun y => by rw [bz0 q1] at y; exact absurd y.1 (by decide))] at q
        refine p_M_packed F' L (Nat.le_refl _) hl ?_
        exact v_M_wordAt_150 F' q
      · refine ⟨?_, ?_⟩
        · first | exact ft_53 F' | exact ⟨by omega, by omega⟩
        · rw [if_pos ⟨bz1 q1, by omega⟩] at q
          rw [show (ls.length : Int) - 2 = ((ls.length - 2 : Nat) : Int) by omega]
          refine p_M_packed F' L (by omega) hl ?_
          exact v_M_wordAt_150 F' q
  have c101 : Q (xL (if endsW ls [105, 110, 103] = true ∧ 5 < ls.length then wvF ls (ls.length - 3) else if endsW ls [101, 100] = true ∧ 4 < ls.length then wvF ls (ls.length - 2) else wvF ls ls.length)) h' → xwp G m_M_wordAt (d + 7) 101 [xR 53, xZ, xZ, xI ls.length] [] h' Q X := fun q => by
    refine v_M_wordAt_101 F' ?_
    refine ⟨fun q1 => ?_, fun q1 => ?_⟩
    · have z : ¬ (endsW ls [105, 110, 103] = true ∧ 5 < ls.length) := fun y => by omega
      rw [if_neg z] at q
      exact c124 z q
    · refine p_M_doesEnd F' L (str_46 F') (by decide) ?_
      refine v_M_wordAt_113 F' ?_
      refine ⟨fun q1 => ?_, fun q1 => ?_⟩
      · have z : ¬ (endsW ls [105, 110, 103] = true ∧ 5 < ls.length) := fun y => by rw [bz0 q1] at y; exact absurd y.1 (by decide)
        rw [if_neg z] at q
        exact c124 z q
      · refine ⟨?_, ?_⟩
        · exact ⟨by omega, by omega⟩
        · rw [if_pos ⟨bz1 q1, by omega⟩] at q
          rw [show (ls.length : Int) - 3 = ((ls.length - 3 : Nat) : Int) by omega]
          refine p_M_packed F' L (by omega) hl ?_
          exact v_M_wordAt_123 F' q
  have c47 : ¬ (endsW ls [105, 101, 115] = true ∧ 4 < ls.length) → xwp G m_M_doesEnd (d + 6) 0 [xR 53, xI ls.length, xR (-38), xZ, xZ] [] h' (fun v9 h9 => xwp G m_M_wordAt (d + 7) 47 [xR 53, xZ, xZ, xI ls.length] (xpush v9 []) h9 Q X) X := fun z => by
    unfold rwL at q
    rw [if_neg z] at q
    refine p_M_doesEnd F' L (str_38 F') (by decide) ?_
    refine v_M_wordAt_47 F' ?_
    refine ⟨fun q1 => ?_, fun q1 => ?_⟩
    · refine ⟨fun q2 => ?_, fun q2 => ?_⟩
      · rw [if_neg (fun y => by rw [bz0 q1] at y; exact absurd y (by decide)), if_neg (fun y => by omega)] at q
        exact c101 q
      · rw [if_neg (fun y => by rw [bz0 q1] at y; exact absurd y (by decide))] at q
        have no : ¬ (endsW ls [115] = true ∧ ¬ endsW ls [115, 115] = true ∧ ¬ endsW ls [117, 115] = true ∧ 3 < ls.length) → xwp G m_M_wordAt (d + 7) 101 [xR 53, xZ, xZ, xI ls.length] [] h' Q X := fun y => by
          rw [if_neg y] at q; exact c101 q
        refine p_M_doesEnd F' L (str_40 F') (by decide) ?_
        refine v_M_wordAt_70 F' ?_
        refine ⟨fun q1 => ?_, fun q1 => ?_⟩
        · exact no (fun y => by rw [bz0 q1] at y; exact absurd y.1 (by decide))
        · have w1 := bz1 q1
          refine p_M_doesEnd F' L (str_42 F') (by decide) ?_
          refine v_M_wordAt_80 F' ?_
          refine ⟨fun q1 => ?_, fun q1 => ?_⟩
          · have w2 := bz0 q1
            refine p_M_doesEnd F' L (str_44 F') (by decide) ?_
            refine v_M_wordAt_90 F' ?_
            refine ⟨fun q1 => ?_, fun q1 => ?_⟩
            · refine ⟨?_, ?_⟩
              · exact ⟨by omega, by omega⟩
              · have w3 := bz0 q1
                rw [if_pos ⟨w1, by rw [w2]; decide, by rw [w3]; decide, by omega⟩] at q
                rw [show (ls.length : Int) - 1 = ((ls.length - 1 : Nat) : Int) by omega]
                refine p_M_packed F' L (by omega) hl ?_
                exact v_M_wordAt_100 F' q
            · exact no (fun y => y.2.2.1 (bz1 q1))
          · exact no (fun y => y.2.1 (bz1 q1))
    · refine ⟨?_, ?_⟩
      · exact ⟨by omega, by omega⟩
      · have w1 := bz1 q1
        have w4 := len _ w1
        have w4 : 4 ≤ ls.length := w4
        rw [if_pos w1] at q
        rw [show (ls.length : Int) - 2 = ((ls.length - 2 : Nat) : Int) by omega]
        refine p_M_packed F' L (by omega) hl ?_
        exact v_M_wordAt_57 F' q
  refine v_M_wordAt_6 F' ?_
  refine ⟨fun q1 => ?_, fun q1 => ?_⟩
  · exact c47 (fun y => by omega)
  · refine p_M_doesEnd F' L (str_36 F') (by decide) ?_
    refine v_M_wordAt_19 F' ?_
    refine ⟨fun q1 => ?_, fun q1 => ?_⟩
    · exact c47 (fun y => by rw [bz0 q1] at y; exact absurd y.1 (by decide))
    · refine ⟨?_, ?_⟩
      · first | omega | exact ⟨by omega, by omega⟩
      · refine ⟨?_, ?_⟩
        · first | omega | exact ⟨by omega, by omega⟩
        · refine ⟨?_, ?_⟩
          · first | omega | exact ⟨by omega, by omega⟩
          · intro F9
            have w1 := bz1 q1
            obtain ⟨l1, l2⟩ := L
            have L2 : MLet (xst h' 63 ((ls.length : Int) - 3) 121) (ls.set (ls.length - 3) 121) := by
              refine ⟨by rw [List.length_set]; exact l1, fun i hi => ?_⟩
              rw [List.length_set] at hi
              rw [List.getElem?_set, xpl_st]
              by_cases z : ls.length - 3 = i
              · rw [if_pos z, if_pos (by omega), if_pos ⟨rfl, by omega⟩]
              · rw [if_neg z, if_neg (by omega)]; exact l2 i hi
            have hl2 : ∀ c ∈ ls.set (ls.length - 3) 121, sgn c ≠ 0 ∧ fo c = c := fun c hc => by
              rcases List.mem_or_eq_of_mem_set hc with y | y
              · exact hl c y
              · rw [y]; exact ⟨by decide, by decide⟩
            rw [show (ls.length : Int) - 2 = ((ls.length - 2 : Nat) : Int) by omega]
            refine p_M_packed F9 L2 (by rw [List.length_set]; omega) hl2 ?_
            refine v_M_wordAt_39 F9 ?_
            have q3 := hq _ F9 (S'.st (by omega) (Or.inl rfl)) n' l'
            unfold rwL at q3
            rw [if_pos ⟨w1, by omega⟩] at q3
            have e : wvF (ls.set (ls.length - 3) 121) (ls.length - 2) = wsg (wvF ls (ls.length - 3)) (ls.length - 3 : Nat) (sgn 121) := by
              rw [show ls.length - 2 = ls.length - 3 + 1 by omega]
              have a : wvF (ls.set (ls.length - 3) 121) (ls.length - 3 + 1) = wsg (wvF (ls.set (ls.length - 3) 121) (ls.length - 3)) (ls.length - 3 : Nat) (sgn ((ls.set (ls.length - 3) 121)[ls.length - 3]?.getD 0)) := rfl
              rw [a, wvF_congr (ms := ls) (ls.length - 3) (fun j hj => by rw [List.getElem?_set, if_neg (by omega)]), List.getElem?_set, if_pos rfl, if_pos (by omega)]
              rfl
            rw [e]
            exact q3

end
