/-! ===== most ===== -/
section
/-! the model's store: the same texts, segments and merges as the class's -/
def MTx (h : XH) (r : Int) (t : Txt × Bool) : Prop := (xpl h 57 r = t.1.1 ∧ xpl h 58 r = t.1.2.1 ∧ xpl h 59 r = t.1.2.2.1 ∧ xpl h 60 r = b2i t.2) ∧ (xpl h 61 (2 * r) = t.1.2.2.2.1.length ∧ xpl h 61 (2 * r + 1) = t.1.2.2.2.2.length ∧ t.1.2.2.2.1.length + t.1.2.2.2.2.length ≤ 200) ∧ (∀ j : Nat, j < t.1.2.2.2.1.length → t.1.2.2.2.1[j]? = some (xpl h 62 (200 * r + j))) ∧ ∀ j : Nat, j < t.1.2.2.2.2.length → t.1.2.2.2.2[j]? = some (xpl h 62 (200 * r + t.1.2.2.2.1.length + j))
/-- row: where each text lies; T: all texts, those of the buffer behind; z: the segments' sizes; m: the merges -/
def MSR (h : XH) (T : List (Txt × Bool)) (z : List Int) (m : Int) : Prop :=
  ((∀ i : Int, 0 ≤ i → i < 60 → 0 ≤ xpl h 55 i ∧ xpl h 55 i < 60) ∧ ∀ i j : Int, 0 ≤ i → i < 60 → 0 ≤ j → j < 60 → xpl h 55 i = xpl h 55 j → i = j) ∧
  (xpl h 53 4 = T.length ∧ T.length ≤ 60 ∧ xpl h 53 5 = z.length ∧ z.length ≤ 60 ∧ xpl h 53 6 = m) ∧
  (∀ i : Nat, i < z.length → xpl h 56 i = stA z ((i : Int) + 1)) ∧ (∀ x ∈ z, 1 ≤ x) ∧ z.sum ≤ T.length ∧
  ∀ (i : Nat) t, T[i]? = some t → MTx h (xpl h 55 i) t
theorem stA_rng2 {z : List Int} (h : ∀ x ∈ z, 1 ≤ x) (k : Int) : 0 ≤ stA z k ∧ stA z k ≤ z.sum := by
  have a : 0 ≤ (z.take k.toNat).sum := sum_nn (fun y hy => by have := h y (List.mem_of_mem_take hy); omega)
  have b : 0 ≤ (z.drop k.toNat).sum := sum_nn (fun y hy => by have := h y (List.mem_of_mem_drop hy); omega)
  have c := sum_split z k.toNat
  have d : stA z k = (z.take k.toNat).sum := rfl
  omega
theorem p_M_startOf {G : XG} {d : Nat} {h : XH} {Q : XV → XH → Prop} {X : Nat → XH → Prop} {k m : Int} {T : List (Txt × Bool)} {z : List Int} (F : xFix h) (R : MSR h T z m) (h0 : 0 ≤ k) (h1 : k ≤ z.length) (hq : Q (xI (stA z k)) h) : xwp G m_M_startOf (d + 1) 0 [xR 53, xI k] [] h Q X := by
  have zl := R.2.1.2.2.2.1
  refine v_M_startOf_0 F ?_
  refine ⟨fun q1 => ?_, fun q1 => ?_⟩
  · rw [q1] at hq
    have e : stA z 0 = 0 := rfl
    rw [e] at hq; exact hq
  · refine ⟨?_, ?_⟩
    · first | omega | exact ⟨by omega, by omega⟩
    · refine ⟨?_, ?_⟩
      · first | omega | exact ⟨by omega, by omega⟩
      · refine ⟨?_, ?_⟩
        · first | omega | exact ⟨by omega, by omega⟩
        · have e := R.2.2.1 (k - 1).toNat (by omega)
          rw [show (((k - 1).toNat : Nat) : Int) = k - 1 by omega, show k - 1 + 1 = k by omega] at e
          rw [e]; exact hq
theorem p_M_inSegments {G : XG} {d : Nat} {h : XH} {Q : XV → XH → Prop} {X : Nat → XH → Prop} {m : Int} {T : List (Txt × Bool)} {z : List Int} (F : xFix h) (R : MSR h T z m) (hq : Q (xI z.sum) h) : xwp G m_M_inSegments (d + 2) 0 [xR 53] [] h Q X := by
  refine v_M_inSegments_0 F ?_
  rw [R.2.1.2.2.1]
  refine p_M_startOf F R (by omega) (Int.le_refl _) ?_
  refine v_M_inSegments_8 F ?_
  rw [stA_all (Nat.le_refl _)]
  exact hq
theorem MSR.end_ {h : XH} {m x : Int} {T : List (Txt × Bool)} {z : List Int} (R : MSR h T z m) (h0 : 0 ≤ x) (h1 : x < z.length) : xpl h 56 x = stA z x + szA z x := by
  have e := R.2.2.1 x.toNat (by omega)
  rw [show ((x.toNat : Nat) : Int) = x by omega] at e
  rw [e, stA_succ h0 h1]
theorem p_M_manyIn {G : XG} {d : Nat} {h : XH} {Q : XV → XH → Prop} {X : Nat → XH → Prop} {x m : Int} {T : List (Txt × Bool)} {z : List Int} (F : xFix h) (R : MSR h T z m) (h0 : 0 ≤ x) (h1 : x < z.length) (hq : Q (xI (szA z x)) h) : xwp G m_M_manyIn (d + 2) 0 [xR 53, xI x] [] h Q X := by
  have zl := R.2.1.2.2.2.1
  have tl := R.2.1.2.1
  have e := R.end_ h0 h1
  have r1 := stA_rng2 R.2.2.2.1 x
  have r2 := stA_rng2 R.2.2.2.1 (x + 1)
  rw [stA_succ h0 h1] at r2
  have zs := R.2.2.2.2.1
  refine v_M_manyIn_0 F ?_
  refine ⟨?_, ?_⟩
  · omega
  · refine ⟨?_, ?_⟩
    · omega
    · refine p_M_startOf F R h0 (by omega) ?_
      refine v_M_manyIn_11 F ?_
      refine ⟨?_, ?_⟩
      · rw [e]; exact ⟨by omega, by omega⟩
      · rw [e, show stA z x + szA z x - stA z x = szA z x by omega]; exact hq
theorem p_M_level {G : XG} {d : Nat} {h : XH} {Q : XV → XH → Prop} {X : Nat → XH → Prop} {x m : Int} {T : List (Txt × Bool)} {z : List Int} (F : xFix h) (R : MSR h T z m) (h0 : 0 ≤ x) (h1 : x < z.length) (hq : Q (xI (lvl (szA z x))) h) : xwp G m_M_level (d + 3) 0 [xR 53, xI x, xZ] [] h Q X := by
  refine v_M_level_0 F ?_
  refine p_M_manyIn F R h0 h1 ?_
  unfold lvl at hq
  refine v_M_level_5 F ?_
  refine ⟨fun q1 => ?_, fun q1 => ?_⟩
  · refine ⟨fun q2 => ?_, fun q2 => ?_⟩
    · refine ⟨fun q3 => ?_, fun q3 => ?_⟩
      · rw [if_pos q3] at hq; exact hq
      · rw [if_neg q3, if_pos q2] at hq; exact hq
    · rw [if_neg (by omega), if_neg q2, if_pos q1] at hq; exact hq
  · rw [if_neg (by omega), if_neg (by omega), if_neg q1] at hq; exact hq
theorem MSR.tx {h : XH} {m x : Int} {T : List (Txt × Bool)} {z : List Int} (R : MSR h T z m) (h0 : 0 ≤ x) (h1 : x < T.length) : ∃ t, T[x.toNat]? = some t ∧ MTx h (xpl h 55 x) t := by
  have hl : x.toNat < T.length := by omega
  have e := R.2.2.2.2.2 x.toNat _ (List.getElem?_eq_getElem hl)
  rw [show ((x.toNat : Nat) : Int) = x by omega] at e
  exact ⟨_, List.getElem?_eq_getElem hl, e⟩
theorem goneF_succ {f : List (Txt × Bool)} {s n : Nat} {t : Txt × Bool} (h : f[s + n]? = some t) : goneF f s (n + 1) = goneF f s n + (if t.2 = true then 1 else 0) := by
  unfold goneF
  rw [segF_succ h, List.filter_append, List.length_append]
  cases z : t.2
  · rw [List.filter_cons_of_neg (by rw [z]; decide)]; rfl
  · rw [List.filter_cons_of_pos (by rw [z])]; rfl
theorem p_M_marks {G : XG} {d : Nat} {h : XH} {Q : XV → XH → Prop} {X : Nat → XH → Prop} {x m : Int} {T : List (Txt × Bool)} {z : List Int} (F : xFix h) (R : MSR h T z m) (h0 : 0 ≤ x) (h1 : x < z.length) (hq : Q (xI (goneF T (stA z x).toNat (szA z x).toNat)) h) : xwp G m_M_marks (d + 2) 0 [xR 53, xI x, xZ, xZ] [] h Q X := by
  have zl := R.2.1.2.2.2.1
  have tl := R.2.1.2.1
  have e := R.end_ h0 h1
  have r1 := stA_rng2 R.2.2.2.1 x
  have r2 := stA_rng2 R.2.2.2.1 (x + 1)
  rw [stA_succ h0 h1] at r2
  have zs := R.2.2.2.2.1
  have s1 : 1 ≤ szA z x := by
    unfold szA
    rw [if_neg (by omega)]
    have hl : x.toNat < z.length := by omega
    rw [List.getElem?_eq_getElem hl]
    exact R.2.2.2.1 _ (List.getElem_mem hl)
  have loop : ∀ (n k : Nat), k + n = (szA z x).toNat → xwp G m_M_marks (d + 2) 8 [xR 53, xI x, xI (goneF T (stA z x).toNat k), xI (stA z x + k)] [] h Q X := by
    intro n
    induction n with
    | zero =>
      intro k ek
      refine v_M_marks_8 F ?_
      refine ⟨?_, ?_⟩
      · first | omega | (rw [e] at q1; omega)
      · refine ⟨?_, ?_⟩
        · first | omega | (rw [e] at q1; omega)
        · refine ⟨fun q1 => ?_, fun q1 => ?_⟩
          · rw [show k = (szA z x).toNat by omega]; exact hq
          · refine ⟨?_, ?_⟩
            · first | omega | (rw [e] at q1; omega)
            · refine ⟨?_, ?_⟩
              · first | omega | (rw [e] at q1; omega)
              · refine ⟨?_, ?_⟩
                · first | omega | (rw [e] at q1; omega)
                · refine ⟨?_, ?_⟩
                  · first | omega | (rw [e] at q1; omega)
                  · refine ⟨fun q2 => ?_, fun q2 => ?_⟩
                    · rw [e] at q1; omega
                    · refine ⟨?_, ?_⟩
                      · first | omega | (rw [e] at q1; omega)
                      · rw [e] at q1; omega
    | succ n ih =>
      intro k ek
      have rw9 := R.1.1 (stA z x + k) (by omega) (by omega)
      obtain ⟨t, t1, t2⟩ := R.tx (x := stA z x + k) (by omega) (by omega)
      rw [show (stA z x + k).toNat = (stA z x).toNat + k by omega] at t1
      have gs := goneF_succ t1
      have gl := goneF_le T (stA z x).toNat k
      have next := ih (k + 1) (by omega)
      rw [gs, show stA z x + ((k + 1 : Nat) : Int) = stA z x + k + 1 by omega] at next
      refine v_M_marks_8 F ?_
      refine ⟨?_, ?_⟩
      · first | omega | exact ⟨by omega, by omega⟩
      · refine ⟨?_, ?_⟩
        · first | omega | exact ⟨by omega, by omega⟩
        · refine ⟨fun q1 => ?_, fun q1 => ?_⟩
          · rw [e] at q1; omega
          · refine ⟨?_, ?_⟩
            · first | omega | exact ⟨by omega, by omega⟩
            · refine ⟨?_, ?_⟩
              · first | omega | exact ⟨by omega, by omega⟩
              · refine ⟨?_, ?_⟩
                · first | omega | exact ⟨by omega, by omega⟩
                · refine ⟨?_, ?_⟩
                  · first | omega | exact ⟨by omega, by omega⟩
                  · refine ⟨fun q2 => ?_, fun q2 => ?_⟩
                    · rw [t2.1.2.2.2] at q2
                      rw [if_neg (by rw [bz0 q2]; decide)] at next
                      exact next
                    · refine ⟨?_, ?_⟩
                      · first | omega | exact ⟨by omega, by omega⟩
                      · rw [t2.1.2.2.2] at q2
                        rw [if_pos (bz1 q2)] at next
                        exact next
  refine v_M_marks_0 F ?_
  refine p_M_startOf F R h0 (by omega) ?_
  refine v_M_marks_7 F ?_
  have := loop (szA z x).toNat 0 (by omega)
  rw [show stA z x + ((0 : Nat) : Int) = stA z x by omega] at this
  exact this
theorem p_M_whereIs {G : XG} {d : Nat} {h : XH} {Q : XV → XH → Prop} {X : Nat → XH → Prop} {k m : Int} {T : List (Txt × Bool)} {z : List Int} (F : xFix h) (R : MSR h T z m) (hq : Q (xI (sidx T k)) h) : xwp G m_M_whereIs (d + 1) 0 [xR 53, xI k, xZ] [] h Q X := by
  have tl := R.2.1.2.1
  have t4 := R.2.1.1
  have loop : ∀ (n i : Nat), i + n = T.length → (∀ j : Nat, j < i → ∀ a, T[j]? = some a → ¬ (decide (a.1.1 = k) && !a.2) = true) → xwp G m_M_whereIs (d + 1) 2 [xR 53, xI k, xI i] [] h Q X := by
    intro n
    induction n with
    | zero =>
      intro i e hk
      have e1 : sidx T k = -1 := idxI_none _ T (fun a ha y => by
        obtain ⟨j, hj⟩ := List.mem_iff_getElem?.mp ha
        exact hk j (by have := (List.getElem?_eq_some_iff.mp hj).1; omega) a hj y)
      refine v_M_whereIs_2 F ?_
      refine ⟨fun q1 => ?_, fun q1 => ?_⟩
      · rw [e1] at hq; exact hq
      · refine ⟨?_, ?_⟩
        · omega
        · refine ⟨?_, ?_⟩
          · omega
          · refine ⟨?_, ?_⟩
            · omega
            · refine ⟨?_, ?_⟩
              · omega
              · refine ⟨fun q2 => ?_, fun q2 => ?_⟩
                · refine ⟨fun q3 => ?_, fun q3 => ?_⟩
                  · omega
                  · omega
                · omega
    | succ n ih =>
      intro i e hk
      have rw9 := R.1.1 i (by omega) (by omega)
      obtain ⟨t, t1, t2⟩ := R.tx (x := i) (by omega) (by omega)
      rw [show ((i : Int)).toNat = i by omega] at t1
      have next : ¬ (decide (t.1.1 = k) && !t.2) = true → xwp G m_M_whereIs (d + 1) 2 [xR 53, xI k, xI ((i : Int) + 1)] [] h Q X := fun y => by
        refine ih (i + 1) (by omega) (fun j hj a ha => ?_)
        by_cases w : j = i
        · rw [w, t1] at ha
          cases ha
          exact y
        · exact hk j (by omega) a ha
      have q57 := t2.1.1
      have q60 := t2.1.2.2.2
      refine v_M_whereIs_2 F ?_
      refine ⟨fun q1 => ?_, fun q1 => ?_⟩
      · omega
      · refine ⟨?_, ?_⟩
        · omega
        · refine ⟨?_, ?_⟩
          · omega
          · refine ⟨?_, ?_⟩
            · omega
            · refine ⟨?_, ?_⟩
              · omega
              · refine ⟨fun q2 => ?_, fun q2 => ?_⟩
                · refine ⟨fun q3 => ?_, fun q3 => ?_⟩
                  · rw [q57] at q2
                    rw [q60] at q3
                    have hit : (decide (t.1.1 = k) && !t.2) = true := by rw [decide_eq_true q2, bz0 q3]; rfl
                    have e1 : sidx T k = i := idxI_drop _ T i (by omega) hk t t1 hit
                    rw [e1] at hq; exact hq
                  · rw [q60] at q3
                    exact next (by rw [bz1 q3]; simp)
                · rw [q57] at q2
                  exact next (by rw [decide_eq_false q2]; simp)
  refine v_M_whereIs_0 F ?_
  exact loop T.length 0 (by omega) (fun j hj => absurd hj (Nat.not_lt_zero j))

end
