/-! ===== mowords ===== -/
section
/-! the model: its tape, runs and words, said by the class's functions -/
def MTR (h : XH) (bs : List Int) : Prop := xpl h 53 2 = bs.length ∧ bs.length ≤ 400 ∧ (∀ i : Nat, i < bs.length → bs[i]? = some (xpl h 54 i)) ∧ ∀ b ∈ bs, 0 ≤ b ∧ b ≤ 255
theorem MTR.at {h : XH} {bs : List Int} (R : MTR h bs) {x : Int} (h0 : 0 ≤ x) (h1 : x < bs.length) : xpl h 54 x = lat bs x ∧ 0 ≤ lat bs x ∧ lat bs x ≤ 255 := by
  have a := lat_in (l := bs) h0 h1
  have b := R.2.2.1 x.toNat (by omega)
  rw [show ((x.toNat : Nat) : Int) = x by omega] at b
  rw [a] at b
  exact ⟨(Option.some.inj b).symm, R.2.2.2 _ (List.mem_of_getElem? a)⟩
def fo (b : Int) : Int := if 65 ≤ b ∧ b ≤ 90 then b + 32 else b
theorem fo_byt {b : Int} (h : sgn b ≠ 0) : byt (sgn b) = fo b := by
  unfold sgn at h ⊢
  unfold byt fo
  split
  · rw [if_pos (by omega), if_neg (by omega)]; omega
  · split
    · rw [if_neg (by omega), if_neg (by omega)]; omega
    · split
      · rw [if_neg (by omega)]; omega
      · rename_i a1 a2 a3
        rw [if_neg a1, if_neg a2, if_neg a3] at h
        exact absurd rfl h
theorem p_M_folded {G : XG} {d : Nat} {h : XH} {Q : XV → XH → Prop} {X : Nat → XH → Prop} {x : Int} (F : xFix h) (h0 : 0 ≤ x) (h1 : x < 400) (hq : Q (xI (fo (xpl h 54 x))) h) : xwp G m_M_folded (d + 2) 0 [xR 53, xI x] [] h Q X := by
  unfold fo at hq
  refine v_M_folded_0 F ?_
  refine ⟨?_, ?_⟩
  · first | omega | exact ⟨by omega, by omega⟩
  · refine ⟨?_, ?_⟩
    · first | omega | exact ⟨by omega, by omega⟩
    · refine ⟨fun q1 => ?_, fun q1 => ?_⟩
      · rw [if_neg (by omega)] at hq; exact hq
      · refine ⟨fun q2 => ?_, fun q2 => ?_⟩
        · rw [if_neg (by omega)] at hq; exact hq
        · rw [if_pos ⟨by omega, by omega⟩] at hq; exact hq
theorem sgn_0 {b : Int} (h : ¬ (48 ≤ b ∧ b ≤ 57)) (h1 : ¬ (97 ≤ b ∧ b ≤ 122)) (h2 : ¬ (65 ≤ b ∧ b ≤ 90)) : sgn b = 0 := by unfold sgn; rw [if_neg h, if_neg h1, if_neg h2]
theorem sgn_1 {b : Int} (h : (48 ≤ b ∧ b ≤ 57) ∨ (97 ≤ b ∧ b ≤ 122) ∨ (65 ≤ b ∧ b ≤ 90)) : sgn b ≠ 0 := by
  unfold sgn
  split
  · omega
  · split
    · omega
    · split <;> omega
theorem p_M_isOfRun {G : XG} {d : Nat} {h : XH} {Q : XV → XH → Prop} {X : Nat → XH → Prop} {x : Int} {bs : List Int} (F : xFix h) (R : MTR h bs) (h0 : 0 ≤ x) (h1 : x ≤ bs.length) (hq : Q (xI (b2i (decide (sgn (lat bs x) ≠ 0)))) h) : xwp G m_M_isOfRun (d + 3) 0 [xR 53, xI x] [] h Q X := by
  have r1 := R.1
  have r2 := R.2.1
  have yes : (48 ≤ lat bs x ∧ lat bs x ≤ 57) ∨ (97 ≤ lat bs x ∧ lat bs x ≤ 122) ∨ (65 ≤ lat bs x ∧ lat bs x ≤ 90) → Q (xI 1) h := fun y => by
    rw [decide_eq_true (sgn_1 y)] at hq; exact hq
  have no : ¬ (48 ≤ lat bs x ∧ lat bs x ≤ 57) → ¬ (97 ≤ lat bs x ∧ lat bs x ≤ 122) → ¬ (65 ≤ lat bs x ∧ lat bs x ≤ 90) → Q (xI 0) h := fun y1 y2 y3 => by
    rw [decide_eq_false (fun z => z (sgn_0 y1 y2 y3))] at hq; exact hq
  refine v_M_isOfRun_0 F ?_
  refine ⟨fun q1 => ?_, fun q1 => ?_⟩
  · have e : lat bs x = -1 := lat_out (Or.inr (by omega))
    exact no (by omega) (by omega) (by omega)
  · have at1 := R.at h0 (by omega)
    refine p_M_folded F h0 (by omega) ?_
    rw [at1.1]
    have ef : (65 ≤ lat bs x ∧ lat bs x ≤ 90 ∧ fo (lat bs x) = lat bs x + 32) ∨ (¬ (65 ≤ lat bs x ∧ lat bs x ≤ 90) ∧ fo (lat bs x) = lat bs x) := by
      unfold fo
      by_cases z : 65 ≤ lat bs x ∧ lat bs x ≤ 90
      · rw [if_pos z]; exact Or.inl ⟨z.1, z.2, rfl⟩
      · rw [if_neg z]; exact Or.inr ⟨z, rfl⟩
    refine v_M_isOfRun_13 F ?_
    refine ⟨fun q1 => ?_, fun q1 => ?_⟩
    · refine ⟨?_, ?_⟩
      · omega
      · refine ⟨?_, ?_⟩
        · omega
        · refine ⟨fun q2 => ?_, fun q2 => ?_⟩
          · (rw [at1.1] at *; exact no (by omega) (by omega) (by omega))
          · refine ⟨fun q3 => ?_, fun q3 => ?_⟩
            · (rw [at1.1] at *; exact no (by omega) (by omega) (by omega))
            · (rw [at1.1] at *; exact yes (by omega))
    · refine ⟨fun q2 => ?_, fun q2 => ?_⟩
      · refine ⟨?_, ?_⟩
        · omega
        · refine ⟨?_, ?_⟩
          · omega
          · refine ⟨fun q3 => ?_, fun q3 => ?_⟩
            · (rw [at1.1] at *; exact no (by omega) (by omega) (by omega))
            · refine ⟨fun q4 => ?_, fun q4 => ?_⟩
              · (rw [at1.1] at *; exact no (by omega) (by omega) (by omega))
              · (rw [at1.1] at *; exact yes (by omega))
      · exact yes (by omega)
theorem p_M_runLength {G : XG} {d : Nat} {h : XH} {Q : XV → XH → Prop} {X : Nat → XH → Prop} {x : Int} {bs : List Int} (F : xFix h) (R : MTR h bs) (h0 : 0 ≤ x) (h1 : x ≤ bs.length) (hq : Q (xI (re bs x bs.length - x)) h) : xwp G m_M_runLength (d + 4) 0 [xR 53, xI x, xZ] [] h Q X := by
  have r2 := R.2.1
  have loop : ∀ (m : Nat) (n : Int), 0 ≤ n → x + n + m = bs.length → reF bs m (x + n) = re bs x bs.length → xwp G m_M_runLength (d + 4) 2 [xR 53, xI x, xI n] [] h Q X := by
    intro m
    induction m with
    | zero =>
      intro n n0 e hv
      have hv : x + n = re bs x bs.length := hv
      refine v_M_runLength_2 F ?_
      refine ⟨?_, ?_⟩
      · exact ⟨by omega, by omega⟩
      · refine p_M_isOfRun F R (by omega) (by omega) ?_
        have el : lat bs (x + n) = -1 := lat_out (Or.inr (by omega))
        rw [el, show decide (sgn (-1) ≠ 0) = false from rfl]
        refine v_M_runLength_9 F ?_
        refine ⟨fun q1 => ?_, fun q1 => ?_⟩
        · rw [show n = re bs x bs.length - x by omega]; exact hq
        · refine ⟨?_, ?_⟩
          · exact ⟨by omega, by omega⟩
          · exact absurd rfl q1
    | succ m ih =>
      intro n n0 e hv
      have hv : (if sgn (lat bs (x + n)) = 0 then x + n else reF bs m (x + n + 1)) = re bs x bs.length := hv
      refine v_M_runLength_2 F ?_
      refine ⟨?_, ?_⟩
      · exact ⟨by omega, by omega⟩
      · refine p_M_isOfRun F R (by omega) (by omega) ?_
        refine v_M_runLength_9 F ?_
        refine ⟨fun q1 => ?_, fun q1 => ?_⟩
        · have z := of_decide_eq_false (bz0 q1)
          rw [if_pos (Decidable.of_not_not z)] at hv
          rw [show n = re bs x bs.length - x by omega]; exact hq
        · refine ⟨?_, ?_⟩
          · exact ⟨by omega, by omega⟩
          · have z := of_decide_eq_true (bz1 q1)
            rw [if_neg z] at hv
            exact ih (n + 1) (by omega) (by omega) (by rw [show x + (n + 1) = x + n + 1 by omega]; exact hv)
  refine v_M_runLength_0 F ?_
  exact loop (bs.length - x).toNat 0 (Int.le_refl _) (by omega) (by rw [show x + 0 = x by omega]; rfl)
/-- the model's letters -/
def MLet (h : XH) (ls : List Int) : Prop := ls.length ≤ 12 ∧ ∀ i : Nat, i < ls.length → ls[i]? = some (xpl h 63 i)
theorem p_M_isRun {G : XG} {d : Nat} {h : XH} {Q : XV → XH → Prop} {X : Nat → XH → Prop} {x n s : Int} {bs cs : List Int} (F : xFix h) (R : MTR h bs) (S : StrR h s cs) (hc : cs.length ≤ 5) (h0 : 0 ≤ x) (h1 : 0 ≤ n) (h2 : x + n ≤ bs.length) (hr : ∀ k, 0 ≤ k → k < n → sgn (lat bs (x + k)) ≠ 0) (hq : Q (xI (b2i (decide (runL bs x (x + n) = cs)))) h) : xwp G m_M_isRun (d + 6) 0 [xR 53, xI x, xI n, xR s, xZ] [] h Q X := by
  have r2 := R.2.1
  obtain ⟨s1, s2, s3⟩ := S
  have rl := runL_len (bs := bs) (s := x) (e := x + n) (by omega)
  have no : ¬ runL bs x (x + n) = cs → Q (xI 0) h := fun z => by rw [decide_eq_false z] at hq; exact hq
  have loop : n = cs.length → ∀ (m k : Nat), k + m = cs.length → (∀ j : Nat, j < k → (runL bs x (x + n))[j]? = cs[j]?) → xwp G m_M_isRun (d + 6) 13 [xR 53, xI x, xI n, xR s, xI k] [] h Q X := by
    intro hn m
    induction m with
    | zero =>
      intro k e hk
      refine v_M_isRun_13 F ?_
      refine ⟨fun q1 => ?_, fun q1 => ?_⟩
      · have z : runL bs x (x + n) = cs := by
          apply List.ext_getElem?
          intro j
          by_cases hj : j < cs.length
          · exact hk j (by omega)
          · rw [List.getElem?_eq_none (by omega), List.getElem?_eq_none (by omega)]
        rw [decide_eq_true z] at hq; exact hq
      · refine ⟨?_, ?_⟩
        · exact ⟨by omega, by omega⟩
        · omega
    | succ m ih =>
      intro k e hk
      have at1 := R.at (x := x + k) (by omega) (by omega)
      have ek := runL_at (bs := bs) (s := x) (e := x + n) (k := k) (by omega)
      rw [fo_byt (hr k (by omega) (by omega))] at ek
      have ck := s3 k (by omega)
      refine v_M_isRun_13 F ?_
      refine ⟨fun q1 => ?_, fun q1 => ?_⟩
      · omega
      · refine ⟨?_, ?_⟩
        · exact ⟨by omega, by omega⟩
        · refine p_M_folded F (by omega) (by omega) ?_
          rw [at1.1]
          refine v_M_isRun_27 F ?_
          refine ⟨?_, ?_⟩
          · first | exact s1.1.1 | exact s1 | omega | exact ⟨by omega, by omega⟩
          · refine ⟨?_, ?_⟩
            · first | exact s1.1.1 | exact s1 | omega | exact ⟨by omega, by omega⟩
            · refine ⟨?_, ?_⟩
              · first | exact s1.1.1 | exact s1 | omega | exact ⟨by omega, by omega⟩
              · refine ⟨?_, ?_⟩
                · first | exact s1.1.1 | exact s1 | omega | exact ⟨by omega, by omega⟩
                · refine ⟨fun q1 => ?_, fun q1 => ?_⟩
                  · refine ⟨?_, ?_⟩
                    · first | exact s1.1.1 | exact s1 | omega | exact ⟨by omega, by omega⟩
                    · refine ih (k + 1) (by omega) (fun j hj => ?_)
                      by_cases z : j = k
                      · rw [z, ek, ck, q1]
                      · exact hk j (by omega)
                  · refine no (fun z => q1 ?_)
                    rw [z, ck] at ek
                    exact (Option.some.inj ek).symm
  refine v_M_isRun_0 F ?_
  refine ⟨?_, ?_⟩
  · first | exact s1.1.1 | exact s1 | omega
  · refine ⟨?_, ?_⟩
    · first | exact s1.1.1 | exact s1 | omega
    · refine ⟨fun q1 => ?_, fun q1 => ?_⟩
      · exact loop (by omega) cs.length 0 (by omega) (fun j hj => absurd hj (Nat.not_lt_zero j))
      · refine no (fun z => q1 ?_)
        rw [z] at rl
        omega
theorem str_m {h : XH} (F : xFix h) : ∀ k : Nat, k < 8 → ∃ cs, smallW[k]? = some cs ∧ StrR h (xpl h (-104) k) cs ∧ cs.length ≤ 5 := fun k hk => by
  match k, hk with
  | 0, _ => exact ⟨_, rfl, by show StrR h (xpl h (-104) 0) _; rw [fp_m104_0 F]; exact str_66 F, by decide⟩
  | 1, _ => exact ⟨_, rfl, by show StrR h (xpl h (-104) 1) _; rw [fp_m104_1 F]; exact str_68 F, by decide⟩
  | 2, _ => exact ⟨_, rfl, by show StrR h (xpl h (-104) 2) _; rw [fp_m104_2 F]; exact str_70 F, by decide⟩
  | 3, _ => exact ⟨_, rfl, by show StrR h (xpl h (-104) 3) _; rw [fp_m104_3 F]; exact str_72 F, by decide⟩
  | 4, _ => exact ⟨_, rfl, by show StrR h (xpl h (-104) 4) _; rw [fp_m104_4 F]; exact str_74 F, by decide⟩
  | 5, _ => exact ⟨_, rfl, by show StrR h (xpl h (-104) 5) _; rw [fp_m104_5 F]; exact str_76 F, by decide⟩
  | 6, _ => exact ⟨_, rfl, by show StrR h (xpl h (-104) 6) _; rw [fp_m104_6 F]; exact str_78 F, by decide⟩
  | 7, _ => exact ⟨_, rfl, by show StrR h (xpl h (-104) 7) _; rw [fp_m104_7 F]; exact str_80 F, by decide⟩
theorem p_M_isSmall {G : XG} {d : Nat} {h : XH} {Q : XV → XH → Prop} {X : Nat → XH → Prop} {x n : Int} {bs : List Int} (F : xFix h) (R : MTR h bs) (h0 : 0 ≤ x) (h1 : 0 ≤ n) (h2 : x + n ≤ bs.length) (hr : ∀ k, 0 ≤ k → k < n → sgn (lat bs (x + k)) ≠ 0) (hq : Q (xI (b2i (smallL (runL bs x (x + n))))) h) : xwp G m_M_isSmall (d + 7) 0 [xR 53, xI x, xI n, xZ, xZ, xZ, xZ] [] h Q X := by
  have loop : ∀ (m k : Nat), k + m = 8 → (∀ j : Nat, j < k → ∀ cs, smallW[j]? = some cs → ¬ runL bs x (x + n) = cs) → xwp G m_M_isSmall (d + 7) 11 [xR 53, xI x, xI n, xR (-104), xI 8, xI k, xZ] [] h Q X := by
    intro m
    induction m with
    | zero =>
      intro k e hk
      refine v_M_isSmall_11 F ?_
      refine ⟨fun q1 => ?_, fun q1 => ?_⟩
      · have z : ¬ runL bs x (x + n) ∈ smallW := fun y => by
          obtain ⟨j, hj⟩ := List.mem_iff_getElem?.mp y
          have hl := (List.getElem?_eq_some_iff.mp hj).1
          have hl : j < 8 := hl
          exact hk j (by omega) _ hj rfl
        unfold smallL at hq
        rw [decide_eq_false z] at hq; exact hq
      · refine ⟨?_, ?_⟩
        · first | exact ft_m104 F | (rw [fl_m104 F]; omega) | omega
        · refine ⟨?_, ?_⟩
          · first | exact ft_m104 F | (rw [fl_m104 F]; omega) | omega
          · refine ⟨?_, ?_⟩
            · first | exact ft_m104 F | (rw [fl_m104 F]; omega) | omega
            · omega
    | succ m ih =>
      intro k e hk
      obtain ⟨cs, c1, c2, c3⟩ := str_m F k (by omega)
      refine v_M_isSmall_11 F ?_
      refine ⟨fun q1 => ?_, fun q1 => ?_⟩
      · omega
      · refine ⟨?_, ?_⟩
        · first | exact ft_m104 F | (rw [fl_m104 F]; omega) | omega
        · refine ⟨?_, ?_⟩
          · first | exact ft_m104 F | (rw [fl_m104 F]; omega) | omega
          · refine ⟨?_, ?_⟩
            · first | exact ft_m104 F | (rw [fl_m104 F]; omega) | omega
            · refine p_M_isRun F R c2 c3 h0 h1 h2 hr ?_
              refine v_M_isSmall_32 F ?_
              refine ⟨fun q1 => ?_, fun q1 => ?_⟩
              · refine ⟨?_, ?_⟩
                · exact ⟨by omega, by omega⟩
                · have z := of_decide_eq_false (bz0 q1)
                  refine ih (k + 1) (by omega) (fun j hj cs' hcs => ?_)
                  by_cases y : j = k
                  · rw [y, c1] at hcs
                    cases hcs
                    exact z
                  · exact hk j (by omega) cs' hcs
              · have z := of_decide_eq_true (bz1 q1)
                unfold smallL at hq
                rw [decide_eq_true (by rw [z]; exact List.mem_of_getElem? c1)] at hq; exact hq
  refine v_M_isSmall_0 F ?_
  exact loop 8 0 rfl (fun j hj => absurd hj (Nat.not_lt_zero j))
theorem p_M_doesEnd {G : XG} {d : Nat} {h : XH} {Q : XV → XH → Prop} {X : Nat → XH → Prop} {s : Int} {ls cs : List Int} (F : xFix h) (L : MLet h ls) (S : StrR h s cs) (hc : cs.length ≤ 12) (hq : Q (xI (b2i (endsW ls cs))) h) : xwp G m_M_doesEnd (d + 6) 0 [xR 53, xI ls.length, xR s, xZ, xZ] [] h Q X := by
  obtain ⟨l1, l2⟩ := L
  obtain ⟨s1, s2, s3⟩ := S
  have no : ¬ (cs.length ≤ ls.length ∧ ∀ k : Nat, k < cs.length → ls[ls.length - cs.length + k]? = cs[k]?) → Q (xI 0) h := fun z => by
    have e : endsW ls cs = false := by
      unfold endsW
      by_cases y : cs.length ≤ ls.length
      · rw [decide_eq_true y, decide_eq_false (fun w => z ⟨y, w⟩)]; rfl
      · rw [decide_eq_false y]; rfl
    rw [e] at hq; exact hq
  have loop : cs.length ≤ ls.length → ∀ (m k : Nat), k + m = cs.length → (∀ j : Nat, j < k → ls[ls.length - cs.length + j]? = cs[j]?) → xwp G m_M_doesEnd (d + 6) 16 [xR 53, xI ls.length, xR s, xI ((ls.length : Int) - cs.length), xI (((ls.length - cs.length + k : Nat)) : Int)] [] h Q X := by
    intro hle m
    induction m with
    | zero =>
      intro k e hk
      refine v_M_doesEnd_16 F ?_
      refine ⟨fun q1 => ?_, fun q1 => ?_⟩
      · have e2 : endsW ls cs = true := by
          unfold endsW
          rw [decide_eq_true hle, decide_eq_true (fun j hj => hk j (by omega))]; rfl
        rw [e2] at hq; exact hq
      · refine ⟨?_, ?_⟩
        · omega
        · refine ⟨?_, ?_⟩
          · omega
          · refine ⟨?_, ?_⟩
            · omega
            · refine ⟨?_, ?_⟩
              · omega
              · refine ⟨?_, ?_⟩
                · omega
                · refine ⟨?_, ?_⟩
                  · omega
                  · refine ⟨?_, ?_⟩
                    · omega
                    · refine ⟨fun q2 => ?_, fun q2 => ?_⟩
                      · omega
                      · omega
    | succ m ih =>
      intro k e hk
      have lk := l2 (ls.length - cs.length + k) (by omega)
      have ck := s3 k (by omega)
      have ek : (((ls.length - cs.length + k : Nat)) : Int) - ((ls.length : Int) - cs.length) = k := by omega
      refine v_M_doesEnd_16 F ?_
      refine ⟨fun q1 => ?_, fun q1 => ?_⟩
      · omega
      · refine ⟨?_, ?_⟩
        · first | exact s1.1.1 | exact s1 | omega | exact ⟨by omega, by omega⟩
        · refine ⟨?_, ?_⟩
          · first | exact s1.1.1 | exact s1 | omega | exact ⟨by omega, by omega⟩
          · refine ⟨?_, ?_⟩
            · first | exact s1.1.1 | exact s1 | omega | exact ⟨by omega, by omega⟩
            · refine ⟨?_, ?_⟩
              · first | exact s1.1.1 | exact s1 | omega | exact ⟨by omega, by omega⟩
              · refine ⟨?_, ?_⟩
                · first | exact s1.1.1 | exact s1 | omega | exact ⟨by omega, by omega⟩
                · refine ⟨?_, ?_⟩
                  · first | exact s1.1.1 | exact s1 | omega | exact ⟨by omega, by omega⟩
                  · refine ⟨?_, ?_⟩
                    · first | exact s1.1.1 | exact s1 | omega | exact ⟨by omega, by omega⟩
                    · refine ⟨fun q2 => ?_, fun q2 => ?_⟩
                      · rw [ek] at q2
                        have := ih (k + 1) (by omega) (fun j hj => ?_)
                        · rw [show ((ls.length - cs.length + (k + 1) : Nat) : Int) = ((ls.length - cs.length + k : Nat) : Int) + 1 by omega] at this
                          exact this
                        · by_cases z : j = k
                          · rw [z, lk, ck, q2]
                          · exact hk j (by omega)
                      · rw [ek] at q2
                        refine no (fun z => q2 ?_)
                        have := z.2 k (by omega)
                        rw [lk, ck] at this
                        exact Option.some.inj this
  refine v_M_doesEnd_0 F ?_
  refine ⟨?_, ?_⟩
  · first | exact s1.1.1 | exact s1 | exact ⟨by omega, by omega⟩ | omega
  · refine ⟨?_, ?_⟩
    · first | exact s1.1.1 | exact s1 | exact ⟨by omega, by omega⟩ | omega
    · refine ⟨?_, ?_⟩
      · first | exact s1.1.1 | exact s1 | exact ⟨by omega, by omega⟩ | omega
      · refine ⟨fun q1 => ?_, fun q1 => ?_⟩
        · rw [s2]
          have := loop (by omega) cs.length 0 (by omega) (fun j hj => absurd hj (Nat.not_lt_zero j))
          rw [show ((ls.length - cs.length + 0 : Nat) : Int) = (ls.length : Int) - cs.length by omega] at this
          exact this
        · exact no (fun z => by omega)
theorem p_M_power {G : XG} {d : Nat} {h : XH} {Q : XV → XH → Prop} {X : Nat → XH → Prop} {n : Int} (F : xFix h) (h0 : 0 ≤ n) (h1 : n ≤ 12) (hq : Q (xL (p37 n)) h) : xwp G m_M_power (d + 1) 0 [xI n, xZ, xZ, xZ] [] h Q X := by
  have loop : ∀ (m k : Nat), (k : Int) + m = n → xwp G m_M_power (d + 1) 4 [xI n, xL (37 ^ k), xZ, xI k] [] h Q X := by
    intro m
    induction m with
    | zero =>
      intro k e
      have en : n = k := by omega
      refine v_M_power_4 F ?_
      refine ⟨fun q1 => ?_, fun q1 => ?_⟩
      · rw [en, p37_nat k (by omega)] at hq; exact hq
      · omega
    | succ m ih =>
      intro k e
      have hp := pow37_le (k + 1) (by omega)
      have es : (37 : Int) ^ (k + 1) = 37 ^ k * 37 := Int.pow_succ _ _
      refine v_M_power_4 F ?_
      refine ⟨fun q1 => ?_, fun q1 => ?_⟩
      · omega
      · rw [xw64_id (show xlR ((37 : Int) ^ k * 37) by rw [← es]; exact ⟨by omega, by omega⟩), ← es]
        exact ih (k + 1) (by omega)
  refine v_M_power_0 F ?_
  exact loop n.toNat 0 (by omega)
theorem p_M_digitOf {G : XG} {d : Nat} {h : XH} {Q : XV → XH → Prop} {X : Nat → XH → Prop} {b : Int} (F : xFix h) (h0 : sgn b ≠ 0) (h1 : fo b = b) (hq : Q (xI (sgn b)) h) : xwp G m_M_digitOf (d + 1) 0 [xI b] [] h Q X := by
  have hb : (48 ≤ b ∧ b ≤ 57 ∧ sgn b = b - 47) ∨ (97 ≤ b ∧ b ≤ 122 ∧ sgn b = b - 86) := by
    unfold fo at h1
    unfold sgn at h0 ⊢
    by_cases z : 48 ≤ b ∧ b ≤ 57
    · rw [if_pos z]; exact Or.inl ⟨z.1, z.2, rfl⟩
    · rw [if_neg z] at h0 ⊢
      by_cases z2 : 97 ≤ b ∧ b ≤ 122
      · rw [if_pos z2]; exact Or.inr ⟨z2.1, z2.2, rfl⟩
      · rw [if_neg z2] at h0 ⊢
        by_cases z3 : 65 ≤ b ∧ b ≤ 90
        · rw [if_pos z3] at h1; omega
        · rw [if_neg z3] at h0; exact absurd rfl h0
  refine v_M_digitOf_0 F ?_
  refine ⟨fun q1 => ?_, fun q1 => ?_⟩
  · rw [show (b - 97) + 11 = sgn b by omega]; exact hq
  · refine ⟨?_, ?_⟩
    · exact ⟨by omega, by omega⟩
    · rw [show (b - 48) + 1 = sgn b by omega]; exact hq
theorem p_M_digit {G : XG} {d : Nat} {h : XH} {Q : XV → XH → Prop} {X : Nat → XH → Prop} {w k : Int} (F : xFix h) (h0 : 0 ≤ k) (h1 : k ≤ 11) (hq : Q (xI (sat w k)) h) : xwp G m_M_digit (d + 2) 0 [xL w, xZ, xI k] [] h Q X := by
  refine v_M_digit_0 F ?_
  refine ⟨?_, ?_⟩
  · exact ⟨by omega, by omega⟩
  · refine p_M_power F (by omega) (by omega) ?_
    have := p37_pos (11 - k)
    refine v_M_digit_8 F ?_
    refine ⟨?_, ?_⟩
    · exact this
    · rw [sat_w32]; exact hq
theorem p_M_lengthOf {G : XG} {d : Nat} {h : XH} {Q : XV → XH → Prop} {X : Nat → XH → Prop} {w : Int} (F : xFix h) (h0 : 0 ≤ w) (hq : Q (xI (wsz w)) h) : xwp G m_M_lengthOf_J (d + 3) 0 [xL w, xZ, xZ] [] h Q X := by
  have loop : ∀ (m : Nat) (k : Int), 0 ≤ k → k + m = 12 → wszF w m k = wsz w → xwp G m_M_lengthOf_J (d + 3) 2 [xL w, xZ, xI k] [] h Q X := by
    intro m
    induction m with
    | zero =>
      intro k k0 e hv
      have hv : k = wsz w := hv
      refine v_M_lengthOf_J_2 F ?_
      refine ⟨fun q1 => ?_, fun q1 => ?_⟩
      · rw [hv]; exact hq
      · omega
    | succ m ih =>
      intro k k0 e hv
      have hv : (if sat w k = 0 then k else wszF w m (k + 1)) = wsz w := hv
      refine v_M_lengthOf_J_2 F ?_
      refine ⟨fun q1 => ?_, fun q1 => ?_⟩
      · omega
      · refine p_M_digit F k0 (by omega) ?_
        have sn := sat_nn h0 k
        refine v_M_lengthOf_J_13 F ?_
        refine ⟨fun q1 => ?_, fun q1 => ?_⟩
        · rw [if_pos (by omega)] at hv
          rw [hv]; exact hq
        · refine ⟨?_, ?_⟩
          · exact ⟨by omega, by omega⟩
          · rw [if_neg (by omega)] at hv
            exact ih (k + 1) (by omega) (by omega) hv
  refine v_M_lengthOf_J_0 F ?_
  exact loop 12 0 (Int.le_refl _) rfl rfl

end
