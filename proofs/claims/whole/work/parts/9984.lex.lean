/-! ===== lex ===== -/
section
/-! the model cuts the tape into tokens -/
theorem xi2b_cases {v : Int} (h0 : 0 ≤ v) (h1 : v ≤ 255) : xi2b v = if v < 128 then v else v - 256 := by
  have key : ∀ i : Fin 256, xi2b (i.val : Int) = if (i.val : Int) < 128 then (i.val : Int) else (i.val : Int) - 256 := by decide +kernel
  have := key ⟨v.toNat, by omega⟩
  rwa [show ((⟨v.toNat, by omega⟩ : Fin 256).val : Int) = v by show ((v.toNat : Nat) : Int) = v; omega] at this
/-- whether a byte is one of the signs: its place among them -/
theorem p_signs {G : XG} {d : Nat} {h : XH} {Q : XV → XH → Prop} {X : Nat → XH → Prop} {v : Int} (F : xFix h) (h0 : 0 ≤ v) (h1 : v ≤ 255) (hq : ∀ k : Int, (0 ≤ k ↔ tsF v = true) → Q (xI k) h) : xwp G m_String_indexOf_I (d + 7) 0 [xR (-60), xI v] [] h Q X := by
  have S := str_60 F
  have t14 : xtg h (-60) = 14 := ft_m60 F
  have e0 : xpl h (-60) 0 = -61 := fp_m60_0 F
  have b := xi2b_cases h0 h1
  have fs : ∀ k : Int, (Q (xI k) h) → xwp G m_String_indexOf_I (d + 7) 6 [xZ, xZ] (xpush (xI k) []) h Q X := fun k hk => v_String_indexOf_I_6 F hk
  refine v_String_indexOf_I_0 F ?_
  refine ⟨?_, ?_⟩
  · exact t14
  · refine v_String_indexOf_II_0 F ?_
    refine ⟨?_, ?_⟩
    · first | exact t14 | exact S.1.1 | exact S.1
    · refine ⟨?_, ?_⟩
      · first | exact t14 | exact S.1.1 | exact S.1
      · refine ⟨?_, ?_⟩
        · first | exact t14 | exact S.1.1 | exact S.1
        · rw [e0, S.2.1]
          have done : ∀ k : Int, (0 ≤ k ↔ tsF v = true) → xwp G m_String_indexOf_II (d + 6) 20 [xZ, xZ, xZ] (xpush (xI k) []) h (fun v9 h9 => xwp G m_String_indexOf_I (d + 7) 6 [xZ, xZ] (xpush v9 []) h9 Q X) X := fun k hk => by
            refine v_String_indexOf_II_20 F ?_
            refine v_String_indexOf_II_36 F ?_
            exact fs k (hq k hk)
          refine v_StringLatin1_indexOf_0 F ?_
          refine v_StringLatin1_canEncode_0 F ?_
          refine ⟨fun q1 => ?_, fun q1 => ?_⟩
          · omega
          · refine ⟨fun q2 => ?_, fun q2 => ?_⟩
            · omega
            · have l61 := fl_m61 F
              have t61 := ft_m61 F
              have go : ∀ (n k : Nat), k + n = 9 → (∀ j : Nat, j < k → xpl h (-61) j ≠ xi2b v) → xwp G m_StringLatin1_indexOfChar (d + 4) 7 [xR (-61), xZ, xZ, xI 9, xI (xi2b v), xI k] [] h (fun v9 h9 => xwp G m_StringLatin1_indexOf (d + 5) 36 [xZ, xZ, xZ, xZ] (xpush v9 []) h9 (fun v9 h9 => xwp G m_String_indexOf_II (d + 6) 20 [xZ, xZ, xZ] (xpush v9 []) h9 (fun v9 h9 => xwp G m_String_indexOf_I (d + 7) 6 [xZ, xZ] (xpush v9 []) h9 Q X) X) X) X := by
                have sg : ∀ j : Nat, j < 9 → xpl h (-61) j = xi2b v → tsF v = true := fun j hj e => by
                  have : j = 0 ∨ j = 1 ∨ j = 2 ∨ j = 3 ∨ j = 4 ∨ j = 5 ∨ j = 6 ∨ j = 7 ∨ j = 8 := by omega
                  have vv : ∀ c : Int, xi2b v = c → 0 ≤ c → v = c := fun c e c0 => by
                    rw [b] at e
                    by_cases z : v < 128
                    · rw [if_pos z] at e; exact e
                    · rw [if_neg z] at e; omega
                  unfold tsF
                  rcases this with z | z | z | z | z | z | z | z | z <;> subst z
                  · exact decide_eq_true (Or.inl (vv 43 ((e.symm.trans (fp_m61_0 F))) (by decide)))
                  · exact decide_eq_true (Or.inr (Or.inl (vv 45 ((e.symm.trans (fp_m61_1 F))) (by decide))))
                  · exact decide_eq_true (Or.inr (Or.inr (Or.inl (vv 34 ((e.symm.trans (fp_m61_2 F))) (by decide)))))
                  · exact decide_eq_true (Or.inr (Or.inr (Or.inr (Or.inl (vv 42 ((e.symm.trans (fp_m61_3 F))) (by decide))))))
                  · exact decide_eq_true (Or.inr (Or.inr (Or.inr (Or.inr (Or.inl (vv 126 ((e.symm.trans (fp_m61_4 F))) (by decide)))))))
                  · exact decide_eq_true (Or.inr (Or.inr (Or.inr (Or.inr (Or.inr (Or.inl (vv 94 ((e.symm.trans (fp_m61_5 F))) (by decide))))))))
                  · exact decide_eq_true (Or.inr (Or.inr (Or.inr (Or.inr (Or.inr (Or.inr (Or.inl (vv 58 ((e.symm.trans (fp_m61_6 F))) (by decide)))))))))
                  · exact decide_eq_true (Or.inr (Or.inr (Or.inr (Or.inr (Or.inr (Or.inr (Or.inr (Or.inl (vv 40 ((e.symm.trans (fp_m61_7 F))) (by decide))))))))))
                  · exact decide_eq_true (Or.inr (Or.inr (Or.inr (Or.inr (Or.inr (Or.inr (Or.inr (Or.inr (vv 41 ((e.symm.trans (fp_m61_8 F))) (by decide))))))))))
                have no : (∀ j : Nat, j < 9 → xpl h (-61) j ≠ xi2b v) → ¬ tsF v = true := fun hn y => by
                  unfold tsF at y
                  have y := of_decide_eq_true y
                  have vb : ∀ c : Int, v = c → c < 128 → xi2b v = c := fun c e c1 => by rw [b, if_pos (by omega)]; exact e
                  rcases y with z | z | z | z | z | z | z | z | z
                  · exact hn 0 (by decide) ((fp_m61_0 F).trans (vb 43 z (by decide)).symm)
                  · exact hn 1 (by decide) ((fp_m61_1 F).trans (vb 45 z (by decide)).symm)
                  · exact hn 2 (by decide) ((fp_m61_2 F).trans (vb 34 z (by decide)).symm)
                  · exact hn 3 (by decide) ((fp_m61_3 F).trans (vb 42 z (by decide)).symm)
                  · exact hn 4 (by decide) ((fp_m61_4 F).trans (vb 126 z (by decide)).symm)
                  · exact hn 5 (by decide) ((fp_m61_5 F).trans (vb 94 z (by decide)).symm)
                  · exact hn 6 (by decide) ((fp_m61_6 F).trans (vb 58 z (by decide)).symm)
                  · exact hn 7 (by decide) ((fp_m61_7 F).trans (vb 40 z (by decide)).symm)
                  · exact hn 8 (by decide) ((fp_m61_8 F).trans (vb 41 z (by decide)).symm)
                intro n
                induction n with
                | zero =>
                  intro k e hk
                  refine v_StringLatin1_indexOfChar_7 F ?_
                  refine ⟨fun q1 => ?_, fun q1 => ?_⟩
                  · refine v_StringLatin1_indexOf_36 F ?_
                    refine done (-1) ⟨fun y => absurd y (by decide), fun y => absurd y (no (fun j hj => hk j (by omega)))⟩
                  · refine ⟨?_, ?_⟩
                    · first | exact t61 | omega
                    · refine ⟨?_, ?_⟩
                      · first | exact t61 | omega
                      · refine ⟨?_, ?_⟩
                        · first | exact t61 | omega
                        · refine ⟨fun q2 => ?_, fun q2 => ?_⟩
                          · omega
                          · omega
                | succ n ih =>
                  intro k e hk
                  refine v_StringLatin1_indexOfChar_7 F ?_
                  refine ⟨fun q1 => ?_, fun q1 => ?_⟩
                  · omega
                  · refine ⟨?_, ?_⟩
                    · first | exact t61 | omega
                    · refine ⟨?_, ?_⟩
                      · first | exact t61 | omega
                      · refine ⟨?_, ?_⟩
                        · first | exact t61 | omega
                        · refine ⟨fun q2 => ?_, fun q2 => ?_⟩
                          · refine v_StringLatin1_indexOf_36 F ?_
                            exact done k ⟨fun _ => sg k (by omega) q2, fun _ => by omega⟩
                          · exact ih (k + 1) (by omega) (fun j hj => by
                              by_cases z : j = k
                              · rw [z]; exact q2
                              · exact hk j (by omega))
              refine v_StringLatin1_indexOf_4 F ?_
              refine ⟨fun q1 => ?_, fun q1 => ?_⟩
              · exact absurd q1 (by decide)
              · refine ⟨?_, ?_⟩
                · exact t61
                · refine ⟨fun q2 => ?_, fun q2 => ?_⟩
                  · refine v_StringLatin1_indexOfChar_0 F ?_
                    rw [l61]
                    exact go 9 0 (by decide) (fun j hj => absurd hj (Nat.not_lt_zero _))
                  · rw [l61] at q2; exact absurd (by decide) q2
theorem lat_rng {h : XH} {bs : List Int} (R : MTR h bs) {i : Int} (h0 : 0 ≤ i) (h1 : i < bs.length) : (0 ≤ lat bs i ∧ lat bs i ≤ 255) ∧ xpl h 54 i = lat bs i := by
  have a := R.2.2.1 i.toNat (by omega)
  have b := lat_in h0 h1
  rw [b, show ((i.toNat : Nat) : Int) = i by omega] at a
  exact ⟨R.2.2.2 _ (List.mem_of_getElem? b), (Option.some.inj a).symm⟩
def kdF (bs : List Int) (s n : Int) : Int := if lat bs s = -1 then 400 else if sgn (lat bs s) = 0 then (if tsF (lat bs s) = true then lat bs s else 401) else if n ≤ 20 then 300 else 401
theorem p_M_kindAt {G : XG} {d : Nat} {h : XH} {Q : XV → XH → Prop} {X : Nat → XH → Prop} {x n : Int} {bs : List Int} (F : xFix h) (R : MTR h bs) (h0 : 0 ≤ x) (h1 : x ≤ bs.length) (hq : Q (xI (kdF bs x n)) h) : xwp G m_M_kindAt (d + 8) 0 [xR 53, xI x, xI n] [] h Q X := by
  have r1 := R.1
  have r2 := R.2.1
  refine v_M_kindAt_0 F ?_
  refine ⟨fun q1 => ?_, fun q1 => ?_⟩
  · have e : kdF bs x n = 400 := by unfold kdF; rw [if_pos (lat_out (Or.inr (by omega)))]
    rw [e] at hq; exact hq
  · have lr := lat_rng R h0 (by omega)
    have nl : lat bs x ≠ -1 := by omega
    refine p_M_isOfRun F R h0 h1 ?_
    refine v_M_kindAt_17 F ?_
    refine ⟨fun q1 => ?_, fun q1 => ?_⟩
    · refine ⟨?_, ?_⟩
      · omega
      · refine ⟨?_, ?_⟩
        · omega
        · have z := Decidable.of_not_not (of_decide_eq_false (bz0 q1))
          have e : kdF bs x n = if tsF (lat bs x) = true then lat bs x else 401 := by unfold kdF; rw [if_neg nl, if_pos z]
          rw [e] at hq
          rw [lr.2, xi2c_id lr.1.1 (by omega)]
          refine p_signs F lr.1.1 lr.1.2 (fun k hk => ?_)
          refine v_M_kindAt_48 F ?_
          refine ⟨fun q1 => ?_, fun q1 => ?_⟩
          · refine ⟨?_, ?_⟩
            · omega
            · refine ⟨?_, ?_⟩
              · omega
              · rw [if_pos (hk.mp q1)] at hq
                rw [lr.2]; exact hq
          · rw [if_neg (fun y => q1 (hk.mpr y))] at hq; exact hq
    · refine ⟨fun q2 => ?_, fun q2 => ?_⟩
      · have z := of_decide_eq_true (bz1 q1)
        have e : kdF bs x n = if n ≤ 20 then 300 else 401 := by unfold kdF; rw [if_neg nl, if_neg z]
        rw [e, if_pos q2] at hq; exact hq
      · have z := of_decide_eq_true (bz1 q1)
        have e : kdF bs x n = if n ≤ 20 then 300 else 401 := by unfold kdF; rw [if_neg nl, if_neg z]
        rw [e, if_neg q2] at hq; exact hq
/-! the tokens: where each is sought, where it begins, what it is -/
def tA (bs : List Int) : Nat → Int
  | 0 => 0
  | k + 1 => ntA bs (sb bs (tA bs k))
def tP (bs : List Int) (k : Nat) : Int := sb bs (tA bs k)
def tT (bs : List Int) (k : Nat) : Int := ntT bs (tP bs k)
def tK (bs : List Int) (k : Nat) : Int := if tT bs k = 0 then 400 else if k = 40 then 401 else if tT bs k = 1 then 300 else if tT bs k = 2 then 401 else tT bs k
theorem ntA_rng (bs : List Int) {s : Int} (h0 : 0 ≤ s) (h1 : s ≤ bs.length) : s ≤ ntA bs s ∧ ntA bs s ≤ bs.length := by
  have r := re_rng bs (i := s) (lim := bs.length) h1
  unfold ntA
  by_cases z : lat bs s = -1
  · rw [if_pos z]; omega
  · have : s < bs.length := by
      by_cases y : s < bs.length
      · exact y
      · exact absurd (lat_out (Or.inr (by omega))) z
    rw [if_neg z]
    by_cases y : sgn (lat bs s) = 0
    · rw [if_pos y]; omega
    · rw [if_neg y]; omega
theorem tA_rng (bs : List Int) : ∀ k : Nat, 0 ≤ tA bs k ∧ tA bs k ≤ bs.length
  | 0 => ⟨Int.le_refl _, by show (0 : Int) ≤ _; omega⟩
  | k + 1 => by
    obtain ⟨a, b⟩ := tA_rng bs k
    have s := sb_rng (bs := bs) (p := tA bs k) b
    have n := ntA_rng bs (s := sb bs (tA bs k)) (by omega) s.2
    show 0 ≤ ntA bs (sb bs (tA bs k)) ∧ ntA bs (sb bs (tA bs k)) ≤ bs.length
    omega
theorem tP_rng (bs : List Int) (k : Nat) : tA bs k ≤ tP bs k ∧ tP bs k ≤ bs.length := sb_rng (tA_rng bs k).2
/-- the model's rows of tokens, as far as it has cut -/
def LexR (h : XH) (bs : List Int) : Prop := ∀ k : Nat, k ≤ 40 → (∀ j : Nat, j < k → tK bs j < 400) → xpl h 79 k = tP bs k ∧ xpl h 78 k = tK bs k ∧ (tK bs k < 400 → xpl h 80 k = tA bs (k + 1) - tP bs k)
theorem s_M_cut {G : XG} {d : Nat} {h : XH} {Q : XV → XH → Prop} {X : Nat → XH → Prop} {bs : List Int} (F : xFix h) (R : MTR h bs)
    (hq : ∀ h', xFix h' → xsm (fun c => c = 78 ∨ c = 79 ∨ c = 80) h h' → xnx h' = xnx h → xsl h' = xsl h → LexR h' bs → Q xN h') : xwp G m_M_cut (d + 9) 0 [xR 53, xZ, xZ] [] h Q X := by
  have hnx := F.nx
  have r1 := R.1
  have r2 := R.2.1
  have keep : ∀ h2, xsm (fun c => c = 78 ∨ c = 79 ∨ c = 80) h h2 → MTR h2 bs := fun h2 S2 => R.keep (S2.pl (by omega) (by decide) 2) (fun k => S2.pl (by omega) (by decide) k)
  have loop : ∀ (m k : Nat) (h2 : XH), k + m = 41 → xFix h2 → xsm (fun c => c = 78 ∨ c = 79 ∨ c = 80) h h2 → xnx h2 = xnx h → xsl h2 = xsl h → (∀ j : Nat, j < k → tK bs j < 400 ∧ xpl h2 79 j = tP bs j ∧ xpl h2 78 j = tK bs j ∧ xpl h2 80 j = tA bs (j + 1) - tP bs j) → xwp G m_M_cut (d + 9) 4 [xR 53, xI (tA bs k), xI k] [] h2 Q X := by
    intro m
    induction m with
    | zero =>
      intro k h2 e F2 S2 n2 l2 T
      refine v_M_cut_4 F2 ?_
      refine ⟨fun q1 => ?_, fun q1 => ?_⟩
      · have k41 := T 40 (by omega)
        refine hq h2 F2 S2 n2 l2 (fun k hk hj => ⟨(T k (by omega)).2.1, (T k (by omega)).2.2.1, fun _ => (T k (by omega)).2.2.2⟩)
      · omega
    | succ m ih =>
      intro k h2 e F2 S2 n2 l2 T
      have M2 := keep h2 S2
      have e2 : xpl h2 53 2 = bs.length := M2.1
      obtain ⟨a0, a1⟩ := tA_rng bs k
      obtain ⟨p0, p1⟩ := tP_rng bs k
      have nA := ntA_rng bs (s := tP bs k) (by omega) p1
      have eA : tA bs (k + 1) = ntA bs (tP bs k) := rfl
      -- the kind is set
      have at81 : ∀ h3, xFix h3 → xsm (fun c => c = 79 ∨ c = 80) h2 h3 → xnx h3 = xnx h2 → xsl h3 = xsl h2 → (∀ j, j ≠ (k : Int) → xpl h3 79 j = xpl h2 79 j ∧ xpl h3 80 j = xpl h2 80 j) → xpl h3 79 k = tP bs k → (lat bs (tP bs k) ≠ -1 → xpl h3 80 k = tA bs (k + 1) - tP bs k) → ∀ n, (sgn (lat bs (tP bs k)) ≠ 0 → n = re bs (tP bs k) bs.length - tP bs k) → xwp G m_M_cut (d + 9) 81 [xR 53, xI (tP bs k), xI k] [xI (kdF bs (tP bs k) n), xI k, xR 78] h3 Q X := fun h3 F3 S3 n3 l3 o3 v79 v80 n hn => by
        have kd : kdF bs (tP bs k) n = if tT bs k = 0 then 400 else if tT bs k = 1 then 300 else if tT bs k = 2 then 401 else tT bs k := by
          unfold tT ntT kdF
          by_cases z : lat bs (tP bs k) = -1
          · rw [if_pos z, if_pos z, if_pos rfl]
          · rw [if_neg z, if_neg z]
            by_cases y : sgn (lat bs (tP bs k)) = 0
            · rw [if_pos y, if_pos y]
              by_cases x : tsF (lat bs (tP bs k)) = true
              · have ts := of_decide_eq_true (by unfold tsF at x; exact x)
                rw [if_pos x, if_pos x, if_neg (by omega), if_neg (by omega), if_neg (by omega)]
              · rw [if_neg x, if_neg x, if_neg (by decide), if_neg (by decide), if_pos rfl]
            · rw [if_neg y, if_neg y, hn y]
              by_cases x : re bs (tP bs k) bs.length - tP bs k ≤ 20
              · rw [if_pos x, if_pos x, if_neg (by decide), if_pos rfl]
              · rw [if_neg x, if_neg x, if_neg (by decide), if_neg (by decide), if_pos rfl]
        have big : tT bs k = 0 ∨ tT bs k = 1 ∨ tT bs k = 2 ∨ (3 ≤ tT bs k ∧ tT bs k < 300) := by
          unfold tT ntT
          by_cases z : lat bs (tP bs k) = -1
          · rw [if_pos z]; exact Or.inl rfl
          · rw [if_neg z]
            by_cases y : sgn (lat bs (tP bs k)) = 0
            · rw [if_pos y]
              by_cases x : tsF (lat bs (tP bs k)) = true
              · have ts := of_decide_eq_true (by unfold tsF at x; exact x)
                rw [if_pos x]; omega
              · rw [if_neg x]; omega
            · rw [if_neg y]; split <;> omega
        have l0 : lat bs (tP bs k) = -1 → tT bs k = 0 := fun z => by unfold tT ntT; rw [if_pos z]
        have hn3 := F3.nx
        have at109 : ∀ h4, xFix h4 → xsm (fun c => c = 78) h3 h4 → xnx h4 = xnx h3 → xsl h4 = xsl h3 → (∀ j, j ≠ (k : Int) → xpl h4 78 j = xpl h3 78 j) → xpl h4 78 k = tK bs k → xwp G m_M_cut (d + 9) 109 [xR 53, xI (tP bs k), xI k] [] h4 Q X := fun h4 F4 S4 n4 l4 o4 v78 => by
          have w79 : ∀ j, xpl h4 79 j = xpl h3 79 j := fun j => S4.pl (by omega) (by decide) j
          have w80 : ∀ j, xpl h4 80 j = xpl h3 80 j := fun j => S4.pl (by omega) (by decide) j
          have w782 : ∀ j, xpl h3 78 j = xpl h2 78 j := fun j => S3.pl (by omega) (by decide) j
          have S9 : xsm (fun c => c = 78 ∨ c = 79 ∨ c = 80) h h4 := (S2.then S3 (fun c _ w => Or.inr w)).then S4 (fun c _ w => Or.inl w)
          have tk : tK bs k = if tT bs k = 0 then 400 else if k = 40 then 401 else if tT bs k = 1 then 300 else if tT bs k = 2 then 401 else tT bs k := rfl
          have vv80 : tK bs k < 400 → xpl h4 80 k = tA bs (k + 1) - tP bs k := fun y => by
            rw [w80]
            refine v80 (fun z => ?_)
            rw [tk, if_pos (l0 z)] at y
            omega
          have old : ∀ j : Nat, j < k → tK bs j < 400 ∧ xpl h4 79 j = tP bs j ∧ xpl h4 78 j = tK bs j ∧ xpl h4 80 j = tA bs (j + 1) - tP bs j := fun j hj => by
            obtain ⟨t1, t2, t3, t4⟩ := T j hj
            obtain ⟨o1, o2⟩ := o3 j (by omega)
            exact ⟨t1, by rw [w79, o1]; exact t2, by rw [o4 j (by omega), w782]; exact t3, by rw [w80, o2]; exact t4⟩
          have nw : xpl h4 79 k = tP bs k := by rw [w79]; exact v79
          refine v_M_cut_109 F4 ?_
          refine ⟨?_, ?_⟩
          · first | omega | (rw [vv80 (by rw [← v78]; exact q1)]; exact ⟨by omega, by omega⟩)
          · refine ⟨?_, ?_⟩
            · first | omega | (rw [vv80 (by rw [← v78]; exact q1)]; exact ⟨by omega, by omega⟩)
            · refine ⟨fun q1 => ?_, fun q1 => ?_⟩
              · refine ⟨?_, ?_⟩
                · first | omega | (rw [vv80 (by rw [← v78]; exact q1)]; exact ⟨by omega, by omega⟩)
                · rw [v78] at q1
                  rw [vv80 q1, show tP bs k + (tA bs (k + 1) - tP bs k) = tA bs (k + 1) by omega]
                  refine ih (k + 1) h4 (by omega) F4 S9 (by omega) (by omega) (fun j hj => ?_)
                  by_cases z : j = k
                  · rw [z]; exact ⟨q1, nw, v78, vv80 q1⟩
                  · exact old j (by omega)
              · rw [v78] at q1
                refine hq h4 F4 S9 (by omega) (by omega) (fun j hj hl => ?_)
                by_cases z : j < k
                · obtain ⟨t1, t2, t3, t4⟩ := old j z
                  exact ⟨t2, t3, fun _ => t4⟩
                · by_cases y : j = k
                  · rw [y]; exact ⟨nw, v78, vv80⟩
                  · exact absurd (hl k (by omega)) q1
        have t41 : xtg h3 78 = 100 := ft_78 F3
        rw [kd]
        refine v_M_cut_81 F3 ?_
        refine ⟨?_, ?_⟩
        · omega
        · refine ⟨?_, ?_⟩
          · omega
          · refine ⟨fun q1 => ?_, fun q1 => ?_⟩
            · refine ⟨fun q2 => ?_, fun q2 => ?_⟩
              · intro F9
                rw [xpl_hit] at q2
                refine at109 _ F9 ((xsm.refl h3).st (by omega) (Or.inl rfl)) rfl rfl (fun j hj => xpl_ok hj) ?_
                rw [xpl_hit]
                have z : tT bs k = 0 := by
                  by_cases z : tT bs k = 0
                  · exact z
                  · rw [if_neg z] at q2; split at q2 <;> (try split at q2) <;> omega
                unfold tK
                rw [if_pos z, if_pos z]
              · intro F9
                rw [xpl_hit] at q2
                rw [xst_xst] at F9 ⊢
                refine at109 _ F9 ((xsm.refl h3).st (by omega) (Or.inl rfl)) rfl rfl (fun j hj => xpl_ok hj) ?_
                rw [xpl_hit]
                have z : ¬ tT bs k = 0 := fun z => by rw [if_pos z] at q2; exact q2 rfl
                unfold tK
                rw [if_neg z, if_pos (by omega)]
            · intro F9
              refine at109 _ F9 ((xsm.refl h3).st (by omega) (Or.inl rfl)) rfl rfl (fun j hj => xpl_ok hj) ?_
              rw [xpl_hit]
              unfold tK
              rw [if_neg (show ¬ k = 40 by omega)]
      have at35 : xwp G m_M_cut (d + 9) 35 [xR 53, xI (tP bs k), xI k] [] h2 Q X := by
        refine v_M_cut_35 F2 ?_
        refine ⟨?_, ?_⟩
        · omega
        · refine ⟨?_, ?_⟩
          · omega
          · intro F9
            have F3 := F9
            have M3 : MTR (xst h2 79 k (tP bs k)) bs := M2.keep (xpl_oa (by decide)) (fun j => xpl_oa (by decide))
            have at64 : ∀ n : Int, (lat bs (tP bs k) ≠ -1 → n = tA bs (k + 1) - tP bs k) → (sgn (lat bs (tP bs k)) ≠ 0 → n = re bs (tP bs k) bs.length - tP bs k) → xwp G m_M_cut (d + 9) 64 [xR 53, xI (tP bs k), xI k] [xI n, xI k, xR 80] (xst h2 79 k (tP bs k)) Q X := fun n hn hr => by
              refine v_M_cut_64 F3 ?_
              refine ⟨?_, ?_⟩
              · omega
              · refine ⟨?_, ?_⟩
                · omega
                · refine ⟨?_, ?_⟩
                  · omega
                  · refine ⟨?_, ?_⟩
                    · omega
                    · intro F9
                      rw [xpl_hit]
                      refine p_M_kindAt F9 (M3.keep (xpl_oa (by decide)) (fun j => xpl_oa (by decide))) (by omega) p1 ?_
                      exact at81 _ F9 (((xsm.refl h2).st (by omega) (Or.inl (Or.inl rfl))).st (by omega) (Or.inl (Or.inr rfl))) rfl rfl (fun j hj => ⟨(xpl_oa (by decide)).trans (xpl_ok hj), (xpl_ok hj).trans (xpl_oa (by decide))⟩) ((xpl_oa (by decide)).trans (xpl_hit _ _ _ _)) (fun z => by rw [xpl_hit]; exact hn z) n hr
            refine p_M_isOfRun F3 M3 (by omega) p1 ?_
            refine v_M_cut_52 F3 ?_
            refine ⟨fun q1 => ?_, fun q1 => ?_⟩
            · have z := Decidable.of_not_not (of_decide_eq_false (bz0 q1))
              refine at64 1 (fun y => ?_) (fun y => absurd z y)
              rw [eA]
              unfold ntA
              rw [if_neg y, if_pos z]; omega
            · have z := of_decide_eq_true (bz1 q1)
              refine p_M_runLength F3 M3 (by omega) p1 ?_
              refine v_M_cut_60 F3 ?_
              refine at64 _ (fun y => ?_) (fun _ => rfl)
              rw [eA]
              unfold ntA
              rw [if_neg y, if_neg z]
      -- blanks are left out
      have skip : ∀ (n i : Nat), i + n = bs.length → sbF bs n i = tP bs k → xwp G m_M_cut (d + 9) 10 [xR 53, xI i, xI k] [] h2 Q X := by
        intro n
        induction n with
        | zero =>
          intro i ei hv
          have hv : (i : Int) = tP bs k := hv
          refine v_M_cut_10 F2 ?_
          refine ⟨fun q1 => ?_, fun q1 => ?_⟩
          · rw [hv]; exact at35
          · refine ⟨?_, ?_⟩
            · omega
            · refine ⟨?_, ?_⟩
              · omega
              · refine ⟨fun q2 => ?_, fun q2 => ?_⟩
                · omega
                · omega
        | succ n ihn =>
          intro i ei hv
          have lr := lat_rng M2 (i := i) (by omega) (by omega)
          have hv : (if lat bs i = 32 then sbF bs n ((i : Int) + 1) else (i : Int)) = tP bs k := hv
          refine v_M_cut_10 F2 ?_
          refine ⟨fun q1 => ?_, fun q1 => ?_⟩
          · omega
          · refine ⟨?_, ?_⟩
            · omega
            · refine ⟨?_, ?_⟩
              · omega
              · refine ⟨fun q2 => ?_, fun q2 => ?_⟩
                · rw [lr.2] at q2
                  rw [if_pos q2] at hv
                  exact ihn (i + 1) (by omega) hv
                · rw [lr.2] at q2
                  rw [if_neg q2] at hv
                  rw [hv]; exact at35
      refine v_M_cut_4 F2 ?_
      refine ⟨fun q1 => ?_, fun q1 => ?_⟩
      · omega
      · have g := skip (bs.length - (tA bs k).toNat) (tA bs k).toNat (by omega) (by
          show _ = sb bs (tA bs k)
          unfold sb
          rw [show (((tA bs k).toNat : Nat) : Int) = tA bs k by omega, show (bs.length - tA bs k).toNat = bs.length - (tA bs k).toNat by omega])
        rw [show (((tA bs k).toNat : Nat) : Int) = tA bs k by omega] at g
        exact g
  refine v_M_cut_0 F ?_
  exact loop 41 0 h (by decide) F (xsm.refl h) rfl rfl (fun j hj => absurd hj (Nat.not_lt_zero _))

end
