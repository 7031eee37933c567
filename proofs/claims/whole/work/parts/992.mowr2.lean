/-! ===== mowr2 ===== -/
section
theorem mgF_uK {T : List (Txt × Bool)} {s n : Nat} (h : s + n ≤ T.length) : uK (mgF T s n) = uK T := by
  have e : T = T.take s ++ (segF T s n ++ T.drop (s + n)) := by
    unfold segF
    rw [← List.drop_drop, List.take_append_drop, List.take_append_drop]
  have f2 : ∀ l : List (Txt × Bool), uK (l.filter (fun t => !t.2)) = uK l := fun l => by
    unfold uK
    rw [List.filter_filter]
    congr 2
    funext t
    simp
  unfold mgF
  rw [uK_app, uK_app, f2]
  conv => rhs; rw [e]
  rw [uK_app, uK_app]
theorem mgT_uK {z : List Int} {f : List (Txt × Bool)} {a c : Nat} (W : Swf z f) : uK (mgT z a c f) = uK f := mgF_uK (mg_rng W)
/-- behind thrown = 0 and isReckoned = false -/
theorem MTS.un {h : XH} {s : CS} (R : MTS h s) : MTS (xst (xst h 53 0 0) 53 26 0) s ∧ xsm MWW h (xst (xst h 53 0 0) 53 26 0) ∧ (∀ k, k ≠ 0 → k ≠ 26 → xpl (xst (xst h 53 0 0) 53 26 0) 53 k = xpl h 53 k) ∧ xpl (xst (xst h 53 0 0) 53 26 0) 53 0 = 0 ∧ xpl (xst (xst h 53 0 0) 53 26 0) 53 26 = 0 ∧ (∀ c k, c ≠ 53 → xpl (xst (xst h 53 0 0) 53 26 0) c k = xpl h c k) ∧ xnx (xst (xst h 53 0 0) 53 26 0) = xnx h ∧ xsl (xst (xst h 53 0 0) 53 26 0) = xsl h := by
  obtain ⟨H, hH⟩ : ∃ H, H = xst (xst h 53 0 0) 53 26 0 := ⟨_, rfl⟩
  rw [← hH]
  have o53 : ∀ k, k ≠ 0 → k ≠ 26 → xpl H 53 k = xpl h 53 k := fun k h0 h26 => by rw [hH, xpl_ok h26, xpl_ok h0]
  have oo : ∀ c k, c ≠ 53 → xpl H c k = xpl h c k := fun c k hc => by rw [hH, xpl_oa hc, xpl_oa hc]
  have A : MSA H (fbF (fC s) (bC s)) := by
    obtain ⟨⟨p1, p2⟩, ⟨n1, n2⟩, tx⟩ := R.2.1.a
    exact ⟨⟨fun i i0 i1 => by rw [oo 55 _ (by decide)]; exact p1 i i0 i1, fun i j i0 i1 j0 j1 e => by rw [oo 55 _ (by decide), oo 55 _ (by decide)] at e; exact p2 i j i0 i1 j0 j1 e⟩, ⟨(o53 4 (by decide) (by decide)).trans n1, n2⟩, fun i t ht => by rw [oo 55 _ (by decide)]; exact (tx i t ht).keep (fun c k c1 c2 => oo c k (by omega))⟩
  refine ⟨⟨R.1.keep (o53 2 (by decide) (by decide)) (fun k => oo 54 k (by decide)), A.msr R.2.1 (o53 5 (by decide) (by decide)) (o53 6 (by decide) (by decide)) (fun k => oo 56 k (by decide)) R.2.1.2.2.2.2.1, (o53 14 (by decide) (by decide)).trans R.2.2⟩, ?_, o53, ?_, ?_, oo, ?_, ?_⟩
  · rw [hH]
    exact ((xsm.refl h).st (by decide) (Or.inl ⟨by decide, by decide⟩)).st (by decide) (Or.inl ⟨by decide, by decide⟩)
  · rw [hH, xpl_ok (by decide), xpl_hit]
  · rw [hH, xpl_hit]
  · rw [hH]; rfl
  · rw [hH]; rfl
theorem s_M_mergeAll {G : XG} {d : Nat} {h : XH} {Q : XV → XH → Prop} {X : Nat → XH → Prop} {s : CS} {n9 s9 : Int} (F : xFix h) (R : MTS h s) (W : Swf (zC s) (fC s)) (m0 : 0 ≤ mC s) (m1 : mC s ≤ 900000) (hn : 0 ≤ n9) (hs : 0 ≤ s9) (hq : MAT Q xI h (fC s) [] (cMergeAll s) n9 s9) : xwp G m_M_mergeAll (d + 4) 0 [xR 53, xZ] [] h Q X := by
  have z5 := R.2.1.2.1.2.2.1
  have zl := R.2.1.2.1.2.2.2.1
  obtain ⟨H, hH⟩ : ∃ H, H = xst (xst h 53 0 0) 53 26 0 := ⟨_, rfl⟩
  have un := R.un
  rw [← hH] at un
  obtain ⟨R2, S2, o53, h0, h26, oo, n2, l2⟩ := un
  have no : xFix H → ((zC s).length = 0 ∨ ((zC s).length = 1 ∧ goneF (fC s) 0 (fC s).length = 0)) → xwp G m_M_mergeAll (d + 4) 38 [xR 53, xZ] [] H Q X := fun F9 z => by
    unfold cMergeAll maG maT maZ maM at hq
    rw [if_pos z, if_pos z, if_pos z, if_pos z] at hq
    refine v_M_mergeAll_38 F9 ?_
    refine v_M_mergeAll_39 F9 ?_
    refine ⟨fun q1 => ?_, fun q1 => ?_⟩
    · exact hq H F9 R2 S2 (fun k k0 _ _ _ _ _ k26 => o53 k k0 k26) (Or.inl h26) h0 (by omega) (by omega)
    · refine ⟨?_, ?_⟩
      · first | omega | assumption | exact ⟨by omega, by omega⟩ | (simp only [*]; done) | grind
      · exact absurd rfl q1
  have yes : xFix H → ¬ ((zC s).length = 0 ∨ ((zC s).length = 1 ∧ goneF (fC s) 0 (fC s).length = 0)) → xwp G m_M_mergeAll (d + 4) 34 [xR 53, xZ] [] H Q X := fun F9 z => by
    unfold cMergeAll maG maT maZ maM at hq
    rw [if_neg z, if_neg z, if_neg z, if_neg z] at hq
    have e5 : xpl H 53 5 = (zC s).length := (o53 5 (by decide) (by decide)).trans z5
    refine v_M_mergeAll_34 F9 ?_
    refine v_M_mergeAll_39 F9 ?_
    refine ⟨fun q1 => ?_, fun q1 => ?_⟩
    · exact absurd q1 (by decide)
    · refine ⟨?_, ?_⟩
      · rw [e5]; exact ⟨by omega, by omega⟩
      · rw [e5, show ((zC s).length : Int) - 1 = ((0 : Nat) : Int) + ((zC s).length : Nat) - 1 by omega]
        refine s_M_merge (a := 0) (c := (zC s).length) F9 R2.2.1 (by omega) (by omega) m0 m1 (fun h3 F3 S3 k3 M3 n3 l3 => ?_)
        have hnx := F9.nx
        refine v_M_mergeAll_55 F3 ?_
        rw [mgT_fb _ W, mgZ_fb _ W] at M3
        rw [mgG_fb _ W]
        exact hq h3 F3 ⟨R2.1.keep (k3 2 (by decide) (by decide) (by decide)) (fun k => S3.pl (by omega) (by decide) k), M3, (k3 14 (by decide) (by decide) (by decide)).trans R2.2.2⟩ (S2.then S3 (fun c _ w => ⟨by omega, by omega⟩)) (fun k k0 k2 k4 k5 k6 k14 k26 => (k3 k k4 k5 k6).trans (o53 k k0 k26)) (Or.inl ((k3 26 (by decide) (by decide) (by decide)).trans h26)) ((k3 0 (by decide) (by decide) (by decide)).trans h0) (by omega) (by omega)
  refine v_M_mergeAll_0 F ?_
  refine ⟨fun q1 => ?_, fun q1 => ?_⟩
  · intro F9
    rw [← hH] at F9 ⊢
    exact yes F9 (by omega)
  · refine ⟨fun q2 => ?_, fun q2 => ?_⟩
    · intro F9
      rw [← hH] at F9 ⊢
      refine p_M_marks F9 R2.2.1 (x := 0) (by decide) (by omega) ?_
      have sr := seg_rng W (x := 0) (by omega) (by omega)
      rw [goneF_fb _ (by omega)]
      have e0 : stA (zC s) 0 = 0 := rfl
      have e1 : szA (zC s) 0 = (fC s).length := by
        have := stA_succ (z := zC s) (x := 0) (by omega) (by omega)
        have e2 := stA_all (z := zC s) (k := 1) (by omega)
        have w1 := W.1
        have e3 : stA (zC s) (0 + 1) = stA (zC s) ((1 : Nat) : Int) := rfl
        omega
      rw [e0, e1, show (0 : Int).toNat = 0 from rfl, show (((fC s).length : Nat) : Int).toNat = (fC s).length by omega]
      refine v_M_mergeAll_31 F9 ?_
      refine ⟨fun q1 => ?_, fun q1 => ?_⟩
      · exact no F9 (Or.inr ⟨by omega, by omega⟩)
      · exact yes F9 (by omega)
    · intro F9
      rw [← hH] at F9 ⊢
      exact no F9 (by omega)
abbrev al3 (z : List Int) (i : Int) : Prop := lvl (szA z (i + 1)) = lvl (szA z i) ∧ lvl (szA z (i + 2)) = lvl (szA z i)
theorem f3F_skip (z : List Int) : ∀ (c n : Nat) (i : Int), c ≤ n → (∀ j : Nat, j < c → ¬ al3 z (i + j)) → f3F z n i = f3F z (n - c) (i + c)
  | 0, n, i, _, _ => by
    rw [show i + ((0 : Nat) : Int) = i by omega]; rfl
  | c + 1, 0, i, h, _ => absurd h (by omega)
  | c + 1, n + 1, i, h, hn => by
    have e : f3F z (n + 1) i = if al3 z i then i else f3F z n (i + 1) := rfl
    have h0 := hn 0 (by omega)
    rw [show i + ((0 : Nat) : Int) = i by omega] at h0
    rw [e, if_neg h0, f3F_skip z c n (i + 1) (by omega) (fun j hj => by
      have := hn (j + 1) (by omega)
      rwa [show i + ((j + 1 : Nat) : Int) = i + 1 + j by omega] at this), show n + 1 - (c + 1) = n - c by omega, show i + 1 + (c : Int) = i + ((c + 1 : Nat) : Int) by omega]
theorem f3_none {z : List Int} (h : ∀ j : Nat, j + 2 < z.length → ¬ al3 z j) : f3 z = -1 := by
  unfold f3
  rw [f3F_skip z (z.length - 2) (z.length - 2) 0 (Nat.le_refl _) (fun j hj => by rw [show (0 : Int) + j = j by omega]; exact h j (by omega)), Nat.sub_self]
  rfl
theorem f3_hit {z : List Int} {k : Nat} (hk : k + 2 < z.length) (h : ∀ j : Nat, j < k → ¬ al3 z j) (a : al3 z k) : f3 z = k := by
  unfold f3
  rw [f3F_skip z k (z.length - 2) 0 (by omega) (fun j hj => by rw [show (0 : Int) + j = j by omega]; exact h j hj), show z.length - 2 - k = (z.length - 3 - k) + 1 by omega, show (0 : Int) + k = k by omega]
  show (if al3 z k then (k : Int) else _) = k
  rw [if_pos a]
theorem len_sum {z : List Int} (h : ∀ x ∈ z, 1 ≤ x) : (z.length : Int) ≤ z.sum := by
  induction z with
  | nil => decide
  | cons a z ih =>
    have h1 := h a (List.mem_cons_self)
    have h2 := ih (fun x hx => h x (List.mem_cons_of_mem _ hx))
    rw [List.sum_cons, List.length_cons]
    omega
theorem mgZ_len {z : List Int} {f : List (Txt × Bool)} {k : Nat} (h : k + 3 ≤ z.length) : (mgZ z k 3 f).length + 2 ≤ z.length := by
  unfold mgZ rplS
  rw [List.length_append, List.length_append, List.length_take, List.length_drop]
  split
  · show min k z.length + 1 + _ + 2 ≤ _; omega
  · show min k z.length + 0 + _ + 2 ≤ _; omega
/-- a new segment's end -/
theorem MSR.grow {h h' : XH} {T : List (Txt × Bool)} {z : List Int} {m x : Int} (R : MSR h T z m) (hx : 1 ≤ x) (e : z.sum + x = T.length) (o4 : xpl h' 53 4 = xpl h 53 4) (o5 : xpl h' 53 5 = (z.length : Int) + 1) (o6 : xpl h' 53 6 = xpl h 53 6) (e56 : ∀ k, xpl h' 56 k = if k = z.length then (T.length : Int) else xpl h 56 k) (oo : ∀ c k, c ≠ 53 → c ≠ 56 → xpl h' c k = xpl h c k) : MSR h' T (z ++ [x]) m := by
  obtain ⟨⟨p1, p2⟩, ⟨r2, r3, r4, r5, r6⟩, r7, r8, r9, r10⟩ := R
  have ls := len_sum r8
  have sm : (z ++ [x]).sum = T.length := by rw [List.sum_append]; show z.sum + (x + 0) = _; omega
  refine ⟨⟨fun i i0 i1 => by rw [oo 55 _ (by decide) (by decide)]; exact p1 i i0 i1, fun i j i0 i1 j0 j1 e => by rw [oo 55 _ (by decide) (by decide), oo 55 _ (by decide) (by decide)] at e; exact p2 i j i0 i1 j0 j1 e⟩, ⟨o4.trans r2, r3, ?_, ?_, o6.trans r6⟩, fun i hi => ?_, fun y hy => ?_, ?_, fun i t ht => ?_⟩
  · rw [o5, List.length_append]; rfl
  · rw [List.length_append]; show z.length + 1 ≤ 60; omega
  · rw [List.length_append] at hi
    have hi : i < z.length + 1 := hi
    rw [e56]
    by_cases w : i = z.length
    · rw [if_pos (by omega), w, show (z.length : Int) + 1 = ((z.length + 1 : Nat) : Int) by omega, stA_all (by rw [List.length_append]; show z.length + 1 ≤ z.length + 1; omega), sm]
    · rw [if_neg (by omega), r7 i (by omega)]
      unfold stA
      rw [show ((i : Int) + 1).toNat = i + 1 by omega, List.take_append_of_le_length (by omega)]
  · rcases List.mem_append.mp hy with w | w
    · exact r8 y w
    · rw [List.mem_singleton.mp w]; exact hx
  · rw [sm]; omega
  · rw [oo 55 _ (by decide) (by decide)]
    exact (r10 i t ht).keep (fun c k c1 c2 => oo c k (by omega) (by omega))
theorem s_M_commit {G : XG} {d : Nat} {h : XH} {Q : XV → XH → Prop} {X : Nat → XH → Prop} {s : CS} {n9 s9 : Int} (F : xFix h) (R : MTS h s) (W : Swf (zC s) (fC s)) (m0 : 0 ≤ mC s) (m1 : mC s ≤ 800000) (hn : 0 ≤ n9) (hs : 0 ≤ s9) (hq : MAT Q xI h (fC s) [] (cCommit s) n9 s9) : xwp G m_M_commit (d + 4) 0 [xR 53, xZ, xZ] [] h Q X := by
  have z4 := R.2.1.2.1.1
  have z5 := R.2.1.2.1.2.2.1
  have zl := R.2.1.2.1.2.2.2.1
  have tl := R.2.1.2.1.2.1
  have w1 := W.1
  have fl := fb_len (fC s) (bC s)
  have hnx0 := F.nx
  have ls := len_sum R.2.1.2.2.2.1
  -- the heap behind the first steps
  have main : ∀ (H : XH), xFix H → xsm MWW h H → xnx H = xnx h → xsl H = xsl h → MTR H (tC s) → xpl H 53 14 = wC s → xpl H 53 0 = 0 → xpl H 53 26 = 0 → MKP h H → MSR H (fbF (fC s) (bC s)) (fbZ (zC s) (bC s)) (mC s) → xwp G m_M_commit (d + 4) 46 [xR 53, xI 0, xZ] [] H Q X := by
    intro H FH SH nH lH TH wH h0 h26 kH MH
    have hnx := FH.nx
    have loop : ∀ (n : Nat) (z2 : List Int) (T2 : List (Txt × Bool)) (m2 : Int) (h2 : XH), z2.length ≤ n → xFix h2 → MSR h2 T2 z2 m2 → xsm (fun c => c = 53 ∨ c = 55 ∨ c = 56) H h2 → (∀ k, k ≠ 4 → k ≠ 5 → k ≠ 6 → xpl h2 53 k = xpl H 53 k) → xnx h2 = xnx H → xsl h2 = xsl H → 0 ≤ m2 → m2 + n ≤ 900000 → mwF n z2 T2 m2 = cmR s → ∀ (j k : Nat), k + j = z2.length → (∀ i : Nat, i < k → ¬ al3 z2 i) → xwp G m_M_commit (d + 4) 46 [xR 53, xI k, xZ] [] h2 Q X := by
      intro n
      induction n with
      | zero =>
        intro z2 T2 m2 h2 hl F2 M2 S2 k2 n2 l2 a0 a1 hw j k ej hk
        have e5 := M2.2.1.2.2.1
        have hw : (z2, T2, m2) = cmR s := hw
        refine v_M_commit_46 F2 ?_
        refine ⟨?_, ?_⟩
        · exact ⟨by omega, by omega⟩
        · refine ⟨fun q1 => ?_, fun q1 => ?_⟩
          · rw [e5]
            have hh := hq h2 F2 ⟨TH.keep (k2 2 (by decide) (by decide) (by decide)) (fun k => S2.pl (by omega) (by decide) k), by
              show MSR h2 (fbF (cmR s).2.1 []) (cmR s).1 (cmR s).2.2
              rw [← hw]
              show MSR h2 (T2 ++ []) z2 m2
              rw [List.append_nil]; exact M2, (k2 14 (by decide) (by decide) (by decide)).trans wH⟩ (SH.then S2 (fun c _ w => ⟨by omega, by omega⟩)) (fun k k0 k2' k4 k5 k6 k14 k26 => (k2 k k4 k5 k6).trans (kH k k0 k2' k4 k5 k6 k14 k26)) (Or.inl ((k2 26 (by decide) (by decide) (by decide)).trans h26)) ((k2 0 (by decide) (by decide) (by decide)).trans h0) (by omega) (by omega)
            have hh : Q (xI ((cmR s).1.length : Int)) h2 := hh
            rw [← hw] at hh
            exact hh
          · omega
      | succ n ihn =>
        intro z2 T2 m2 h2 hl F2 M2 S2 k2 n2 l2 a0 a1 hw j
        have e5 := M2.2.1.2.2.1
        have l60 := M2.2.1.2.2.2.1
        have ew : mwF (n + 1) z2 T2 m2 = if f3 z2 = -1 then (z2, T2, m2) else mwF n (mgZ z2 (f3 z2).toNat 3 T2) (mgT z2 (f3 z2).toNat 3 T2) (m2 + 1) := rfl
        rw [ew] at hw
        induction j with
        | zero =>
          intro k ej hk
          rw [if_pos (f3_none (fun j hj => hk j (by omega)))] at hw
          refine v_M_commit_46 F2 ?_
          refine ⟨?_, ?_⟩
          · exact ⟨by omega, by omega⟩
          · refine ⟨fun q1 => ?_, fun q1 => ?_⟩
            · rw [e5]
              have hh := hq h2 F2 ⟨TH.keep (k2 2 (by decide) (by decide) (by decide)) (fun k => S2.pl (by omega) (by decide) k), by
                show MSR h2 (fbF (cmR s).2.1 []) (cmR s).1 (cmR s).2.2
                rw [← hw]
                show MSR h2 (T2 ++ []) z2 m2
                rw [List.append_nil]; exact M2, (k2 14 (by decide) (by decide) (by decide)).trans wH⟩ (SH.then S2 (fun c _ w => ⟨by omega, by omega⟩)) (fun k k0 k2' k4 k5 k6 k14 k26 => (k2 k k4 k5 k6).trans (kH k k0 k2' k4 k5 k6 k14 k26)) (Or.inl ((k2 26 (by decide) (by decide) (by decide)).trans h26)) ((k2 0 (by decide) (by decide) (by decide)).trans h0) (by omega) (by omega)
              have hh : Q (xI ((cmR s).1.length : Int)) h2 := hh
              rw [← hw] at hh
              exact hh
            · omega
        | succ j ihj =>
          intro k ej hk
          have nx : ¬ al3 z2 k → xwp G m_M_commit (d + 4) 90 [xR 53, xI k, xZ] [] h2 Q X := fun na => by
            have go := ihj (k + 1) (by omega) (fun i hi => by
              by_cases e : i = k
              · rw [e]; exact na
              · exact hk i (by omega))
            refine v_M_commit_90 F2 ?_
            refine v_M_commit_91 F2 ?_
            refine ⟨fun q1 => ?_, fun q1 => ?_⟩
            · refine v_M_commit_105 F2 ?_
              refine ⟨fun q1 => ?_, fun q1 => ?_⟩
              · refine ⟨?_, ?_⟩
                · exact ⟨by omega, by omega⟩
                · exact go
              · exact absurd rfl q1
            · refine ⟨?_, ?_⟩
              · first | omega | assumption | exact ⟨by omega, by omega⟩ | (simp only [*]; done) | grind
              · exact absurd rfl q1
          refine v_M_commit_46 F2 ?_
          refine ⟨?_, ?_⟩
          · exact ⟨by omega, by omega⟩
          · refine ⟨fun q1 => ?_, fun q1 => ?_⟩
            · rw [e5] at q1
              rw [if_pos (f3_none (fun j hj => hk j (by omega)))] at hw
              rw [e5]
              have hh := hq h2 F2 ⟨TH.keep (k2 2 (by decide) (by decide) (by decide)) (fun k => S2.pl (by omega) (by decide) k), by
                show MSR h2 (fbF (cmR s).2.1 []) (cmR s).1 (cmR s).2.2
                rw [← hw]
                show MSR h2 (T2 ++ []) z2 m2
                rw [List.append_nil]; exact M2, (k2 14 (by decide) (by decide) (by decide)).trans wH⟩ (SH.then S2 (fun c _ w => ⟨by omega, by omega⟩)) (fun k k0 k2' k4 k5 k6 k14 k26 => (k2 k k4 k5 k6).trans (kH k k0 k2' k4 k5 k6 k14 k26)) (Or.inl ((k2 26 (by decide) (by decide) (by decide)).trans h26)) ((k2 0 (by decide) (by decide) (by decide)).trans h0) (by omega) (by omega)
              have hh : Q (xI ((cmR s).1.length : Int)) h2 := hh
              rw [← hw] at hh
              exact hh
            · rw [e5] at q1
              have qa := q1
              refine p_M_level F2 M2 (by omega) (by omega) ?_
              refine v_M_commit_61 F2 ?_
              refine ⟨?_, ?_⟩
              · exact ⟨by omega, by omega⟩
              · refine p_M_level F2 M2 (by omega) (by omega) ?_
                refine v_M_commit_68 F2 ?_
                refine ⟨fun q1 => ?_, fun q1 => ?_⟩
                · have qb := q1
                  refine p_M_level F2 M2 (by omega) (by omega) ?_
                  refine v_M_commit_76 F2 ?_
                  refine ⟨?_, ?_⟩
                  · exact ⟨by omega, by omega⟩
                  · refine p_M_level F2 M2 (by omega) (by omega) ?_
                    refine v_M_commit_83 F2 ?_
                    refine ⟨fun q1 => ?_, fun q1 => ?_⟩
                    · have ha : al3 z2 k := ⟨qb.symm, q1.symm⟩
                      have e3 := f3_hit (by omega) hk ha
                      rw [e3, if_neg (by omega), Int.toNat_natCast] at hw
                      have ml := mgZ_len (f := T2) (k := k) (z := z2) (by omega)
                      refine v_M_commit_91 F2 ?_
                      refine ⟨fun q1 => ?_, fun q1 => ?_⟩
                      · exact absurd q1 (by decide)
                      · refine ⟨?_, ?_⟩
                        · exact ⟨by omega, by omega⟩
                        · rw [show (k : Int) + 2 = (k : Int) + ((3 : Nat) : Int) - 1 by omega]
                          refine s_M_merge (a := k) (c := 3) F2 M2 (by decide) (by omega) a0 (by omega) (fun h3 F3 S3 k3 M3 n3 l3 => ?_)
                          refine v_M_commit_104 F3 ?_
                          refine v_M_commit_105 F3 ?_
                          refine ⟨fun q1 => ?_, fun q1 => ?_⟩
                          · refine ⟨?_, ?_⟩
                            · first | omega | assumption | exact ⟨by omega, by omega⟩ | (simp only [*]; done) | grind
                            · exact absurd q1 (by decide)
                          · exact ihn _ _ _ h3 (by omega) F3 M3 (S2.then S3 (fun c _ w => w)) (fun k' a4 a5 a6 => (k3 k' a4 a5 a6).trans (k2 k' a4 a5 a6)) (n3.trans n2) (l3.trans l2) (by omega) (by omega) hw _ 0 (Nat.zero_add _) (fun i hi => absurd hi (Nat.not_lt_zero _))
                    · exact nx (fun y => q1 y.2.symm)
                · exact nx (fun y => q1 y.1.symm)
    have e60 : (fbZ (zC s) (bC s)).length ≤ 60 := MH.2.1.2.2.2.1
    exact loop 60 _ _ _ H e60 FH MH (xsm.refl H) (fun _ _ _ _ => rfl) rfl rfl m0 (by omega) rfl _ 0 (Nat.zero_add _) (fun i hi => absurd hi (Nat.not_lt_zero _))
  obtain ⟨H, hH⟩ : ∃ H, H = xst (xst h 53 0 0) 53 26 0 := ⟨_, rfl⟩
  have un := R.un
  rw [← hH] at un
  obtain ⟨R2, S2, o53, h0, h26, oo, n2, l2⟩ := un
  refine v_M_commit_0 F ?_
  intro F9
  rw [← hH] at F9 ⊢
  have hnx := F9.nx
  have e4 : xpl H 53 4 = xpl h 53 4 := o53 4 (by decide) (by decide)
  have e5 : xpl H 53 5 = xpl h 53 5 := o53 5 (by decide) (by decide)
  refine p_M_inSegments F9 R2.2.1 ?_
  refine v_M_commit_18 F9 ?_
  refine ⟨fun q1 => ?_, fun q1 => ?_⟩
  · refine main H F9 S2 n2 l2 R2.1 R2.2.2 h0 h26 (fun k k0 _ _ _ _ _ k26 => o53 k k0 k26) ?_
    have e : fbZ (zC s) (bC s) = zC s := by unfold fbZ; rw [if_pos (by omega)]
    rw [e]; exact R2.2.1
  · refine ⟨?_, ?_⟩
    · omega
    · refine ⟨?_, ?_⟩
      · omega
      · intro F9
        have e : fbZ (zC s) (bC s) = zC s ++ [((bC s).length : Int)] := by unfold fbZ; rw [if_neg (by omega)]
        refine main _ F9 ((S2.st (k := xpl H 53 5) (by omega) (Or.inl ⟨by decide, by decide⟩)).st (by decide) (Or.inl ⟨by decide, by decide⟩)) n2 l2 (R2.1.keep ((xpl_ok (by decide)).trans (xpl_oa (by decide))) (fun k => (xpl_oa (by decide)).trans (xpl_oa (by decide)))) (((xpl_ok (by decide)).trans (xpl_oa (by decide))).trans R2.2.2) (((xpl_ok (by decide)).trans (xpl_oa (by decide))).trans h0) (((xpl_ok (by decide)).trans (xpl_oa (by decide))).trans h26) (fun k k0 _ _ k5 _ _ k26 => ((xpl_ok k5).trans (xpl_oa (by decide))).trans (o53 k k0 k26)) ?_
        rw [e]
        refine R2.2.1.grow (by omega) (by rw [fl]; omega) ((xpl_ok (by decide)).trans (xpl_oa (by decide))) (by rw [xpl_hit, e5, z5]) ((xpl_ok (by decide)).trans (xpl_oa (by decide))) (fun k => ?_) (fun c k c1 c2 => (xpl_oa c1).trans (xpl_oa c2))
        rw [xpl_oa (by decide), e5, z5, e4, z4]
        by_cases w : k = ((zC s).length : Int)
        · rw [if_pos w, w, xpl_hit]
        · rw [if_neg w, xpl_ok w]

end
