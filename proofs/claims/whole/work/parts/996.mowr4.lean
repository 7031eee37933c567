/-! ===== mowr4 ===== -/
section
/-! the model's takeWord and add -/
theorem MSR.keep {h h' : XH} {T : List (Txt × Bool)} {z : List Int} {m : Int} (R : MSR h T z m) (e : ∀ k, k = 4 ∨ k = 5 ∨ k = 6 → xpl h' 53 k = xpl h 53 k) (oo : ∀ c k, 55 ≤ c → c ≤ 62 → xpl h' c k = xpl h c k) : MSR h' T z m := by
  have A : MSA h' T := by
    obtain ⟨⟨p1, p2⟩, ⟨n1, n2⟩, tx⟩ := R.a
    exact ⟨⟨fun i i0 i1 => by rw [oo 55 _ (by decide) (by decide)]; exact p1 i i0 i1, fun i j i0 i1 j0 j1 e => by rw [oo 55 _ (by decide) (by decide), oo 55 _ (by decide) (by decide)] at e; exact p2 i j i0 i1 j0 j1 e⟩, ⟨(e 4 (Or.inl rfl)).trans n1, n2⟩, fun i t ht => by rw [oo 55 _ (by decide) (by decide)]; exact (tx i t ht).keep (fun c k c1 c2 => oo c k (by omega) (by omega))⟩
  exact A.msr R (e 5 (Or.inr (Or.inl rfl))) (e 6 (Or.inr (Or.inr rfl))) (fun k => oo 56 k (by decide) (by decide)) R.2.2.2.2.1
theorem MTx.keep2 {h h' : XH} {r : Int} {t : Txt × Bool} (R : MTx h r t) (e : ∀ c, 57 ≤ c → c ≤ 60 → xpl h' c r = xpl h c r) (e1 : xpl h' 61 (2 * r) = xpl h 61 (2 * r)) (e2 : xpl h' 61 (2 * r + 1) = xpl h 61 (2 * r + 1)) (e62 : ∀ k, 200 * r ≤ k → k < 200 * r + 200 → xpl h' 62 k = xpl h 62 k) : MTx h' r t := by
  obtain ⟨⟨a1, a2, a3, a4⟩, ⟨b1, b2, b3⟩, c1, c2⟩ := R
  exact ⟨⟨(e 57 (by decide) (by decide)).trans a1, (e 58 (by decide) (by decide)).trans a2, (e 59 (by decide) (by decide)).trans a3, (e 60 (by decide) (by decide)).trans a4⟩, ⟨e1.trans b1, e2.trans b2, b3⟩, fun j hj => by rw [e62 _ (by omega) (by omega)]; exact c1 j hj, fun j hj => by rw [e62 _ (by omega) (by omega)]; exact c2 j hj⟩
theorem s_M_takeWord {G : XG} {d : Nat} {h : XH} {Q : XV → XH → Prop} {X : Nat → XH → Prop} {s : CS} {n9 s9 : Int} (F : xFix h) (R : MTS h s) (hn : 0 ≤ n9) (hs : 0 ≤ s9) (hq : MAT Q xI h (fC s) [] (cTakeWord s) n9 s9) : xwp G m_M_takeWord (d + 8) 0 [xR 53, xZ] [] h Q X := by
  have hnx := F.nx
  have R2 := R.th (v := 0)
  have t2 := R.1.2.1
  refine v_M_takeWord_0 F ?_
  intro F9
  obtain ⟨H, hH⟩ : ∃ H, H = xst h 53 0 0 := ⟨_, rfl⟩
  rw [← hH] at F9 R2 ⊢
  have SH : xsm MWW h H := by rw [hH]; exact (xsm.refl h).st (by decide) (Or.inl ⟨by decide, by decide⟩)
  have k53 : ∀ k, k ≠ 0 → xpl H 53 k = xpl h 53 k := fun k hk => by rw [hH]; exact xpl_ok hk
  have h0 : xpl H 53 0 = 0 := by rw [hH]; exact xpl_hit _ _ _ _
  have nH : xnx H = xnx h := by rw [hH]; rfl
  have lH : xsl H = xsl h := by rw [hH]; rfl
  have e2 : xpl H 53 2 = (tC s).length := R2.1.1
  have fin : ∀ (h2 : XH), xFix h2 → xsm (fun c => c = 63) H h2 → xnx h2 = xnx H → xsl h2 = xsl H → xwp G m_M_takeWord (d + 8) 52 [xR 53, xZ] [xL (twd (tC s)), xR 53] h2 Q X := fun h2 F2 S2 n2 l2 => by
    refine v_M_takeWord_52 F2 ?_
    refine ⟨?_, ?_⟩
    · first | exact ft_53 F2 | decide
    · refine ⟨?_, ?_⟩
      · first | exact ft_53 F2 | decide
      · intro F9
        rw [xpl_hit]
        refine p_M_lengthOf F9 (twd_rng _).1 ?_
        refine v_M_takeWord_67 F9 ?_
        have o53 : ∀ k, k ≠ 14 → k ≠ 2 → xpl (xst (xst h2 53 14 (twd (tC s))) 53 2 0) 53 k = xpl H 53 k := fun k k14 k2 => (xpl_ok k2).trans ((xpl_ok k14).trans (S2.pl (by omega) (by decide) k))
        exact hq _ F9 ⟨⟨by rw [xpl_hit]; rfl, (show 0 ≤ 400 from Nat.zero_le _), fun i hi => absurd hi (Nat.not_lt_zero _), fun b hb => absurd hb List.not_mem_nil⟩, R2.2.1.keep (fun k hk => o53 k (by omega) (by omega)) (fun c k c1 c2 => (xpl_oa (by omega)).trans ((xpl_oa (by omega)).trans (S2.pl (by omega) (by omega) k))), (xpl_ok (by decide)).trans (xpl_hit _ _ _ _)⟩ (((SH.then S2 (fun c _ w => ⟨by omega, by omega⟩)).st (by decide) (Or.inl ⟨by decide, by decide⟩)).st (by decide) (Or.inl ⟨by decide, by decide⟩)) (fun k k0 k2 _ _ _ k14 _ => (o53 k k14 k2).trans (k53 k k0)) (Or.inr ⟨(o53 26 (by decide) (by decide)).trans (k53 26 (by decide)), rfl⟩) ((o53 0 (by decide) (by decide)).trans h0) (by show xnx h2 ≤ _; omega) (by show xsl h2 ≤ _; omega)
  have at29 : xwp G m_M_takeWord (d + 8) 29 [xR 53, xI (rs (tC s) 0 (tC s).length)] [] H Q X := by
    obtain ⟨i, hi⟩ : ∃ i, i = rs (tC s) 0 (tC s).length := ⟨_, rfl⟩
    have rr := rs_rng (tC s) (i := 0) (lim := (tC s).length) (by omega)
    rw [← hi] at rr ⊢
    have ew : twd (tC s) = if i < re (tC s) i (tC s).length then rwL (runL (tC s) i (re (tC s) i (tC s).length)) else 0 := by rw [hi]; rfl
    refine v_M_takeWord_29 F9 ?_
    refine ⟨fun q1 => ?_, fun q1 => ?_⟩
    · have g := fin H F9 (xsm.refl H) rfl rfl
      have er : re (tC s) i (tC s).length = i := by
        have := re_rng (tC s) (i := i) (lim := (tC s).length) (by omega)
        omega
      rw [ew, er, if_neg (by omega)] at g
      exact g
    · have lt : i < (tC s).length := by omega
      have sg : sgn (lat (tC s) i) ≠ 0 := by rw [hi]; exact rs_sgn (by omega) (by omega)
      have rl := re_rng (tC s) (i := i) (lim := (tC s).length) (by omega)
      have lt2 := re_lt2 (tC s) lt sg
      refine p_M_runLength F9 R2.1 (by omega) (by omega) ?_
      refine v_M_takeWord_49 F9 ?_
      refine ⟨?_, ?_⟩
      · exact ft_53 F9
      · refine s_M_wordAt F9 R2.1 (by omega) (by omega) (by omega) (fun k k0 k1 => re_all _ k0 k1) (fun h2 F2 S2 n2 l2 => ?_)
        rw [show i + (re (tC s) i (tC s).length - i) = re (tC s) i (tC s).length by omega]
        have g := fin h2 F2 S2 n2 l2
        rw [ew, if_pos lt2] at g
        exact g
  have loop : ∀ (n i : Nat), i + n = (tC s).length → rsF (tC s) n i = rs (tC s) 0 (tC s).length → xwp G m_M_takeWord (d + 8) 7 [xR 53, xI i] [] H Q X := by
    intro n
    induction n with
    | zero =>
      intro i e hv
      have hv : (i : Int) = rs (tC s) 0 (tC s).length := hv
      refine v_M_takeWord_7 F9 ?_
      refine ⟨fun q1 => ?_, fun q1 => ?_⟩
      · rw [hv]; exact at29
      · omega
    | succ n ih =>
      intro i e hv
      have hv : (if sgn (lat (tC s) i) = 0 then rsF (tC s) n ((i : Int) + 1) else (i : Int)) = rs (tC s) 0 (tC s).length := hv
      refine v_M_takeWord_7 F9 ?_
      refine ⟨fun q1 => ?_, fun q1 => ?_⟩
      · omega
      · refine p_M_isOfRun F9 R2.1 (by omega) (by omega) ?_
        refine v_M_takeWord_20 F9 ?_
        refine ⟨fun q1 => ?_, fun q1 => ?_⟩
        · refine ⟨?_, ?_⟩
          · exact ⟨by omega, by omega⟩
          · have z := of_decide_eq_false (bz0 q1)
            rw [if_pos (Decidable.of_not_not z)] at hv
            exact ih (i + 1) (by omega) hv
        · have z := of_decide_eq_true (bz1 q1)
          rw [if_neg z] at hv
          rw [hv]; exact at29
  exact loop (tC s).length 0 (by omega) (by unfold rs; rw [show ((tC s).length : Int) - 0 = (tC s).length by omega, Int.toNat_natCast]; rfl)
theorem fb_snoc (f : List (Txt × Bool)) (b : List Txt) (t : Txt) : fbF f (b ++ [t]) = fbF f b ++ [(t, false)] := by
  unfold fbF
  rw [List.map_append, List.append_assoc]; rfl
/-- one text more -/
theorem MSR.push {h h' : XH} {T : List (Txt × Bool)} {z : List Int} {m r : Int} {t : Txt} (R : MSR h T z m) (hT : T.length < 60) (hr : xpl h 55 T.length = r) (e4 : xpl h' 53 4 = (T.length : Int) + 1) (e : ∀ k, k = 5 ∨ k = 6 → xpl h' 53 k = xpl h 53 k) (e55 : ∀ c k, c = 55 ∨ c = 56 → xpl h' c k = xpl h c k) (o : ∀ c k, 57 ≤ c → c ≤ 60 → k ≠ r → xpl h' c k = xpl h c k) (o61 : ∀ k, k ≠ 2 * r → k ≠ 2 * r + 1 → xpl h' 61 k = xpl h 61 k) (o62 : ∀ k, (k < 200 * r ∨ 200 * r + 200 ≤ k) → xpl h' 62 k = xpl h 62 k) (ht : MTx h' r (t, false)) : MSR h' (T ++ [(t, false)]) z m := by
  obtain ⟨⟨p1, p2⟩, ⟨r2, r3, r4, r5, r6⟩, r7, r8, r9, r10⟩ := R
  have ll : (T ++ [(t, false)]).length = T.length + 1 := by rw [List.length_append]; rfl
  refine ⟨⟨fun i i0 i1 => by rw [e55 55 _ (Or.inl rfl)]; exact p1 i i0 i1, fun i j i0 i1 j0 j1 e => by rw [e55 55 _ (Or.inl rfl), e55 55 _ (Or.inl rfl)] at e; exact p2 i j i0 i1 j0 j1 e⟩, ⟨by rw [ll, e4]; omega, by rw [ll]; omega, (e 5 (Or.inl rfl)).trans r4, r5, (e 6 (Or.inr rfl)).trans r6⟩, fun i hi => by rw [e55 56 _ (Or.inr rfl)]; exact r7 i hi, r8, by rw [ll]; omega, fun i x hx => ?_⟩
  rw [e55 55 _ (Or.inl rfl)]
  by_cases w : i < T.length
  · rw [List.getElem?_append_left w] at hx
    have ne : xpl h 55 i ≠ r := fun y => by
      have := p2 i T.length (by omega) (by omega) (by omega) (by omega) (y.trans hr.symm)
      omega
    exact (r10 i x hx).keep2 (fun c c1 c2 => o c _ c1 c2 ne) (o61 _ (by omega) (by omega)) (o61 _ (by omega) (by omega)) (fun k k0 k1 => o62 k (by omega))
  · rw [List.getElem?_append_right (by omega)] at hx
    have hi := (List.getElem?_eq_some_iff.mp hx).1
    have hi : i - T.length < 1 := hi
    rw [show i - T.length = 0 by omega] at hx
    rw [← Option.some.inj hx, show (i : Int) = T.length by omega, hr]
    exact ht
theorem s_M_add {G : XG} {d : Nat} {h : XH} {Q : XV → XH → Prop} {X : Nat → XH → Prop} {s : CS} {k sh rk n9 s9 : Int} (F : xFix h) (R : MTS h s) (W : Swf (zC s) (fC s)) (U : UQ s) (hn : 0 ≤ n9) (hs : 0 ≤ s9) (hq : MAT Q xI h (fC s) [1, 2] (cAdd s k sh rk) n9 s9) : xwp G m_M_add (d + 9) 0 [xR 53, xI k, xI sh, xI rk, xZ, xZ, xZ] [] h Q X := by
  have rb := kidx_rng (bC s) k
  have rf := sidx_rng (fC s) k
  have tl := R.2.1.2.1.2.1
  rw [fb_len] at tl
  have z4 := R.2.1.2.1.1
  rw [fb_len] at z4
  have hnx := F.nx
  have w1 := W.1
  unfold cAdd at hq
  have bad : ∀ v : Int, ¬ ((0 ≤ k ∧ k < 100) ∧ (0 ≤ sh ∧ sh < 8) ∧ 0 ≤ rk ∧ rk < 1000) → xFix (xst (xst h 53 0 0) 53 0 1) → Q (xI 0) (xst (xst h 53 0 0) 53 0 1) := fun _ z F9 => by
    rw [if_neg z] at hq
    rw [xst_xst] at F9 ⊢
    exact hq.rd R hn hs F9
  refine v_M_add_0 F ?_
  refine ⟨fun q1 => ?_, fun q1 => ?_⟩
  · intro F9
    exact bad 0 (by omega) F9
  · refine ⟨fun q2 => ?_, fun q2 => ?_⟩
    · intro F9
      exact bad 0 (by omega) F9
    · refine ⟨fun q3 => ?_, fun q3 => ?_⟩
      · intro F9
        exact bad 0 (by omega) F9
      · refine ⟨fun q4 => ?_, fun q4 => ?_⟩
        · intro F9
          exact bad 0 (by omega) F9
        · refine ⟨fun q5 => ?_, fun q5 => ?_⟩
          · intro F9
            exact bad 0 (by omega) F9
          · refine ⟨fun q6 => ?_, fun q6 => ?_⟩
            · intro F9
              exact bad 0 (by omega) F9
            · intro F9
              rw [if_pos ⟨⟨by omega, by omega⟩, ⟨by omega, by omega⟩, by omega, by omega⟩] at hq
              have R2 := R.th (v := 0)
              have hk : 0 ≤ k ∧ k < 100 := ⟨by omega, by omega⟩
              have hsh : 0 ≤ sh ∧ sh < 8 := ⟨by omega, by omega⟩
              have hrk : 0 ≤ rk ∧ rk < 1000 := ⟨by omega, by omega⟩
              obtain ⟨H, hH⟩ : ∃ H, H = xst h 53 0 0 := ⟨_, rfl⟩
              have SH : xsm MWW h H := by rw [hH]; exact (xsm.refl h).st (by decide) (Or.inl ⟨by decide, by decide⟩)
              have k53 : ∀ k, k ≠ 0 → xpl H 53 k = xpl h 53 k := fun k hk => by rw [hH]; exact xpl_ok hk
              have h0 : xpl H 53 0 = 0 := by rw [hH]; exact xpl_hit _ _ _ _
              have nH : xnx H = xnx h := by rw [hH]; rfl
              have lH : xsl H = xsl h := by rw [hH]; rfl
              rw [← hH] at F9 R2 ⊢
              have fin : ¬ (kidx (bC s) k = -1 ∧ 60 ≤ (bC s).length + (fC s).length) → ∀ h2, xFix h2 → xsm (fun c => c = 53 ∨ c = 55 ∨ c = 60) H h2 → (∀ k, k ≠ 4 → k ≠ 26 → xpl h2 53 k = xpl H 53 k) → (xpl h2 53 26 = 0 ∨ (xpl h2 53 26 = xpl H 53 26 ∧ dropF (fC s) k = fC s)) → MSR h2 (fbF (dropF (fC s) k) (dropB (bC s) k)) (zC s) (mC s) → xnx h2 = xnx H → xsl h2 = xsl H → xwp G m_M_add (d + 9) 83 [xR 53, xI k, xI sh, xI rk, xZ, xZ, xZ] [] h2 Q X := fun nz h2 F2 S2 k2 c26 M2 n2 l2 => by
                rw [if_neg nz] at hq
                obtain ⟨T1, hT1⟩ : ∃ T1, T1 = fbF (dropF (fC s) k) (dropB (bC s) k) := ⟨_, rfl⟩
                rw [← hT1] at M2
                have l60 : T1.length < 60 := by
                  rw [hT1, fb_len, dropF_len, dropB_len]
                  split
                  · rename_i y; exact Nat.lt_of_not_le (fun w => nz ⟨y, by omega⟩)
                  · omega
                have e4 := M2.2.1.1
                have r9 := M2.1.1 T1.length (by omega) (by omega)
                have hnx9 := F9.nx
                have T2 : MTR h2 (tC s) := R2.1.keep (k2 2 (by decide) (by decide)) (fun k => S2.pl (by omega) (by decide) k)
                obtain ⟨r, hr⟩ : ∃ r, r = xpl h2 55 T1.length := ⟨_, rfl⟩
                have tk := adT_ok (bs := tC s) R.1.2.1 hk hsh hrk
                refine v_M_add_83 F2 ?_
                refine ⟨?_, ?_⟩
                · first | (rw [e4]; omega) | (rw [e4]; exact r9.1) | (rw [e4]; exact r9.2)
                · refine ⟨?_, ?_⟩
                  · first | (rw [e4]; omega) | (rw [e4]; exact r9.1) | (rw [e4]; exact r9.2)
                  · refine ⟨?_, ?_⟩
                    · first | (rw [e4]; omega) | (rw [e4]; exact r9.1) | (rw [e4]; exact r9.2)
                    · refine ⟨?_, ?_⟩
                      · first | (rw [e4]; omega) | (rw [e4]; exact r9.1) | (rw [e4]; exact r9.2)
                      · intro F9
                        rw [e4, ← hr] at F9 ⊢
                        rw [← hr] at r9
                        obtain ⟨h3, hh3⟩ : ∃ h3, h3 = xst (xst (xst (xst (xst h2 53 4 ((T1.length : Int) + 1)) 57 r k) 58 r sh) 59 r rk) 60 r 0 := ⟨_, rfl⟩
                        rw [← hh3] at F9 ⊢
                        have oo : ∀ c j, c ≠ 53 → c ≠ 57 → c ≠ 58 → c ≠ 59 → c ≠ 60 → xpl h3 c j = xpl h2 c j := fun c j a1 a2 a3 a4 a5 => by rw [hh3, xpl_oa a5, xpl_oa a4, xpl_oa a3, xpl_oa a2, xpl_oa a1]
                        have o53 : ∀ j, j ≠ 4 → xpl h3 53 j = xpl h2 53 j := fun j hj => by rw [hh3, xpl_oa (by decide), xpl_oa (by decide), xpl_oa (by decide), xpl_oa (by decide), xpl_ok hj]
                        have g4 : xpl h3 53 4 = (T1.length : Int) + 1 := by rw [hh3, xpl_oa (by decide), xpl_oa (by decide), xpl_oa (by decide), xpl_oa (by decide), xpl_hit]
                        have g57 : xpl h3 57 r = k := by rw [hh3, xpl_oa (by decide), xpl_oa (by decide), xpl_oa (by decide), xpl_hit]
                        have g58 : xpl h3 58 r = sh := by rw [hh3, xpl_oa (by decide), xpl_oa (by decide), xpl_hit]
                        have g59 : xpl h3 59 r = rk := by rw [hh3, xpl_oa (by decide), xpl_hit]
                        have g60 : xpl h3 60 r = 0 := by rw [hh3, xpl_hit]
                        have ok : ∀ c j, 57 ≤ c → c ≤ 60 → j ≠ r → xpl h3 c j = xpl h2 c j := fun c j c1 c2 hj => by
                          rw [hh3]
                          simp only [xpl_st]
                          rw [if_neg (fun y => hj y.2), if_neg (fun y => hj y.2), if_neg (fun y => hj y.2), if_neg (fun y => hj y.2), if_neg (fun y => by omega)]
                        have S3 : xsm MWW H h3 := by
                          rw [hh3]
                          have s0 : xsm MWW H h2 := S2.mono (fun c _ w => ⟨by omega, by omega⟩)
                          exact ((((s0.st (by decide) (Or.inl ⟨by decide, by decide⟩)).st r9.1 (Or.inl ⟨by decide, by decide⟩)).st r9.1 (Or.inl ⟨by decide, by decide⟩)).st r9.1 (Or.inl ⟨by decide, by decide⟩)).st r9.1 (Or.inl ⟨by decide, by decide⟩)
                        have n3 : xnx h3 = xnx h2 := by rw [hh3]; rfl
                        have l3 : xsl h3 = xsl h2 := by rw [hh3]; rfl
                        have T3 : MTR h3 (tC s) := T2.keep (o53 2 (by decide)) (fun k => oo 54 k (by decide) (by decide) (by decide) (by decide) (by decide))
                        refine s_M_read (tt := rowS (tC s) 0 (fpl (tC s) 124)) (bb := rowS (tC s) (fpl (tC s) 124) (tC s).length) F9 T3 r9.1 r9.2 rfl rfl tk.2.2.2.1 (fun h4 D4 => ?_)
                        obtain ⟨⟨F4, S4, n4, l4⟩, f61, f62, ⟨w61, w612⟩, wl, w62⟩ := D4
                        have p4 : ∀ c j, 0 ≤ c → c < 93 → c ≠ 61 → c ≠ 62 → c ≠ 63 → xpl h4 c j = xpl h3 c j := fun c j c0 c9 a1 a2 a3 => S4.pl (by omega) (by omega) j
                        refine v_M_add_142 F4 (fun F5 => ?_)
                        have p5 : ∀ c j, c ≠ 53 → xpl (xst h4 53 2 0) c j = xpl h4 c j := fun c j hc => xpl_oa hc
                        have p53 : ∀ j, j ≠ 2 → j ≠ 4 → xpl (xst h4 53 2 0) 53 j = xpl h2 53 j := fun j j2 j4 => ((xpl_ok j2).trans (p4 53 j (by decide) (by decide) (by decide) (by decide) (by decide))).trans (o53 j j4)
                        have tx : MTx (xst h4 53 2 0) r (adT (tC s) k sh rk, false) := by
                          refine ⟨⟨?_, ?_, ?_, ?_⟩, ⟨?_, ?_, tk.2.2.2.1⟩, fun j hj => ?_, fun j hj => ?_⟩
                          · rw [p5 57 _ (by decide), p4 57 _ (by decide) (by decide) (by decide) (by decide) (by decide)]; exact g57
                          · rw [p5 58 _ (by decide), p4 58 _ (by decide) (by decide) (by decide) (by decide) (by decide)]; exact g58
                          · rw [p5 59 _ (by decide), p4 59 _ (by decide) (by decide) (by decide) (by decide) (by decide)]; exact g59
                          · rw [p5 60 _ (by decide), p4 60 _ (by decide) (by decide) (by decide) (by decide) (by decide)]; exact g60
                          · rw [p5 61 _ (by decide)]; exact w61
                          · rw [p5 61 _ (by decide)]; exact w612
                          · have hj : j < (rowS (tC s) 0 (fpl (tC s) 124)).length := hj
                            have g := w62 j (by omega)
                            rw [List.getElem?_append_left hj] at g
                            rw [p5 62 _ (by decide)]; exact g
                          · have hj : j < (rowS (tC s) (fpl (tC s) 124) (tC s).length).length := hj
                            have g := w62 ((rowS (tC s) 0 (fpl (tC s) 124)).length + j) (by omega)
                            rw [List.getElem?_append_right (by omega), Nat.add_sub_cancel_left] at g
                            rw [p5 62 _ (by decide)]
                            refine g.trans (congrArg some (congrArg (xpl h4 62) ?_))
                            show 200 * r + (((rowS (tC s) 0 (fpl (tC s) 124)).length + j : Nat) : Int) = 200 * r + ((rowS (tC s) 0 (fpl (tC s) 124)).length : Int) + j
                            omega
                        have M5 := M2.push (t := adT (tC s) k sh rk) (h' := xst h4 53 2 0) l60 hr.symm (by rw [xpl_ok (by decide), p4 53 _ (by decide) (by decide) (by decide) (by decide) (by decide)]; exact g4) (fun j hj => p53 j (by omega) (by omega)) (fun c j hc => by rw [p5 c j (by omega), p4 c j (by omega) (by omega) (by omega) (by omega) (by omega), oo c j (by omega) (by omega) (by omega) (by omega) (by omega)]) (fun c j c1 c2 hj => by rw [p5 c j (by omega), p4 c j (by omega) (by omega) (by omega) (by omega) (by omega), ok c j c1 c2 hj]) (fun j j0 j1 => by rw [p5 61 _ (by decide), f61 j j0 j1, oo 61 j (by decide) (by decide) (by decide) (by decide) (by decide)]) (fun j hj => by rw [p5 62 _ (by decide), f62 j hj, oo 62 j (by decide) (by decide) (by decide) (by decide) (by decide)]) tx
                        rw [hT1, ← fb_snoc] at M5
                        have ans : ((rowS (tC s) 0 (fpl (tC s) 124) ++ rowS (tC s) (fpl (tC s) 124) (tC s).length).length : Int) - cntW (rowS (tC s) 0 (fpl (tC s) 124) ++ rowS (tC s) (fpl (tC s) 124) (tC s).length) (-1) = wcT (adT (tC s) k sh rk) := by
                          have gen : ∀ A B : List Int, ((A ++ B).length : Int) - cntW (A ++ B) (-1) = ((A.length + B.length : Nat) : Int) - (cntW A (-1) + cntW B (-1)) := fun A B => by
                            unfold cntW
                            rw [List.count_append, List.length_append]
                            omega
                          exact gen _ _
                        rw [ans]
                        have i53 : ∀ j, j ≠ 0 → j ≠ 2 → j ≠ 4 → j ≠ 26 → xpl (xst h4 53 2 0) 53 j = xpl h 53 j := fun j j0 j2 j4 j26 => ((p53 j j2 j4).trans (k2 j j4 j26)).trans (k53 j j0)
                        refine hq _ F5 ⟨⟨by rw [xpl_hit]; rfl, (show 0 ≤ 400 from Nat.zero_le _), fun i hi => absurd hi (Nat.not_lt_zero _), fun b hb => absurd hb List.not_mem_nil⟩, M5, ?_⟩ ((SH.then (S3.then S4 (fun c _ w => ⟨by omega, by omega⟩)) (fun c _ w => w)).st (by decide) (Or.inl ⟨by decide, by decide⟩)) (fun j j0 j2 j4 _ _ _ j26 => i53 j j0 j2 j4 j26) ?_ ?_ (by show xnx h4 ≤ _; omega) (by show xsl h4 ≤ _; omega)
                        · exact ((p53 14 (by decide) (by decide)).trans (k2 14 (by decide) (by decide))).trans R2.2.2
                        · rw [p53 26 (by decide) (by decide)]
                          rcases c26 with y | ⟨y1, y2⟩
                          · exact Or.inl y
                          · exact Or.inr ⟨y1.trans (k53 26 (by decide)), y2⟩
                        · exact ((p53 0 (by decide) (by decide)).trans (k2 0 (by decide) (by decide))).trans h0
              have rT : -1 ≤ sidx (fbF (fC s) (bC s)) k ∧ sidx (fbF (fC s) (bC s)) k < (fbF (fC s) (bC s)).length := idxI_rng _ _
              have sT := sidx_fb (fC s) (bC s) k
              have go70 : ¬ (kidx (bC s) k = -1 ∧ 60 ≤ (bC s).length + (fC s).length) → xwp G m_M_add (d + 9) 70 [xR 53, xI k, xI sh, xI rk, xI (sidx (fbF (fC s) (bC s)) k), xZ, xZ] [] H Q X := fun nz => by
                refine v_M_add_70 F9 ?_
                refine ⟨fun q1 => ?_, fun q1 => ?_⟩
                · rw [q1] at sT
                  have wf : sidx (fC s) k = -1 := by
                    by_cases y : sidx (fC s) k = -1
                    · exact y
                    · rw [if_neg y] at sT; exact sT.symm
                  have wb : kidx (bC s) k = -1 := by
                    rw [if_pos wf] at sT
                    by_cases y : kidx (bC s) k = -1
                    · exact y
                    · rw [if_neg y] at sT; omega
                  have df : dropF (fC s) k = fC s := by unfold dropF; rw [if_pos wf]
                  have db : dropB (bC s) k = bC s := by unfold dropB; rw [if_pos wb]
                  exact fin nz H F9 (xsm.refl H) (fun _ _ _ => rfl) (Or.inr ⟨rfl, df⟩) (by rw [df, db]; exact R2.2.1) rfl rfl
                · obtain ⟨o1, o2⟩ := fb_out U W.1 q1
                  refine s_M_out F9 R2.2.1 (by omega) rT.2 (fun h2 F2 S2 z26 k2 M2 n2 l2 => ?_)
                  rw [o1] at M2
                  refine v_M_add_82 F2 ?_
                  exact fin nz h2 F2 S2 k2 (Or.inl z26) M2 n2 l2
              refine p_M_whereIs F9 R2.2.1 ?_
              have e4 : xpl H 53 4 = (fC s).length + (bC s).length := by rw [k53 4 (by decide)]; omega
              refine v_M_add_44 F9 ?_
              refine ⟨fun q1 => ?_, fun q1 => ?_⟩
              · rw [e4] at q1
                refine p_M_inSegments F9 R2.2.1 ?_
                refine v_M_add_61 F9 ?_
                refine ⟨fun q1 => ?_, fun q1 => ?_⟩
                · refine go70 (fun y => ?_)
                  have := rf.2
                  rw [sT, y.1, if_pos rfl] at q1
                  by_cases w : sidx (fC s) k = -1
                  · rw [if_pos w] at q1; omega
                  · rw [if_neg w] at q1; omega
                · intro F9
                  have kb : kidx (bC s) k = -1 := by
                    by_cases y : kidx (bC s) k = -1
                    · exact y
                    · have w := (U.one k).resolve_right y
                      rw [sT, if_pos w, if_neg y] at q1
                      omega
                  rw [if_pos ⟨kb, by omega⟩] at hq
                  rw [hH] at F9 ⊢
                  rw [xst_xst] at F9 ⊢
                  exact hq.rd R hn hs F9
              · rw [e4] at q1
                exact go70 (fun y => by have := y.2; omega)

end
