/-! ===== mdig ===== -/
section
/-! the model's checksum: a segment -/
theorem MIR.lo {h h' : XH} {s : CS} (I : MIR h s) (F : xFix h) (S : xsm (fun c => c = 64) h h') : MIR h' s := by
  have nx := F.nx
  have p : ∀ c k : Int, 53 ≤ c → c < 93 → c ≠ 64 → xpl h' c k = xpl h c k := fun c k c0 c1 c2 => S.pl (by omega) c2 k
  refine ⟨⟨I.1.1.keep (p 53 2 (by decide) (by decide) (by decide)) (fun k => p 54 k (by decide) (by decide) (by decide)), I.1.2.1.keep (fun k _ => p 53 k (by decide) (by decide) (by decide)) (fun c k c1 c2 => p c k (by omega) (by omega) (by omega)), (p 53 14 (by decide) (by decide) (by decide)).trans I.1.2.2⟩, ?_⟩
  exact I.2.mat F (S.mono (fun c _ w => by have w : c = 64 := w; exact ⟨by omega, by omega⟩)) (fun k _ _ _ _ _ _ _ => p 53 k (by decide) (by decide) (by decide)) (Or.inr ⟨p 53 26 (by decide) (by decide) (by decide), rfl⟩) rfl
theorem k64 {s : Int} (h : 0 ≤ s) : 22 * kN 64 s 0 ≤ s ∧ kS 64 s 0 ≤ 4 * s := by
  unfold kN kS
  by_cases a : s < 44
  · rw [if_pos a, if_pos a]; omega
  · rw [if_neg a, if_neg a]
    by_cases b : s ≤ 4096
    · rw [if_pos b, if_pos b, if_pos rfl, if_pos rfl]; omega
    · rw [if_neg b, if_neg b]; omega
theorem rwsW_two (s : CS) (st : Nat) : ∀ k : Nat, (rwsW s 0 st k).length + (rwsW s 1 st k).length + twS (fC s) st ≤ twS (fC s) (st + k)
  | 0 => by
    show 0 + 0 + twS (fC s) st ≤ twS (fC s) st
    omega
  | k + 1 => by
    have ih := rwsW_two s st k
    show (rwsW s 0 st k ++ nz (rwT (fA s (st + k)).1 0)).length + (rwsW s 1 st k ++ nz (rwT (fA s (st + k)).1 1)).length + twS (fC s) st ≤ twS (fC s) (st + k) + ((((fC s)[st + k]?).getD ((0, 0, 0, [], []), false)).1.2.2.2.1.length + (((fC s)[st + k]?).getD ((0, 0, 0, [], []), false)).1.2.2.2.2.length)
    rw [List.length_append, List.length_append]
    have a := nz_len (rwT (fA s ((st : Int) + k)).1 0)
    have b := nz_len (rwT (fA s ((st : Int) + k)).1 1)
    have e : fA s ((st : Int) + k) = ((fC s)[st + k]?).getD ((0, 0, 0, [], []), false) := by unfold fA; rw [show ((st : Int) + k).toNat = st + k by omega]
    rw [e] at a b ⊢
    have a : (nz (rwT (((fC s)[st + k]?).getD ((0, 0, 0, [], []), false)).1 0)).length ≤ (((fC s)[st + k]?).getD ((0, 0, 0, [], []), false)).1.2.2.2.1.length := a
    have b : (nz (rwT (((fC s)[st + k]?).getD ((0, 0, 0, [], []), false)).1 1)).length ≤ (((fC s)[st + k]?).getD ((0, 0, 0, [], []), false)).1.2.2.2.2.length := b
    omega
/-- the words of a segment -/
def sgW (s : CS) (x : Int) : Int := (twS (fC s) (stA (zC s) (x + 1)).toNat : Int) - twS (fC s) (stA (zC s) x).toNat
theorem s_M_ofSegment {G : XG} {d : Nat} {h : XH} {Q : XV → XH → Prop} {X : Nat → XH → Prop} {s : CS} {x c : Int} (F : xFix h) (I : MIR h s) (W : CWF s) (x0 : 0 ≤ x) (x1 : x < (zC s).length) {T : Int} (hT : twS (fC s) (fC s).length ≤ T) (T8 : T ≤ 8192) (rn : xnx h + T + 1 ≤ xKC) (rs : xsl h + 8 * T + 5 ≤ xKS)
    (hq : ∀ h', xFix h' → MIR h' s → xsm (fun c => c = 64) h h' → 22 * (xnx h' - xnx h - 1) ≤ sgW s x → xsl h' ≤ xsl h + 5 + 4 * sgW s x → Q (xL (sgD s x c)) h') : xwp G m_M_ofSegment (d + 218) 0 [xR 53, xL c, xZ, xI x, xZ, xZ, xZ, xZ, xZ, xZ, xZ] [] h Q X := by
  have nx := F.nx
  have R := I.1.2.1
  have w := W.1.1.pl x0 x1
  have tl := R.2.1.2.1
  rw [fb_len] at tl
  have zl := R.2.1.2.2.2.1
  obtain ⟨A, hA⟩ : ∃ A, A = xnx h := ⟨_, rfl⟩
  obtain ⟨st, hst⟩ : ∃ st, st = (stA (zC s) x).toNat := ⟨_, rfl⟩
  obtain ⟨n, hn⟩ : ∃ n, n = (szA (zC s) x).toNat := ⟨_, rfl⟩
  have ste : stA (zC s) x = (st : Int) := by omega
  have ne : szA (zC s) x = (n : Int) := by omega
  have e1 : (stA (zC s) (x + 1)).toNat = st + n := by rw [stA_succ x0 x1]; omega
  have sw : sgW s x = (twS (fC s) (st + n) : Int) - twS (fC s) st := by unfold sgW; rw [e1, ← hst]
  have two := rwsW_two s st n
  have mon := twS_mono (fC s) ((fC s).length - (st + n)) (st + n)
  rw [show st + n + ((fC s).length - (st + n)) = (fC s).length by omega] at mon
  have gf : goneF (fbF (fC s) (bC s)) st n = goneF (fC s) st n := goneF_fb (bC s) (by omega)
  -- a heap with the row of five numbers
  have keep : ∀ h2, xsm (fun c => c = 64) h h2 → MIR h2 s ∧ MSR h2 (fbF (fC s) (bC s)) (zC s) (mC s) := fun h2 S => ⟨I.lo F S, (I.lo F S).1.2.1⟩
  have texts : ∀ (m i : Nat) (e : Int) (h2 : XH), i + m = n → xFix h2 → xsm (fun c => c = 64) h h2 → 22 * (xnx h2 - xnx h - 1) ≤ sgW s x → xsl h2 ≤ xsl h + 5 + 4 * sgW s x → sgT s x m i e = sgD s x c → xwp G m_M_ofSegment (d + 218) 98 [xR 53, xZ, xZ, xI x, xZ, xL e, xZ, xI (stA (zC s) x + i), xZ, xZ, xZ] [] h2 Q X := by
    intro m
    induction m with
    | zero =>
      intro i e h2 ei F2 S2 n2 l2 he
      have he : e = sgD s x c := he
      have R2 := (keep h2 S2).2
      refine v_M_ofSegment_98 F2 ?_
      rw [R2.end_ x0 x1]
      refine ⟨x0, by omega, fun _ => ?_, fun y => absurd (by omega) y⟩
      rw [he]
      exact hq h2 F2 (keep h2 S2).1 S2 n2 l2
    | succ m ih =>
      intro i e h2 ei F2 S2 n2 l2 he
      have R2 := (keep h2 S2).2
      have il : st + i < (fC s).length := by omega
      have hx : (fbF (fC s) (bC s))[st + i]? = some (fA s (stA (zC s) x + i)) := by
        rw [fb_lo (bC s) il]
        unfold fA
        rw [show (stA (zC s) x + (i : Int)).toNat = st + i by omega, List.getElem?_eq_getElem il]; rfl
      obtain ⟨x', hx'⟩ : ∃ x', x' = fA s (stA (zC s) x + i) := ⟨_, rfl⟩
      have he : sgT s x m (i + 1) (sti (sti (sti (sti e (fA s (stA (zC s) x + i)).1.1) (b2i (fA s (stA (zC s) x + i)).2)) (rwT (fA s (stA (zC s) x + i)).1 0).length) (rwT (fA s (stA (zC s) x + i)).1 1).length) = sgD s x c := he
      rw [← hx'] at he hx
      have r0 := R2.1.1 (stA (zC s) x + i) (by omega) (by omega)
      have mt := R2.2.2.2.2.2 (st + i) x' hx
      rw [show (((st + i : Nat)) : Int) = stA (zC s) x + i by omega] at mt
      have go : ∀ b : Int, b = b2i x'.2 → xwp G m_M_ofSegment (d + 218) 145 [xR 53, xZ, xZ, xI x, xZ, xZ, xZ, xI (stA (zC s) x + i), xI (xpl h2 55 (stA (zC s) x + i)), xZ, xZ] [xI b, xL (xw64 (xw64 (e * 31) + xpl h2 57 (xpl h2 55 (stA (zC s) x + i))))] h2 Q X := fun b hb => by
        refine v_M_ofSegment_145 F2 ⟨⟨by omega, by omega⟩, by omega, by omega, ⟨by omega, by omega⟩, ?_⟩
        rw [mt.1.1, mt.2.1.1, mt.2.1.2.1, hb]
        have g := ih (i + 1) (sti (sti (sti (sti e x'.1.1) (b2i x'.2)) (rwT x'.1 0).length) (rwT x'.1 1).length) h2 (by omega) F2 S2 n2 l2 he
        rw [show stA (zC s) x + ((i + 1 : Nat) : Int) = stA (zC s) x + i + 1 by omega] at g
        exact g
      refine v_M_ofSegment_98 F2 ?_
      rw [R2.end_ x0 x1]
      refine ⟨x0, by omega, fun y => absurd y (by omega), fun _ => ?_⟩
      rw [mt.1.2.2.2]
      exact ⟨by omega, by omega, r0.1, r0.2, fun y => go 0 y.symm, fun y => go 1 (by rw [bz1 y]; rfl)⟩
  refine v_M_ofSegment_0 F ⟨by omega, by omega, fun F1 => ?_⟩
  rw [← hA]
  obtain ⟨h1, hh1⟩ : ∃ h1, h1 = xmk h 100 5 (fun _ => 0) := ⟨_, rfl⟩
  have n1 : xnx h1 = A + 1 := by rw [hh1, hA]; rfl
  have l1 : xsl h1 = xsl h + 5 := by rw [hh1]; rfl
  have S1 : xsm (fun c => c = 64) h h1 := by rw [hh1]; exact (xsm.refl h).mk (by decide)
  have t1 : xtg h1 A = 100 := by rw [hh1]; exact xtg_new hA
  have ln1 : xln h1 A = 5 := by rw [hh1]; exact xln_new hA
  rw [← hh1] at F1 ⊢
  refine p_M_manyIn F1 (keep h1 S1).2 x0 x1 ?_
  refine v_M_ofSegment_10 F1 ⟨t1, by omega, by decide, by rw [ln1]; decide, fun F2 => ?_⟩
  obtain ⟨h2, hh2⟩ : ∃ h2, h2 = xst h1 A 0 (szA (zC s) x) := ⟨_, rfl⟩
  have S2 : xsm (fun c => c = 64) h h2 := by rw [hh2]; exact S1.st (by decide) (Or.inr (by omega))
  have t2 : xtg h2 A = 100 := by rw [hh2]; exact t1
  have ln2 : xln h2 A = 5 := by rw [hh2]; exact ln1
  have v20 : xpl h2 A 0 = szA (zC s) x := by rw [hh2]; exact xpl_hit _ _ _ _
  have n2 : xnx h2 = A + 1 := by rw [hh2]; exact n1
  have l2 : xsl h2 = xsl h + 5 := by rw [hh2]; exact l1
  rw [← hh2] at F2 ⊢
  refine p_M_marks F2 (keep h2 S2).2 x0 x1 ?_
  rw [← hst, ← hn, gf]
  refine v_M_ofSegment_18 F2 ⟨t2, by omega, by decide, by rw [ln2]; decide, fun F3 => ?_⟩
  obtain ⟨h3, hh3⟩ : ∃ h3, h3 = xst h2 A 1 (goneF (fC s) st n) := ⟨_, rfl⟩
  have S3 : xsm (fun c => c = 64) h h3 := by rw [hh3]; exact S2.st (by decide) (Or.inr (by omega))
  have t3 : xtg h3 A = 100 := by rw [hh3]; exact t2
  have ln3 : xln h3 A = 5 := by rw [hh3]; exact ln2
  have v30 : xpl h3 A 0 = szA (zC s) x := by rw [hh3, xpl_ok (by decide)]; exact v20
  have v31 : xpl h3 A 1 = goneF (fC s) st n := by rw [hh3]; exact xpl_hit _ _ _ _
  have n3 : xnx h3 = A + 1 := by rw [hh3]; exact n2
  have l3 : xsl h3 = xsl h + 5 := by rw [hh3]; exact l2
  rw [← hh3] at F3 ⊢
  refine p_M_level F3 (keep h3 S3).2 x0 x1 ?_
  refine v_M_ofSegment_26 F3 ⟨t3, by omega, by decide, by rw [ln3]; decide, fun F4 => ?_⟩
  obtain ⟨h4, hh4⟩ : ∃ h4, h4 = xst h3 A 2 (lvl (szA (zC s) x)) := ⟨_, rfl⟩
  have S4 : xsm (fun c => c = 64) h h4 := by rw [hh4]; exact S3.st (by decide) (Or.inr (by omega))
  have t4 : xtg h4 A = 100 := by rw [hh4]; exact t3
  have ln4 : xln h4 A = 5 := by rw [hh4]; exact ln3
  have v40 : xpl h4 A 0 = szA (zC s) x := by rw [hh4, xpl_ok (by decide)]; exact v30
  have v41 : xpl h4 A 1 = goneF (fC s) st n := by rw [hh4, xpl_ok (by decide)]; exact v31
  have v42 : xpl h4 A 2 = lvl (szA (zC s) x) := by rw [hh4]; exact xpl_hit _ _ _ _
  have n4 : xnx h4 = A + 1 := by rw [hh4]; exact n3
  have l4 : xsl h4 = xsl h + 5 := by rw [hh4]; exact l3
  rw [← hh4] at F4 ⊢
  have T0 : 0 ≤ T := by omega
  have kT := k64 T0
  have nT := kS_nn 64 (s := T) (b := 0) T0
  have ka := k64 (s := ((rwsW s 0 st n).length : Int)) (by omega)
  have kb := k64 (s := ((rwsW s 1 st n).length : Int)) (by omega)
  refine s_M_differentIn F4 (keep h4 S4).2 W.1.1 x0 x1 (Or.inl rfl) hT T8 (by omega) (by omega) (fun h5 F5 S45 n5 l5 => ?_)
  rw [← hn, ste] at n5 l5 ⊢
  have S5 : xsm (fun c => c = 64) h h5 := S4.trans S45
  have A64 : ¬ A = 64 := by omega
  have m5 := S45.1
  have t5 : xtg h5 A = 100 := (S45.tg (by omega)).trans t4
  have ln5 : xln h5 A = 5 := (S45.ln (by omega)).trans ln4
  have v5 : ∀ k, xpl h5 A k = xpl h4 A k := fun k => S45.pl (by omega) A64 k
  refine v_M_ofSegment_35 F5 ⟨t5, by omega, by decide, by rw [ln5]; decide, fun F6 => ?_⟩
  obtain ⟨h6, hh6⟩ : ∃ h6, h6 = xst h5 A 3 ((wvs s 0 st n).length) := ⟨_, rfl⟩
  have S6 : xsm (fun c => c = 64) h h6 := by rw [hh6]; exact S5.st (by decide) (Or.inr (by omega))
  have t6 : xtg h6 A = 100 := by rw [hh6]; exact t5
  have ln6 : xln h6 A = 5 := by rw [hh6]; exact ln5
  have v6 : ∀ k, k ≠ 3 → xpl h6 A k = xpl h4 A k := fun k y => by rw [hh6, xpl_ok y]; exact v5 k
  have v63 : xpl h6 A 3 = (wvs s 0 st n).length := by rw [hh6]; exact xpl_hit _ _ _ _
  have n6 : xnx h6 = xnx h5 := by rw [hh6]; rfl
  have l6 : xsl h6 = xsl h5 := by rw [hh6]; rfl
  rw [← hh6] at F6 ⊢
  refine s_M_differentIn F6 (keep h6 S6).2 W.1.1 x0 x1 (Or.inr rfl) hT T8 (by omega) (by omega) (fun h7 F7 S67 n7 l7 => ?_)
  rw [← hn, ste] at n7 l7 ⊢
  have S7 : xsm (fun c => c = 64) h h7 := S6.trans S67
  have m7 := S67.1
  have t7 : xtg h7 A = 100 := (S67.tg (by omega)).trans t6
  have ln7 : xln h7 A = 5 := (S67.ln (by omega)).trans ln6
  have v7 : ∀ k, xpl h7 A k = xpl h6 A k := fun k => S67.pl (by omega) A64 k
  refine v_M_ofSegment_44 F7 ⟨t7, by omega, by decide, by rw [ln7]; decide, t7, fun F8 => ?_⟩
  obtain ⟨h8, hh8⟩ : ∃ h8, h8 = xst h7 A 4 ((wvs s 1 st n).length) := ⟨_, rfl⟩
  have S8 : xsm (fun c => c = 64) h h8 := by rw [hh8]; exact S7.st (by decide) (Or.inr (by omega))
  have t8 : xtg h8 A = 100 := by rw [hh8]; exact t7
  have ln8 : xln h8 A = 5 := by rw [hh8]; exact ln7
  have v8 : ∀ k, k ≠ 3 → k ≠ 4 → xpl h8 A k = xpl h4 A k := fun k y1 y2 => by rw [hh8, xpl_ok y2, v7]; exact v6 k y1
  have v83 : xpl h8 A 3 = (wvs s 0 st n).length := by rw [hh8, xpl_ok (by decide), v7]; exact v63
  have v84 : xpl h8 A 4 = (wvs s 1 st n).length := by rw [hh8]; exact xpl_hit _ _ _ _
  have n8 : xnx h8 = xnx h7 := by rw [hh8]; rfl
  have l8 : xsl h8 = xsl h7 := by rw [hh8]; rfl
  rw [← hh8] at F8 ⊢
  rw [ln7]
  have N8 : 22 * (xnx h8 - xnx h - 1) ≤ sgW s x := by rw [sw]; omega
  have L8 : xsl h8 ≤ xsl h + 5 + 4 * sgW s x := by rw [sw]; omega
  -- the five numbers
  refine v_M_ofSegment_62 F8 ⟨fun y => absurd y (by decide), fun _ => ⟨t8, by decide, by rw [ln8]; decide, ?_⟩⟩
  rw [v8 0 (by decide) (by decide), v40]
  refine v_M_ofSegment_62 F8 ⟨fun y => absurd y (by decide), fun _ => ⟨t8, by decide, by rw [ln8]; decide, ?_⟩⟩
  rw [show (0 : Int) + 1 = 1 from rfl, v8 1 (by decide) (by decide), v41]
  refine v_M_ofSegment_62 F8 ⟨fun y => absurd y (by decide), fun _ => ⟨t8, by decide, by rw [ln8]; decide, ?_⟩⟩
  rw [show (1 : Int) + 1 = 2 from rfl, v8 2 (by decide) (by decide), v42]
  refine v_M_ofSegment_62 F8 ⟨fun y => absurd y (by decide), fun _ => ⟨t8, by decide, by rw [ln8]; decide, ?_⟩⟩
  rw [show (2 : Int) + 1 = 3 from rfl, v83]
  refine v_M_ofSegment_62 F8 ⟨fun y => absurd y (by decide), fun _ => ⟨t8, by decide, by rw [ln8]; decide, ?_⟩⟩
  rw [show (3 : Int) + 1 = 4 from rfl, v84]
  refine v_M_ofSegment_62 F8 ⟨fun _ => ?_, fun y => absurd (by decide) y⟩
  refine p_M_startOf F8 (keep h8 S8).2 x0 (by omega) ?_
  refine v_M_ofSegment_96 F8 ?_
  have go := texts n 0 (sti (sti (sti (sti (sti c (szA (zC s) x)) (goneF (fC s) st n)) (lvl (szA (zC s) x))) (wvs s 0 st n).length) (wvs s 1 st n).length) h8 (by omega) F8 S8 N8 L8 (by
    unfold sgD
    rw [← hn, ← hst, ste]; rfl)
  rw [show stA (zC s) x + ((0 : Nat) : Int) = stA (zC s) x by omega] at go
  exact go

end
