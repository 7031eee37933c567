/-! ===== mqm ===== -/
section
/-! the model's calls about a question -/
theorem s_M_parts {G : XG} {d : Nat} {h : XH} {Q : XV → XH → Prop} {X : Nat → XH → Prop} {s : CS} (F : xFix h) (I : MIR h s) (W : CWF s) (hq : MAQ Q xI h s [2] (cParts s).1) : xwp G m_M_parts (d + 2) 0 [xR 53] [] h Q X := by
  unfold cParts at hq
  refine v_M_parts_0 F ⟨fun y F1 => ?_, fun y F1 => ?_⟩
  · rw [if_pos (I.nq y)] at hq
    exact hq.no I rfl F1
  · obtain ⟨q, ns, n0, A, hns, en, E, back⟩ := I.qu W y 0
    obtain ⟨t1, t2, t3⟩ := A.top hns
    rw [if_neg n0] at hq
    refine p_M_topParts F1 A.1 t1 t2 t3 ?_
    refine v_M_parts_15 F1 ?_
    obtain ⟨b1, b2, b3⟩ := back _ (RW.rfl F1) A
    rw [en] at hq
    exact hq _ F1 b1 b2 b3
theorem s_M_found {G : XG} {d : Nat} {h : XH} {Q : XV → XH → Prop} {X : Nat → XH → Prop} {s : CS} (F : xFix h) (I : MIR h s) (W : CWF s) (hq : MAQ Q xI h s [2] (cFound s).1) : xwp G m_M_found (d + 6) 0 [xR 53] [] h Q X := by
  unfold cFound at hq
  refine v_M_found_0 F ⟨fun y F1 => ?_, fun y F1 => ?_⟩
  · rw [if_pos (I.nq y)] at hq
    exact hq.no I rfl F1
  · obtain ⟨q, ns, n0, A, hns, en, E, back⟩ := I.qu W y 0
    rw [if_neg n0] at hq
    refine s_M_answer F1 A (fun h2 K2 A2 D2 _ => ?_)
    obtain ⟨b1, b2, b3⟩ := back _ K2 A2
    rw [W.tk]
    refine v_M_found_15 K2.1 ?_
    exact hq _ K2.1 b1 b2 b3
/-- what is found, in the rows -/
theorem found_at {h : XH} {s : CS} {q : Int} (W : CWF s) (A : MQS h q (dC s) (fbF (fC s) (bC s)) (zC s) (mC s)) (D : FdM h (dC s) (fC s) (oC s)) {i o : Nat} (hi : (oC s)[i]? = some o) : xpl h 89 i = o ∧ xpl h 90 i = wtF (dC s) (fC s) o ∧ o < 60 ∧ (0 ≤ xpl h 55 o ∧ xpl h 55 o < 60) ∧ xpl h 57 (xpl h 55 o) = (fA s o).1.1 ∧ xpl h 58 (xpl h 55 o) = (fA s o).1.2.1 := by
  obtain ⟨o1, x, o2, -⟩ := orF_mem _ _ _ o (List.mem_of_getElem? hi)
  obtain ⟨a, b⟩ := D i o hi
  have R := A.2.2.1.rkw A.2.2.2.1
  rw [W.tk] at R
  obtain ⟨c1, c2, -⟩ := R.1.2 o x o2
  have e : fA s o = x := by
    unfold fA
    rw [Int.toNat_natCast, o2]; rfl
  have l60 := R.1.1
  rw [e]
  exact ⟨a, b, by omega, c1, c2.1.1, c2.1.2.1⟩
theorem oC_len {s : CS} (W : CWF s) : (oC s).length ≤ 60 := by
  have := orF_len (dC s) (fC s) (fC s).length
  have := W.1.2
  unfold oC
  omega
theorem oA_at {s : CS} {p : Nat} (h : p < (oC s).length) : (oC s)[p]? = some (oA s p) := by
  have e := List.getElem?_eq_getElem h
  unfold oA
  rw [Int.toNat_natCast, e]; rfl
theorem s_M_keyFound {G : XG} {d : Nat} {h : XH} {Q : XV → XH → Prop} {X : Nat → XH → Prop} {s : CS} {p : Int} (F : xFix h) (I : MIR h s) (W : CWF s) (hq : MAQ Q xI h s [2, 3] (cKeyFound s p).1) : xwp G m_M_keyFound (d + 6) 0 [xR 53, xI p] [] h Q X := by
  unfold cKeyFound at hq
  refine v_M_keyFound_0 F ⟨fun y F1 => ?_, fun y F1 => ?_⟩
  · rw [if_pos (I.nq y)] at hq
    exact hq.no I rfl F1
  · obtain ⟨q, ns, n0, A, hns, en, E, back⟩ := I.qu W y 0
    rw [if_neg n0] at hq
    refine s_M_answer F1 A (fun h2 K2 A2 D2 _ => ?_)
    obtain ⟨b1, b2, b3⟩ := back _ K2 A2
    have ol := oC_len W
    rw [W.tk] at D2 ⊢
    have out : ¬ (0 ≤ p ∧ p < (oC s).length) → xFix (xst h2 53 0 2) → Q (xI 0) (xst h2 53 0 2) := fun z F3 => by
      rw [if_neg z] at hq
      exact hq _ F3 (b1.th 2) b2.th (xpl_hit _ _ _ _)
    refine v_M_keyFound_19 K2.1 ⟨⟨by omega, by show ((oC s).length : Int) - 1 ≤ _; omega⟩, fun z F3 => out (by omega) F3, fun z => ⟨fun z2 F3 => out (by have z2 : ((oC s).length : Int) - 1 < p := z2; omega) F3, fun z2 => ?_⟩⟩
    have z2 : ¬ ((oC s).length : Int) - 1 < p := z2
    obtain ⟨a1, a2, a3, a4, a5, a6⟩ := found_at W A2 D2 (oA_at (s := s) (p := p.toNat) (by omega))
    rw [if_pos ⟨by omega, by omega⟩] at hq
    rw [show (((p.toNat : Nat)) : Int) = p by omega] at a1 a3 a4 a5
    rw [a1]
    refine ⟨by omega, by omega, by omega, by omega, a4.1, a4.2, ?_⟩
    rw [a5]
    exact hq _ K2.1 b1 b2 b3
theorem s_M_weightFound {G : XG} {d : Nat} {h : XH} {Q : XV → XH → Prop} {X : Nat → XH → Prop} {s : CS} {p : Int} (F : xFix h) (I : MIR h s) (W : CWF s) (hq : MAQ Q xI h s [2, 3] (cWeightFound s p).1) : xwp G m_M_weightFound (d + 6) 0 [xR 53, xI p] [] h Q X := by
  unfold cWeightFound at hq
  refine v_M_weightFound_0 F ⟨fun y F1 => ?_, fun y F1 => ?_⟩
  · rw [if_pos (I.nq y)] at hq
    exact hq.no I rfl F1
  · obtain ⟨q, ns, n0, A, hns, en, E, back⟩ := I.qu W y 0
    rw [if_neg n0] at hq
    refine s_M_answer F1 A (fun h2 K2 A2 D2 _ => ?_)
    obtain ⟨b1, b2, b3⟩ := back _ K2 A2
    have ol := oC_len W
    rw [W.tk] at D2 ⊢
    have out : ¬ (0 ≤ p ∧ p < (oC s).length) → xFix (xst h2 53 0 2) → Q (xI 0) (xst h2 53 0 2) := fun z F3 => by
      rw [if_neg z] at hq
      exact hq _ F3 (b1.th 2) b2.th (xpl_hit _ _ _ _)
    refine v_M_weightFound_19 K2.1 ⟨⟨by omega, by show ((oC s).length : Int) - 1 ≤ _; omega⟩, fun z F3 => out (by omega) F3, fun z => ⟨fun z2 F3 => out (by have z2 : ((oC s).length : Int) - 1 < p := z2; omega) F3, fun z2 => ?_⟩⟩
    have z2 : ¬ ((oC s).length : Int) - 1 < p := z2
    obtain ⟨a1, a2, a3, a4, a5, a6⟩ := found_at W A2 D2 (oA_at (s := s) (p := p.toNat) (by omega))
    rw [if_pos ⟨by omega, by omega⟩] at hq
    rw [show (((p.toNat : Nat)) : Int) = p by omega] at a2
    refine ⟨by omega, by omega, ?_⟩
    rw [a2]
    exact hq _ K2.1 b1 b2 b3
theorem p_M_manyOn {G : XG} {d : Nat} {h : XH} {Q : XV → XH → Prop} {X : Nat → XH → Prop} {s : CS} {q sh : Int} (F : xFix h) (W : CWF s) (A : MQS h q (dC s) (fbF (fC s) (bC s)) (zC s) (mC s)) (D : FdM h (dC s) (fC s) (oC s)) (hq : Q (xI (foF s sh (oC s))) h) : xwp G m_M_manyOn (d + 1) 0 [xR 53, xI sh, xI (oC s).length, xZ, xZ] [] h Q X := by
  have ol := oC_len W
  have loop : ∀ (n k : Nat) (c : Int), k + n = (oC s).length → 0 ≤ c → c ≤ k → c + foF s sh ((oC s).drop k) = foF s sh (oC s) → xwp G m_M_manyOn (d + 1) 5 [xR 53, xI sh, xI (oC s).length, xI c, xI (k : Nat)] [] h Q X := by
    intro n
    induction n with
    | zero =>
      intro k c ek c0 c1 e
      rw [List.drop_eq_nil_of_le (by omega)] at e
      have e : c + 0 = _ := e
      rw [← e, Int.add_zero] at hq
      exact v_M_manyOn_5 F ⟨fun _ => hq, fun y => absurd (by omega) y⟩
    | succ n ih =>
      intro k c ek c0 c1 e
      have hk : k < (oC s).length := by omega
      obtain ⟨a1, a2, a3, a4, a5, a6⟩ := found_at W A D (List.getElem?_eq_getElem hk)
      rw [List.drop_eq_getElem_cons hk] at e
      have e : c + ((if (fA s ((oC s)[k] : Nat)).1.2.1 = sh then 1 else 0) + foF s sh ((oC s).drop (k + 1))) = foF s sh (oC s) := e
      refine v_M_manyOn_5 F ⟨fun y => by omega, fun _ => ?_⟩
      rw [a1, a6]
      refine ⟨by omega, by omega, by omega, by omega, a4.1, a4.2, fun y => ⟨⟨by omega, by omega⟩, ?_⟩, fun y => ?_⟩
      · rw [if_pos y] at e
        have go := ih (k + 1) (c + 1) (by omega) (by omega) (by omega) (by omega)
        rw [show ((k + 1 : Nat) : Int) = (k : Int) + 1 by omega] at go
        exact go
      · rw [if_neg y] at e
        have go := ih (k + 1) (c + 0) (by omega) (by omega) (by omega) (by omega)
        rw [show ((k + 1 : Nat) : Int) = (k : Int) + 1 by omega] at go
        exact go
  exact v_M_manyOn_0 F (loop (oC s).length 0 0 (by omega) (Int.le_refl _) (Int.le_refl _) (by rw [List.drop_zero, Int.zero_add]))
theorem s_M_foundOn {G : XG} {d : Nat} {h : XH} {Q : XV → XH → Prop} {X : Nat → XH → Prop} {s : CS} {p : Int} (F : xFix h) (I : MIR h s) (W : CWF s) (hq : MAQ Q xI h s [2, 3] (cFoundOn s p).1) : xwp G m_M_foundOn (d + 6) 0 [xR 53, xI p] [] h Q X := by
  unfold cFoundOn at hq
  refine v_M_foundOn_0 F ⟨fun y F1 => ?_, fun y => ?_⟩
  · rw [if_pos (I.nq y)] at hq
    exact hq.no I rfl F1
  · obtain ⟨q, ns, n0, A, hns, en, E, back⟩ := I.qu W y 0
    rw [if_neg n0] at hq
    refine ⟨fun z F1 => ?_, fun z => ⟨fun z2 F1 => ?_, fun z2 F1 => ?_⟩⟩
    · rw [if_neg (by omega)] at hq
      exact hq.no2 I rfl F1
    · rw [if_neg (by omega)] at hq
      exact hq.no2 I rfl F1
    · rw [if_pos ⟨by omega, by omega⟩] at hq
      refine s_M_answer F1 A (fun h2 K2 A2 D2 _ => ?_)
      obtain ⟨b1, b2, b3⟩ := back _ K2 A2
      rw [W.tk] at D2 ⊢
      refine v_M_foundOn_29 K2.1 ⟨ft_53 K2.1, ?_⟩
      refine p_M_manyOn K2.1 W A2 D2 ?_
      exact v_M_foundOn_32 K2.1 (hq _ K2.1 b1 b2 b3)
theorem s_M_placeOf {G : XG} {d : Nat} {h : XH} {Q : XV → XH → Prop} {X : Nat → XH → Prop} {s : CS} {k : Int} (F : xFix h) (I : MIR h s) (W : CWF s) (hq : MAQ Q xI h s [2, 1] (cPlaceOf s k).1) : xwp G m_M_placeOf (d + 6) 0 [xR 53, xI k, xZ, xZ] [] h Q X := by
  unfold cPlaceOf at hq
  refine v_M_placeOf_0 F ⟨fun y F1 => ?_, fun y => ?_⟩
  · rw [if_pos (I.nq y)] at hq
    exact hq.no I rfl F1
  · obtain ⟨q, ns, n0, A, hns, en, E, back⟩ := I.qu W y 0
    rw [if_neg n0] at hq
    refine ⟨fun z F1 => ?_, fun z => ⟨fun z2 F1 => ?_, fun z2 F1 => ?_⟩⟩
    · rw [if_neg (by omega)] at hq
      exact hq.no2 I rfl F1
    · rw [if_neg (by omega)] at hq
      exact hq.no2 I rfl F1
    · rw [if_pos ⟨by omega, by omega⟩] at hq
      refine s_M_answer F1 A (fun h2 K2 A2 D2 _ => ?_)
      obtain ⟨b1, b2, b3⟩ := back _ K2 A2
      have ol := oC_len W
      rw [W.tk] at D2 ⊢
      refine v_M_placeOf_30 K2.1 ?_
      have fin := hq _ K2.1 b1 b2 b3
      have loop : ∀ (n i : Nat), i + n = (oC s).length → plF s k ((oC s).drop i) i = plF s k (oC s) 0 → xwp G m_M_placeOf (d + 6) 33 [xR 53, xI k, xI (oC s).length, xI (i : Nat)] [] h2 Q X := by
        intro n
        induction n with
        | zero =>
          intro i ei e
          rw [List.drop_eq_nil_of_le (by omega)] at e
          have e : (-1 : Int) = _ := e
          have fin : Q (xI (plF s k (oC s) 0)) h2 := fin
          rw [← e] at fin
          exact v_M_placeOf_33 K2.1 ⟨fun _ => fin, fun w => absurd (by omega) w⟩
        | succ n ih =>
          intro i ei e
          have hi : i < (oC s).length := by omega
          obtain ⟨a1, a2, a3, a4, a5, a6⟩ := found_at W A2 D2 (List.getElem?_eq_getElem hi)
          rw [List.drop_eq_getElem_cons hi] at e
          have e : (if (fA s ((oC s)[i] : Nat)).1.1 = k then (i : Int) else plF s k ((oC s).drop (i + 1)) ((i : Int) + 1)) = plF s k (oC s) 0 := e
          refine v_M_placeOf_33 K2.1 ⟨fun w => by omega, fun _ => ?_⟩
          rw [a1, a5]
          refine ⟨by omega, by omega, by omega, by omega, a4.1, a4.2, fun w => ?_, fun w => ?_⟩
          · rw [if_pos w] at e
            have fin : Q (xI (plF s k (oC s) 0)) h2 := fin
            rw [← e] at fin
            exact fin
          · rw [if_neg w] at e
            have go := ih (i + 1) (by omega) (by rw [show ((i + 1 : Nat) : Int) = (i : Int) + 1 by omega]; exact e)
            rw [show ((i + 1 : Nat) : Int) = (i : Int) + 1 by omega] at go
            exact go
      exact loop (oC s).length 0 (by omega) rfl
/-- a key's text in a segment -/
theorem sg_key {s : CS} (W : CWF s) (k : Int) : sgX (fbF (fC s) (bC s)) (zC s) k = sidx (fC s) k := sgX_fb (bC s) k W.1.1.1
theorem sidx_f {s : CS} {k : Int} (h : sidx (fC s) k ≠ -1) : ∃ i : Nat, sidx (fC s) k = (i : Int) ∧ (fC s)[i]? = some (fA s (sidx (fC s) k)) ∧ i < (fC s).length := by
  obtain ⟨x, x1, -⟩ := idxI_hit _ _ h
  have x1 : (fC s)[(sidx (fC s) k).toNat]? = some x := x1
  have r := sidx_rng (fC s) k
  have lt := (List.getElem?_eq_some_iff.mp x1).1
  refine ⟨(sidx (fC s) k).toNat, by omega, ?_, lt⟩
  have e : fA s (sidx (fC s) k) = x := by unfold fA; rw [x1]; rfl
  rw [e]; exact x1
theorem s_M_partWeight {G : XG} {d : Nat} {h : XH} {Q : XV → XH → Prop} {X : Nat → XH → Prop} {s : CS} {k p : Int} (F : xFix h) (I : MIR h s) (W : CWF s) (hq : MAQ Q xI h s [2, 1, 3] (cPartWeight s k p).1) : xwp G m_M_partWeight (d + 5) 0 [xR 53, xI k, xI p, xZ] [] h Q X := by
  unfold cPartWeight at hq
  refine v_M_partWeight_0 F ⟨fun y F1 => ?_, fun y => ?_⟩
  · rw [if_pos (I.nq y)] at hq
    exact hq.no I rfl F1
  · obtain ⟨q, ns, n0, A, hns, en, E, back⟩ := I.qu W y 0
    obtain ⟨t1, t2, t3⟩ := A.top hns
    have D40 := A.1.2.2.2.1
    rw [if_neg n0] at hq
    refine ⟨fun z F1 => ?_, fun z => ⟨fun z2 F1 => ?_, fun z2 F1 => ?_⟩⟩
    · rw [if_neg (by omega)] at hq
      exact hq.no2 I rfl F1
    · rw [if_neg (by omega)] at hq
      exact hq.no2 I rfl F1
    · rw [if_pos ⟨by omega, by omega⟩, en] at hq
      have nsl : ns.length ≤ 40 := by
        have a := A.2.1.1.2.1 ns (List.mem_of_getElem? hns)
        have := asc_len a.1 a.2
        omega
      refine p_M_topParts F1 A.1 t1 t2 t3 ?_
      obtain ⟨b1, b2, b3⟩ := back _ (RW.rfl F1) A
      have out : ¬ (0 ≤ p ∧ p < ns.length) → xFix (xst (xst h 53 0 0) 53 0 3) → Q (xI 0) (xst (xst h 53 0 0) 53 0 3) := fun w F3 => by
        rw [if_neg w] at hq
        exact hq.no2 I rfl F3
      refine v_M_partWeight_32 F1 ⟨⟨by omega, by omega⟩, fun w F3 => out (by omega) F3, fun w => ⟨fun w2 F3 => out (by omega) F3, fun w2 => ?_⟩⟩
      rw [if_pos ⟨by omega, by omega⟩] at hq
      refine p_M_whereInSegments F1 A.2.2.1 ?_
      rw [sg_key W]
      refine v_M_partWeight_51 F1 ⟨fun v => ?_, fun v => ?_⟩
      · rw [if_pos v] at hq
        exact hq _ F1 b1 b2 b3
      · rw [if_neg v] at hq
        obtain ⟨i, ei, hx, il⟩ := sidx_f v
        rw [ei] at hq hx ⊢
        obtain ⟨A1, O, R, P, J⟩ := A
        have RKw0 := R.rkw P
        rw [W.tk] at RKw0
        refine s_M_reckon F1 A1 R P O.2.2.1 J (fun h2 K2 R2 e26 => ?_)
        rw [W.tk] at R2
        refine v_M_partWeight_63 K2.1 ?_
        refine s_M_look K2.1 (K2.mqr A1) O (RKw0.1.rw K2) R2 hx hns (fun h3 L3 J3 => ?_)
        refine v_M_partWeight_69 L3.1 ?_
        have K3 := K2.trans L3.rw
        have A3 : MQS h3 q (dC s) (fbF (fC s) (bC s)) (zC s) (mC s) := ⟨K3.mqr A1, O, K3.msr R, P, fun _ => by rw [W.tk]; exact R2.lw L3⟩
        obtain ⟨u1, u2, u3⟩ := A3.top hns
        obtain ⟨c1, c2, c3⟩ := back _ K3 A3
        have pe : ((p.toNat : Nat) : Int) = p := by omega
        have go := p_M_topPart (G := G) (d := d + 3) (h := h3) (Q := fun v9 h9 => xwp G m_M_partWeight (d + 5) 79 [xZ, xZ, xZ, xZ] (xpush v9 [xR 86]) h9 Q X) (X := X) (k := p.toNat) K3.1 A3.1 (by omega) u1 u2 u3 ?_
        · rw [pe] at go; exact go
        · have pl : p.toNat < ns.length := by omega
          have hm := List.getElem?_eq_getElem pl
          obtain ⟨mm, hmm⟩ : ∃ mm, mm = ns[p.toNat] := ⟨_, rfl⟩
          rw [← hmm] at hm
          have tp : tpF ns p.toNat = (mm : Nat) := by unfold tpF; rw [hm]
          have ml := u2 mm (List.mem_of_getElem? hm)
          obtain ⟨t, ht⟩ : ∃ t, (dC s).1[mm]? = some t := ⟨_, List.getElem?_eq_getElem ml⟩
          rw [tp]
          obtain ⟨j1, j2⟩ := J3 mm t (Nat.zero_le _) ht
          refine v_M_partWeight_79 K3.1 ⟨ft_86 K3.1, by omega, by rw [fl_86 K3.1]; omega, ?_⟩
          rw [j2]
          have e : pwF s (i : Int) p = (JPv (dC s) (fC s) (fA s (i : Int)).1 t).2 := by
            unfold pwF
            rw [hns]
            show (((ns[p.toNat]?).bind (fun n => (dC s).1[n]?)).map (pwT s i)).getD 0 = _
            rw [hm]
            show (((dC s).1[mm]?).map (pwT s i)).getD 0 = _
            rw [ht]
            show pwT s i t = _
            unfold pwT
            exact congrArg Prod.snd (jdP_v (q := 0) (fun h5 => O.2.1 0 ns mm t hns (List.mem_of_getElem? hm) ht h5))
          rw [e] at hq
          exact hq _ K3.1 c1 c2 c3
theorem s_M_foundWithout {G : XG} {d : Nat} {h : XH} {Q : XV → XH → Prop} {X : Nat → XH → Prop} {s : CS} {p : Int} (F : xFix h) (I : MIR h s) (W : CWF s) (hq : MAQ Q xI h s [2, 3] (cFoundWithout s p).1) : xwp G m_M_foundWithout (d + 6) 0 [xR 53, xI p] [] h Q X := by
  unfold cFoundWithout at hq
  refine v_M_foundWithout_0 F ⟨fun y F1 => ?_, fun y F1 => ?_⟩
  · rw [if_pos (I.nq y)] at hq
    exact hq.no I rfl F1
  · obtain ⟨q, ns, n0, A, hns, en, E, back⟩ := I.qu W y 0
    obtain ⟨t1, t2, t3⟩ := A.top hns
    have D40 := A.1.2.2.2.1
    rw [if_neg n0, en, hns] at hq
    have nsl : ns.length ≤ 40 := by
      have := asc_len t1 t2
      omega
    refine p_M_topParts F1 A.1 t1 t2 t3 ?_
    have out : ¬ (0 ≤ p ∧ p < ns.length) → xFix (xst (xst h 53 0 0) 53 0 2) → Q (xI 0) (xst (xst h 53 0 0) 53 0 2) := fun w F3 => by
      rw [if_neg w] at hq
      exact hq.no2 I rfl F3
    refine v_M_foundWithout_19 F1 ⟨⟨by omega, by omega⟩, fun w F3 => out (by omega) F3, fun w => ⟨fun w2 F3 => out (by omega) F3, fun w2 => ?_⟩⟩
    rw [if_pos ⟨by omega, by omega⟩] at hq
    have pe : ((p.toNat : Nat) : Int) = p := by omega
    have go := p_M_topPart (G := G) (d := d + 4) (h := xst h 53 0 0) (Q := fun v9 h9 => xwp G m_M_foundWithout (d + 6) 33 [xZ, xZ] (xpush v9 [xR 53]) h9 Q X) (X := X) (k := p.toNat) F1 A.1 (by omega) t1 t2 t3 ?_
    · rw [pe] at go; exact go
    · refine v_M_foundWithout_33 F1 ⟨ft_53 F1, ?_⟩
      refine s_M_manyBut F1 A hns (fun h2 K2 A2 => ?_)
      obtain ⟨b1, b2, b3⟩ := back _ K2 A2
      refine v_M_foundWithout_36 K2.1 ?_
      have hw : ∀ (i m : Nat), ns[i]? = some m → ((i : Int) = p ↔ (m : Int) = tpF ns p.toNat) := fun i m hi => by
        have pl : p.toNat < ns.length := by omega
        have hp := List.getElem?_eq_getElem pl
        have tp : tpF ns p.toNat = ((ns[p.toNat] : Nat) : Int) := by unfold tpF; rw [hp]
        rw [tp]
        have il := (List.getElem?_eq_some_iff.mp hi).1
        have ie : ns[i] = m := (List.getElem?_eq_some_iff.mp hi).2
        constructor
        · intro x
          have : i = p.toNat := by omega
          subst this
          rw [ie]
        · intro x
          have x : m = ns[p.toNat] := by omega
          rcases Nat.lt_trichotomy i p.toNat with g | g | g
          · have := List.pairwise_iff_getElem.mp t1 i p.toNat il pl g
            omega
          · omega
          · have := List.pairwise_iff_getElem.mp t1 p.toNat i pl il g
            omega
      rw [W.tk, mbF_cw A.2.1 hns hw]
      exact hq _ K2.1 b1 b2 b3
theorem s_M_firstFit {G : XG} {d : Nat} {h : XH} {Q : XV → XH → Prop} {X : Nat → XH → Prop} {s : CS} {k f : Int} (F : xFix h) (I : MIR h s) (W : CWF s) (hq : MAQ Q xI h s [2, 1, 3] (cFirstFit s k f).1) : xwp G m_M_firstFit (d + 6) 0 [xR 53, xI k, xI f, xZ] [] h Q X := by
  unfold cFirstFit at hq
  refine v_M_firstFit_0 F ⟨fun y F1 => ?_, fun y => ?_⟩
  · rw [if_pos (I.nq y)] at hq
    exact hq.no I rfl F1
  · obtain ⟨q, ns, n0, A, hns, en, E, back⟩ := I.qu W y 0
    rw [if_neg n0] at hq
    refine ⟨fun z F1 => ?_, fun z => ⟨fun z2 F1 => ?_, fun z2 => ?_⟩⟩
    · rw [if_neg (by omega)] at hq
      exact hq.no2 I rfl F1
    · rw [if_neg (by omega)] at hq
      exact hq.no2 I rfl F1
    · rw [if_pos ⟨by omega, by omega⟩] at hq
      have main : (f = 0 ∨ f = 1) → ∀ F1 : xFix (xst h 53 0 0), xwp G m_M_whereInSegments (d + 5) 0 [xR 53, xI k, xZ] [] (xst h 53 0 0) (fun v9 h9 => xwp G m_M_firstFit (d + 6) 44 [xR 53, xZ, xI f, xZ] (xpush v9 []) h9 Q X) X := fun hf F1 => by
        rw [if_pos (by omega)] at hq
        refine p_M_whereInSegments F1 A.2.2.1 ?_
        rw [sg_key W]
        refine v_M_firstFit_44 F1 ⟨fun v => ?_, fun v => ?_⟩
        · rw [if_pos v] at hq
          obtain ⟨b1, b2, b3⟩ := back _ (RW.rfl F1) A
          exact v_M_firstFit_60 F1 (hq _ F1 b1 b2 b3)
        · rw [if_neg v] at hq
          obtain ⟨i, ei, hx, il⟩ := sidx_f v
          rw [ei] at hq hx ⊢
          refine s_M_first F1 A E hf (by rw [W.tk]; exact hx) (fun h2 K2 A2 => ?_)
          obtain ⟨b1, b2, b3⟩ := back _ K2 A2
          exact v_M_firstFit_60 K2.1 (hq _ K2.1 b1 b2 b3)
      refine ⟨fun v F1 => main (Or.inl v) F1, fun v => ⟨fun v2 F1 => main (Or.inr v2) F1, fun v2 F1 => ?_⟩⟩
      rw [if_neg (by omega)] at hq
      exact hq.no2 I rfl F1
theorem xi2d_l {a : Int} (h : xiR a) : xi2d a = xl2d a := by
  unfold xi2d xl2d
  have e : FP.i2d (Int32.ofInt a) = FP.l2d (Int64.ofInt a) := by
    show UInt64.ofNat (Jvm.FP.Core.fromInt Jvm.FP.Core.b64 (Int32.ofInt a).toInt) = UInt64.ofNat (Jvm.FP.Core.fromInt Jvm.FP.Core.b64 (Int64.ofInt a).toInt)
    rw [xi_to h, xl_to ⟨by have := h.1; omega, by have := h.2; omega⟩]
  rw [e]
theorem s_M_meanWeight {G : XG} {d : Nat} {h : XH} {Q : XV → XH → Prop} {X : Nat → XH → Prop} {s : CS} (F : xFix h) (I : MIR h s) (W : CWF s) (hq : MAQ Q xD h s [2] (cMeanWeight s).1) : xwp G m_M_meanWeight (d + 6) 0 [xR 53, xZ, xZ, xZ] [] h Q X := by
  unfold cMeanWeight at hq
  refine v_M_meanWeight_0 F ⟨fun y F1 => ?_, fun y F1 => ?_⟩
  · rw [if_pos (I.nq y)] at hq
    exact hq.no I rfl F1
  · obtain ⟨q, ns, n0, A, hns, en, E, back⟩ := I.qu W y 0
    rw [if_neg n0] at hq
    refine s_M_answer F1 A (fun h2 K2 A2 D2 _ => ?_)
    obtain ⟨b1, b2, b3⟩ := back _ K2 A2
    have ol := oC_len W
    have ok := A.2.1.2.2.1
    rw [W.tk] at D2 ⊢
    refine v_M_meanWeight_17 K2.1 ?_
    have fin := hq _ K2.1 b1 b2 b3
    have loop : ∀ (n i : Nat) (c : Int), i + n = (oC s).length → 0 ≤ c → c ≤ 1000000 * i → c + smF s ((oC s).drop i) = smF s (oC s) → xwp G m_M_meanWeight (d + 6) 22 [xR 53, xI (oC s).length, xI c, xI (i : Nat)] [] h2 Q X := by
      intro n
      induction n with
      | zero =>
        intro i c ei c0 c1 e
        rw [List.drop_eq_nil_of_le (by omega)] at e
        have e : c + 0 = _ := e
        rw [Int.add_zero] at e
        have fin : Q (xD (mnF s)) h2 := fin
        unfold mnF at fin
        have cr : xiR c := ⟨by omega, by omega⟩
        rw [← e, ← xi2d_l cr] at fin
        refine v_M_meanWeight_22 K2.1 ⟨fun _ => ⟨fun w => ?_, fun w => ⟨?_, ?_⟩⟩, fun w => absurd (by omega) w⟩
        · rw [if_pos (by omega)] at fin; exact fin
        · rw [xi2d_l cr]
          exact mean_ok ⟨by omega, by omega⟩ w
        · rw [if_neg (by omega)] at fin; exact fin
      | succ n ih =>
        intro i c ei c0 c1 e
        have hi : i < (oC s).length := by omega
        obtain ⟨a1, a2, -⟩ := found_at W A2 D2 (List.getElem?_eq_getElem hi)
        rw [List.drop_eq_getElem_cons hi] at e
        have e : c + (wtF (dC s) (fC s) ((oC s)[i]) + smF s ((oC s).drop (i + 1))) = smF s (oC s) := e
        have wr := wtF_rng W ok ((oC s)[i])
        refine v_M_meanWeight_22 K2.1 ⟨fun w => by omega, fun _ => ?_⟩
        rw [a2]
        refine ⟨by omega, by omega, ⟨by omega, by omega⟩, ?_⟩
        have go := ih (i + 1) (c + wtF (dC s) (fC s) ((oC s)[i])) (by omega) (by omega) (by omega) (by omega)
        rw [show ((i + 1 : Nat) : Int) = (i : Int) + 1 by omega] at go
        exact go
    exact loop (oC s).length 0 0 (by omega) (Int.le_refl _) (Int.le_refl _) (by rw [List.drop_zero, Int.zero_add])

end
