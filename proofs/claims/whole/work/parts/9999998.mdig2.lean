/-! ===== mdig2 ===== -/
section
/-! the model's checksum: the question, whole -/
theorem idxI_mem {α : Type} (p : α → Bool) : ∀ (l : List α) (a : α), a ∈ l → p a = true → idxI p l ≠ -1
  | [], a, h, _ => by cases h
  | b :: l, a, h, pa => by
    have e : idxI p (b :: l) = if p b = true then 0 else if idxI p l = -1 then -1 else idxI p l + 1 := rfl
    rw [e]
    by_cases z : p b = true
    · rw [if_pos z]; decide
    · rw [if_neg z]
      rcases List.mem_cons.mp h with y | y
      · rw [y] at pa; exact absurd pa z
      · have := idxI_mem p l a y pa
        have r := idxI_rng p l
        rw [if_neg this]; omega
theorem uK_inj : ∀ (T : List (Txt × Bool)) (i j : Nat) (a b : Txt × Bool), (uK T).Nodup → T[i]? = some a → T[j]? = some b → a.2 = false → b.2 = false → a.1.1 = b.1.1 → i = j
  | [], i, j, a, b, _, h, _, _, _, _ => by cases h
  | t :: T, i, j, a, b, N, hi, hj, ha, hb, e => by
    have mem : ∀ (k : Nat) (c : Txt × Bool), T[k]? = some c → c.2 = false → c.1.1 ∈ uK T := fun k c h1 h2 => by
      unfold uK
      refine List.mem_map.mpr ⟨c, List.mem_filter.mpr ⟨List.mem_of_getElem? h1, ?_⟩, rfl⟩
      rw [h2]; rfl
    rw [uK_cons] at N
    have N2 : (uK T).Nodup := by
      split at N
      · exact N
      · exact (List.nodup_cons.mp N).2
    cases i with
    | zero =>
      have hi : some t = some a := hi
      cases hi
      rw [if_neg (by rw [ha]; decide)] at N
      cases j with
      | zero => rfl
      | succ j =>
        have := mem j b hj hb
        rw [← e] at this
        exact absurd this (List.nodup_cons.mp N).1
    | succ i =>
      cases j with
      | zero =>
        have hj : some t = some b := hj
        cases hj
        rw [if_neg (by rw [hb]; decide)] at N
        have := mem i a hi ha
        rw [e] at this
        exact absurd this (List.nodup_cons.mp N).1
      | succ j => rw [uK_inj T i j a b N2 hi hj ha hb e]
/-- a found text is where its key is looked for -/
theorem sidx_o {s : CS} (U : UQ s) {o : Nat} {x : Txt × Bool} (hx : (fC s)[o]? = some x) (hm : x.2 = false) : sidx (fC s) x.1.1 = o := by
  have U2 : (uK (fC s)).Nodup := by
    unfold UQ at U
    have e : uK (fbF (fC s) (bC s)) = uK (fC s) ++ uK ((bC s).map (fun t => (t, false))) := uK_app _ _
    rw [e] at U
    exact (List.nodup_append.mp U).1
  have ne : sidx (fC s) x.1.1 ≠ -1 := idxI_mem _ _ x (List.mem_of_getElem? hx) (by rw [hm]; simp)
  obtain ⟨y, y1, y2⟩ := idxI_hit _ _ ne
  simp only [Bool.and_eq_true, decide_eq_true_eq, Bool.not_eq_true'] at y2
  have := uK_inj _ _ _ _ _ U2 y1 hx y2.2 hm y2.1
  have r := sidx_rng (fC s) x.1.1
  have this : (sidx (fC s) x.1.1).toNat = o := this
  omega
theorem found_first {s : CS} (U : UQ s) (W : CWF s) (n0 : ¬ (dC s).2.length = 0) {o : Nat} (ho : o ∈ oC s) {fl : Int} (hf : fl = 0 ∨ fl = 1) : (cFirstFit s (fA s o).1.1 fl).1.2 = foQ (dC s) (fA s o).1 fl (dC s).2 (-1) ∧ (fC s)[o]? = some (fA s o) := by
  obtain ⟨o1, x, o2, o3⟩ := orF_mem _ _ _ o ho
  have e : fA s o = x := by
    unfold fA
    rw [Int.toNat_natCast, o2]; rfl
  have k := W.2.2.2.2.2 x (List.mem_of_getElem? o2)
  have si := sidx_o U o2 o3
  rw [e]
  refine ⟨?_, o2⟩
  unfold cFirstFit
  rw [if_neg n0, if_pos k.1, if_pos (by omega), si]
  show (if (o : Int) = -1 then -1 else foQ (dC s) (fA s o).1 fl (dC s).2 (-1)) = _
  rw [if_neg (by omega), e]
theorem s_M_ofQuestion {G : XG} {d : Nat} {h : XH} {Q : XV → XH → Prop} {X : Nat → XH → Prop} {s : CS} {c q : Int} {ns : List Nat} (F : xFix h) (A : MQS h q (dC s) (fbF (fC s) (bC s)) (zC s) (mC s)) (W : CWF s) (U : UQ s) (E : DEN (dC s)) (hns : (dC s).2[0]? = some ns)
    (hq : ∀ h', RW h h' → MQS h' q (dC s) (fbF (fC s) (bC s)) (zC s) (mC s) → Q (xL (quD s c)) h') : xwp G m_M_ofQuestion (d + 6) 0 [xR 53, xL c, xZ, xZ, xZ, xZ, xZ] [] h Q X := by
  have en := nP_eq hns
  have n0 : ¬ (dC s).2.length = 0 := by
    have := A.2.1.2.2.2
    omega
  have ol := oC_len W
  have nsl : ns.length ≤ 40 := by
    obtain ⟨t1, t2, -⟩ := A.top hns
    have := asc_len t1 t2
    have := A.1.2.2.2.1
    omega
  have three : ∀ (m i : Nat) (e : Int) (h2 : XH), i + m = ns.length → RW h h2 → MQS h2 q (dC s) (fbF (fC s) (bC s)) (zC s) (mC s) → qA3 s m i e = quD s c → xwp G m_M_ofQuestion (d + 6) 135 [xR 53, xZ, xZ, xZ, xL e, xZ, xI (i : Nat)] [] h2 Q X := by
    intro m
    induction m with
    | zero =>
      intro i e h2 ei K2 A2 he
      have he : e = quD s c := he
      obtain ⟨t1, t2, t3⟩ := A2.top hns
      refine v_M_ofQuestion_135 K2.1 ?_
      refine p_M_topParts K2.1 A2.1 t1 t2 t3 ?_
      refine v_M_ofQuestion_141 K2.1 ⟨fun _ => ?_, fun y => absurd (by omega) y⟩
      rw [he]; exact hq h2 K2 A2
    | succ m ih =>
      intro i e h2 ei K2 A2 he
      have he : qA3 s m (i + 1) (sti e (cwF (dC s) (fC s) i (((dC s).2[0]?).getD []) (fC s))) = quD s c := he
      rw [hns] at he
      obtain ⟨t1, t2, t3⟩ := A2.top hns
      refine v_M_ofQuestion_135 K2.1 ?_
      refine p_M_topParts K2.1 A2.1 t1 t2 t3 ?_
      refine v_M_ofQuestion_141 K2.1 ⟨fun y => by omega, fun _ => ?_⟩
      refine p_M_topPart K2.1 A2.1 (by omega) t1 t2 t3 ?_
      refine v_M_ofQuestion_153 K2.1 ⟨ft_53 K2.1, ?_⟩
      refine s_M_manyBut K2.1 A2 hns (fun h3 K3 A3 => ?_)
      have hw : ∀ (j mm : Nat), ns[j]? = some mm → ((j : Int) = (i : Int) ↔ (mm : Int) = tpF ns i) := fun j mm hj => by
        have pl : i < ns.length := by omega
        have hp := List.getElem?_eq_getElem pl
        have tp : tpF ns i = ((ns[i] : Nat) : Int) := by unfold tpF; rw [hp]
        rw [tp]
        have il := (List.getElem?_eq_some_iff.mp hj).1
        have ie : ns[j] = mm := (List.getElem?_eq_some_iff.mp hj).2
        constructor
        · intro x
          have : j = i := by omega
          subst this
          rw [ie]
        · intro x
          have x : mm = ns[i] := by omega
          rcases Nat.lt_trichotomy j i with g | g | g
          · have := List.pairwise_iff_getElem.mp t1 j i il pl g
            omega
          · omega
          · have := List.pairwise_iff_getElem.mp t1 i j pl il g
            omega
      rw [W.tk, mbF_cw A.2.1 hns hw]
      refine v_M_ofQuestion_156 K3.1 ⟨⟨by omega, by omega⟩, ?_⟩
      have go := ih (i + 1) (sti e (cwF (dC s) (fC s) i ns (fC s))) h3 (by omega) (K2.trans K3) A3 he
      rw [show ((i + 1 : Nat) : Int) = (i : Int) + 1 by omega] at go
      exact go
  have two : ∀ (m i : Nat) (e : Int) (h2 : XH), i + m = 8 → RW h h2 → MQS h2 q (dC s) (fbF (fC s) (bC s)) (zC s) (mC s) → FdM h2 (dC s) (fC s) (oC s) → qA3 s ns.length 0 (qA2 s m i e) = quD s c → xwp G m_M_ofQuestion (d + 6) 105 [xR 53, xZ, xZ, xI (oC s).length, xL e, xZ, xI (i : Nat)] [] h2 Q X := by
    intro m
    induction m with
    | zero =>
      intro i e h2 ei K2 A2 D2 he
      refine v_M_ofQuestion_105 K2.1 ⟨fun _ => ?_, fun y => absurd (by omega) y⟩
      exact three ns.length 0 e h2 (by omega) K2 A2 he
    | succ m ih =>
      intro i e h2 ei K2 A2 D2 he
      have he : qA3 s ns.length 0 (qA2 s m (i + 1) (sti e (foF s i (oC s)))) = quD s c := he
      refine v_M_ofQuestion_105 K2.1 ⟨fun y => by omega, fun _ => ?_⟩
      refine p_M_manyOn K2.1 W A2 D2 ?_
      refine v_M_ofQuestion_121 K2.1 ⟨⟨by omega, by omega⟩, ?_⟩
      have go := ih (i + 1) (sti e (foF s i (oC s))) h2 (by omega) K2 A2 D2 he
      rw [show ((i + 1 : Nat) : Int) = (i : Int) + 1 by omega] at go
      exact go
  refine v_M_ofQuestion_0 F ?_
  refine s_M_answer F A (fun h1 K1 A1 D1 z26 => ?_)
  rw [W.tk] at D1 ⊢
  refine v_M_ofQuestion_4 K1.1 ?_
  obtain ⟨t1, t2, t3⟩ := A1.top hns
  refine p_M_topParts K1.1 A1.1 t1 t2 t3 ?_
  refine v_M_ofQuestion_10 K1.1 ?_
  have one : ∀ (m i : Nat) (e : Int), i + m = (oC s).length → qA3 s ns.length 0 (qA2 s 8 0 (qA1 s m i e)) = quD s c → xwp G m_M_ofQuestion (d + 6) 22 [xR 53, xZ, xZ, xI (oC s).length, xL e, xZ, xI (i : Nat)] [] h1 Q X := by
    intro m
    induction m with
    | zero =>
      intro i e ei he
      refine v_M_ofQuestion_22 K1.1 ⟨fun _ => ?_, fun y => absurd (by omega) y⟩
      exact two 8 0 e h1 (by omega) K1 A1 D1 he
    | succ m ih =>
      intro i e ei he
      have hi : i < (oC s).length := by omega
      have oa := oA_at (s := s) (p := i) hi
      obtain ⟨a1, a2, a3, a4, a5, a6⟩ := found_at W A1 D1 oa
      have om := List.mem_of_getElem? oa
      obtain ⟨f0, fx⟩ := found_first U W n0 om (Or.inl rfl)
      obtain ⟨f1, -⟩ := found_first U W n0 om (Or.inr rfl)
      have he : qA3 s ns.length 0 (qA2 s 8 0 (qA1 s m (i + 1) (sti (sti (sti (sti e (fA s (oA s i)).1.1) (wtF (dC s) (fC s) (oA s i))) (cFirstFit s (fA s (oA s i)).1.1 0).1.2) (cFirstFit s (fA s (oA s i)).1.1 1).1.2))) = quD s c := he
      rw [f0, f1] at he
      refine v_M_ofQuestion_22 K1.1 ⟨fun y => by omega, fun _ => ?_⟩
      rw [a1, a2, a5]
      refine ⟨by omega, by omega, by omega, by omega, a4.1, a4.2, ?_⟩
      refine s_M_first0 K1.1 A1 z26 E (Or.inl rfl) (by rw [W.tk]; exact fx) ?_
      refine v_M_ofQuestion_76 K1.1 ?_
      rw [a1]
      refine ⟨by omega, by omega, ?_⟩
      refine s_M_first0 K1.1 A1 z26 E (Or.inr rfl) (by rw [W.tk]; exact fx) ?_
      refine v_M_ofQuestion_91 K1.1 ⟨⟨by omega, by omega⟩, ?_⟩
      have go := ih (i + 1) _ (by omega) he
      rw [show ((i + 1 : Nat) : Int) = (i : Int) + 1 by omega] at go
      exact go
  have eq : quD s c = qA3 s ns.length 0 (qA2 s 8 0 (qA1 s (oC s).length 0 (sti (sti c (ns.length : Int)) (oC s).length))) := by
    unfold quD
    rw [en, Int.toNat_natCast]
  exact one (oC s).length 0 (sti (sti c (ns.length : Int)) (oC s).length) (by omega) eq.symm
theorem s_M_digest {G : XG} {d : Nat} {h : XH} {Q : XV → XH → Prop} {X : Nat → XH → Prop} {s : CS} {n9 s9 : Int} (F : xFix h) (I : MIR h s) (W : CWF s) (U : UQ s) {T : Int} (hT : twS (fC s) (fC s).length ≤ T) (T8 : T ≤ 8192) (rn : xnx h + 2 * T + 100 ≤ xKC) (rs : xsl h + 12 * T + 1000 ≤ xKS) (hn : T + 1342 ≤ 22 * n9) (hs : 304 + 4 * T ≤ s9)
    (hq : MAM Q xL h [] (cDigest s) n9 s9) : xwp G m_M_digest (d + 219) 0 [xR 53, xZ, xZ, xZ, xZ, xZ, xZ, xZ] [] h Q X := by
  have nx := F.nx
  have R := I.1.2.1
  have tl := R.2.1.2.1
  have z4 := R.2.1.1
  have z5 := R.2.1.2.2.1
  have z6 := R.2.1.2.2.2.2
  rw [fb_len] at tl z4
  have zl := R.2.1.2.2.2.1
  have z14 := I.1.2.2
  have zs := W.1.1.1
  have wz := wsz_rng (wC s)
  obtain ⟨A, hA⟩ : ∃ A, A = xnx h := ⟨_, rfl⟩
  -- what stays
  have lo : ∀ h2, xsm (fun c => c = 64) h h2 → MIR h2 s := fun h2 S => I.lo F S
  obtain ⟨H, hH⟩ : ∃ H : Int, H = wdD s (sgL s (zC s).length 0 (sti (sti (sti (sti 2447 ((bC s).length + (fC s).length)) (bC s).length) (mC s)) (zC s).length)) := ⟨_, rfl⟩
  have DGc : dgF s = if (dC s).2.length = 0 then sti H 0 else quD s (sti H 1) := by rw [hH]; rfl
  -- the end
  have last : ∀ (h2 : XH), xFix h2 → MIR h2 s → xsm (fun c => 53 ≤ c ∧ c ≤ 92) h h2 → xnx h2 ≤ xnx h + n9 → xsl h2 ≤ xsl h + s9 → xwp G m_M_digest (d + 219) 151 [xR 53, xL H, xZ, xZ, xZ, xI 2, xZ, xZ] [] h2 Q X := fun h2 F2 I2 S2 n2 l2 => by
    have fin : ∀ (b : Int), (b = 0 ∧ xpl h2 53 18 = 0 ∨ b = 1 ∧ ¬ xpl h2 53 18 = 0) → xwp G m_M_digest (d + 219) 200 [xR 53, xZ, xZ, xZ, xZ, xZ, xZ, xZ] [xI b, xL H] h2 Q X := fun b hb => by
      have S3 : xsm (fun c => 53 ≤ c ∧ c ≤ 92) h (xst h2 53 0 0) := S2.st (by decide) (Or.inl ⟨by decide, by decide⟩)
      refine v_M_digest_200 F2 ⟨fun y F3 => ?_, fun y F3 => ?_⟩
      · have b0 : b = 0 := by omega
        rw [b0]
        have e : dgF s = sti H 0 := by rw [DGc, if_pos (I2.nq y)]
        have k := hq (xst h2 53 0 0) F3 I2.th S3 (xpl_hit _ _ _ _) n2 l2
        have k : Q (xL (dgF s)) (xst h2 53 0 0) := k
        rw [e] at k
        exact k
      · have b1 : b = 1 := by omega
        rw [b1]
        obtain ⟨q, ns, n0, A3, hns, en, E, back⟩ := I2.qu W y 0
        have e : dgF s = quD s (sti H 1) := by rw [DGc, if_neg n0]
        refine s_M_ofQuestion F3 A3 W U E hns (fun h4 K4 A4 => ?_)
        obtain ⟨b1, b2, b3⟩ := back h4 K4 A4
        refine v_M_digest_221 K4.1 ?_
        have n4 : xnx h4 = xnx h2 := K4.2.2.2.1
        have l4 : xsl h4 = xsl h2 := K4.2.2.2.2
        have k := hq h4 K4.1 b2 (S2.trans (b1.1.mono (fun c _ w => by omega))) b3 (by rw [n4]; exact n2) (by rw [l4]; exact l2)
        have k : Q (xL (dgF s)) h4 := k
        rw [e] at k
        exact k
    exact v_M_digest_151 F2 ⟨fun _ => ⟨fun y => fin 0 (Or.inl ⟨rfl, y⟩), fun y => fin 1 (Or.inr ⟨rfl, y⟩)⟩, fun y => absurd (by decide) y⟩
  -- the word's fields
  have fields : ∀ (m i : Nat) (e : Int) (h2 : XH), i + m = 2 → xFix h2 → MIR h2 s → xsm (fun c => 53 ≤ c ∧ c ≤ 92) h h2 → xnx h2 ≤ xnx h + n9 → xsl h2 ≤ xsl h + s9 → wdE s m i e = H → xwp G m_M_digest (d + 219) 151 [xR 53, xL e, xZ, xZ, xZ, xI (i : Nat), xZ, xZ] [] h2 Q X := by
    intro m
    induction m with
    | zero =>
      intro i e h2 ei F2 I2 S2 n2 l2 he
      have he : e = H := he
      rw [he, show i = 2 by omega]
      exact last h2 F2 I2 S2 n2 l2
    | succ m ih =>
      intro i e h2 ei F2 I2 S2 n2 l2 he
      have he : wdE s m (i + 1) (sti (sti e (twF i (wC s) (fC s))) (rrF (fC s).length (twF i (wC s) (fC s)))) = H := he
      have hi : (i : Int) = 0 ∨ (i : Int) = 1 := by omega
      have tr := twF_rng i (wC s) (fC s)
      have w14 : xpl h2 53 14 = wC s := I2.1.2.2
      refine v_M_digest_151 F2 ⟨fun y => absurd y (by omega), fun _ => ?_⟩
      refine p_M_manyWith F2 I2.1.2.1 hi ?_
      rw [w14, W.tk]
      refine v_M_digest_164 F2 ?_
      refine p_M_manyWith F2 I2.1.2.1 hi ?_
      rw [w14, W.tk]
      refine v_M_digest_174 F2 ⟨ft_53 F2, ?_⟩
      refine p_M_rarityOf F2 I2.1.2.1 tr.1 (by omega) ?_
      rw [zs]
      refine v_M_digest_177 F2 ⟨⟨by omega, by omega⟩, ?_⟩
      have go := ih (i + 1) _ h2 (by omega) F2 I2 S2 n2 l2 he
      rw [show ((i + 1 : Nat) : Int) = (i : Int) + 1 by omega] at go
      exact go
  -- the word's bytes
  have bytes : ∀ (m k : Nat) (e : Int) (h2 : XH), (k : Int) + m = wsz (wC s) → xFix h2 → MIR h2 s → xsm (fun c => 53 ≤ c ∧ c ≤ 92) h h2 → xnx h2 ≤ xnx h + n9 → xsl h2 ≤ xsl h + s9 → wdE s 2 0 (wdB s m k e) = H → xwp G m_M_digest (d + 219) 124 [xR 53, xL e, xZ, xZ, xI (wsz (wC s)), xI (k : Nat), xZ, xZ] [] h2 Q X := by
    intro m
    induction m with
    | zero =>
      intro k e h2 ek F2 I2 S2 n2 l2 he
      refine v_M_digest_124 F2 ⟨fun _ => ?_, fun y => absurd (by omega) y⟩
      exact fields 2 0 e h2 rfl F2 I2 S2 n2 l2 he
    | succ m ih =>
      intro k e h2 ek F2 I2 S2 n2 l2 he
      have he : wdE s 2 0 (wdB s m (k + 1) (sti e (byt (sat (wC s) k)))) = H := he
      refine v_M_digest_124 F2 ⟨fun y => by omega, fun _ => ?_⟩
      refine p_M_wordByte F2 I2.1.2.2 W.2.2.2.1.1 ?_
      have eb : cWordByte s (k : Int) = ((0, byt (sat (wC s) k)), s) := by unfold cWordByte; rw [if_pos ⟨by omega, by omega⟩]
      rw [eb]
      intro F3
      refine v_M_digest_138 F3 ⟨⟨by omega, by omega⟩, ?_⟩
      have go := ih (k + 1) (sti e (byt (sat (wC s) k))) _ (by omega) F3 I2.th (S2.st (by decide) (Or.inl ⟨by decide, by decide⟩)) n2 l2 he
      rw [show ((k + 1 : Nat) : Int) = (k : Int) + 1 by omega] at go
      exact go
  -- the segments
  have segs : ∀ (m i : Nat) (e : Int) (h2 : XH), i + m = (zC s).length → xFix h2 → xsm (fun c => c = 64) h h2 → 22 * (xnx h2 - xnx h - 1 - i) ≤ twS (fC s) (stA (zC s) i).toNat → xsl h2 ≤ xsl h + 4 + 5 * i + 4 * twS (fC s) (stA (zC s) i).toNat → wdD s (sgL s m i e) = H → xwp G m_M_digest (d + 219) 82 [xR 53, xL e, xZ, xZ, xI (i : Nat), xZ, xZ, xZ] [] h2 Q X := by
    intro m
    induction m with
    | zero =>
      intro i e h2 ei F2 S2 n2 l2 he
      have I2 := lo h2 S2
      have he : wdE s 2 0 (wdB s (wsz (wC s)).toNat 0 (sti e (wsz (wC s)))) = H := he
      have sr := stA_rng2 W.1.1.2 i
      have mon := twS_mono (fC s) ((fC s).length - (stA (zC s) i).toNat) (stA (zC s) i).toNat
      rw [show (stA (zC s) i).toNat + ((fC s).length - (stA (zC s) i).toNat) = (fC s).length by omega] at mon
      refine v_M_digest_82 F2 ?_
      rw [I2.1.2.1.2.1.2.2.1, I2.1.2.2]
      refine ⟨fun _ => ?_, fun y => absurd (by omega) y⟩
      refine p_M_lengthOf F2 W.2.2.2.1.1 ?_
      refine v_M_digest_112 F2 ?_
      exact bytes (wsz (wC s)).toNat 0 _ h2 (by omega) F2 I2 (S2.mono (fun c _ w => by have w : c = 64 := w; omega)) (by omega) (by omega) he
    | succ m ih =>
      intro i e h2 ei F2 S2 n2 l2 he
      have I2 := lo h2 S2
      have he : wdD s (sgL s m (i + 1) (sgD s i e)) = H := he
      have il : (i : Int) < (zC s).length := by omega
      have sr := stA_rng2 W.1.1.2 i
      have mon := twS_mono (fC s) ((fC s).length - (stA (zC s) i).toNat) (stA (zC s) i).toNat
      rw [show (stA (zC s) i).toNat + ((fC s).length - (stA (zC s) i).toNat) = (fC s).length by omega] at mon
      have sr2 := stA_rng2 W.1.1.2 ((i : Int) + 1)
      have sc := stA_succ (z := zC s) (x := (i : Int)) (by omega) il
      have pl := W.1.1.pl (x := (i : Int)) (by omega) il
      have mon2 := twS_mono (fC s) ((stA (zC s) ((i : Int) + 1)).toNat - (stA (zC s) i).toNat) (stA (zC s) i).toNat
      rw [show (stA (zC s) i).toNat + ((stA (zC s) ((i : Int) + 1)).toNat - (stA (zC s) i).toNat) = (stA (zC s) ((i : Int) + 1)).toNat by omega] at mon2
      refine v_M_digest_82 F2 ?_
      rw [I2.1.2.1.2.1.2.2.1]
      refine ⟨fun y => absurd y (by omega), fun _ => ?_⟩
      refine s_M_ofSegment F2 I2 W (by omega) il hT T8 (by omega) (by omega) (fun h3 F3 I3 S3 n3 l3 => ?_)
      unfold sgW at n3 l3
      refine v_M_digest_98 F3 ⟨⟨by omega, by omega⟩, ?_⟩
      have go := ih (i + 1) (sgD s i e) h3 (by omega) F3 (S2.trans S3) (by rw [show ((i + 1 : Nat) : Int) = (i : Int) + 1 by omega]; omega) (by rw [show ((i + 1 : Nat) : Int) = (i : Int) + 1 by omega]; omega) he
      rw [show ((i + 1 : Nat) : Int) = (i : Int) + 1 by omega] at go
      exact go
  refine v_M_digest_0 F ⟨by omega, by omega, fun F1 => ?_⟩
  rw [← hA, z4] at F1 ⊢
  obtain ⟨h1, hh1⟩ : ∃ h1, h1 = xst (xmk h 100 4 (fun _ => 0)) A 0 (((fC s).length + (bC s).length : Nat) : Int) := ⟨_, rfl⟩
  have n1 : xnx h1 = A + 1 := by rw [hh1, hA]; rfl
  have l1 : xsl h1 = xsl h + 4 := by rw [hh1]; rfl
  have S1 : xsm (fun c => c = 64) h h1 := by rw [hh1]; exact ((xsm.refl h).mk (by decide)).st (by decide) (Or.inr (by omega))
  have t1 : xtg h1 A = 100 := by rw [hh1]; exact xtg_new (h := h) (t := 100) (n := 4) (c := fun _ => 0) hA
  have ln1 : xln h1 A = 4 := by rw [hh1]; exact xln_new (h := h) (t := 100) (n := 4) (c := fun _ => 0) hA
  have v10 : xpl h1 A 0 = (((fC s).length + (bC s).length : Nat) : Int) := by rw [hh1]; exact xpl_hit _ _ _ _
  rw [← hh1] at F1 ⊢
  have R1 := (lo h1 S1).1.2.1
  refine p_M_inSegments F1 R1 ?_
  rw [zs]
  refine v_M_digest_24 F1 ⟨⟨by omega, by omega⟩, t1, by omega, by decide, by rw [ln1]; decide, t1, by omega, by rw [ln1]; decide, by rw [ln1]; decide, ?_⟩
  rw [R1.2.1.2.2.1, R1.2.1.2.2.2.2, ln1]
  intro F2
  obtain ⟨h2, hh2⟩ : ∃ h2, h2 = xst (xst (xst h1 A 1 ((((fC s).length + (bC s).length : Nat) : Int) - (fC s).length)) A 2 (mC s)) A 3 (zC s).length := ⟨_, rfl⟩
  have S2 : xsm (fun c => c = 64) h h2 := by rw [hh2]; exact ((S1.st (by decide) (Or.inr (by omega))).st (by decide) (Or.inr (by omega))).st (by decide) (Or.inr (by omega))
  have t2 : xtg h2 A = 100 := by rw [hh2]; exact t1
  have ln2 : xln h2 A = 4 := by rw [hh2]; exact ln1
  have v20 : xpl h2 A 0 = (bC s).length + (fC s).length := by rw [hh2, xpl_ok (by decide), xpl_ok (by decide), xpl_ok (by decide), v10]; omega
  have v21 : xpl h2 A 1 = (bC s).length := by rw [hh2, xpl_ok (by decide), xpl_ok (by decide), xpl_hit]; omega
  have v22 : xpl h2 A 2 = mC s := by rw [hh2, xpl_ok (by decide), xpl_hit]
  have v23 : xpl h2 A 3 = (zC s).length := by rw [hh2, xpl_hit]
  have n2 : xnx h2 = A + 1 := by rw [hh2]; exact n1
  have l2 : xsl h2 = xsl h + 4 := by rw [hh2]; exact l1
  rw [← hh2] at F2 ⊢
  refine v_M_digest_52 F2 ⟨fun y => absurd y (by decide), fun _ => ⟨t2, by decide, by rw [ln2]; decide, ?_⟩⟩
  rw [v20]
  refine v_M_digest_52 F2 ⟨fun y => absurd y (by decide), fun _ => ⟨t2, by decide, by rw [ln2]; decide, ?_⟩⟩
  rw [show (0 : Int) + 1 = 1 from rfl, v21]
  refine v_M_digest_52 F2 ⟨fun y => absurd y (by decide), fun _ => ⟨t2, by decide, by rw [ln2]; decide, ?_⟩⟩
  rw [show (1 : Int) + 1 = 2 from rfl, v22]
  refine v_M_digest_52 F2 ⟨fun y => absurd y (by decide), fun _ => ⟨t2, by decide, by rw [ln2]; decide, ?_⟩⟩
  rw [show (2 : Int) + 1 = 3 from rfl, v23]
  refine v_M_digest_52 F2 ⟨fun _ => ?_, fun y => absurd (by decide) y⟩
  exact segs (zC s).length 0 _ h2 (by omega) F2 S2 (by rw [n2]; omega) (by rw [l2]; omega) hH.symm

end
