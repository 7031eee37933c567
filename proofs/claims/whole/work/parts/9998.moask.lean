/-! ===== moask ===== -/
section
/-! the model is asked -/
/-- what asking leaves -/
def AF (h h' : XH) : Prop := xsm (fun c => c = 53 ∨ c = 63 ∨ (78 ≤ c ∧ c ≤ 80)) h h' ∧ (∀ k, 0 ≤ k → k ≠ 0 → k ≠ 2 → k ≠ 18 → k ≠ 19 → k ≠ 20 → k ≠ 24 → k ≠ 25 → k ≠ 26 → xpl h' 53 k = xpl h 53 k) ∧ xpl h' 53 0 = 0 ∧ xpl h' 53 2 = 0 ∧ xnx h' ≤ xnx h + 12 ∧ xsl h' ≤ xsl h + 480
theorem QC.s53 {h h' : XH} {q : Int} (C : QC h q) (o : ∀ c k, c ≠ 53 → xpl h' c k = xpl h c k) (t : ∀ c, xtg h' c = xtg h c) (l : ∀ c, xln h' c = xln h c) (n : xnx h' = xnx h) : QC h' q := by
  obtain ⟨⟨a1, a2, a3⟩, b, c, ⟨d1, d2, d3⟩, e1, e2, e3⟩ := C
  refine ⟨⟨a1, by omega, a3⟩, (t _).trans b, fun k k1 k9 => ?_, ⟨(o _ _ (by omega)).trans d1, (t _).trans d2, (l _).trans d3⟩, (o _ _ (by omega)).trans e1, (t _).trans e2, (l _).trans e3⟩
  obtain ⟨c1, c2, c3⟩ := c k k1 k9
  exact ⟨(o _ _ (by omega)).trans c1, (t _).trans c2, (l _).trans c3⟩
theorem s_M_ask {G : XG} {d : Nat} {h : XH} {Q : XV → XH → Prop} {X : Nat → XH → Prop} {s : CS} (F : xFix h) (R : MTS h s) (hc : xnx h + 12 ≤ xKC) (hs : xsl h + 480 ≤ xKS)
    (hE : (rdA s).1 ≠ -1 → ∀ h', xFix h' → AF h h' → (∀ k, k = 18 ∨ k = 19 ∨ k = 26 → xpl h' 53 k = xpl h 53 k) → Q (xI (rdA s).1) h')
    (hO : (rdA s).1 = -1 → ∀ h' q, xFix h' → AF h h' → xpl h' 53 19 = q → xnx h ≤ q → QC h' q → (∀ i, 1 ≤ i → i ≤ 11 → xpl h' (q + i) (-1) = -20) → PIC h' q (rdA s).2.2.1 (rdA s).2.2.1.1.length → ((rdA s).2.2.1.1.length ≤ 40 ∧ xpl h' q 10 ≤ 40) → xpl h' 53 18 = 1 → xpl h' 53 26 = 0 → Q (xI (-1)) h') : xwp G m_M_ask (d + 24) 0 [xR 53, xZ] [] h Q X := by
  have hnx := F.nx
  refine v_M_ask_0 (d := d + 12) F (fun F1 => ?_)
  have R1 := R.th (v := 0)
  refine s_M_cut F1 R1.1 (fun h2 F2 S2 n2 l2 X2 => ?_)
  have n2 : xnx h2 = xnx h := n2
  have l2 : xsl h2 = xsl h := l2
  have C1 : xsm (fun c => c = 53 ∨ c = 63 ∨ (78 ≤ c ∧ c ≤ 80)) h h2 := ((xsm.refl h).st (a := 53) (k := 0) (v := 0) (by decide) (Or.inl (Or.inl rfl))).then S2 (fun c _ w => Or.inr (Or.inr (by omega)))
  have p2 : ∀ k, k ≠ 0 → xpl h2 53 k = xpl h 53 k := fun k hk => (S2.pl (by show (53 : Int) < xnx h; omega) (by decide) k).trans (xpl_ok hk)
  have p20 : xpl h2 53 0 = 0 := (S2.pl (by show (53 : Int) < xnx h; omega) (by decide) 0).trans (xpl_hit _ _ _ _)
  refine v_M_ask_9 (d := d + 12) F2 ⟨by show xnx h2 + 1 ≤ xKC; omega, by show xsl h2 + 13 ≤ xKS; omega, fun F3 => ?_⟩
  have CB : xsm (fun c => c = 53 ∨ c = 63 ∨ (78 ≤ c ∧ c ≤ 80)) h (xst (xst h2 53 24 0) 53 25 0) := (C1.st (by decide) (Or.inl (Or.inl rfl))).st (by decide) (Or.inl (Or.inl rfl))
  have DB : xsm (fun c => c = 53) h2 (xst (xst h2 53 24 0) 53 25 0) := ((xsm.refl (C := fun c => c = 53) h2).st (a := 53) (k := 24) (v := 0) (by decide) (Or.inl rfl)).st (a := 53) (k := 25) (v := 0) (by decide) (Or.inl rfl)
  have pB : ∀ k, k ≠ 24 → k ≠ 25 → xpl (xst (xst h2 53 24 0) 53 25 0) 53 k = xpl h2 53 k := fun k a b => (xpl_ok b).trans (xpl_ok a)
  have pB4 : xpl (xst (xst h2 53 24 0) 53 25 0) 53 24 = 0 := (xpl_ok (by decide)).trans (xpl_hit _ _ _ _)
  have pB5 : xpl (xst (xst h2 53 24 0) 53 25 0) 53 25 = 0 := xpl_hit _ _ _ _
  have nB : xnx (xst (xst h2 53 24 0) 53 25 0) = xnx h := n2
  have lB : xsl (xst (xst h2 53 24 0) 53 25 0) = xsl h := l2
  obtain ⟨hB, eB⟩ : ∃ hB, hB = xst (xst h2 53 24 0) 53 25 0 := ⟨_, rfl⟩
  rw [← eB] at F3 CB DB pB pB4 pB5 nB lB ⊢
  obtain ⟨q, eq⟩ : ∃ q, q = xnx hB := ⟨_, rfl⟩
  rw [← eq]
  have I0 : IQ hB (xmk hB 12 13 (xdef 12)) q 0 := by
    refine ⟨F3, (xsm.refl hB).mk (by decide), ⟨eq.symm, ?_, ?_⟩, ⟨?_, ?_, ?_⟩, fun i i0 i1 => by omega⟩
    · show xnx hB + 1 = _
      omega
    · show xsl hB + 13 ≤ _
      omega
    · rw [xtg_mk, if_pos eq]
    · rw [xpl_mk, if_pos eq]; rfl
    · rw [xpl_mk, if_pos eq]; rfl
  refine s_MQ_init I0 (by omega) (by omega) (by omega) (fun h4 I4 => ?_)
  show xwp G m_M_ask (d + 12 + 12) 27 [xR 53, xZ] [xR q, xR 53] h4 Q X
  refine xwp_marks (q := q) (by omega) I4.1 11 (fun h5 K5 => ?_)
  obtain ⟨F4, S4, ⟨-, n4, l4⟩, ⟨t4, z40, z41⟩, r4⟩ := I4
  obtain ⟨F5, o5, m5, t5, ln5, n5, l5, x5⟩ := K5
  refine v_M_ask_27 (d := d + 12) F5 ⟨ft_53 F5, by decide, fun F6 => ?_⟩
  have S5 := x5 _ h (by omega) (CB.then S4 (fun c _ w => w.elim))
  have E5 := x5 _ h2 (by omega) (DB.then S4 (fun c _ w => w.elim))
  have S6 : xsm (fun c => c = 53 ∨ c = 63 ∨ (78 ≤ c ∧ c ≤ 80)) h (xst h5 53 20 q) := S5.st (by decide) (Or.inl (Or.inl rfl))
  have E6 : xsm (fun c => c = 53) h2 (xst h5 53 20 q) := E5.st (by decide) (Or.inl rfl)
  have p6 : ∀ k, 0 ≤ k → k ≠ 20 → xpl (xst h5 53 20 q) 53 k = xpl hB 53 k := fun k k0 hk => by
    rw [xpl_ok hk, o5 _ _ (by omega)]
    exact S4.pl (by omega) (fun y => y) k
  have g6 : ∀ c k, c ≠ 53 → k ≠ -1 → xpl (xst h5 53 20 q) c k = xpl h4 c k := fun c k x y => (xpl_oa x).trans (o5 c k y)
  have m6 : ∀ i, 1 ≤ i → i ≤ 11 → xpl (xst h5 53 20 q) (q + i) (-1) = -20 := fun i i0 i1 => (xpl_oa (by omega)).trans (m5 i i0 i1)
  have n6 : xnx (xst h5 53 20 q) = q + 12 := by show xnx h5 = _; omega
  have l6 : xsl (xst h5 53 20 q) ≤ xsl h + 480 := by show xsl h5 ≤ _; omega
  have t6 : ∀ c, xtg (xst h5 53 20 q) c = xtg h4 c := t5
  have ln6 : ∀ c, xln (xst h5 53 20 q) c = xln h4 c := ln5
  have v20 : xpl (xst h5 53 20 q) 53 20 = q := xpl_hit _ _ _ _
  obtain ⟨h6, e6⟩ : ∃ h6, h6 = xst h5 53 20 q := ⟨_, rfl⟩
  rw [← e6] at F6 S6 E6 p6 g6 m6 n6 l6 t6 ln6 v20 ⊢
  have cells : ∀ i, 1 ≤ i → i ≤ 11 → xpl h6 q (slQ i) = q + i ∧ xtg h6 (q + i) = tgQ i ∧ xln h6 (q + i) = lnQ i ∧ ∀ k, k ≠ -1 → xpl h6 (q + i) k = 0 := fun i i0 i1 => by
    obtain ⟨a, b, c, e⟩ := r4 i i0 i1
    have sl0 : slQ i ≠ -1 := by unfold slQ; split <;> omega
    exact ⟨(g6 _ _ (by omega) sl0).trans a, (t6 _).trans b, (ln6 _).trans c, fun k hk => (g6 _ _ (by omega) hk).trans (e k)⟩
  have C6 : QC h6 q := by
    refine ⟨⟨by omega, by omega, Or.inr (by omega)⟩, (t6 q).trans t4, fun k k1 k9 => ?_, ?_, ?_⟩
    · obtain ⟨a, b, c, -⟩ := cells k k1 (by omega)
      have e1 : slQ k = k := by unfold slQ; rw [if_pos k9]
      have e2 : tgQ k = 100 := by unfold tgQ; rw [if_neg (by omega)]
      have e3 : lnQ k = 41 := by unfold lnQ; rw [if_pos k9]
      rw [e1] at a; rw [e2] at b; rw [e3] at c
      exact ⟨a, b, c⟩
    · obtain ⟨a, b, c, -⟩ := cells 10 (by decide) (by decide)
      exact ⟨a, b, c⟩
    · obtain ⟨a, b, c, -⟩ := cells 11 (by decide) (by decide)
      exact ⟨a, b, c⟩
  have T6 : MTR h6 (tC s) := R.1.keep ((p6 2 (by decide) (by decide)).trans ((pB 2 (by decide) (by decide)).trans (p2 2 (by decide)))) (fun k => S6.pl (by omega) (by decide) k)
  have X6 : LexR h6 (tC s) := fun k hk hj => by
    rw [E6.pl (by omega) (by decide), E6.pl (by omega) (by decide), E6.pl (by omega) (by decide)]
    exact X2 k hk hj
  have g : GR h6 q (tC s) := ⟨F6, C6, T6, X6, v20⟩
  have zr : ZeR h6 q 0 := fun c k hc k0 k1 => by
    have a : ∀ i, 1 ≤ i → i ≤ 11 → xpl h6 (q + i) k = 0 := fun i i0 i1 => (cells i i0 i1).2.2.2 k (by omega)
    rcases hc with y | y | y | y | y <;> rw [y] <;> exact a _ (by decide) (by decide)
  -- what stays behind the reading
  have fin : ∀ h7, PX h6 h7 q → (∀ k, 0 ≤ k → k ≠ 0 → k ≠ 2 → k ≠ 20 → k ≠ 24 → k ≠ 25 → xpl h7 53 k = xpl h 53 k) ∧ xpl h7 53 0 = 0 ∧ xpl h7 53 20 = q ∧ xsm (fun c => c = 53 ∨ c = 63 ∨ (78 ≤ c ∧ c ≤ 80)) h h7 ∧ xnx h7 = q + 12 ∧ xsl h7 ≤ xsl h + 480 ∧ (∀ i, 1 ≤ i → i ≤ 11 → xpl h7 (q + i) (-1) = -20) := fun h7 P7 => by
    refine ⟨fun k k0 h0 h2' h20 h24 h25 => ?_, ?_, ?_, S6.then P7.2.1 (fun c hc w => ?_), ?_, ?_, fun i i0 i1 => ?_⟩
    · exact (P7.2.2.1 k h24 h25).trans ((p6 k k0 h20).trans ((pB k h24 h25).trans (p2 k h0)))
    · exact (P7.2.2.1 0 (by decide) (by decide)).trans ((p6 0 (by decide) (by decide)).trans ((pB 0 (by decide) (by decide)).trans p20))
    · exact (P7.2.2.1 20 (by decide) (by decide)).trans v20
    · rcases w with w | w | w
      · exact Or.inl w
      · exact Or.inr (Or.inl w)
      · omega
    · exact P7.2.2.2.2.1.trans n6
    · have := P7.2.2.2.2.2
      omega
    · exact (P7.2.1.mkd (by omega)).trans (m6 i i0 i1)
  refine s_M_isQuestion (d := d) g (PX.refl F6) ((p6 24 (by decide) (by decide)).trans pB4) ((p6 25 (by decide) (by decide)).trans pB5) ((g6 _ _ (by omega) (by decide)).trans z40) ((g6 _ _ (by omega) (by decide)).trans z41) zr (fun h7 e P7 T7 re => ?_) (fun h7 r' P7 re C7 l7 => ?_)
  · obtain ⟨f1, f2, f3, f4, f5, f6, f7⟩ := fin h7 P7
    have re : (rdA s).1 = tP (tC s) e := re
    have tr := tP_rng (tC s) e
    have ta := tA_rng (tC s) e
    have e24 := T7.2.2
    have e4 := T7.1
    refine v_M_ask_36 (d := d + 12) P7.1 ⟨fun _ => ⟨by omega, by omega, fun F8 => ?_⟩, fun y => absurd rfl y⟩
    rw [e24, (T7.rows g P7).1, ← re]
    refine hE (by omega) _ F8 ⟨f4.st (by decide) (Or.inl (Or.inl rfl)), fun k k0 a b c e f i j l => (xpl_ok b).trans (f1 k k0 a b f i j), (xpl_ok (by decide)).trans f2, xpl_hit _ _ _ _, ?_, ?_⟩ (fun k hk => (xpl_ok (by omega)).trans (f1 k (by omega) (by omega) (by omega) (by omega) (by omega) (by omega)))
    · show xnx h7 ≤ _
      omega
    · exact f6
  · obtain ⟨f1, f2, f3, f4, f5, f6, f7⟩ := fin h7 P7
    have re : rdA s = (-1, r') := re
    have o8 : ∀ c k, c ≠ 53 → xpl (xst (xst (xst (xst h7 53 2 0) 53 19 q) 53 18 1) 53 26 0) c k = xpl h7 c k := fun c k x => by rw [xpl_oa x, xpl_oa x, xpl_oa x, xpl_oa x]
    refine v_M_ask_36 (d := d + 12) P7.1 ⟨fun y => absurd y (by decide), fun _ => ?_⟩
    rw [f3]
    intro F8
    refine hO (by rw [re]) _ q F8 ⟨(((f4.st (by decide) (Or.inl (Or.inl rfl))).st (by decide) (Or.inl (Or.inl rfl))).st (by decide) (Or.inl (Or.inl rfl))).st (by decide) (Or.inl (Or.inl rfl)), fun k k0 a b c e f i j l => ?_, ?_, ?_, ?_, ?_⟩ ?_ (by omega) ((P7.qc C6).s53 o8 (fun _ => rfl) (fun _ => rfl) rfl) (fun i i0 i1 => (o8 _ _ (by omega)).trans (f7 i i0 i1)) ?_ ⟨by rw [re]; exact l7.1, by rw [o8 _ _ (by omega)]; exact l7.2⟩ ?_ (xpl_hit _ _ _ _)
    · rw [xpl_ok l, xpl_ok c, xpl_ok e, xpl_ok b]; exact f1 k k0 a b f i j
    · rw [xpl_ok (by decide), xpl_ok (by decide), xpl_ok (by decide), xpl_ok (by decide)]; exact f2
    · rw [xpl_ok (by decide), xpl_ok (by decide), xpl_ok (by decide), xpl_hit]
    · show xnx h7 ≤ _
      omega
    · exact f6
    · rw [xpl_ok (by decide), xpl_ok (by decide), xpl_hit]
    · rw [re]
      exact C7.s53 (by omega) o8
    · rw [xpl_ok (by decide), xpl_hit]

end
