/-! ===== prpart ===== -/
section
/-! the model reads a question: a part -/
/-- a part is begun in the rows -/
def BEG (h h1 : XH) (q p ins f : Int) : Prop := (∀ c k : Int, q + 1 ≤ c → c ≤ q + 9 → k ≠ p → xpl h1 c k = xpl h c k) ∧ (∀ c k : Int, c = q + 10 ∨ c = q + 11 → xpl h1 c k = xpl h c k) ∧ xpl h1 q 0 = p + 1 ∧ xpl h1 q 10 = xpl h q 10 ∧ xpl h1 53 25 = xpl h 53 25 ∧ xpl h1 (q + 1) p = ins ∧ xpl h1 (q + 3) p = 1 ∧ xpl h1 (q + 4) p = f ∧ xpl h1 (q + 6) p = xpl h q 10 ∧ ∀ c, c = q + 5 ∨ c = q + 7 ∨ c = q + 8 ∨ c = q + 9 → xpl h1 c p = xpl h c p
theorem part_pre {G : XG} {d : Nat} {h : XH} {Q : XV → XH → Prop} {X : Nat → XH → Prop} {h0 : XH} {q ins f : Int} {bs : List Int} {t p : Nat} (g : GR h0 q bs) (P : PX h0 h q) (T : TK h bs t) (hp : xpl h q 0 = p) (p1 : p ≤ 40)
    (hq : ∀ (h1 : XH) (u : Nat), PX h0 h1 q → TK h1 bs u → ((u = t ∧ tK bs t ≠ 43 ∧ tK bs t ≠ 45 ∧ xpl h1 (q + 2) p = xpl h (q + 2) p) ∨ (u = t + 1 ∧ (tK bs t = 43 ∨ tK bs t = 45) ∧ xpl h1 (q + 2) p = tK bs t)) → BEG h h1 q p ins f → xwp G m_M_isPart (d + 10) 120 [xR 53, xZ, xZ, xI (p : Nat), xZ, xZ] [xI (b2i (decide (tK bs u = 300)))] h1 Q X) : xwp G m_M_isPart (d + 10) 0 [xR 53, xI ins, xI f, xZ, xZ, xZ] [] h Q X := by
  have e24 := T.2.2
  have t4 := T.1
  have C0 := g.2.1
  obtain ⟨⟨qb0, qb1, qb2⟩, -⟩ := C0
  have C0 := g.2.1
  have e20 := g.e20 P
  obtain ⟨⟨c12, c1, c2, c3, c4, c5, c6, -, -, -, -, -⟩, cr⟩ := (P.qc C0).rows
  have c1t := cr 1 (by decide) (by decide)
  have c3t := cr 3 (by decide) (by decide)
  have c4t := cr 4 (by decide) (by decide)
  have c6t := cr 6 (by decide) (by decide)
  have Y : PY h0 h q := P.2
  refine v_M_isPart_0 P.1 ?_
  rw [e20, c1, c3, c4, c6, hp]
  refine ⟨c12, ⟨by omega, by omega⟩, by omega, c1t.1, by omega, by omega, by omega, c3t.1, by omega, by omega, c4t.1, by omega, by omega, c6t.1, by omega, by omega, fun F1 => ?_⟩
  have P1 : PX h0 (xst (xst (xst (xst (xst h q 0 ((p : Int) + 1)) (q + 1) p ins) (q + 3) p 1) (q + 4) p f) (q + 6) p (xpl h q 10)) q := ⟨F1, ((((Y.row C0 (Or.inr ⟨rfl, Or.inl rfl⟩) (by decide)).row C0 (Or.inl ⟨by omega, by omega⟩) (by omega)).row C0 (Or.inl ⟨by omega, by omega⟩) (by omega)).row C0 (Or.inl ⟨by omega, by omega⟩) (by omega)).row C0 (Or.inl ⟨by omega, by omega⟩) (by omega)⟩
  obtain ⟨h1, eh⟩ : ∃ h1, h1 = xst (xst (xst (xst (xst h q 0 ((p : Int) + 1)) (q + 1) p ins) (q + 3) p 1) (q + 4) p f) (q + 6) p (xpl h q 10) := ⟨_, rfl⟩
  rw [← eh] at F1 P1 ⊢
  have o1 : ∀ c k : Int, c ≠ q → k ≠ p → xpl h1 c k = xpl h c k := fun c k x y => by rw [eh, xpl_ok y, xpl_ok y, xpl_ok y, xpl_ok y, xpl_oa x]
  have o2 : ∀ c k : Int, c ≠ q → c ≠ q + 1 → c ≠ q + 3 → c ≠ q + 4 → c ≠ q + 6 → xpl h1 c k = xpl h c k := fun c k x0 x1 x2 x3 x4 => by rw [eh, xpl_oa x4, xpl_oa x3, xpl_oa x2, xpl_oa x1, xpl_oa x0]
  have B1 : BEG h h1 q p ins f := by
    refine ⟨fun c k x y z => o1 c k (by omega) z, fun c k x => o2 c k (by omega) (by omega) (by omega) (by omega) (by omega), ?_, ?_, o2 _ _ (by omega) (by omega) (by omega) (by omega) (by omega), ?_, ?_, ?_, ?_, fun c x => o2 _ _ (by omega) (by omega) (by omega) (by omega) (by omega)⟩
    · rw [eh, xpl_oa (by omega), xpl_oa (by omega), xpl_oa (by omega), xpl_oa (by omega), xpl_hit]
    · rw [eh, xpl_oa (by omega), xpl_oa (by omega), xpl_oa (by omega), xpl_oa (by omega), xpl_ok (by decide)]
    · rw [eh, xpl_oa (by omega), xpl_oa (by omega), xpl_oa (by omega), xpl_hit]
    · rw [eh, xpl_oa (by omega), xpl_oa (by omega), xpl_hit]
    · rw [eh, xpl_oa (by omega), xpl_hit]
    · rw [eh, xpl_hit]
  have T1 : TK h1 bs t := ⟨t4, T.2.1, by rw [o2 _ _ (by omega) (by omega) (by omega) (by omega) (by omega)]; exact e24⟩
  have at85 : (tK bs t = 43 ∨ tK bs t = 45) → xwp G m_M_isPart (d + 10) 85 [xR 53, xZ, xZ, xI (p : Nat), xZ, xZ] [] h1 Q X := fun kk => by
    have t5 := ((@tK_T bs t).2.1 (by omega)).2
    obtain ⟨r79, r78, -⟩ := T1.rows g P1
    have e20 := g.e20 P1
    obtain ⟨⟨c12, -, c2, -, -, -, -, -, -, -, -, -⟩, cr⟩ := (P1.qc C0).rows
    have c2t := cr 2 (by decide) (by decide)
    have Y1 : PY h0 h1 q := P1.2
    refine v_M_isPart_85 P1.1 ?_
    rw [e20, c2, T1.2.2, r78]
    refine ⟨c12, by omega, by omega, c2t.1, by omega, by omega, by omega, fun F2 => ?_⟩
    have P2 : PX h0 (xst (xst h1 (q + 2) p (tK bs t)) 53 24 ((t : Int) + 1)) q := ⟨F2, (Y1.row C0 (Or.inl ⟨by omega, by omega⟩) (by omega)).s53 C0 (Or.inl rfl)⟩
    have T2 : TK (xst (xst h1 (q + 2) p (tK bs t)) 53 24 ((t : Int) + 1)) bs (t + 1) := T1.succ (by omega) (xpl_hit _ _ _ _)
    refine p_M_is g P2 T2 ?_
    have o3 : ∀ c k : Int, c ≠ 53 → (c ≠ q + 2 ∨ k ≠ p) → xpl (xst (xst h1 (q + 2) p (tK bs t)) 53 24 ((t : Int) + 1)) c k = xpl h1 c k := fun c k x y => by rw [xpl_oa x, xpl_st, if_neg (by omega)]
    obtain ⟨b1, b2, b3, b4, b5, b6, b7, b8, b9, b10⟩ := B1
    refine hq _ (t + 1) P2 T2 (Or.inr ⟨rfl, kk, by rw [xpl_oa (by omega), xpl_hit]⟩) ⟨fun c k x y z => (o3 c k (by omega) (Or.inr z)).trans (b1 c k x y z), fun c k x => (o3 c k (by omega) (Or.inl (by omega))).trans (b2 c k x), (o3 _ _ (by omega) (Or.inl (by omega))).trans b3, (o3 _ _ (by omega) (Or.inl (by omega))).trans b4, ?_, (o3 _ _ (by omega) (Or.inl (by omega))).trans b6, (o3 _ _ (by omega) (Or.inl (by omega))).trans b7, (o3 _ _ (by omega) (Or.inl (by omega))).trans b8, (o3 _ _ (by omega) (Or.inl (by omega))).trans b9, fun c x => (o3 _ _ (by omega) (Or.inl (by omega))).trans (b10 c x)⟩
    rw [xpl_ok (by decide), xpl_oa (by omega)]; exact b5
  refine p_M_is g P1 T1 ?_
  refine v_M_isPart_73 F1 ⟨fun y => ?_, fun y => at85 (Or.inl (of_decide_eq_true (bz1 y)))⟩
  have n43 := of_decide_eq_false (bz0 y)
  refine p_M_is g P1 T1 ?_
  refine v_M_isPart_82 F1 ⟨fun y => ?_, fun y => at85 (Or.inr (of_decide_eq_true (bz1 y)))⟩
  have n45 := of_decide_eq_false (bz0 y)
  refine p_M_is g P1 T1 ?_
  exact hq h1 t P1 T1 (Or.inl ⟨rfl, n43, n45, o2 _ _ (by omega) (by omega) (by omega) (by omega) (by omega)⟩) B1
theorem part_120 {G : XG} {d : Nat} {h : XH} {Q : XV → XH → Prop} {X : Nat → XH → Prop} {h0 : XH} {q : Int} {bs : List Int} {u p : Nat} (g : GR h0 q bs) (P : PX h0 h q) (T : TK h bs u) (p1 : p ≤ 40)
    (hc : ∀ (h2 : XH) (v : Nat), PX h0 h2 q → TK h2 bs v → ((v = u ∧ h2 = h ∧ ¬ (tK bs u = 300 ∧ nmF (runL bs (tP bs u) (tA bs (u + 1))) ≠ 2 ∧ tK bs (u + 1) = 58)) ∨ (v = u + 2 ∧ (tK bs u = 300 ∧ nmF (runL bs (tP bs u) (tA bs (u + 1))) ≠ 2 ∧ tK bs (u + 1) = 58) ∧ (∀ c k : Int, c ≠ 53 → (c ≠ q + 4 ∨ k ≠ p) → xpl h2 c k = xpl h c k) ∧ xpl h2 (q + 4) p = nmF (runL bs (tP bs u) (tA bs (u + 1))) ∧ xpl h2 53 25 = xpl h 53 25)) → xwp G m_M_isCore (d + 9) 0 [xR 53, xI (p : Nat)] [] h2 (fun v9 h9 => xwp G m_M_isPart (d + 10) 263 [xR 53, xZ, xZ, xI (p : Nat), xZ, xZ] (xpush v9 []) h9 Q X) X) : xwp G m_M_isPart (d + 10) 120 [xR 53, xZ, xZ, xI (p : Nat), xZ, xZ] [xI (b2i (decide (tK bs u = 300)))] h Q X := by
  have e24 := T.2.2
  have t4 := T.1
  have C0 := g.2.1
  obtain ⟨⟨qb0, qb1, qb2⟩, -⟩ := C0
  have C0 := g.2.1
  obtain ⟨r79, r78, r80⟩ := T.rows g P
  by_cases k3 : tK bs u = 300
  · rw [decide_eq_true k3]
    have r80 := r80 (by omega)
    have t5 := (tK_300 k3).2
    obtain ⟨⟨a0, a1, a2⟩, ar, ae, -⟩ := run_at k3
    have M := P.mtr C0 g.2.2.1
    have nx := T.next g P (by omega) (by omega)
    -- a name
    have at213 : ∀ x4 : Int, nmF (runL bs (tP bs u) (tA bs (u + 1))) = (if x4 = 0 then 1 else 0) → xwp G m_M_isPart (d + 10) 213 [xR 53, xZ, xZ, xI (p : Nat), xI x4, xZ] [] h Q X := fun x4 hn => by
      have e20 := g.e20 P
      obtain ⟨⟨c12, -, -, -, c4, -, -, -, -, -, -, -⟩, cr⟩ := (P.qc C0).rows
      have c4t := cr 4 (by decide) (by decide)
      have Y : PY h0 h q := P.2
      refine v_M_isPart_213 P.1 ?_
      rw [e24, nx, e20, c4]
      refine ⟨⟨by omega, by omega⟩, by omega, by omega, fun k58 => ⟨c12, ?_⟩, fun k58 => hc h u P T (Or.inl ⟨rfl, rfl, fun y => k58 y.2.2⟩)⟩
      have t6 := ((@tK_T bs (u + 1)).2.1 (by omega)).2
      have fin : ∀ v : Int, v = nmF (runL bs (tP bs u) (tA bs (u + 1))) → nmF (runL bs (tP bs u) (tA bs (u + 1))) ≠ 2 → xwp G m_M_isPart (d + 10) 247 [xR 53, xZ, xZ, xI (p : Nat), xZ, xZ] [xI v, xI (p : Nat), xR (q + 4)] h Q X := fun v hv hn2 => by
        refine v_M_isPart_247 P.1 ?_
        rw [e24]
        refine ⟨c4t.1, by omega, by omega, by omega, ⟨by omega, by omega⟩, fun F2 => ?_⟩
        have P2 : PX h0 (xst (xst h (q + 4) p v) 53 24 ((u : Int) + 2)) q := ⟨F2, (Y.row C0 (Or.inl ⟨by omega, by omega⟩) (by omega)).s53 C0 (Or.inl rfl)⟩
        have Tm : TK (xst h 53 24 ((u : Int) + 1)) bs (u + 1) := T.succ (by omega) (xpl_hit _ _ _ _)
        have T2 : TK (xst (xst h (q + 4) p v) 53 24 ((u : Int) + 2)) bs (u + 2) := Tm.succ (by omega) (by rw [xpl_hit]; omega)
        refine hc _ (u + 2) P2 T2 (Or.inr ⟨rfl, ⟨k3, hn2, k58⟩, fun c k x y => ?_, ?_, ?_⟩)
        · rw [xpl_oa x, xpl_st, if_neg (by omega)]
        · rw [xpl_oa (by omega), xpl_hit]; exact hv
        · rw [xpl_ok (by decide), xpl_oa (by omega)]
      refine ⟨fun y => fin 1 ?_ ?_, fun y => fin 0 ?_ ?_⟩
      · rw [hn, if_pos y]
      · rw [hn, if_pos y]; decide
      · rw [hn, if_neg y]
      · rw [hn, if_neg y]; decide
    have at165 : ∀ x4 : Int, x4 = b2i (decide (runL bs (tP bs u) (tA bs (u + 1)) = [116, 105, 116, 108, 101])) → xwp G m_M_isPart (d + 10) 165 [xR 53, xZ, xZ, xI (p : Nat), xI x4, xZ] [xI 1] h Q X := fun x4 hx => by
      have nme : nmF (runL bs (tP bs u) (tA bs (u + 1))) = if runL bs (tP bs u) (tA bs (u + 1)) = [116, 105, 116, 108, 101] then 0 else if runL bs (tP bs u) (tA bs (u + 1)) = [98, 111, 100, 121] then 1 else 2 := rfl
      refine v_M_isPart_165 P.1 ⟨fun y => absurd y (by decide), fun _ => ?_⟩
      rw [e24, r79, r80]
      refine ⟨by omega, by omega, ?_⟩
      refine p_M_isRun P.1 M (str_64 P.1) (by decide) a0 (by omega) a2 ar ?_
      rw [ae]
      have at201 : ∀ s : Int, s = b2i (decide (runL bs (tP bs u) (tA bs (u + 1)) = [98, 111, 100, 121])) → xwp G m_M_isPart (d + 10) 201 [xR 53, xZ, xZ, xI (p : Nat), xI x4, xZ] [xI s] h Q X := fun s hs => by
        refine v_M_isPart_201 P.1 ⟨fun x0 => ⟨fun s0 => ?_, fun s0 => ?_⟩, fun x0 => ?_⟩
        · have n1 := of_decide_eq_false (bz0 (hx.symm.trans x0))
          have n2 := of_decide_eq_false (bz0 (hs.symm.trans s0))
          refine hc h u P T (Or.inl ⟨rfl, rfl, fun y => y.2.1 ?_⟩)
          rw [nme, if_neg n1, if_neg n2]
        · have n1 := of_decide_eq_false (bz0 (hx.symm.trans x0))
          have n2 := of_decide_eq_true (bz1 (fun z => s0 (hs.trans z)))
          refine at213 x4 ?_
          rw [nme, if_neg n1, if_pos n2, if_pos x0]
        · have n1 := of_decide_eq_true (bz1 (fun z => x0 (hx.trans z)))
          refine at213 x4 ?_
          rw [nme, if_pos n1, if_neg x0]
      refine v_M_isPart_193 P.1 ⟨fun y => ?_, fun y => ?_⟩
      · refine v_M_isPart_200 P.1 ?_
        exact at201 0 y.symm
      · refine at201 1 ?_
        rw [bz1 y]; rfl
    refine v_M_isPart_120 P.1 ⟨fun y => absurd y (by decide), fun _ => ?_⟩
    rw [e24, r79, r80]
    refine ⟨by omega, by omega, ?_⟩
    refine p_M_isRun P.1 M (str_62 P.1) (by decide) a0 (by omega) a2 ar ?_
    rw [ae]
    refine v_M_isPart_148 P.1 ⟨fun y => ?_, fun y => ?_⟩
    · refine p_M_is g P T ?_
      rw [decide_eq_true k3]
      exact at165 0 y.symm
    · refine p_M_is g P T ?_
      rw [decide_eq_true k3]
      refine at165 1 ?_
      rw [bz1 y]; rfl
  · rw [decide_eq_false k3]
    refine v_M_isPart_120 P.1 ⟨fun _ => ?_, fun y => absurd rfl y⟩
    refine p_M_is g P T ?_
    rw [decide_eq_false k3]
    refine v_M_isPart_165 P.1 ⟨fun _ => ?_, fun y => absurd rfl y⟩
    refine v_M_isPart_200 P.1 ?_
    refine v_M_isPart_201 P.1 ⟨fun _ => ⟨fun _ => ?_, fun y => absurd rfl y⟩, fun y => absurd rfl y⟩
    exact hc h u P T (Or.inl ⟨rfl, rfl, fun y => k3 y.1⟩)

end
