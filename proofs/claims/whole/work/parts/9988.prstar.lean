/-! ===== prstar ===== -/
section
/-! the model reads a question: stars and numbers -/
/-- a star's words -/
def stV (bs : List Int) (t : Nat) : Int := wvF (runL bs (tP bs t) (tA bs (t + 1))) (runL bs (tP bs t) (tA bs (t + 1))).length
def stE (v n : Int) : Int := v + (if n ≤ 12 then p37 (12 - n) else 0)
def StaR (h : XH) (q p fr v n : Int) : Prop := xpl h (q + 5) p = 1 ∧ xpl h q 10 = fr + 2 ∧ xpl h (q + 10) fr = v ∧ xpl h (q + 10) (fr + 1) = stE v n
theorem s_M_star {G : XG} {d : Nat} {h : XH} {Q : XV → XH → Prop} {X : Nat → XH → Prop} {h0 : XH} {q p fr : Int} {bs : List Int} {t : Nat} (g : GR h0 q bs) (P : PX h0 h q) (T : TK h bs t) (k : tK bs t = 300) (k2 : tK bs (t + 1) = 42) (t2 : t + 2 ≤ 40) (p0 : 0 ≤ p) (p1 : p ≤ 40) (f0 : 0 ≤ fr) (f1 : fr ≤ 40) (f2 : xpl h q 10 = fr)
    (hq : ∀ h', PX h0 h' q → TK h' bs (t + 2) → StaR h' q p fr (stV bs t) (tA bs (t + 1) - tP bs t) → KP h h' q p fr → (∀ c, q + 1 ≤ c → c ≤ q + 9 → c ≠ q + 5 → xpl h' c p = xpl h c p) → Q xN h') : xwp G m_M_star (d + 4) 0 [xR 53, xI p, xZ, xZ, xZ] [] h Q X := by
  obtain ⟨r79, r78, r80⟩ := T.rows g P
  have r80 := r80 (by omega)
  have e := T.2.2
  have C0 := g.2.1
  obtain ⟨⟨a0, a1, a2⟩, ar, ae, -⟩ := run_at k
  have rl := runL_len (bs := bs) (s := tP bs t) (e := tA bs (t + 1)) (by omega)
  obtain ⟨⟨qb0, qb1, qb2⟩, -⟩ := C0
  have C0 := g.2.1
  have nx := P.1.nx
  have nx0 := P.2.2.2.2.1
  have nT : ∀ h', xpl h' 53 24 = ((t : Int) + 2) → TK h' bs (t + 2) := fun h' e => ⟨by omega, fun j hj => by
    by_cases z : j = t
    · rw [z]; omega
    · by_cases z2 : j = t + 1
      · rw [z2]; omega
      · exact T.2.1 j (by omega), by rw [e]; omega⟩
  have e20 := g.e20 P
  obtain ⟨⟨c12, -, -, -, -, c5, -, -, -, -, -, -⟩, cr⟩ := (P.qc C0).rows
  have c5t := cr 5 (by decide) (by decide)
  have Y : PY h0 h q := P.2
  refine v_M_star_0 P.1 ?_
  rw [e20, c5, e]
  refine ⟨c12, c5t.1, by omega, p0, by omega, by omega, by omega, fun F9 => ?_⟩
  rw [xpl_oa (by omega), xpl_oa (by omega), r79, r80]
  have P1 : PX h0 (xst h (q + 5) p 1) q := ⟨F9, Y.row C0 (Or.inl ⟨by omega, by omega⟩) p0⟩
  have M1 := P1.mtr C0 g.2.2.1
  refine s_M_cutToLetters P1.1 M1 a0 (by omega) a2 ar (fun h2 F2 S2 L2 n2 l2 => ?_)
  rw [ae] at L2 ⊢
  have P2 := P1.let C0 S2 n2 l2 F2
  have pl2 : ∀ c k, c ≠ 63 → c < xnx h → xpl h2 c k = xpl (xst h (q + 5) p 1) c k := fun c k x y => S2.pl y x k
  have lt := runL_let (bs := bs) (x := tP bs t) (n := tA bs (t + 1) - tP bs t) ar
  rw [ae] at lt
  refine v_M_star_32 F2 ?_
  refine p_M_packed F2 L2 (Nat.le_refl _) lt ?_
  refine v_M_star_38 F2 ?_
  refine s_M_put g P2 (w := fr) (by rw [pl2 _ _ (by omega) (by omega), xpl_oa (by omega)]; exact f2) f0 (by omega) (fun P3 => ?_)
  have e3 : xpl (xst (xst (xst h2 (q + 10) fr (stV bs t)) (q + 11) fr 0) q 10 (fr + 1)) 53 24 = t := by
    rw [xpl_oa (by omega), xpl_oa (by omega), xpl_oa (by omega), pl2 _ _ (by decide) (by omega), xpl_oa (by omega)]; exact e
  have sv : stV bs t = wvF (runL bs (tP bs t) (tA bs (t + 1))) (runL bs (tP bs t) (tA bs (t + 1))).length := rfl
  rw [← sv] at P3 ⊢
  -- the second word
  have fin : ∀ v, v = stE (stV bs t) (tA bs (t + 1) - tP bs t) → xwp G m_M_put (d + 3) 0 [xR 53, xL v, xZ, xI 0] [] (xst (xst (xst h2 (q + 10) fr (stV bs t)) (q + 11) fr 0) q 10 (fr + 1)) (fun v9 h9 => xwp G m_M_star (d + 4) 77 [xR 53, xZ, xZ, xZ, xZ] (xpush v9 []) h9 Q X) X := fun v hv => by
    refine s_M_put g P3 (w := fr + 1) (xpl_hit _ _ _ _) (by omega) (by omega) (fun P4 => ?_)
    obtain ⟨h4, e4⟩ : ∃ h4, h4 = xst (xst (xst (xst (xst (xst h2 (q + 10) fr (stV bs t)) (q + 11) fr 0) q 10 (fr + 1)) (q + 10) (fr + 1) v) (q + 11) (fr + 1) 0) q 10 (fr + 1 + 1) := ⟨_, rfl⟩
    rw [← e4] at P4 ⊢
    have o4 : ∀ c k, c ≠ q + 10 → c ≠ q + 11 → c ≠ q → xpl h4 c k = xpl h2 c k := fun c k x y z => by
      rw [e4, xpl_oa z, xpl_oa y, xpl_oa x, xpl_oa z, xpl_oa y, xpl_oa x]
    have e24 : xpl h4 53 24 = t := by rw [o4 _ _ (by omega) (by omega) (by omega), pl2 _ _ (by decide) (by omega), xpl_oa (by omega)]; exact e
    have Y4 : PY h0 h4 q := P4.2
    refine v_M_star_77 P4.1 ?_
    rw [e24]
    refine ⟨⟨by omega, by omega⟩, fun F9 => ?_⟩
    refine hq _ ⟨F9, Y4.s53 C0 (Or.inl rfl)⟩ (nT _ (xpl_hit _ _ _ _)) ⟨?_, ?_, ?_, ?_⟩ ⟨fun c k x y z => ?_, fun c k x y => ?_, ?_, ?_⟩ (fun c x y z => ?_)
    · rw [xpl_oa (by omega), o4 _ _ (by omega) (by omega) (by omega), pl2 _ _ (by omega) (by omega), xpl_hit]
    · rw [xpl_oa (by omega), e4, xpl_hit]; omega
    · rw [xpl_oa (by omega), e4, xpl_oa (by omega), xpl_oa (by omega), xpl_ok (by omega), xpl_oa (by omega), xpl_oa (by omega), xpl_hit]
    · rw [xpl_oa (by omega), e4, xpl_oa (by omega), xpl_oa (by omega), xpl_hit]; exact hv
    · rw [xpl_oa (by omega), o4 _ _ (by omega) (by omega) (by omega), pl2 _ _ (by omega) (by omega), xpl_ok z]
    · rw [xpl_oa (by omega), e4, xpl_oa (by omega)]
      rcases x with x | x <;> rw [x]
      · rw [xpl_oa (by omega), xpl_ok (by omega), xpl_oa (by omega), xpl_oa (by omega), xpl_ok (by omega), pl2 _ _ (by omega) (by omega), xpl_oa (by omega)]
      · rw [xpl_ok (by omega), xpl_oa (by omega), xpl_oa (by omega), xpl_ok (by omega), xpl_oa (by omega), pl2 _ _ (by omega) (by omega), xpl_oa (by omega)]
    · rw [xpl_oa (by omega), e4, xpl_ok (by decide), xpl_oa (by omega), xpl_oa (by omega), xpl_ok (by decide), xpl_oa (by omega), xpl_oa (by omega), pl2 _ _ (by omega) (by omega), xpl_oa (by omega)]
    · rw [xpl_ok (by decide), o4 _ _ (by omega) (by omega) (by omega), pl2 _ _ (by omega) (by omega), xpl_oa (by omega)]
    · rw [xpl_oa (by omega), o4 _ _ (by omega) (by omega) (by omega), pl2 _ _ (by omega) (by omega), xpl_oa z]
  have e80 : xpl (xst (xst (xst h2 (q + 10) fr (stV bs t)) (q + 11) fr 0) q 10 (fr + 1)) 80 t = tA bs (t + 1) - tP bs t := ((P3.lex g.2.1 g.2.2.2.1) t T.1 T.2.1).2.2 (by omega)
  refine v_M_star_45 P3.1 ?_
  rw [e3, e80]
  refine ⟨by omega, by omega, fun q1 => ?_, fun q1 => ?_⟩
  · refine ⟨⟨by omega, by omega⟩, ?_⟩
    refine p_M_power P3.1 (by omega) (by omega) ?_
    refine v_M_star_72 P3.1 ?_
    refine fin _ ?_
    have wr := wvF_rng (ls := runL bs (tP bs t) (tA bs (t + 1))) (runL bs (tP bs t) (tA bs (t + 1))).length (by omega)
    rw [← sv] at wr
    have pn := p37_nat (12 - (runL bs (tP bs t) (tA bs (t + 1))).length) (by omega)
    rw [show ((12 - (runL bs (tP bs t) (tA bs (t + 1))).length : Nat) : Int) = 12 - ((runL bs (tP bs t) (tA bs (t + 1))).length : Int) by omega] at pn
    have pp := p37_pos (12 - ((runL bs (tP bs t) (tA bs (t + 1))).length : Int))
    rw [pn] at pp
    unfold stE
    rw [if_pos q1, show 12 - (tA bs (t + 1) - tP bs t) = 12 - ((runL bs (tP bs t) (tA bs (t + 1))).length : Int) by omega, pn]
    obtain ⟨w1, w2, -⟩ := wr
    exact xw64_id ⟨by omega, by omega⟩
  · refine fin _ ?_
    unfold stE
    rw [if_neg q1]; omega
theorem s_M_isNumber {G : XG} {d : Nat} {h : XH} {Q : XV → XH → Prop} {X : Nat → XH → Prop} {h0 : XH} {q c p : Int} {bs : List Int} {t : Nat} (g : GR h0 q bs) (P : PX h0 h q) (T : TK h bs t) (hc : q + 1 ≤ c) (hc9 : c ≤ q + 9) (p0 : 0 ≤ p) (p1 : p ≤ 40)
    (hF : nmV bs t = -1 → ∀ h', PX h0 h' q → xpl h' 53 24 = t → Q (xI 0) h')
    (hT : nmV bs t ≠ -1 → tK bs t = 300 → ∀ h', PX h0 h' q → TK h' bs (t + 1) → xpl h' c p = nmV bs t → (∀ a k, a ≠ 53 → (a ≠ c ∨ k ≠ p) → xpl h' a k = xpl h a k) → xpl h' 53 25 = xpl h 53 25 → Q (xI 1) h') : xwp G m_M_isNumber (d + 3) 0 [xR 53, xR c, xI p] [] h Q X := by
  have C0 := g.2.1
  have e := T.2.2
  have t4 := T.1
  obtain ⟨⟨qb0, qb1, qb2⟩, -⟩ := C0
  have C0 := g.2.1
  have ct := (P.qc C0).rows.2 (c - q) (by omega) (by omega)
  rw [show q + (c - q) = c by omega] at ct
  have Y : PY h0 h q := P.2
  refine v_M_isNumber_0 P.1 ?_
  refine p_M_number g P T ?_
  have rg := nmV_rng bs t
  refine v_M_isNumber_6 P.1 ?_
  rw [xpl_hit, e]
  refine ⟨ct.1, by omega, p0, by omega, ct.1, p0, by omega, fun q1 F9 => ?_, fun q1 F9 => ?_⟩
  · refine v_M_isNumber_24 F9 ?_
    rw [xpl_hit]
    refine ⟨⟨by omega, by omega⟩, ft_53 F9, by omega, ct.1, p0, by show p < xln h c; omega, fun q2 F8 => ?_, fun q2 F8 => absurd q1 q2⟩
    exact hF q1 _ ⟨F8, (Y.row C0 (Or.inl ⟨hc, by omega⟩) p0).s53 C0 (Or.inl rfl)⟩ (by rw [xpl_hit]; omega)
  · refine v_M_isNumber_24 F9 ?_
    rw [xpl_hit]
    refine ⟨⟨by omega, by omega⟩, ft_53 F9, by omega, ct.1, p0, by show p < xln h c; omega, fun q2 F8 => absurd q2 q1, fun q2 F8 => ?_⟩
    have k3 : tK bs t = 300 := by
      unfold nmV at q1
      by_cases z : tT bs t = 1 ∧ t ≠ 40
      · unfold tK
        rw [if_neg (by omega), if_neg z.2, if_pos z.1]
      · rw [if_neg z] at q1; exact absurd rfl q1
    have t5 := (tK_300 k3).2
    refine hT q1 k3 _ ⟨F8, (Y.row C0 (Or.inl ⟨hc, by omega⟩) p0).s53 C0 (Or.inl rfl)⟩ ⟨by omega, fun j hj => ?_, by rw [xpl_hit]; omega⟩ ?_ (fun a k x y => ?_) ?_
    · by_cases z : j = t
      · rw [z]; omega
      · exact T.2.1 j (by omega)
    · rw [xpl_oa (by omega), xpl_hit]
    · rw [xpl_oa x, xpl_st, if_neg (by omega)]
    · rw [xpl_ok (by decide), xpl_oa (by omega)]

end
