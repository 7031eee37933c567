/-! ===== monew ===== -/
section
/-! a new question of the model's; asking -/
def slQ (i : Int) : Int := if i ≤ 9 then i else i + 1
def tgQ (i : Int) : Nat := if i = 10 then 101 else 100
def lnQ (i : Int) : Int := if i ≤ 9 then 41 else 42
/-- a new question, some of its rows made -/
def IQ (h0 h : XH) (q j : Int) : Prop := xFix h ∧ xsm (fun _ => False) h0 h ∧ (xnx h0 = q ∧ xnx h = q + 1 + j ∧ xsl h ≤ xsl h0 + 13 + 42 * j) ∧ (xtg h q = 12 ∧ xpl h q 0 = 0 ∧ xpl h q 10 = 0) ∧ ∀ i, 1 ≤ i → i ≤ j → xpl h q (slQ i) = q + i ∧ xtg h (q + i) = tgQ i ∧ xln h (q + i) = lnQ i ∧ ∀ k, xpl h (q + i) k = 0
theorem IQ.step {h0 h : XH} {q j n s : Int} {t : Nat} (I : IQ h0 h q j) (j0 : 0 ≤ j) (j1 : j ≤ 10) (hs : slQ (j + 1) = s) (ht : tgQ (j + 1) = t) (hn : lnQ (j + 1) = n) (F : xFix (xst (xmk h t n (fun _ => 0)) q s (xnx h))) : IQ h0 (xst (xmk h t n (fun _ => 0)) q s (xnx h)) q (j + 1) := by
  obtain ⟨F0, S, ⟨n0, n1, n2⟩, ⟨g1, g2, g3⟩, r⟩ := I
  have nn : 0 ≤ n ∧ n ≤ 42 := by
    rw [← hn]
    unfold lnQ
    split <;> omega
  have s0 : 0 ≤ s ∧ s ≠ 0 ∧ s ≠ 10 := by
    rw [← hs]
    unfold slQ
    split <;> omega
  have sne : ∀ i, 1 ≤ i → i ≤ j → slQ i ≠ s := fun i i0 i1 => by
    rw [← hs]
    unfold slQ
    split <;> split <;> omega
  refine ⟨F, (S.mk nn.1).st s0.1 (Or.inr (by omega)), ⟨n0, ?_, ?_⟩, ⟨?_, ?_, ?_⟩, fun i i0 i1 => ?_⟩
  · show xnx h + 1 = _
    omega
  · show xsl h + n ≤ _
    omega
  · rw [xtg_st, xtg_mk, if_neg (by omega)]; exact g1
  · rw [xpl_ok (by omega), xpl_mk, if_neg (by omega)]; exact g2
  · rw [xpl_ok (by omega), xpl_mk, if_neg (by omega)]; exact g3
  · by_cases z : i = j + 1
    · subst z
      refine ⟨?_, ?_, ?_, fun k => ?_⟩
      · rw [hs, xpl_hit]; omega
      · rw [xtg_st, xtg_mk, if_pos (by omega)]; exact ht.symm
      · rw [xln_st, xln_mk, if_pos (by omega)]; exact hn.symm
      · rw [xpl_oa (by omega), xpl_mk, if_pos (by omega)]
    · obtain ⟨a, b, c, e⟩ := r i i0 (by omega)
      refine ⟨?_, ?_, ?_, fun k => ?_⟩
      · rw [xpl_ok (sne i i0 (by omega)), xpl_mk, if_neg (by omega)]; exact a
      · rw [xtg_st, xtg_mk, if_neg (by omega)]; exact b
      · rw [xln_st, xln_mk, if_neg (by omega)]; exact c
      · rw [xpl_oa (by omega), xpl_mk, if_neg (by omega)]; exact e k
theorem s_MQ_init {G : XG} {d : Nat} {h : XH} {Q : XV → XH → Prop} {X : Nat → XH → Prop} {h0 : XH} {q : Int} (I : IQ h0 h q 0) (q0 : 93 ≤ q) (hc : q + 12 ≤ xKC) (hs : xsl h0 + 480 ≤ xKS) (hq : ∀ h', IQ h0 h' q 11 → Q xN h') : xwp G m_MQ_init (d + 2) 0 [xR q] [] h Q X := by
  have tg : ∀ {h : XH} {j : Int} {t : Nat} {n : Int}, IQ h0 h q j → 0 ≤ j → xtg (xmk h t n (fun _ => 0)) q = 12 := fun I j0 => by
    obtain ⟨-, -, ⟨n0, n1, n2⟩, ⟨g1, -⟩, -⟩ := I
    rw [xtg_mk, if_neg (by omega)]; exact g1
  have nx : ∀ {h : XH} {j : Int}, IQ h0 h q j → xnx h = q + 1 + j ∧ xsl h ≤ xsl h0 + 13 + 42 * j := fun I => ⟨I.2.2.1.2.1, I.2.2.1.2.2⟩
  have a0 := nx I
  refine v_MQ_init_0 I.1 q0 ⟨by omega, by omega, tg I (by decide), fun F1 => ?_⟩
  have I1 := I.step (t := 100) (n := 41) (s := 1) (by decide) (by decide) rfl rfl rfl F1
  have a1 := nx I1
  refine v_MQ_init_12 F1 q0 ⟨by omega, by omega, tg I1 (by decide), fun F2 => ?_⟩
  have I2 := I1.step (t := 100) (n := 41) (s := 2) (by decide) (by decide) rfl rfl rfl F2
  have a2 := nx I2
  refine v_MQ_init_20 F2 q0 ⟨by omega, by omega, tg I2 (by decide), fun F3 => ?_⟩
  have I3 := I2.step (t := 100) (n := 41) (s := 3) (by decide) (by decide) rfl rfl rfl F3
  have a3 := nx I3
  refine v_MQ_init_28 F3 q0 ⟨by omega, by omega, tg I3 (by decide), fun F4 => ?_⟩
  have I4 := I3.step (t := 100) (n := 41) (s := 4) (by decide) (by decide) rfl rfl rfl F4
  have a4 := nx I4
  refine v_MQ_init_36 F4 q0 ⟨by omega, by omega, tg I4 (by decide), fun F5 => ?_⟩
  have I5 := I4.step (t := 100) (n := 41) (s := 5) (by decide) (by decide) rfl rfl rfl F5
  have a5 := nx I5
  refine v_MQ_init_44 F5 q0 ⟨by omega, by omega, tg I5 (by decide), fun F6 => ?_⟩
  have I6 := I5.step (t := 100) (n := 41) (s := 6) (by decide) (by decide) rfl rfl rfl F6
  have a6 := nx I6
  refine v_MQ_init_52 F6 q0 ⟨by omega, by omega, tg I6 (by decide), fun F7 => ?_⟩
  have I7 := I6.step (t := 100) (n := 41) (s := 7) (by decide) (by decide) rfl rfl rfl F7
  have a7 := nx I7
  refine v_MQ_init_60 F7 q0 ⟨by omega, by omega, tg I7 (by decide), fun F8 => ?_⟩
  have I8 := I7.step (t := 100) (n := 41) (s := 8) (by decide) (by decide) rfl rfl rfl F8
  have a8 := nx I8
  refine v_MQ_init_68 F8 q0 ⟨by omega, by omega, tg I8 (by decide), fun F9 => ?_⟩
  have I9 := I8.step (t := 100) (n := 41) (s := 9) (by decide) (by decide) rfl rfl rfl F9
  have a9 := nx I9
  refine v_MQ_init_76 F9 q0 ⟨by omega, by omega, tg I9 (by decide), fun Fa => ?_⟩
  have Ia := I9.step (t := 101) (n := 42) (s := 11) (by decide) (by decide) rfl rfl rfl Fa
  have aa := nx Ia
  refine v_MQ_init_84 Fa q0 ⟨by omega, by omega, tg Ia (by decide), fun Fb => ?_⟩
  have Ib := Ia.step (t := 100) (n := 42) (s := 12) (by decide) (by decide) rfl rfl rfl Fb
  refine v_MQ_init_92 Fb ?_
  exact hq _ Ib
/-- the rows are marked -/
def MKQ (h h' : XH) (q n : Int) : Prop := xFix h' ∧ (∀ c k, k ≠ -1 → xpl h' c k = xpl h c k) ∧ (∀ i, 1 ≤ i → i ≤ n → xpl h' (q + i) (-1) = -20) ∧ (∀ c, xtg h' c = xtg h c) ∧ (∀ c, xln h' c = xln h c) ∧ xnx h' = xnx h ∧ xsl h' = xsl h ∧ ∀ (C : Int → Prop) (h0 : XH), xnx h0 ≤ q → xsm C h0 h → xsm C h0 h'
theorem xwp_marks {G : XG} {M : XM} {d pc : Nat} {L S : List XV} {h : XH} {Q : XV → XH → Prop} {X : Nat → XH → Prop} {q : Int} (q0 : 0 ≤ q) (F : xFix h) : ∀ n : Nat, (∀ h', MKQ h h' q n → xwp G M d pc L S h' Q X) → xwp G M d pc L S h Q X
  | 0, k => k h ⟨F, fun _ _ _ => rfl, fun i i0 i1 => by omega, fun _ => rfl, fun _ => rfl, rfl, rfl, fun _ _ _ e => e⟩
  | n + 1, k => by
    refine xwp_marks q0 F n (fun h1 K1 => ?_)
    obtain ⟨f, a, b, c, e, g, i, j⟩ := K1
    refine xwp_gh (r := q + (n + 1 : Nat)) (v := -20) (by omega) ?_
    refine k _ ⟨f.gh, fun c k hk => (xpl_ok hk).trans (a c k hk), fun i i0 i1 => ?_, c, e, g, i, fun C h0 hh s => (j C h0 hh s).gh (by omega)⟩
    by_cases z : i = (n + 1 : Nat)
    · rw [z, xpl_hit]
    · rw [xpl_oa (by omega)]; exact b i i0 (by omega)

end
