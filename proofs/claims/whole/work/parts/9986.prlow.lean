/-! ===== prlow ===== -/
section
/-! the model reads a question: the ground -/
/-- a question of the model's, with its rows behind it -/
def QC (h : XH) (q : Int) : Prop := (66 ≤ q ∧ q + 11 < xnx h ∧ (q = 66 ∨ 93 ≤ q)) ∧ xtg h q = 12 ∧ (∀ k : Int, 1 ≤ k → k ≤ 9 → xpl h q k = q + k ∧ xtg h (q + k) = 100 ∧ xln h (q + k) = 41) ∧ (xpl h q 11 = q + 10 ∧ xtg h (q + 10) = 101 ∧ xln h (q + 10) = 42) ∧ xpl h q 12 = q + 11 ∧ xtg h (q + 11) = 100 ∧ xln h (q + 11) = 42
/-- h0 with a question read on -/
def PX (h0 h : XH) (q : Int) : Prop := xFix h ∧ xsm (fun c => c = 53 ∨ c = 63 ∨ (q ≤ c ∧ c ≤ q + 11)) h0 h ∧ (∀ k, k ≠ 24 → k ≠ 25 → xpl h 53 k = xpl h0 53 k) ∧ (∀ k, k ≠ 0 → k ≠ 10 → xpl h q k = xpl h0 q k) ∧ xnx h = xnx h0 ∧ xsl h = xsl h0
theorem PX.qc {h0 h : XH} {q : Int} (P : PX h0 h q) (C : QC h0 q) : QC h q := by
  obtain ⟨F, S, o53, oq, n, l⟩ := P
  obtain ⟨⟨a1, a2, a3⟩, b, c, ⟨d1, d2, d3⟩, e1, e2, e3⟩ := C
  refine ⟨⟨a1, by omega, a3⟩, (S.tg (by omega)).trans b, fun k k1 k9 => ?_, ⟨(oq 11 (by decide) (by decide)).trans d1, (S.tg (by omega)).trans d2, (S.ln (by omega)).trans d3⟩, (oq 12 (by decide) (by decide)).trans e1, (S.tg (by omega)).trans e2, (S.ln (by omega)).trans e3⟩
  obtain ⟨c1, c2, c3⟩ := c k k1 k9
  exact ⟨(oq k (by omega) (by omega)).trans c1, (S.tg (by omega)).trans c2, (S.ln (by omega)).trans c3⟩
theorem PX.far {h0 h : XH} {q : Int} (P : PX h0 h q) (C : QC h0 q) {c : Int} (c0 : 54 ≤ c) (c1 : c ≠ 63) (c2 : c < 66 ∨ (78 ≤ c ∧ c < 93)) (k : Int) : xpl h c k = xpl h0 c k := by
  have := P.1.nx
  have n := P.2.2.2.2.1
  obtain ⟨⟨a1, a2, a3⟩, -⟩ := C
  exact P.2.1.pl (by omega) (by omega) k
theorem PX.mtr {h0 h : XH} {q : Int} {bs : List Int} (P : PX h0 h q) (C : QC h0 q) (M : MTR h0 bs) : MTR h bs := M.keep (P.2.2.1 2 (by decide) (by decide)) (fun k => P.far C (by decide) (by decide) (Or.inl (by decide)) k)
theorem PX.lex {h0 h : XH} {q : Int} {bs : List Int} (P : PX h0 h q) (C : QC h0 q) (M : LexR h0 bs) : LexR h bs := fun k hk hj => by
  rw [P.far C (by decide) (by decide) (Or.inr (by decide)), P.far C (by decide) (by decide) (Or.inr (by decide)), P.far C (by decide) (by decide) (Or.inr (by decide))]
  exact M k hk hj
theorem PX.refl {h0 : XH} {q : Int} (F : xFix h0) : PX h0 h0 q := ⟨F, xsm.refl h0, fun _ _ _ => rfl, fun _ _ _ => rfl, rfl, rfl⟩
theorem PX.trans {h0 h1 h2 : XH} {q : Int} (a : PX h0 h1 q) (b : PX h1 h2 q) : PX h0 h2 q := ⟨b.1, a.2.1.trans b.2.1, fun k x y => (b.2.2.1 k x y).trans (a.2.2.1 k x y), fun k x y => (b.2.2.2.1 k x y).trans (a.2.2.2.1 k x y), b.2.2.2.2.1.trans a.2.2.2.2.1, b.2.2.2.2.2.trans a.2.2.2.2.2⟩
/-- the token or the brackets -/
theorem PX.s53 {h0 h : XH} {q k v : Int} (P : PX h0 h q) (C : QC h0 q) (hk : k = 24 ∨ k = 25) (F : xFix (xst h 53 k v)) : PX h0 (xst h 53 k v) q := by
  obtain ⟨⟨a1, -, -⟩, -⟩ := C
  exact ⟨F, P.2.1.st (by omega) (Or.inl (Or.inl rfl)), fun j x y => (xpl_ok (by omega)).trans (P.2.2.1 j x y), fun j x y => (xpl_oa (by omega)).trans (P.2.2.2.1 j x y), P.2.2.2.2.1, P.2.2.2.2.2⟩
/-- a row's place, or the question's numbers -/
theorem PX.row {h0 h : XH} {q c k v : Int} (P : PX h0 h q) (C : QC h0 q) (hc : (q + 1 ≤ c ∧ c ≤ q + 11) ∨ (c = q ∧ (k = 0 ∨ k = 10))) (k0 : 0 ≤ k) (F : xFix (xst h c k v)) : PX h0 (xst h c k v) q := by
  obtain ⟨⟨a1, -, -⟩, -⟩ := C
  exact ⟨F, P.2.1.st k0 (Or.inl (Or.inr (Or.inr (by omega)))), fun j x y => (xpl_oa (by omega)).trans (P.2.2.1 j x y), fun j x y => by
    rw [xpl_st, if_neg (by omega)]; exact P.2.2.2.1 j x y, P.2.2.2.2.1, P.2.2.2.2.2⟩
theorem PX.let {h0 h h' : XH} {q : Int} (P : PX h0 h q) (C : QC h0 q) (S : xsm (fun c => c = 63) h h') (n : xnx h' = xnx h) (l : xsl h' = xsl h) (F : xFix h') : PX h0 h' q := by
  have h9 := F.nx
  obtain ⟨⟨a1, a2, -⟩, -⟩ := C
  have n0 := P.2.2.2.2.1
  exact ⟨F, P.2.1.then S (fun c _ w => Or.inr (Or.inl w)), fun j x y => (S.pl (by omega) (by decide) j).trans (P.2.2.1 j x y), fun j x y => (S.pl (by omega) (by omega) j).trans (P.2.2.2.1 j x y), n.trans n0, l.trans P.2.2.2.2.2⟩
/-- where the reading stands: the ground, the token -/
def GR (h0 : XH) (q : Int) (bs : List Int) : Prop := xFix h0 ∧ QC h0 q ∧ MTR h0 bs ∧ LexR h0 bs ∧ xpl h0 53 20 = q
def TK (h : XH) (bs : List Int) (t : Nat) : Prop := t ≤ 40 ∧ (∀ j : Nat, j < t → tK bs j < 400) ∧ xpl h 53 24 = t
theorem TK.rows {h0 h : XH} {q : Int} {bs : List Int} {t : Nat} (T : TK h bs t) (g : GR h0 q bs) (P : PX h0 h q) : xpl h 79 t = tP bs t ∧ xpl h 78 t = tK bs t ∧ (tK bs t < 400 → xpl h 80 t = tA bs (t + 1) - tP bs t) := (P.lex g.2.1 g.2.2.2.1) t T.1 T.2.1
theorem TK.next {h0 h : XH} {q : Int} {bs : List Int} {t : Nat} (T : TK h bs t) (g : GR h0 q bs) (P : PX h0 h q) (k : tK bs t < 400) (t1 : t + 1 ≤ 40) : xpl h 78 ((t : Int) + 1) = tK bs (t + 1) := by
  have := ((P.lex g.2.1 g.2.2.2.1) (t + 1) t1 (fun j hj => by
    by_cases z : j = t
    · rw [z]; exact k
    · exact T.2.1 j (by omega))).2.1
  rwa [show ((t + 1 : Nat) : Int) = (t : Int) + 1 by omega] at this
theorem p_M_is {G : XG} {d : Nat} {h : XH} {Q : XV → XH → Prop} {X : Nat → XH → Prop} {h0 : XH} {q w : Int} {bs : List Int} {t : Nat} (g : GR h0 q bs) (P : PX h0 h q) (T : TK h bs t) (hq : Q (xI (b2i (decide (tK bs t = w)))) h) : xwp G m_M_is (d + 1) 0 [xR 53, xI w] [] h Q X := by
  have r := (T.rows g P).2.1
  have e := T.2.2
  have t4 := T.1
  refine v_M_is_0 P.1 ?_
  refine ⟨?_, ?_⟩
  · rw [e]; omega
  · refine ⟨?_, ?_⟩
    · rw [e]; omega
    · refine ⟨fun q1 => ?_, fun q1 => ?_⟩
      · rw [e, r] at q1
        rw [decide_eq_true q1] at hq; exact hq
      · rw [e, r] at q1
        rw [decide_eq_false q1] at hq; exact hq
theorem s_M_eat {G : XG} {d : Nat} {h : XH} {Q : XV → XH → Prop} {X : Nat → XH → Prop} {h0 : XH} {q w : Int} {bs : List Int} {t : Nat} (g : GR h0 q bs) (P : PX h0 h q) (T : TK h bs t) (h0' : tK bs t ≠ w → Q (xI 0) h) (h1' : tK bs t = w → xFix (xst h 53 24 ((t : Int) + 1)) → Q (xI 1) (xst h 53 24 ((t : Int) + 1))) : xwp G m_M_eat (d + 2) 0 [xR 53, xI w] [] h Q X := by
  have e := T.2.2
  have t4 := T.1
  refine v_M_eat_0 P.1 ?_
  refine p_M_is g P T ?_
  refine v_M_eat_5 P.1 ?_
  refine ⟨fun q1 => ?_, fun q1 => ?_⟩
  · exact h0' (of_decide_eq_false (bz0 q1))
  · refine ⟨?_, ?_⟩
    · rw [e]; exact ⟨by omega, by omega⟩
    · intro F9
      rw [e] at F9 ⊢
      exact h1' (of_decide_eq_true (bz1 q1)) F9
/-- the kinds -/
theorem tK_300 {bs : List Int} {t : Nat} (h : tK bs t = 300) : tT bs t = 1 ∧ t ≠ 40 := by
  unfold tK at h
  by_cases a : tT bs t = 0
  · rw [if_pos a] at h; omega
  · rw [if_neg a] at h
    by_cases b : t = 40
    · rw [if_pos b] at h; omega
    · rw [if_neg b] at h
      by_cases c : tT bs t = 1
      · exact ⟨c, b⟩
      · rw [if_neg c] at h
        by_cases e : tT bs t = 2
        · rw [if_pos e] at h; omega
        · rw [if_neg e] at h
          exfalso
          unfold tT ntT at *
          split at h
          · omega
          · split at h
            · split at h
              · rename_i z
                have := of_decide_eq_true (by unfold tsF at z; exact z)
                omega
              · omega
            · split at h <;> omega
theorem tT_rng (bs : List Int) (t : Nat) : tT bs t = 0 ∨ tT bs t = 1 ∨ tT bs t = 2 ∨ tT bs t = 43 ∨ tT bs t = 45 ∨ tT bs t = 34 ∨ tT bs t = 42 ∨ tT bs t = 126 ∨ tT bs t = 94 ∨ tT bs t = 58 ∨ tT bs t = 40 ∨ tT bs t = 41 := by
  unfold tT ntT
  split
  · exact Or.inl rfl
  · split
    · split
      · rename_i z
        have := of_decide_eq_true (by unfold tsF at z; exact z)
        omega
      · omega
    · split <;> omega
/-- a run: its bytes -/
theorem tT_run {bs : List Int} {t : Nat} (h : tT bs t = 1) : lat bs (tP bs t) ≠ -1 ∧ sgn (lat bs (tP bs t)) ≠ 0 ∧ tA bs (t + 1) = re bs (tP bs t) bs.length ∧ tA bs (t + 1) - tP bs t ≤ 20 ∧ tP bs t < tA bs (t + 1) ∧ 0 ≤ tP bs t ∧ tA bs (t + 1) ≤ bs.length := by
  have r0 := tA_rng bs t
  have r1 := tP_rng bs t
  have r2 := tA_rng bs (t + 1)
  have eA : tA bs (t + 1) = ntA bs (tP bs t) := rfl
  unfold tT ntT at h
  by_cases z : lat bs (tP bs t) = -1
  · rw [if_pos z] at h; omega
  · rw [if_neg z] at h
    by_cases y : sgn (lat bs (tP bs t)) = 0
    · rw [if_pos y] at h
      split at h
      · rename_i x
        have := of_decide_eq_true (by unfold tsF at x; exact x)
        omega
      · omega
    · rw [if_neg y] at h
      have lt : tP bs t < bs.length := by
        by_cases x : tP bs t < bs.length
        · exact x
        · exact absurd (lat_out (Or.inr (by omega))) z
      have e : tA bs (t + 1) = re bs (tP bs t) bs.length := by rw [eA]; unfold ntA; rw [if_neg z, if_neg y]
      have g := re_lt2 bs lt y
      by_cases x : re bs (tP bs t) bs.length - tP bs t ≤ 20
      · exact ⟨z, y, e, by omega, by omega, by omega, r2.2⟩
      · rw [if_neg x] at h; omega
/-- the number that a token is -/
def nmV (bs : List Int) (t : Nat) : Int := if tT bs t = 1 ∧ t ≠ 40 then (match nuR bs (tP bs t) (tA bs (t + 1)) with | some v => v | none => -1) else -1
theorem nuF_rng (bs : List Int) (s : Int) : ∀ (m : Nat) (k a v : Int), m ≤ 2 → 0 ≤ a → (a + 1) * 10 ^ m ≤ 100 → nuF bs s m k a = some v → 0 ≤ v ∧ v ≤ 99
  | 0, k, a, v, _, a0, a1, h => by
    have h : some a = some v := h
    rw [← Option.some.inj h]
    have : (a + 1) * 1 ≤ 100 := a1
    omega
  | m + 1, k, a, v, hm, a0, a1, h => by
    have h : (if 0 ≤ lat bs (s + k) - 48 ∧ lat bs (s + k) - 48 ≤ 9 then nuF bs s m (k + 1) (a * 10 + (lat bs (s + k) - 48)) else none) = some v := h
    by_cases z : 0 ≤ lat bs (s + k) - 48 ∧ lat bs (s + k) - 48 ≤ 9
    · rw [if_pos z] at h
      refine nuF_rng bs s m (k + 1) _ v (by omega) (by omega) ?_ h
      have : m = 0 ∨ m = 1 := by omega
      rcases this with y | y <;> subst y
      · have : (a + 1) * 10 ≤ 100 := a1
        show (a * 10 + (lat bs (s + k) - 48) + 1) * 1 ≤ 100
        omega
      · have : (a + 1) * 100 ≤ 100 := a1
        show (a * 10 + (lat bs (s + k) - 48) + 1) * 10 ≤ 100
        omega
    · rw [if_neg z] at h; cases h
theorem nmV_rng (bs : List Int) (t : Nat) : nmV bs t = -1 ∨ (0 ≤ nmV bs t ∧ nmV bs t ≤ 99) := by
  unfold nmV
  split
  · cases e : nuR bs (tP bs t) (tA bs (t + 1)) with
    | none => exact Or.inl rfl
    | some v =>
      refine Or.inr ?_
      unfold nuR at e
      by_cases z : tA bs (t + 1) - tP bs t ≤ 2
      · rw [if_pos z] at e
        have hm : (tA bs (t + 1) - tP bs t).toNat ≤ 2 := by omega
        refine nuF_rng bs _ _ 0 0 v hm (Int.le_refl _) ?_ e
        have : (tA bs (t + 1) - tP bs t).toNat = 0 ∨ (tA bs (t + 1) - tP bs t).toNat = 1 ∨ (tA bs (t + 1) - tP bs t).toNat = 2 := by omega
        rcases this with y | y | y <;> rw [y] <;> decide
      · rw [if_neg z] at e; cases e
  · exact Or.inl rfl
theorem p_M_number {G : XG} {d : Nat} {h : XH} {Q : XV → XH → Prop} {X : Nat → XH → Prop} {h0 : XH} {q : Int} {bs : List Int} {t : Nat} (g : GR h0 q bs) (P : PX h0 h q) (T : TK h bs t) (hq : Q (xI (nmV bs t)) h) : xwp G m_M_number (d + 2) 0 [xR 53, xZ, xZ] [] h Q X := by
  obtain ⟨r79, r78, r80⟩ := T.rows g P
  have e := T.2.2
  have t4 := T.1
  have M := P.mtr g.2.1 g.2.2.1
  have b4 := M.2.1
  refine v_M_number_0 P.1 ?_
  refine p_M_is g P T ?_
  by_cases z : tK bs t = 300
  · rw [decide_eq_true z]
    obtain ⟨z1, z2⟩ := tK_300 z
    obtain ⟨u1, u2, u3, u4, u5, u6, u7⟩ := tT_run z1
    have r80 := r80 (by omega)
    have hv : nmV bs t = (match nuR bs (tP bs t) (tA bs (t + 1)) with | some v => v | none => -1) := by unfold nmV; rw [if_pos ⟨z1, z2⟩]
    refine v_M_number_7 P.1 ?_
    refine ⟨fun q1 => ?_, fun q1 => ?_⟩
    · exact absurd q1 (by decide)
    · refine ⟨?_, ?_⟩
      · rw [e]; omega
      · refine ⟨?_, ?_⟩
        · rw [e]; omega
        · refine ⟨fun q2 => ?_, fun q2 => ?_⟩
          · rw [e, r80] at q2
            rw [e, r79]
            have E79 : xpl h 79 (xpl h 53 24) = tP bs t := by rw [e]; exact r79
            have E80 : xpl h 80 (xpl h 53 24) = tA bs (t + 1) - tP bs t := by rw [e]; exact r80
            have loop : ∀ (m : Nat) (k a : Int), 0 ≤ k → k + m = tA bs (t + 1) - tP bs t → 0 ≤ a → (a + 1) * 10 ^ m ≤ 100 → (match nuF bs (tP bs t) m k a with | some v => v | none => -1) = nmV bs t → xwp G m_M_number (d + 2) 37 [xR 53, xI a, xI (tP bs t + k)] [] h Q X := by
              intro m
              induction m with
              | zero =>
                intro k a k0 ek a0 a1 hn
                have hn : a = nmV bs t := hn
                have a9 : (a + 1) * 1 ≤ 100 := a1
                refine v_M_number_37 P.1 ?_
                refine ⟨?_, ?_⟩
                · first | omega | exact ⟨by omega, by omega⟩
                · refine ⟨?_, ?_⟩
                  · first | omega | exact ⟨by omega, by omega⟩
                  · refine ⟨?_, ?_⟩
                    · first | omega | exact ⟨by omega, by omega⟩
                    · refine ⟨fun q1 => ?_, fun q1 => ?_⟩
                      · rw [hn]; exact hq
                      · refine ⟨?_, ?_⟩
                        · first | omega | exact ⟨by omega, by omega⟩
                        · refine ⟨?_, ?_⟩
                          · first | omega | exact ⟨by omega, by omega⟩
                          · refine ⟨fun q2 => ?_, fun q2 => ?_⟩
                            · refine ⟨?_, ?_⟩
                              · first | omega | exact ⟨by omega, by omega⟩
                              · refine ⟨?_, ?_⟩
                                · first | omega | exact ⟨by omega, by omega⟩
                                · refine ⟨?_, ?_⟩
                                  · first | omega | exact ⟨by omega, by omega⟩
                                  · omega
                            · omega
              | succ m ih =>
                intro k a k0 ek a0 a1 hn
                have m2 : m = 0 ∨ m = 1 := by omega
                have a9 : a ≤ 9 := by
                  rcases m2 with y | y <;> subst y
                  · have : (a + 1) * 10 ≤ 100 := a1
                    omega
                  · have : (a + 1) * 100 ≤ 100 := a1
                    omega
                have lr := lat_rng M (i := tP bs t + k) (by omega) (by omega)
                have sg := re_all bs (i := tP bs t) (lim := bs.length) (k := k) k0 (by omega)
                have hn : (match (if 0 ≤ lat bs (tP bs t + k) - 48 ∧ lat bs (tP bs t + k) - 48 ≤ 9 then nuF bs (tP bs t) m (k + 1) (a * 10 + (lat bs (tP bs t + k) - 48)) else none) with | some v => v | none => -1) = nmV bs t := hn
                have dg : sgn (lat bs (tP bs t + k)) ≠ 0 → lat bs (tP bs t + k) ≤ 57 → 48 ≤ lat bs (tP bs t + k) := fun a b => by
                  unfold sgn at a
                  by_cases c : 48 ≤ lat bs (tP bs t + k) ∧ lat bs (tP bs t + k) ≤ 57
                  · exact c.1
                  · rw [if_neg c, if_neg (by omega), if_neg (by omega)] at a
                    exact absurd rfl a
                have fit : 10 * a + lat bs (tP bs t + k) - 48 = a * 10 + (lat bs (tP bs t + k) - 48) := by omega
                refine v_M_number_37 P.1 ?_
                refine ⟨?_, ?_⟩
                · first | omega | (have l2 := lr.2; exact ⟨by omega, by omega⟩)
                · refine ⟨?_, ?_⟩
                  · first | omega | (have l2 := lr.2; exact ⟨by omega, by omega⟩)
                  · refine ⟨?_, ?_⟩
                    · first | omega | (have l2 := lr.2; exact ⟨by omega, by omega⟩)
                    · refine ⟨fun q1 => ?_, fun q1 => ?_⟩
                      · omega
                      · refine ⟨?_, ?_⟩
                        · first | omega | (have l2 := lr.2; exact ⟨by omega, by omega⟩)
                        · refine ⟨?_, ?_⟩
                          · first | omega | (have l2 := lr.2; exact ⟨by omega, by omega⟩)
                          · refine ⟨fun q2 => ?_, fun q2 => ?_⟩
                            · refine ⟨?_, ?_⟩
                              · first | omega | (have l2 := lr.2; exact ⟨by omega, by omega⟩)
                              · refine ⟨?_, ?_⟩
                                · first | omega | (have l2 := lr.2; exact ⟨by omega, by omega⟩)
                                · refine ⟨?_, ?_⟩
                                  · first | omega | (have l2 := lr.2; exact ⟨by omega, by omega⟩)
                                  · rw [lr.2] at q2 ⊢
                                    have d8 := dg sg q2
                                    rw [if_pos ⟨by omega, by omega⟩] at hn
                                    rw [fit, show tP bs t + k + 1 = tP bs t + (k + 1) by omega]
                                    refine ih (k + 1) _ (by omega) (by omega) (by omega) ?_ hn
                                    rcases m2 with y | y <;> subst y
                                    · have : (a + 1) * 10 ≤ 100 := a1
                                      show (a * 10 + (lat bs (tP bs t + k) - 48) + 1) * 1 ≤ 100
                                      omega
                                    · have : (a + 1) * 100 ≤ 100 := a1
                                      show (a * 10 + (lat bs (tP bs t + k) - 48) + 1) * 10 ≤ 100
                                      omega
                            · rw [lr.2] at q2
                              rw [if_neg (by omega)] at hn
                              have hn : (-1 : Int) = nmV bs t := hn
                              rw [hn]; exact hq
            have g9 := loop (tA bs (t + 1) - tP bs t).toNat 0 0 (Int.le_refl _) (by omega) (Int.le_refl _) (by
              have : (tA bs (t + 1) - tP bs t).toNat = 1 ∨ (tA bs (t + 1) - tP bs t).toNat = 2 := by omega
              rcases this with y | y <;> rw [y] <;> decide) (by rw [hv]; unfold nuR; rw [if_pos q2])
            rw [show tP bs t + 0 = tP bs t by omega] at g9
            exact g9
          · rw [e, r80] at q2
            have : nmV bs t = -1 := by rw [hv]; unfold nuR; rw [if_neg q2]
            rw [this] at hq; exact hq
  · rw [decide_eq_false z]
    have : nmV bs t = -1 := by
      unfold nmV
      rw [if_neg]
      rintro ⟨a, b⟩
      apply z
      unfold tK
      rw [if_neg (by omega), if_neg b, if_pos a]
    rw [this] at hq
    refine v_M_number_7 P.1 ?_
    refine ⟨fun q1 => ?_, fun q1 => ?_⟩
    · exact hq
    · refine ⟨?_, ?_⟩
      · rw [e]; omega
      · refine ⟨?_, ?_⟩
        · rw [e]; omega
        · refine ⟨fun q2 => ?_, fun q2 => ?_⟩
          · exact absurd rfl q1
          · exact absurd rfl q1

end
