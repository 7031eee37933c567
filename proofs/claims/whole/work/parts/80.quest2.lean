/-! ===== quest2 ===== -/
section
theorem idxI_hit {α : Type} (p : α → Bool) : ∀ l : List α, idxI p l ≠ -1 → ∃ a, l[(idxI p l).toNat]? = some a ∧ p a = true
  | [], h => absurd rfl h
  | b :: l, h => by
    have e : idxI p (b :: l) = if p b = true then 0 else if idxI p l = -1 then -1 else idxI p l + 1 := rfl
    rw [e] at h ⊢
    by_cases z : p b = true
    · rw [if_pos z]; exact ⟨b, rfl, z⟩
    · rw [if_neg z] at h ⊢
      by_cases z2 : idxI p l = -1
      · rw [if_pos z2] at h; exact absurd rfl h
      · rw [if_neg z2]
        obtain ⟨a, a1, a2⟩ := idxI_hit p l z2
        have r := idxI_rng p l
        refine ⟨a, ?_, a2⟩
        rw [show (idxI p l + 1).toNat = (idxI p l).toNat + 1 by omega, List.getElem?_cons_succ]
        exact a1
theorem sidx_hit {s : CS} {k : Int} (h : sidx (fC s) k ≠ -1) : (fA s (sidx (fC s) k)).2 = false ∧ (fA s (sidx (fC s) k)).1.1 = k := by
  obtain ⟨x, x1, x2⟩ := idxI_hit _ _ h
  have x1 : (fC s)[(sidx (fC s) k).toNat]? = some x := x1
  have e : fA s (sidx (fC s) k) = x := by unfold fA; rw [x1]; rfl
  rw [e]
  simp only [Bool.and_eq_true, decide_eq_true_eq, Bool.not_eq_true'] at x2
  exact ⟨x2.2, x2.1⟩
/-- what a part of the question weighs for a text -/
def pwT (s : CS) (i : Int) (t : PT) : Int := (jdP (fC s) (fA s i).1 0 (jdL (dC s) (fC s) (fA s i).1 1 ((dC s).2.drop 1)) (dC s).2.length t).2
def pwF (s : CS) (i p : Int) : Int := ((((((dC s).2[0]?).getD [])[p.toNat]?).bind (fun n => (dC s).1[n]?)).map (pwT s i)).getD 0
def cPartWeight (s : CS) (k p : Int) : (Int × Int) × CS := (if (dC s).2.length = 0 then (2, 0) else if 0 ≤ k ∧ k < 100 then (if 0 ≤ p ∧ p < nP s then (0, if sidx (fC s) k = -1 then 0 else pwF s (sidx (fC s) k) p) else (3, 0)) else (1, 0), s)
def cFoundWithout (s : CS) (p : Int) : (Int × Int) × CS := (if (dC s).2.length = 0 then (2, 0) else if 0 ≤ p ∧ p < nP s then (0, cwF (dC s) (fC s) p (((dC s).2[0]?).getD []) (fC s)) else (3, 0), s)
theorem CIR.q0 {h : XH} {s : CS} (R : CIR h s) (hq : 0 < (dC s).2.length) : ∃ qa pa ns, DraR h (xpl h 0 6) qa pa (dC s) ∧ (FitsR h pa (dC s) (fC s) ∧ FndT h (dC s) (fC s) (fC s).length) ∧ (dC s).2[0]? = some ns ∧ qa[0]? = some (alg h (xpl h 0 6) 0) ∧ xtg h (alg h (xpl h 0 6) 0) = 5 ∧ 93 ≤ alg h (xpl h 0 6) 0 ∧ alg h (xpl h 0 6) 0 < xnx h ∧ ALr h (xpl h (alg h (xpl h 0 6) 0) 0) (ns.map (fun n => (pa[n]?).getD 0)) ∧ (∀ n ∈ ns, n < (dC s).1.length) ∧ als h (xpl h (alg h (xpl h 0 6) 0) 0) = nP s ∧ nP s = ns.length := by
  obtain ⟨-, -, -, -, qa, pa, W, P⟩ := R.q
  obtain ⟨ns, y1, y2, y3, -, y5, y6, -⟩ := W.q (i := 0) hq
  have e : nP s = ns.length := by unfold nP; rw [y1]; rfl
  exact ⟨qa, pa, ns, W, P hq, y1, y2, y3.2.2, y3.1, y3.2.1, y5, y6, (show als h (xpl h (alg h (xpl h 0 6) ((0 : Nat) : Int)) 0) = nP s by rw [y5.sz, List.length_map, e]), e⟩
theorem s_B_partWeight {G : XG} {d : Nat} {h : XH} {Q : XV → XH → Prop} {X : Nat → XH → Prop} {s : CS} {k p n9 s9 : Int} (R : CIR h s) (M : Room h n9 s9) (hn : 0 ≤ n9) (hs : 0 ≤ s9) (q : CAN Q X xI h (cPartWeight s k p) n9 s9) : xwp G m_B_partWeight (d + 8) 0 [xR 0, xI k, xI p, xZ] [] h Q X := by
  have hr := R.room M
  have e2 := R.eqs.2.1
  have sr := sidx_rng (fC s) k
  obtain ⟨c1, c2, c3, -⟩ := R.q
  unfold cPartWeight at q
  have main : 0 < (dC s).2.length → 0 ≤ p → p < nP s → xtg h (alg h (xpl h (alg h (xpl h 0 6) 0) 0) p) = 4 ∧ (¬ sidx (fC s) k = -1 → ∀ Q' : XV → XH → Prop, Q' (xI (pwF s (sidx (fC s) k) p)) h → xwp G m_Findings_weightOfPart (d + 7) 0 [xR 40, xR (alg h (xpl h (alg h (xpl h 0 6) 0) 0) p), xI (sidx (fC s) k)] [] h Q' X) := fun h0 p0 p1 => by
    obtain ⟨qa, pa, ns, W, ⟨P1, P2⟩, y1, y2, y3, -, -, y5, y6, y7, y8⟩ := R.q0 h0
    obtain ⟨n, t, g1, g2, g3, g4, g5, g6⟩ := W.p y5 y6 (k := p.toNat) (by omega)
    rw [show ((p.toNat : Nat) : Int) = p by omega] at g2 g4
    refine ⟨g4.1.2.2, fun hne Q' q' => ?_⟩
    refine p_Findings_weightOfPart R.fx g4 ?_
    have hx := fA_at (s := s) (i := (sidx (fC s) k).toNat) (by omega)
    rw [show (((sidx (fC s) k).toNat : Nat) : Int) = sidx (fC s) k by omega] at hx
    have tb := (P2.2 (sidx (fC s) k).toNat _ (by omega) hx (sidx_hit hne).1).2 0 ns n t (Nat.le_refl _) y1 (List.mem_of_getElem? g1) g3
    rw [show (((sidx (fC s) k).toNat : Nat) : Int) = sidx (fC s) k by omega] at tb
    have ew : pwF s (sidx (fC s) k) p = (jdP (fC s) (fA s (sidx (fC s) k)).1 0 (jdL (dC s) (fC s) (fA s (sidx (fC s) k)).1 1 ((dC s).2.drop 1)) (dC s).2.length t).2 := by
      unfold pwF
      rw [y1]
      show (((ns[p.toNat]?).bind (fun n => (dC s).1[n]?)).map (pwT s (sidx (fC s) k))).getD 0 = _
      rw [g1]
      show (((dC s).1[n]?).map (pwT s (sidx (fC s) k))).getD 0 = _
      rw [g3]
      rfl
    rw [g6, tb.2, ← ew]
    exact q'
  have nz : ¬ (decide (als h (xpl h 0 6) = 0) = true) → 0 < (dC s).2.length := fun y => by
    have z : ¬ als h (xpl h 0 6) = 0 := fun w => y (decide_eq_true w)
    omega
  have qz : 0 < (dC s).2.length → xtg h (alg h (xpl h 0 6) 0) = 5 ∧ xtg h (xpl h (alg h (xpl h 0 6) 0) 0) = 13 ∧ alok h (xpl h (alg h (xpl h 0 6) 0) 0) ∧ als h (xpl h (alg h (xpl h 0 6) 0) 0) = nP s := fun h0 => by
    obtain ⟨qa, pa, ns, W, -, y1, y2, y3, -, -, y5, y6, y7, y8⟩ := R.q0 h0
    exact ⟨y3, y5.1.2.2.1, y5.ok, y7⟩
  refine v_B_partWeight_0 R.fx ?_
  refine ⟨?_, ?_⟩
  · first | exact absurd q5 q1 | exact absurd q8 q1 | exact c1 | exact c2 | exact R.ok | omega | (have z := nz q1; obtain ⟨z1, z2, z3, z4⟩ := qz z; first | exact z1 | exact z2 | exact z3 | omega | (exact (main z (by omega) (by omega)).1))
  · refine ⟨?_, ?_⟩
    · first | exact absurd q5 q1 | exact absurd q8 q1 | exact c1 | exact c2 | exact R.ok | omega | (have z := nz q1; obtain ⟨z1, z2, z3, z4⟩ := qz z; first | exact z1 | exact z2 | exact z3 | omega | (exact (main z (by omega) (by omega)).1))
    · refine ⟨fun q1 => ?_, fun q1 => ?_⟩
      · refine ⟨?_, ?_⟩
        · first | exact absurd q5 q1 | exact absurd q8 q1 | exact c1 | exact c2 | exact R.ok | omega | (have z := nz q1; obtain ⟨z1, z2, z3, z4⟩ := qz z; first | exact z1 | exact z2 | exact z3 | omega | (exact (main z (by omega) (by omega)).1))
        · refine ⟨?_, ?_⟩
          · first | exact absurd q5 q1 | exact absurd q8 q1 | exact c1 | exact c2 | exact R.ok | omega | (have z := nz q1; obtain ⟨z1, z2, z3, z4⟩ := qz z; first | exact z1 | exact z2 | exact z3 | omega | (exact (main z (by omega) (by omega)).1))
          · intro F9
            have z := of_decide_eq_true q1
            rw [if_pos (by omega)] at q
            exact CAN.thr (k := 1) q R hn hs F9
      · refine ⟨fun q2 => ?_, fun q2 => ?_⟩
        · refine ⟨?_, ?_⟩
          · first | exact absurd q5 q1 | exact absurd q8 q1 | exact c1 | exact c2 | exact R.ok | omega | (have z := nz q1; obtain ⟨z1, z2, z3, z4⟩ := qz z; first | exact z1 | exact z2 | exact z3 | omega | (exact (main z (by omega) (by omega)).1))
          · refine ⟨?_, ?_⟩
            · first | exact absurd q5 q1 | exact absurd q8 q1 | exact c1 | exact c2 | exact R.ok | omega | (have z := nz q1; obtain ⟨z1, z2, z3, z4⟩ := qz z; first | exact z1 | exact z2 | exact z3 | omega | (exact (main z (by omega) (by omega)).1))
            · intro F9
              have z := nz q1
              rw [if_neg (by omega), if_neg (by omega)] at q
              exact CAN.thr (k := 0) q R hn hs F9
        · refine ⟨fun q3 => ?_, fun q3 => ?_⟩
          · refine ⟨fun q4 => ?_, fun q4 => ?_⟩
            · refine ⟨?_, ?_⟩
              · first | exact absurd q5 q1 | exact absurd q8 q1 | exact c1 | exact c2 | exact R.ok | omega | (have z := nz q1; obtain ⟨z1, z2, z3, z4⟩ := qz z; first | exact z1 | exact z2 | exact z3 | omega | (exact (main z (by omega) (by omega)).1))
              · refine ⟨?_, ?_⟩
                · first | exact absurd q5 q1 | exact absurd q8 q1 | exact c1 | exact c2 | exact R.ok | omega | (have z := nz q1; obtain ⟨z1, z2, z3, z4⟩ := qz z; first | exact z1 | exact z2 | exact z3 | omega | (exact (main z (by omega) (by omega)).1))
                · intro F9
                  have z := nz q1
                  rw [if_neg (by omega), if_pos ⟨by omega, by omega⟩, if_neg (by omega)] at q
                  exact CAN.thr (k := 2) q R hn hs F9
            · refine ⟨fun q5 => ?_, fun q5 => ?_⟩
              · refine ⟨?_, ?_⟩
                · first | exact absurd q5 q1 | exact absurd q8 q1 | exact c1 | exact c2 | exact R.ok | omega | (have z := nz q1; obtain ⟨z1, z2, z3, z4⟩ := qz z; first | exact z1 | exact z2 | exact z3 | omega | (exact (main z (by omega) (by omega)).1))
                · refine ⟨fun q6 => ?_, fun q6 => ?_⟩
                  · refine ⟨?_, ?_⟩
                    · first | exact absurd q5 q1 | exact absurd q8 q1 | exact c1 | exact c2 | exact R.ok | omega | (have z := nz q1; obtain ⟨z1, z2, z3, z4⟩ := qz z; first | exact z1 | exact z2 | exact z3 | omega | (exact (main z (by omega) (by omega)).1))
                    · refine ⟨fun q7 => ?_, fun q7 => ?_⟩
                      · exact absurd q5 q1
                      · refine ⟨fun q8 => ?_, fun q8 => ?_⟩
                        · refine ⟨?_, ?_⟩
                          · first | exact absurd q5 q1 | exact absurd q8 q1 | exact c1 | exact c2 | exact R.ok | omega | (have z := nz q1; obtain ⟨z1, z2, z3, z4⟩ := qz z; first | exact z1 | exact z2 | exact z3 | omega | (exact (main z (by omega) (by omega)).1))
                          · exact absurd q5 q1
                        · refine ⟨?_, ?_⟩
                          · first | exact absurd q5 q1 | exact absurd q8 q1 | exact c1 | exact c2 | exact R.ok | omega | (have z := nz q1; obtain ⟨z1, z2, z3, z4⟩ := qz z; first | exact z1 | exact z2 | exact z3 | omega | (exact (main z (by omega) (by omega)).1))
                          · refine ⟨?_, ?_⟩
                            · first | exact absurd q5 q1 | exact absurd q8 q1 | exact c1 | exact c2 | exact R.ok | omega | (have z := nz q1; obtain ⟨z1, z2, z3, z4⟩ := qz z; first | exact z1 | exact z2 | exact z3 | omega | (exact (main z (by omega) (by omega)).1))
                            · refine ⟨?_, ?_⟩
                              · first | exact absurd q5 q1 | exact absurd q8 q1 | exact c1 | exact c2 | exact R.ok | omega | (have z := nz q1; obtain ⟨z1, z2, z3, z4⟩ := qz z; first | exact z1 | exact z2 | exact z3 | omega | (exact (main z (by omega) (by omega)).1))
                              · refine ⟨?_, ?_⟩
                                · first | exact absurd q5 q1 | exact absurd q8 q1 | exact c1 | exact c2 | exact R.ok | omega | (have z := nz q1; obtain ⟨z1, z2, z3, z4⟩ := qz z; first | exact z1 | exact z2 | exact z3 | omega | (exact (main z (by omega) (by omega)).1))
                                · refine ⟨?_, ?_⟩
                                  · first | exact absurd q5 q1 | exact absurd q8 q1 | exact c1 | exact c2 | exact R.ok | omega | (have z := nz q1; obtain ⟨z1, z2, z3, z4⟩ := qz z; first | exact z1 | exact z2 | exact z3 | omega | (exact (main z (by omega) (by omega)).1))
                                  · refine ⟨?_, ?_⟩
                                    · first | exact absurd q5 q1 | exact absurd q8 q1 | exact c1 | exact c2 | exact R.ok | omega | (have z := nz q1; obtain ⟨z1, z2, z3, z4⟩ := qz z; first | exact z1 | exact z2 | exact z3 | omega | (exact (main z (by omega) (by omega)).1))
                                    · exact absurd q5 q1
                  · refine ⟨?_, ?_⟩
                    · first | exact absurd q5 q1 | exact absurd q8 q1 | exact c1 | exact c2 | exact R.ok | omega | (have z := nz q1; obtain ⟨z1, z2, z3, z4⟩ := qz z; first | exact z1 | exact z2 | exact z3 | omega | (exact (main z (by omega) (by omega)).1))
                    · refine ⟨?_, ?_⟩
                      · first | exact absurd q5 q1 | exact absurd q8 q1 | exact c1 | exact c2 | exact R.ok | omega | (have z := nz q1; obtain ⟨z1, z2, z3, z4⟩ := qz z; first | exact z1 | exact z2 | exact z3 | omega | (exact (main z (by omega) (by omega)).1))
                      · intro F9
                        exact absurd q5 q1
              · refine ⟨?_, ?_⟩
                · first | exact absurd q5 q1 | exact absurd q8 q1 | exact c1 | exact c2 | exact R.ok | omega | (have z := nz q1; obtain ⟨z1, z2, z3, z4⟩ := qz z; first | exact z1 | exact z2 | exact z3 | omega | (exact (main z (by omega) (by omega)).1))
                · refine ⟨?_, ?_⟩
                  · first | exact absurd q5 q1 | exact absurd q8 q1 | exact c1 | exact c2 | exact R.ok | omega | (have z := nz q1; obtain ⟨z1, z2, z3, z4⟩ := qz z; first | exact z1 | exact z2 | exact z3 | omega | (exact (main z (by omega) (by omega)).1))
                  · refine ⟨?_, ?_⟩
                    · first | exact absurd q5 q1 | exact absurd q8 q1 | exact c1 | exact c2 | exact R.ok | omega | (have z := nz q1; obtain ⟨z1, z2, z3, z4⟩ := qz z; first | exact z1 | exact z2 | exact z3 | omega | (exact (main z (by omega) (by omega)).1))
                    · refine ⟨?_, ?_⟩
                      · first | exact absurd q5 q1 | exact absurd q8 q1 | exact c1 | exact c2 | exact R.ok | omega | (have z := nz q1; obtain ⟨z1, z2, z3, z4⟩ := qz z; first | exact z1 | exact z2 | exact z3 | omega | (exact (main z (by omega) (by omega)).1))
                      · refine ⟨fun q6 => ?_, fun q6 => ?_⟩
                        · refine ⟨?_, ?_⟩
                          · first | exact absurd q5 q1 | exact absurd q8 q1 | exact c1 | exact c2 | exact R.ok | omega | (have z := nz q1; obtain ⟨z1, z2, z3, z4⟩ := qz z; first | exact z1 | exact z2 | exact z3 | omega | (exact (main z (by omega) (by omega)).1))
                          · refine ⟨fun q7 => ?_, fun q7 => ?_⟩
                            · have z := nz q1
                              obtain ⟨z1, z2, z3, z4⟩ := qz z
                              rw [e2] at q7
                              rw [if_neg (by omega), if_pos ⟨by omega, by omega⟩, if_pos ⟨by omega, by omega⟩, if_pos q7] at q
                              refine v_B_partWeight_53 R.fx ?_
                              exact CAN.ret q R (by omega) (by omega)
                            · refine ⟨fun q8 => ?_, fun q8 => ?_⟩
                              · refine ⟨?_, ?_⟩
                                · first | exact absurd q5 q1 | exact absurd q8 q1 | exact c1 | exact c2 | exact R.ok | omega | (have z := nz q1; obtain ⟨z1, z2, z3, z4⟩ := qz z; first | exact z1 | exact z2 | exact z3 | omega | (exact (main z (by omega) (by omega)).1))
                                · refine ⟨?_, ?_⟩
                                  · first | exact absurd q5 q1 | exact absurd q8 q1 | exact c1 | exact c2 | exact R.ok | omega | (have z := nz q1; obtain ⟨z1, z2, z3, z4⟩ := qz z; first | exact z1 | exact z2 | exact z3 | omega | (exact (main z (by omega) (by omega)).1))
                                  · refine ⟨?_, ?_⟩
                                    · first | exact absurd q5 q1 | exact absurd q8 q1 | exact c1 | exact c2 | exact R.ok | omega | (have z := nz q1; obtain ⟨z1, z2, z3, z4⟩ := qz z; first | exact z1 | exact z2 | exact z3 | omega | (exact (main z (by omega) (by omega)).1))
                                    · exact absurd q8 q1
                              · refine ⟨?_, ?_⟩
                                · first | exact absurd q5 q1 | exact absurd q8 q1 | exact c1 | exact c2 | exact R.ok | omega | (have z := nz q1; obtain ⟨z1, z2, z3, z4⟩ := qz z; first | exact z1 | exact z2 | exact z3 | omega | (exact (main z (by omega) (by omega)).1))
                                · refine ⟨?_, ?_⟩
                                  · first | exact absurd q5 q1 | exact absurd q8 q1 | exact c1 | exact c2 | exact R.ok | omega | (have z := nz q1; obtain ⟨z1, z2, z3, z4⟩ := qz z; first | exact z1 | exact z2 | exact z3 | omega | (exact (main z (by omega) (by omega)).1))
                                  · have z := nz q1
                                    obtain ⟨z1, z2, z3, z4⟩ := qz z
                                    rw [e2] at q7 ⊢
                                    rw [if_neg (by omega), if_pos ⟨by omega, by omega⟩, if_pos ⟨by omega, by omega⟩, if_neg q7] at q
                                    refine (main z (by omega) (by omega)).2 q7 _ ?_
                                    refine v_B_partWeight_53 R.fx ?_
                                    exact CAN.ret q R (by omega) (by omega)
                        · refine ⟨?_, ?_⟩
                          · first | exact absurd q5 q1 | exact absurd q8 q1 | exact c1 | exact c2 | exact R.ok | omega | (have z := nz q1; obtain ⟨z1, z2, z3, z4⟩ := qz z; first | exact z1 | exact z2 | exact z3 | omega | (exact (main z (by omega) (by omega)).1))
                          · refine ⟨?_, ?_⟩
                            · first | exact absurd q5 q1 | exact absurd q8 q1 | exact c1 | exact c2 | exact R.ok | omega | (have z := nz q1; obtain ⟨z1, z2, z3, z4⟩ := qz z; first | exact z1 | exact z2 | exact z3 | omega | (exact (main z (by omega) (by omega)).1))
                            · intro F9
                              have z := nz q1
                              obtain ⟨z1, z2, z3, z4⟩ := qz z
                              rw [if_neg (by omega), if_pos ⟨by omega, by omega⟩, if_neg (by omega)] at q
                              exact CAN.thr (k := 2) q R hn hs F9
          · refine ⟨?_, ?_⟩
            · first | exact absurd q5 q1 | exact absurd q8 q1 | exact c1 | exact c2 | exact R.ok | omega | (have z := nz q1; obtain ⟨z1, z2, z3, z4⟩ := qz z; first | exact z1 | exact z2 | exact z3 | omega | (exact (main z (by omega) (by omega)).1))
            · refine ⟨?_, ?_⟩
              · first | exact absurd q5 q1 | exact absurd q8 q1 | exact c1 | exact c2 | exact R.ok | omega | (have z := nz q1; obtain ⟨z1, z2, z3, z4⟩ := qz z; first | exact z1 | exact z2 | exact z3 | omega | (exact (main z (by omega) (by omega)).1))
              · intro F9
                have z := nz q1
                rw [if_neg (by omega), if_neg (by omega)] at q
                exact CAN.thr (k := 0) q R hn hs F9
theorem s_B_foundWithout {G : XG} {d : Nat} {h : XH} {Q : XV → XH → Prop} {X : Nat → XH → Prop} {s : CS} {p n9 s9 : Int} (R : CIR h s) (M : Room h n9 s9) (hn : 0 ≤ n9) (hs : 0 ≤ s9) (q : CAN Q X xI h (cFoundWithout s p) n9 s9) : xwp G m_B_foundWithout (d + 8) 0 [xR 0, xI p] [] h Q X := by
  have hr := R.room M
  obtain ⟨c1, c2, c3, -⟩ := R.q
  unfold cFoundWithout at q
  have nz : ¬ (decide (als h (xpl h 0 6) = 0) = true) → 0 < (dC s).2.length := fun y => by
    have z : ¬ als h (xpl h 0 6) = 0 := fun w => y (decide_eq_true w)
    omega
  have qz : 0 < (dC s).2.length → xtg h (alg h (xpl h 0 6) 0) = 5 ∧ xtg h (xpl h (alg h (xpl h 0 6) 0) 0) = 13 ∧ alok h (xpl h (alg h (xpl h 0 6) 0) 0) ∧ als h (xpl h (alg h (xpl h 0 6) 0) 0) = nP s := fun h0 => by
    obtain ⟨qa, pa, ns, W, -, y1, y2, y3, -, -, y5, y6, y7, y8⟩ := R.q0 h0
    exact ⟨y3, y5.1.2.2.1, y5.ok, y7⟩
  refine v_B_foundWithout_0 R.fx ?_
  refine ⟨?_, ?_⟩
  · first | exact absurd q3 q1 | exact absurd q5 q1 | exact c1 | exact c2 | exact R.ok | omega | (have z := nz q1; obtain ⟨z1, z2, z3, z4⟩ := qz z; first | exact z1 | exact z2 | exact z3 | omega)
  · refine ⟨?_, ?_⟩
    · first | exact absurd q3 q1 | exact absurd q5 q1 | exact c1 | exact c2 | exact R.ok | omega | (have z := nz q1; obtain ⟨z1, z2, z3, z4⟩ := qz z; first | exact z1 | exact z2 | exact z3 | omega)
    · refine ⟨fun q1 => ?_, fun q1 => ?_⟩
      · refine ⟨?_, ?_⟩
        · first | exact absurd q3 q1 | exact absurd q5 q1 | exact c1 | exact c2 | exact R.ok | omega | (have z := nz q1; obtain ⟨z1, z2, z3, z4⟩ := qz z; first | exact z1 | exact z2 | exact z3 | omega)
        · refine ⟨?_, ?_⟩
          · first | exact absurd q3 q1 | exact absurd q5 q1 | exact c1 | exact c2 | exact R.ok | omega | (have z := nz q1; obtain ⟨z1, z2, z3, z4⟩ := qz z; first | exact z1 | exact z2 | exact z3 | omega)
          · intro F9
            have z := of_decide_eq_true q1
            rw [if_pos (by omega)] at q
            exact CAN.thr (k := 1) q R hn hs F9
      · refine ⟨fun q2 => ?_, fun q2 => ?_⟩
        · refine ⟨?_, ?_⟩
          · first | exact absurd q3 q1 | exact absurd q5 q1 | exact c1 | exact c2 | exact R.ok | omega | (have z := nz q1; obtain ⟨z1, z2, z3, z4⟩ := qz z; first | exact z1 | exact z2 | exact z3 | omega)
          · refine ⟨?_, ?_⟩
            · first | exact absurd q3 q1 | exact absurd q5 q1 | exact c1 | exact c2 | exact R.ok | omega | (have z := nz q1; obtain ⟨z1, z2, z3, z4⟩ := qz z; first | exact z1 | exact z2 | exact z3 | omega)
            · intro F9
              have z := nz q1
              rw [if_neg (by omega), if_neg (by omega)] at q
              exact CAN.thr (k := 2) q R hn hs F9
        · refine ⟨fun q3 => ?_, fun q3 => ?_⟩
          · refine ⟨?_, ?_⟩
            · first | exact absurd q3 q1 | exact absurd q5 q1 | exact c1 | exact c2 | exact R.ok | omega | (have z := nz q1; obtain ⟨z1, z2, z3, z4⟩ := qz z; first | exact z1 | exact z2 | exact z3 | omega)
            · refine ⟨fun q4 => ?_, fun q4 => ?_⟩
              · refine ⟨fun q5 => ?_, fun q5 => ?_⟩
                · exact absurd q3 q1
                · refine ⟨?_, ?_⟩
                  · first | exact absurd q3 q1 | exact absurd q5 q1 | exact c1 | exact c2 | exact R.ok | omega | (have z := nz q1; obtain ⟨z1, z2, z3, z4⟩ := qz z; first | exact z1 | exact z2 | exact z3 | omega)
                  · refine ⟨?_, ?_⟩
                    · first | exact absurd q3 q1 | exact absurd q5 q1 | exact c1 | exact c2 | exact R.ok | omega | (have z := nz q1; obtain ⟨z1, z2, z3, z4⟩ := qz z; first | exact z1 | exact z2 | exact z3 | omega)
                    · exact absurd q3 q1
              · refine ⟨?_, ?_⟩
                · first | exact absurd q3 q1 | exact absurd q5 q1 | exact c1 | exact c2 | exact R.ok | omega | (have z := nz q1; obtain ⟨z1, z2, z3, z4⟩ := qz z; first | exact z1 | exact z2 | exact z3 | omega)
                · refine ⟨?_, ?_⟩
                  · first | exact absurd q3 q1 | exact absurd q5 q1 | exact c1 | exact c2 | exact R.ok | omega | (have z := nz q1; obtain ⟨z1, z2, z3, z4⟩ := qz z; first | exact z1 | exact z2 | exact z3 | omega)
                  · intro F9
                    exact absurd q3 q1
          · refine ⟨?_, ?_⟩
            · first | exact absurd q3 q1 | exact absurd q5 q1 | exact c1 | exact c2 | exact R.ok | omega | (have z := nz q1; obtain ⟨z1, z2, z3, z4⟩ := qz z; first | exact z1 | exact z2 | exact z3 | omega)
            · refine ⟨?_, ?_⟩
              · first | exact absurd q3 q1 | exact absurd q5 q1 | exact c1 | exact c2 | exact R.ok | omega | (have z := nz q1; obtain ⟨z1, z2, z3, z4⟩ := qz z; first | exact z1 | exact z2 | exact z3 | omega)
              · refine ⟨?_, ?_⟩
                · first | exact absurd q3 q1 | exact absurd q5 q1 | exact c1 | exact c2 | exact R.ok | omega | (have z := nz q1; obtain ⟨z1, z2, z3, z4⟩ := qz z; first | exact z1 | exact z2 | exact z3 | omega)
                · refine ⟨?_, ?_⟩
                  · first | exact absurd q3 q1 | exact absurd q5 q1 | exact c1 | exact c2 | exact R.ok | omega | (have z := nz q1; obtain ⟨z1, z2, z3, z4⟩ := qz z; first | exact z1 | exact z2 | exact z3 | omega)
                  · refine ⟨fun q4 => ?_, fun q4 => ?_⟩
                    · refine ⟨fun q5 => ?_, fun q5 => ?_⟩
                      · exact absurd q5 q1
                      · refine ⟨?_, ?_⟩
                        · first | exact absurd q3 q1 | exact absurd q5 q1 | exact c1 | exact c2 | exact R.ok | omega | (have z := nz q1; obtain ⟨z1, z2, z3, z4⟩ := qz z; first | exact z1 | exact z2 | exact z3 | omega)
                        · have z := nz q1
                          obtain ⟨z1, z2, z3, z4⟩ := qz z
                          rw [if_neg (by omega), if_pos ⟨by omega, by omega⟩] at q
                          obtain ⟨qa, pa, ns, W, ⟨P1, P2⟩, y1, y2, y3, y93, ylt, y5, y6, y7, y8⟩ := R.q0 z
                          have R0 := R
                          obtain ⟨FM, T, ⟨bp, fp, S⟩, V, w, -, A, z10, CW⟩ := R
                          have en : ((dC s).2[0]?).getD [] = ns := by rw [y1]; rfl
                          rw [en] at q
                          have F := R0.fx
                          have hnx := F.nx
                          refine s_Findings_countWithout F S.fil W P2 y2 y1 (fun h' F' S' e0 n' l' => ?_)
                          have B : RB h h' := ⟨S'.mono (fun c _ v => by
                            have v : c = alg h (xpl h 0 6) 0 := v
                            rw [v]; exact Or.inr ⟨y93, Or.inr y3⟩), fun c k c1 c2 c3 _ => S'.pl c2 (fun v => by
                            have v : c = alg h (xpl h 0 6) 0 := v
                            rw [v, y3] at c3; cases c3) k, fun c c1 c2 c3 => by
                            by_cases v : c = alg h (xpl h 0 6) 0
                            · rw [v]; exact e0
                            · exact S'.pl c2 v 0, n', l'⟩
                          have lo : ∀ c k, 40 ≤ c → c ≤ 51 → xpl h' c k = xpl h c k := fun c k k0 k1 => S'.pl (by omega) (fun v => by
                            have v : c = alg h (xpl h 0 6) 0 := v
                            omega) k
                          have Y : CIY h s (xpl h 0 6) qa pa := ⟨FM, T, V, w, ⟨rfl, W⟩, A, z10⟩
                          obtain ⟨C', St', L', v', nn, ll⟩ := Y.rf S F' B (fun y => by omega) (fun _ => ⟨P1.lo W (fun c k k0 k1 => lo c k (by omega) (by omega)) (fun c k k0 k1 k2 => S'.pl k1 (fun v => by
                            have v : c = alg h (xpl h 0 6) 0 := v
                            rw [v, y3] at k2; cases k2) k), P2.1.keep (lo 40 5 (by decide) (by decide)) (fun k => lo 51 k (by decide) (by decide)), fun i x hi hx hx2 => by
                              obtain ⟨b1, b2⟩ := P2.2 i x hi hx hx2
                              exact ⟨(lo 50 i (by decide) (by decide)).trans b1, b2.keep (fun n _ => ⟨lo 48 _ (by decide) (by decide), lo 49 _ (by decide) (by decide)⟩)⟩⟩)
                          refine v_B_foundWithout_28 F' ?_
                          refine q.1 rfl h' (C'.cir St' CW) L' ?_ ?_
                          · unfold nxP; rw [v']; omega
                          · unfold slP; rw [v']; omega
                    · refine ⟨?_, ?_⟩
                      · first | exact absurd q3 q1 | exact absurd q5 q1 | exact c1 | exact c2 | exact R.ok | omega | (have z := nz q1; obtain ⟨z1, z2, z3, z4⟩ := qz z; first | exact z1 | exact z2 | exact z3 | omega)
                      · refine ⟨?_, ?_⟩
                        · first | exact absurd q3 q1 | exact absurd q5 q1 | exact c1 | exact c2 | exact R.ok | omega | (have z := nz q1; obtain ⟨z1, z2, z3, z4⟩ := qz z; first | exact z1 | exact z2 | exact z3 | omega)
                        · intro F9
                          have z := nz q1
                          obtain ⟨z1, z2, z3, z4⟩ := qz z
                          rw [if_neg (by omega), if_neg (by omega)] at q
                          exact CAN.thr (k := 2) q R hn hs F9
/-- not a NaN -/
theorem vf_of {r : UInt64} (h : Jvm.FP.Core.dIsNaN r = false) : vf_n64 r := by
  have h1 : ¬ 9218868437227405312 < r.toNat % 2 ^ 63 := fun y => by
    rw [(Jvm.FP.Core.isNaN_bits r).mpr y] at h; cases h
  unfold vf_n64
  rw [UInt64.le_iff_toNat_le, UInt64.toNat_and]
  have e : (0x7fffffffffffffff : UInt64).toNat = 2 ^ 63 - 1 := by decide
  rw [e, Nat.and_two_pow_sub_one_eq_mod]
  have e2 : (0x7ff0000000000000 : UInt64).toNat = 9218868437227405312 := by decide
  rw [e2]
  omega
theorem mean_ok {a b : Int} (hb : xiR b) (h : b ≠ 0) : vf_n64 (FP.ddiv (UInt64.ofNat (xl2d a).toNat) (UInt64.ofNat (xi2d b).toNat)) := by
  have ea : UInt64.ofNat (xl2d a).toNat = FP.l2d (Int64.ofInt a) := by
    unfold xl2d
    rw [Int.toNat_natCast, UInt64.ofNat_toNat]
  have eb : UInt64.ofNat (xi2d b).toNat = FP.i2d (Int32.ofInt b) := by
    unfold xi2d
    rw [Int.toNat_natCast, UInt64.ofNat_toNat]
  rw [ea, eb]
  refine vf_of (Jvm.FP.Core.ddiv_out (Jvm.FP.Core.l2d_fin _).notNaN (Jvm.FP.Core.i2d_fin _) (fun z => ?_))
  refine Jvm.FP.Core.i2d_ne_zero (v := Int32.ofInt b) (fun y => h ?_) ((Jvm.FP.Core.zero_bits2 _).mp z)
  have := xi_to hb
  rw [y] at this
  exact this.symm
def smF (s : CS) : List Nat → Int
  | [] => 0
  | o :: r => wtF (dC s) (fC s) o + smF s r
/-- the mean, as the bits of a double -/
def mnF (s : CS) : Int := if (oC s).length = 0 then 0 else xddiv (xl2d (smF s (oC s))) (xi2d (oC s).length)
def cMeanWeight (s : CS) : (Int × Int) × CS := (if (dC s).2.length = 0 then (2, 0) else (0, mnF s), s)
theorem wtF_rng {s : CS} (W : CWF s) (ok : ∀ (n : Nat) t, (dC s).1[n]? = some t → PTok t) (o : Nat) : 0 ≤ wtF (dC s) (fC s) o ∧ wtF (dC s) (fC s) o ≤ 1000000 := by
  unfold wtF
  cases z : (fC s)[o]? with
  | none => exact ⟨(by decide : (0 : Int) ≤ 0), (by decide : (0 : Int) ≤ 1000000)⟩
  | some x =>
    show 0 ≤ qwif (js0 (dC s) (fC s) x.1) ∧ qwif (js0 (dC s) (fC s) x.1) ≤ 1000000
    refine qwif_rng ?_
    have tw := (W.2.2.2.2.2 x (List.mem_of_getElem? z)).2.2.2.1
    unfold js0
    cases y : (jdL (dC s) (fC s) x.1 0 (dC s).2)[0]? with
    | none => exact (by decide : (0 : Int) ≤ 0)
    | some j => exact jdL_nn (by have := W.1.2; omega) (by show x.1.2.2.2.1.length ≤ 200; omega) (by show x.1.2.2.2.2.length ≤ 200; omega) ok _ _ j (List.mem_of_getElem? y)
theorem s_B_meanWeight {G : XG} {d : Nat} {h : XH} {Q : XV → XH → Prop} {X : Nat → XH → Prop} {s : CS} {n9 s9 : Int} (R : CIR h s) (M : Room h n9 s9) (hn : 0 ≤ n9) (hs : 0 ≤ s9) (q : CAN Q X xD h (cMeanWeight s) n9 s9) : xwp G m_B_meanWeight (d + 8) 0 [xR 0, xZ, xZ, xZ] [] h Q X := by
  have hr := R.room M
  obtain ⟨c1, c2, c3, -⟩ := R.q
  unfold cMeanWeight mnF at q
  have nz : ¬ (decide (als h (xpl h 0 6) = 0) = true) → 0 < (dC s).2.length := fun y => by
    have z : ¬ als h (xpl h 0 6) = 0 := fun w => y (decide_eq_true w)
    omega
  refine v_B_meanWeight_0 R.fx ?_
  refine ⟨?_, ?_⟩
  · first | exact c1 | exact c2 | omega
  · refine ⟨?_, ?_⟩
    · first | exact c1 | exact c2 | omega
    · refine ⟨fun q1 => ?_, fun q1 => ?_⟩
      · refine ⟨?_, ?_⟩
        · first | exact c1 | exact c2 | omega
        · refine ⟨?_, ?_⟩
          · first | exact c1 | exact c2 | omega
          · intro F9
            have z := of_decide_eq_true q1
            rw [if_pos (by omega)] at q
            exact CAN.thr (k := 1) q R hn hs F9
      · refine ⟨fun q2 => ?_, fun q2 => ?_⟩
        · have z := nz q1
          obtain ⟨O, O1, O2, O3⟩ := R.ord z
          rw [O.1] at q2
          rw [if_neg (by omega), if_pos (by omega)] at q
          exact CAN.ret q R (by omega) (by omega)
        · have z := nz q1
          obtain ⟨O, O1, O2, O3⟩ := R.ord z
          rw [O.1] at q2
          rw [if_neg (by omega), if_neg (by omega)] at q
          obtain ⟨qa, pa, ns, W, -⟩ := R.q0 z
          have wr := wtF_rng R.wf (fun n t ht => by
            have hn := (List.getElem?_eq_some_iff.mp ht).1
            exact (W.2.2.2 n _ t (List.getElem?_eq_getElem (by have := W.2.1.1; omega)) ht).2.1)
          have eO := O.1
          have loop : ∀ (m i : Nat) (c : Int), i + m = (oC s).length → 0 ≤ c → c ≤ 1000000 * i → c + smF s ((oC s).drop i) = smF s (oC s) → xwp G m_B_meanWeight (d + 8) 20 [xR 0, xL c, xZ, xI i] [] h Q X := by
            intro m
            induction m with
            | zero =>
              intro i c e c0 c1 hv
              rw [List.drop_eq_nil_of_le (by omega)] at hv
              have hv : c + 0 = smF s (oC s) := hv
              refine v_B_meanWeight_20 R.fx ?_
              refine ⟨fun q1 => ?_, fun q1 => ?_⟩
              · refine ⟨?_, ?_⟩
                · rw [eO]; exact mean_ok ⟨by omega, by omega⟩ (by omega)
                · rw [show c = smF s (oC s) by omega, eO]; exact CAN.ret q R (by omega) (by omega)
              · omega
            | succ m ih =>
              intro i c e c0 c1 hv
              refine v_B_meanWeight_20 R.fx ?_
              refine ⟨fun q1 => ?_, fun q1 => ?_⟩
              · refine ⟨?_, ?_⟩
                · omega
                · omega
              · refine p_Findings_weightAt R.fx O O1 (k := i) (by omega) O3 (fun o ho => ?_)
                obtain ⟨a1, a2⟩ := List.getElem?_eq_some_iff.mp ho
                rw [List.drop_eq_getElem_cons a1, a2] at hv
                have hv : c + (wtF (dC s) (fC s) o + smF s ((oC s).drop (i + 1))) = smF s (oC s) := hv
                have w := wr o
                refine v_B_meanWeight_40 R.fx ?_
                refine ⟨?_, ?_⟩
                · exact ⟨by omega, by omega⟩
                · rw [xw64_id (show xlR (c + wtF (dC s) (fC s) o) from ⟨by omega, by omega⟩)]
                  exact ih (i + 1) _ (by omega) (by omega) (by omega) (by omega)
          exact loop (oC s).length 0 0 (by omega) (Int.le_refl _) (by omega) (by rw [List.drop_zero]; omega)

end
