/-! ===== moch ===== -/
section
/-! the model's changes from one word to another -/
theorem s_M_changes {G : XG} {d : Nat} {h : XH} {Q : XV → XH → Prop} {X : Nat → XH → Prop} {w o : Int} (F : xFix h) (hw : 0 ≤ w) (ho : 0 ≤ o)
    (hq : ∀ h', xFix h' → xsm (fun c => c = 65) h h' → xnx h' = xnx h → xsl h' = xsl h → Q (xI (dst w o)) h') : xwp G m_M_changes (d + 4) 0 [xR 53, xL w, xZ, xL o, xZ, xZ, xZ, xZ, xZ, xZ, xZ, xZ, xZ] [] h Q X := by
  have wr := wsz_rng w
  have or := wsz_rng o
  obtain ⟨n, hn⟩ : ∃ n : Nat, n = (wsz w).toNat := ⟨_, rfl⟩
  obtain ⟨m, hm⟩ : ∃ m : Nat, m = (wsz o).toNat := ⟨_, rfl⟩
  have en : wsz w = n := by omega
  have em : wsz o = m := by omega
  obtain ⟨f, hf⟩ : ∃ f : Nat → Int, f = (fun k : Nat => sat w k) := ⟨_, rfl⟩
  obtain ⟨g, hg⟩ : ∃ g : Nat → Int, g = (fun k : Nat => sat o k) := ⟨_, rfl⟩
  have ed : dst w o = osa f g n m := by unfold dst; rw [← hn, ← hm, ← hf, ← hg]
  have fat : ∀ (i : Nat) (v : Int), v = i → sat w v = f i := fun i v e => by rw [hf, e]
  have gat : ∀ (i : Nat) (v : Int), v = i → sat o v = g i := fun i v e => by rw [hg, e]
  have rng : ∀ i j : Nat, 0 ≤ osa f g i j ∧ osa f g i j ≤ i + j := fun i j => osa_rng f g (i + j) i j (Nat.le_refl _)
  -- the table up to a cell
  have tab : ∀ (h2 : XH) (i k : Nat), (xFix h2 ∧ xsm (fun c => c = 65) h h2 ∧ xnx h2 = xnx h ∧ xsl h2 = xsl h) ∧ (∀ a b : Nat, a ≤ n → b ≤ m → (a < i ∨ a = i ∧ b < k) → xpl h2 65 (13 * a + b) = osa f g a b) → ∀ v, v = osa f g i k → xFix (xst h2 65 (13 * i + k) v) → k ≤ m → ((xFix (xst h2 65 (13 * i + k) v) ∧ xsm (fun c => c = 65) h (xst h2 65 (13 * i + k) v) ∧ xnx (xst h2 65 (13 * i + k) v) = xnx h ∧ xsl (xst h2 65 (13 * i + k) v) = xsl h) ∧ ∀ a b : Nat, a ≤ n → b ≤ m → (a < i ∨ a = i ∧ b < k + 1) → xpl (xst h2 65 (13 * i + k) v) 65 (13 * a + b) = osa f g a b) := fun h2 i k T v hv F2 hk => by
    obtain ⟨⟨t1, t2, t3, t4⟩, t5⟩ := T
    refine ⟨⟨F2, t2.st (by omega) (Or.inl rfl), t3, t4⟩, fun a b ha hb hab => ?_⟩
    by_cases e : a = i ∧ b = k
    · rw [e.1, e.2, xpl_hit]; exact hv
    · rw [xpl_ok (by omega)]; exact t5 a b ha hb (by omega)
  have loop : ∀ (q : Nat) (i : Nat) (h2 : XH), i + q = n + 1 → (xFix h2 ∧ xsm (fun c => c = 65) h h2 ∧ xnx h2 = xnx h ∧ xsl h2 = xsl h) ∧ (∀ a b : Nat, a ≤ n → b ≤ m → (a < i ∨ a = i ∧ b < 0) → xpl h2 65 (13 * a + b) = osa f g a b) → xwp G m_M_changes (d + 4) 19 [xR 53, xL w, xZ, xL o, xZ, xI n, xI m, xI 13, xI i, xZ, xZ, xZ, xZ] [] h2 Q X := by
    intro q
    induction q with
    | zero =>
      intro i h2 e T
      refine v_M_changes_19 T.1.1 ?_
      refine ⟨fun q1 => ?_, fun q1 => ?_⟩
      · refine ⟨?_, ?_⟩
        · first | exact ⟨by omega, by omega⟩ | omega
        · refine ⟨?_, ?_⟩
          · first | exact ⟨by omega, by omega⟩ | omega
          · refine ⟨?_, ?_⟩
            · first | exact ⟨by omega, by omega⟩ | omega
            · refine ⟨?_, ?_⟩
              · first | exact ⟨by omega, by omega⟩ | omega
              · rw [T.2 n m (Nat.le_refl _) (Nat.le_refl _) (Or.inl (by omega)), ← ed]
                exact hq h2 T.1.1 T.1.2.1 T.1.2.2.1 T.1.2.2.2
      · omega
    | succ q ih =>
      intro i h2 e T
      have inner : ∀ (p k : Nat) (h3 : XH), k + p = m + 1 → (xFix h3 ∧ xsm (fun c => c = 65) h h3 ∧ xnx h3 = xnx h ∧ xsl h3 = xsl h) ∧ (∀ a b : Nat, a ≤ n → b ≤ m → (a < i ∨ a = i ∧ b < k) → xpl h3 65 (13 * a + b) = osa f g a b) → xwp G m_M_changes (d + 4) 29 [xR 53, xL w, xZ, xL o, xZ, xI n, xI m, xI 13, xI i, xI k, xZ, xZ, xZ] [] h3 Q X := by
        intro p
        induction p with
        | zero =>
          intro k h3 e3 T3
          refine v_M_changes_29 T3.1.1 ?_
          refine ⟨fun q1 => ?_, fun q1 => ?_⟩
          · refine ⟨?_, ?_⟩
            · first | exact ⟨by omega, by omega⟩ | omega
            · exact ih (i + 1) h3 (by omega) ⟨T3.1, fun a b ha hb hab => T3.2 a b ha hb (by omega)⟩
          · refine ⟨?_, ?_⟩
            · first | exact ⟨by omega, by omega⟩ | omega
            · refine ⟨?_, ?_⟩
              · first | exact ⟨by omega, by omega⟩ | omega
              · refine ⟨fun q2 => ?_, fun q2 => ?_⟩
                · omega
                · refine ⟨fun q3 => ?_, fun q3 => ?_⟩
                  · omega
                  · refine ⟨?_, ?_⟩
                    · first | exact ⟨by omega, by omega⟩ | omega
                    · refine ⟨?_, ?_⟩
                      · first | exact ⟨by omega, by omega⟩ | omega
                      · refine ⟨?_, ?_⟩
                        · first | exact ⟨by omega, by omega⟩ | omega
                        · refine ⟨?_, ?_⟩
                          · first | exact ⟨by omega, by omega⟩ | omega
                          · refine ⟨?_, ?_⟩
                            · first | exact ⟨by omega, by omega⟩ | omega
                            · omega
        | succ p ihp =>
          intro k h3 e3 T3
          have F3 := T3.1.1
          have go : ∀ v, v = osa f g i k → xFix (xst h3 65 (13 * i + k) v) → xwp G m_M_changes (d + 4) 29 [xR 53, xL w, xZ, xL o, xZ, xI n, xI m, xI 13, xI i, xI ((k : Int) + 1), xZ, xZ, xZ] [] (xst h3 65 (13 * i + k) v) Q X := fun v hv F4 => ihp (k + 1) _ (by omega) (tab h3 i k T3 v hv F4 (by omega))
          have zz : i = 0 ∨ k = 0 → xwp G m_M_changes (d + 4) 56 [xR 53, xL w, xZ, xL o, xZ, xI n, xI m, xI 13, xI i, xI k, xI (13 * i + k), xZ, xZ] [] h3 Q X := fun z => by
            refine v_M_changes_56 F3 ?_
            refine ⟨?_, ?_⟩
            · first | exact ⟨by omega, by omega⟩ | omega
            · refine ⟨?_, ?_⟩
              · first | exact ⟨by omega, by omega⟩ | omega
              · refine ⟨?_, ?_⟩
                · first | exact ⟨by omega, by omega⟩ | omega
                · refine ⟨?_, ?_⟩
                  · first | exact ⟨by omega, by omega⟩ | omega
                  · intro F9
                    exact go _ (osa_0 f g z).symm F9
          refine v_M_changes_29 F3 ?_
          refine ⟨fun q1 => ?_, fun q1 => ?_⟩
          · refine ⟨?_, ?_⟩
            · first | exact ⟨by omega, by omega⟩ | omega
            · omega
          · refine ⟨?_, ?_⟩
            · first | exact ⟨by omega, by omega⟩ | omega
            · refine ⟨?_, ?_⟩
              · first | exact ⟨by omega, by omega⟩ | omega
              · refine ⟨fun q2 => ?_, fun q2 => ?_⟩
                · exact zz (Or.inl (by omega))
                · refine ⟨fun q3 => ?_, fun q3 => ?_⟩
                  · exact zz (Or.inr (by omega))
                  · refine ⟨?_, ?_⟩
                    · first | exact ⟨by omega, by omega⟩ | omega
                    · refine ⟨?_, ?_⟩
                      · first | exact ⟨by omega, by omega⟩ | omega
                      · refine ⟨?_, ?_⟩
                        · first | exact ⟨by omega, by omega⟩ | omega
                        · refine ⟨?_, ?_⟩
                          · first | exact ⟨by omega, by omega⟩ | omega
                          · refine ⟨?_, ?_⟩
                            · first | exact ⟨by omega, by omega⟩ | omega
                            · have hi : 1 ≤ i ∧ i ≤ n := by omega
                              have hk : 1 ≤ k ∧ k ≤ m := by omega
                              have c14 : xpl h3 65 (13 * (i : Int) + k - 13 - 1) = osa f g (i - 1) (k - 1) := by
                                rw [show 13 * (i : Int) + k - 13 - 1 = 13 * ((i - 1 : Nat) : Int) + ((k - 1 : Nat) : Int) by omega]
                                exact T3.2 (i - 1) (k - 1) (by omega) (by omega) (Or.inl (by omega))
                              have c13 : xpl h3 65 (13 * (i : Int) + k - 13) = osa f g (i - 1) k := by
                                rw [show 13 * (i : Int) + k - 13 = 13 * ((i - 1 : Nat) : Int) + (k : Int) by omega]
                                exact T3.2 (i - 1) k (by omega) (by omega) (Or.inl (by omega))
                              have c1 : xpl h3 65 (13 * (i : Int) + k - 1) = osa f g i (k - 1) := by
                                rw [show 13 * (i : Int) + k - 1 = 13 * (i : Int) + ((k - 1 : Nat) : Int) by omega]
                                exact T3.2 i (k - 1) (by omega) (by omega) (Or.inr ⟨rfl, by omega⟩)
                              have r14 := rng (i - 1) (k - 1)
                              have r13 := rng (i - 1) k
                              have r1 := rng i (k - 1)
                              rw [c14]
                              refine p_M_digit F3 (by omega) (by omega) ?_
                              rw [fat (i - 1) _ (by omega)]
                              refine v_M_changes_91 F3 ?_
                              refine ⟨?_, ?_⟩
                              · exact ⟨by omega, by omega⟩
                              · refine p_M_digit F3 (by omega) (by omega) ?_
                                rw [gat (k - 1) _ (by omega)]
                                obtain ⟨c, hc⟩ : ∃ c, c = min (min (osa f g (i - 1) (k - 1) + (if f (i - 1) = g (k - 1) then 0 else 1)) (osa f g (i - 1) k + 1)) (osa f g i (k - 1) + 1) := ⟨_, rfl⟩
                                have os := osa_s f g (i := i) (j := k) (by omega) (by omega) c hc
                                have at107 : ∀ e : Int, e = (if f (i - 1) = g (k - 1) then 0 else 1) → xwp G m_M_changes (d + 4) 107 [xR 53, xL w, xZ, xL o, xZ, xI n, xI m, xI 13, xI i, xI k, xI (13 * i + k), xZ, xZ] [xI e, xI (osa f g (i - 1) (k - 1))] h3 Q X := fun e he => by
                                  have e01 : 0 ≤ e ∧ e ≤ 1 := by rw [he]; split <;> omega
                                  have ec : min (osa f g (i - 1) (k - 1) + e) (1 + min (osa f g i (k - 1)) (osa f g (i - 1) k)) = c := by rw [hc, he]; omega
                                  have c0 : 0 ≤ c ∧ c ≤ 30 := by omega
                                  have no : ∀ F4 : xFix (xst h3 65 (13 * i + k) c), ¬ (2 ≤ i ∧ 2 ≤ k ∧ f (i - 1) = g (k - 2) ∧ f (i - 2) = g (k - 1)) → xwp G m_M_changes (d + 4) 200 [xR 53, xL w, xZ, xL o, xZ, xI n, xI m, xI 13, xI i, xI k, xI (13 * i + k), xZ, xZ] [] (xst h3 65 (13 * i + k) c) Q X := fun F4 z => by
                                    refine v_M_changes_200 F4 ?_
                                    refine v_M_changes_201 F4 ?_
                                    refine ⟨fun q1 => ?_, fun q1 => ?_⟩
                                    · refine ⟨?_, ?_⟩
                                      · first | exact ⟨by omega, by omega⟩ | omega
                                      · exact go c (os.2 z).symm F4
                                    · refine ⟨?_, ?_⟩
                                      · first | exact ⟨by omega, by omega⟩ | omega
                                      · refine ⟨?_, ?_⟩
                                        · first | exact ⟨by omega, by omega⟩ | omega
                                        · refine ⟨?_, ?_⟩
                                          · first | exact ⟨by omega, by omega⟩ | omega
                                          · refine ⟨?_, ?_⟩
                                            · first | exact ⟨by omega, by omega⟩ | omega
                                            · refine ⟨?_, ?_⟩
                                              · first | exact ⟨by omega, by omega⟩ | omega
                                              · refine ⟨?_, ?_⟩
                                                · first | exact ⟨by omega, by omega⟩ | omega
                                                · refine ⟨?_, ?_⟩
                                                  · first | exact ⟨by omega, by omega⟩ | omega
                                                  · refine ⟨?_, ?_⟩
                                                    · first | exact ⟨by omega, by omega⟩ | omega
                                                    · intro F9
                                                      exact absurd rfl q1
                                  refine v_M_changes_107 F3 ?_
                                  refine ⟨?_, ?_⟩
                                  · first | exact ⟨by omega, by omega⟩ | omega | (rw [c1, c13]; exact ⟨by omega, by omega⟩)
                                  · refine ⟨?_, ?_⟩
                                    · first | exact ⟨by omega, by omega⟩ | omega | (rw [c1, c13]; exact ⟨by omega, by omega⟩)
                                    · refine ⟨?_, ?_⟩
                                      · first | exact ⟨by omega, by omega⟩ | omega | (rw [c1, c13]; exact ⟨by omega, by omega⟩)
                                      · refine ⟨?_, ?_⟩
                                        · first | exact ⟨by omega, by omega⟩ | omega | (rw [c1, c13]; exact ⟨by omega, by omega⟩)
                                        · refine ⟨?_, ?_⟩
                                          · first | exact ⟨by omega, by omega⟩ | omega | (rw [c1, c13]; exact ⟨by omega, by omega⟩)
                                          · refine ⟨?_, ?_⟩
                                            · first | exact ⟨by omega, by omega⟩ | omega | (rw [c1, c13]; exact ⟨by omega, by omega⟩)
                                            · refine ⟨?_, ?_⟩
                                              · first | exact ⟨by omega, by omega⟩ | omega | (rw [c1, c13]; exact ⟨by omega, by omega⟩)
                                              · refine ⟨?_, ?_⟩
                                                · first | exact ⟨by omega, by omega⟩ | omega | (rw [c1, c13]; exact ⟨by omega, by omega⟩)
                                                · refine ⟨?_, ?_⟩
                                                  · first | exact ⟨by omega, by omega⟩ | omega | (rw [c1, c13]; exact ⟨by omega, by omega⟩)
                                                  · refine ⟨fun q1 => ?_, fun q1 => ?_⟩
                                                    · intro F9
                                                      rw [c1, c13, ec] at F9 ⊢
                                                      exact no F9 (by omega)
                                                    · refine ⟨fun q2 => ?_, fun q2 => ?_⟩
                                                      · intro F9
                                                        rw [c1, c13, ec] at F9 ⊢
                                                        exact no F9 (by omega)
                                                      · intro F9
                                                        rw [c1, c13, ec] at F9 ⊢
                                                        have F4 := F9
                                                        refine p_M_digit F4 (by omega) (by omega) ?_
                                                        rw [fat (i - 1) _ (by omega)]
                                                        refine v_M_changes_166 F4 ?_
                                                        refine ⟨?_, ?_⟩
                                                        · exact ⟨by omega, by omega⟩
                                                        · refine p_M_digit F4 (by omega) (by omega) ?_
                                                          rw [gat (k - 2) _ (by omega)]
                                                          refine v_M_changes_174 F4 ?_
                                                          refine ⟨fun q1 => ?_, fun q1 => ?_⟩
                                                          · refine ⟨?_, ?_⟩
                                                            · exact ⟨by omega, by omega⟩
                                                            · have qa := q1
                                                              refine p_M_digit F4 (by omega) (by omega) ?_
                                                              rw [fat (i - 2) _ (by omega)]
                                                              refine v_M_changes_185 F4 ?_
                                                              refine ⟨?_, ?_⟩
                                                              · exact ⟨by omega, by omega⟩
                                                              · refine p_M_digit F4 (by omega) (by omega) ?_
                                                                rw [gat (k - 1) _ (by omega)]
                                                                refine v_M_changes_193 F4 ?_
                                                                refine ⟨fun q1 => ?_, fun q1 => ?_⟩
                                                                · have e9 := os.1 ⟨by omega, by omega, qa, q1⟩
                                                                  have c28 : xpl (xst h3 65 (13 * i + k) c) 65 (13 * (i : Int) + k - 2 * 13 - 2) = osa f g (i - 2) (k - 2) := by
                                                                    rw [xpl_ok (by omega), show 13 * (i : Int) + k - 2 * 13 - 2 = 13 * ((i - 2 : Nat) : Int) + ((k - 2 : Nat) : Int) by omega]
                                                                    exact T3.2 (i - 2) (k - 2) (by omega) (by omega) (Or.inl (by omega))
                                                                  have r28 := rng (i - 2) (k - 2)
                                                                  refine v_M_changes_201 F4 ?_
                                                                  refine ⟨fun q1 => ?_, fun q1 => ?_⟩
                                                                  · refine ⟨?_, ?_⟩
                                                                    · first | exact ⟨by omega, by omega⟩ | omega | (rw [c28]; exact ⟨by omega, by omega⟩)
                                                                    · exact absurd q1 (by decide)
                                                                  · refine ⟨?_, ?_⟩
                                                                    · first | exact ⟨by omega, by omega⟩ | omega | (rw [c28]; exact ⟨by omega, by omega⟩)
                                                                    · refine ⟨?_, ?_⟩
                                                                      · first | exact ⟨by omega, by omega⟩ | omega | (rw [c28]; exact ⟨by omega, by omega⟩)
                                                                      · refine ⟨?_, ?_⟩
                                                                        · first | exact ⟨by omega, by omega⟩ | omega | (rw [c28]; exact ⟨by omega, by omega⟩)
                                                                        · refine ⟨?_, ?_⟩
                                                                          · first | exact ⟨by omega, by omega⟩ | omega | (rw [c28]; exact ⟨by omega, by omega⟩)
                                                                          · refine ⟨?_, ?_⟩
                                                                            · first | exact ⟨by omega, by omega⟩ | omega | (rw [c28]; exact ⟨by omega, by omega⟩)
                                                                            · refine ⟨?_, ?_⟩
                                                                              · first | exact ⟨by omega, by omega⟩ | omega | (rw [c28]; exact ⟨by omega, by omega⟩)
                                                                              · refine ⟨?_, ?_⟩
                                                                                · first | exact ⟨by omega, by omega⟩ | omega | (rw [c28]; exact ⟨by omega, by omega⟩)
                                                                                · refine ⟨?_, ?_⟩
                                                                                  · first | exact ⟨by omega, by omega⟩ | omega | (rw [c28]; exact ⟨by omega, by omega⟩)
                                                                                  · intro F9
                                                                                    rw [c28, xpl_hit] at F9 ⊢
                                                                                    rw [xst_xst] at F9 ⊢
                                                                                    exact go _ (by rw [e9]; omega) F9
                                                                · exact no F4 (fun y => q1 y.2.2.2)
                                                          · exact no F4 (fun y => q1 y.2.2.1)
                                refine v_M_changes_99 F3 ?_
                                refine ⟨fun q1 => ?_, fun q1 => ?_⟩
                                · exact at107 0 (by rw [if_pos q1])
                                · exact at107 1 (by rw [if_neg q1])
      refine v_M_changes_19 T.1.1 ?_
      refine ⟨fun q1 => ?_, fun q1 => ?_⟩
      · refine ⟨?_, ?_⟩
        · first | exact ⟨by omega, by omega⟩ | omega
        · refine ⟨?_, ?_⟩
          · first | exact ⟨by omega, by omega⟩ | omega
          · refine ⟨?_, ?_⟩
            · first | exact ⟨by omega, by omega⟩ | omega
            · refine ⟨?_, ?_⟩
              · first | exact ⟨by omega, by omega⟩ | omega
              · omega
      · exact inner (m + 1) 0 h2 (by omega) T
  refine v_M_changes_0 F ?_
  refine p_M_lengthOf F hw ?_
  refine v_M_changes_4 F ?_
  refine p_M_lengthOf F ho ?_
  refine v_M_changes_10 F ?_
  rw [en, em]
  exact loop (n + 1) 0 h (by omega) ⟨⟨F, xsm.refl h, rfl, rfl⟩, fun a b _ _ hab => absurd hab (by omega)⟩

end
