/-! ===== listspecs2 ===== -/
section
theorem s_AL_clear {G : XG} {d : Nat} {h : XH} {Q : XV → XH → Prop} {X : Nat → XH → Prop} {a : Int} {es : List Int} (F : xFix h) (R : ALr h a es)
    (hq : ∀ h', xFix h' → xsm (ALC h a) h h' → xnx h' = xnx h → xsl h' = xsl h → ALr h' a [] → Q xN h') : xwp G m_ArrayList_clear (d + 1) 0 [xR a, xZ, xZ, xZ] [] h Q X := by
  have hnx := F.nx
  obtain ⟨⟨h1, h2, h3, h4, h5⟩, ⟨h6, h7, h8⟩, h9, h10, h11⟩ := R
  obtain ⟨D, hD⟩ : ∃ D, D = xpl h a 0 := ⟨_, rfl⟩
  rw [← hD] at h6 h7 h8 h9 h10
  have loop : ∀ (n : Nat) (i : Int) (h2 : XH), 0 ≤ i → i + n = es.length → xFix h2 → xsm (ALC h a) h h2 → xnx h2 = xnx h → xsl h2 = xsl h → xpl h2 a 0 = D → xpl h2 a 1 = 0 → xwp G m_ArrayList_clear (d + 1) 27 [xZ, xR D, xI es.length, xI i] [] h2 Q X := by
    intro n
    induction n with
    | zero =>
      intro i h2' i0 i1 F2 e n1 n2 p0 p1
      refine v_ArrayList_clear_27 F2 ?_
      refine ⟨fun q1 => ?_, fun q1 => ?_⟩
      · refine hq _ F2 e n1 n2 ⟨⟨h1, by omega, by rw [e.tg h2]; exact h3, p1, by decide⟩, ?_, ?_, fun i hi => absurd hi (Nat.not_lt_zero i), fun x hx => absurd hx List.not_mem_nil⟩
        · rw [p0]
          have hd : D < xnx h := by rcases h9 with z | z <;> omega
          rw [e.tg hd, e.ln hd]
          exact ⟨h6, by show (0 : Int) ≤ _; omega, h8⟩
        · rw [p0]
          rcases h9 with z | ⟨z1, z2, z3⟩
          · exact Or.inl z
          · exact Or.inr ⟨z1, by omega, by rw [e.mkd z2]; exact z3⟩
      · refine ⟨?_, ?_⟩
        · omega
        · refine ⟨?_, ?_⟩
          · omega
          · refine ⟨?_, ?_⟩
            · omega
            · refine ⟨?_, ?_⟩
              · omega
              · intro F9
                omega
    | succ n ih =>
      intro i h2' i0 i1 F2 e n1 n2 p0 p1
      have hd : 93 ≤ D ∧ D < xnx h ∧ xpl h D (-1) = a := by
        rcases h9 with z | z
        · rw [z, fl_m103 F] at h7; omega
        · exact z
      have hne : a ≠ D := fun z => by rw [← z, h3] at h6; cases h6
      refine v_ArrayList_clear_27 F2 ?_
      refine ⟨fun q1 => ?_, fun q1 => ?_⟩
      · omega
      · refine ⟨?_, ?_⟩
        · first | omega | (rw [e.tg hd.2.1]; exact h6) | (rw [e.ln hd.2.1]; omega)
        · refine ⟨?_, ?_⟩
          · first | omega | (rw [e.tg hd.2.1]; exact h6) | (rw [e.ln hd.2.1]; omega)
          · refine ⟨?_, ?_⟩
            · first | omega | (rw [e.tg hd.2.1]; exact h6) | (rw [e.ln hd.2.1]; omega)
            · refine ⟨?_, ?_⟩
              · first | omega | (rw [e.tg hd.2.1]; exact h6) | (rw [e.ln hd.2.1]; omega)
              · intro F9
                exact ih _ _ (by omega) (by omega) F9 (e.st i0 (Or.inl (Or.inr ⟨h6, hd.2.2⟩))) n1 n2 (by rw [xpl_oa hne]; exact p0) (by rw [xpl_oa hne]; exact p1)
  refine v_ArrayList_clear_0 F ?_
  refine ⟨?_, ?_⟩
  · first | exact h3 | exact h1
  · refine ⟨?_, ?_⟩
    · first | exact h3 | exact h1
    · intro F9
      rw [h4, ← hD]
      refine loop es.length 0 _ (by omega) (by omega) F9 (((xsm.refl h).st (by decide) (Or.inl (Or.inl rfl))).st (by decide) (Or.inl (Or.inl rfl))) rfl rfl ?_ (xpl_hit _ _ _ _)
      rw [xpl_ok (by decide), xpl_ok (by decide)]; exact hD.symm
theorem eraseIdx_at {es : List Int} {i j : Nat} : (es.eraseIdx i)[j]? = if j < i then es[j]? else es[j + 1]? := by
  rw [List.getElem?_eraseIdx]
theorem s_AL_remove {G : XG} {d : Nat} {h : XH} {Q : XV → XH → Prop} {X : Nat → XH → Prop} {a i : Int} {es : List Int} (F : xFix h) (R : ALr h a es) (i0 : 0 ≤ i) (i1 : i < es.length)
    (hq : ∀ h', xFix h' → xsm (ALC h a) h h' → xnx h' = xnx h → xsl h' = xsl h → ALr h' a (es.eraseIdx i.toNat) → Q (xR (alg h a i)) h') : xwp G m_ArrayList_remove (d + 3) 0 [xR a, xI i, xZ, xZ] [] h Q X := by
  have hnx := F.nx
  have R0 := R
  obtain ⟨⟨h1, h2, h3, h4, h5⟩, ⟨h6, h7, h8⟩, h9, h10, h11⟩ := R
  obtain ⟨D, hD⟩ : ∃ D, D = xpl h a 0 := ⟨_, rfl⟩
  have hg : alg h a i = xpl h D i := by rw [hD]; rfl
  rw [hg] at hq
  rw [← hD] at h6 h7 h8 h9 h10
  have hd : 93 ≤ D ∧ D < xnx h ∧ xpl h D (-1) = a := by
    rcases h9 with z | z
    · rw [z, fl_m103 F] at h7; omega
    · exact z
  have hne : a ≠ D := fun z => by rw [← z, h3] at h6; cases h6
  have hel : ∀ k : Nat, (es.eraseIdx i.toNat).length = es.length - 1 := fun _ => by rw [List.length_eraseIdx, if_pos (by omega)]
  have fin : ∀ h2, xFix h2 → xsm (ALC h a) h h2 → xnx h2 = xnx h → xsl h2 = xsl h → xpl h2 a 0 = D → (∀ j : Int, 0 ≤ j → j < es.length - 1 → xpl h2 D j = if j < i then xpl h D j else xpl h D (j + 1)) → xwp G m_ArrayList_fastRemove (d + 2) 34 [xR a, xR D, xZ, xI (es.length - 1)] [] h2 (fun v9 h9 => xwp G m_ArrayList_remove (d + 3) 24 [xZ, xZ, xZ, xR (xpl h D i)] (xpush v9 []) h9 Q X) X := by
    intro h2' F2 e n1 n2 p0 pe
    refine v_ArrayList_fastRemove_34 F2 ?_
    refine ⟨?_, ?_⟩
    · first | omega | (rw [e.tg h2]; exact h3) | (rw [e.tg hd.2.1]; exact h6) | (rw [e.ln hd.2.1]; omega)
    · refine ⟨?_, ?_⟩
      · first | omega | (rw [e.tg h2]; exact h3) | (rw [e.tg hd.2.1]; exact h6) | (rw [e.ln hd.2.1]; omega)
      · refine ⟨?_, ?_⟩
        · first | omega | (rw [e.tg h2]; exact h3) | (rw [e.tg hd.2.1]; exact h6) | (rw [e.ln hd.2.1]; omega)
        · refine ⟨?_, ?_⟩
          · first | omega | (rw [e.tg h2]; exact h3) | (rw [e.tg hd.2.1]; exact h6) | (rw [e.ln hd.2.1]; omega)
          · refine ⟨?_, ?_⟩
            · first | omega | (rw [e.tg h2]; exact h3) | (rw [e.tg hd.2.1]; exact h6) | (rw [e.ln hd.2.1]; omega)
            · refine ⟨?_, ?_⟩
              · first | omega | (rw [e.tg h2]; exact h3) | (rw [e.tg hd.2.1]; exact h6) | (rw [e.ln hd.2.1]; omega)
              · intro F9
                refine v_ArrayList_remove_24 F9 ?_
                refine hq _ F9 ((e.st (by decide) (Or.inl (Or.inl rfl))).st (by omega) (Or.inl (Or.inr ⟨h6, hd.2.2⟩))) n1 n2 ?_
                have g0 : ∀ k, xpl (xst (xst h2' a 1 (es.length - 1)) D (es.length - 1) (-1)) a k = xpl (xst h2' a 1 (es.length - 1)) a k := fun k => xpl_oa hne
                refine ⟨⟨h1, by show a < xnx h2'; omega, by show xtg h2' a = 13; rw [e.tg h2]; exact h3, ?_, ?_⟩, ?_, ?_, fun j hj => ?_, fun x hx => ?_⟩
                · rw [g0, xpl_hit, hel 0]; omega
                · rw [hel 0]; omega
                · rw [g0, xpl_ok (by decide), p0, hel 0]
                  show xtg h2' D = 110 ∧ _ ≤ xln h2' D ∧ xln h2' D ≤ 5000
                  rw [e.tg hd.2.1, e.ln hd.2.1]
                  exact ⟨h6, by omega, h8⟩
                · rw [g0, xpl_ok (by decide), p0]
                  refine Or.inr ⟨hd.1, by show D < xnx h2'; omega, ?_⟩
                  rw [xpl_ok (by omega), xpl_oa (fun z => hne z.symm), e.mkd hd.2.1]; exact hd.2.2
                · rw [hel 0] at hj
                  rw [g0, show xpl (xst h2' a 1 (es.length - 1)) a 0 = D from by rw [xpl_ok (by decide)]; exact p0]
                  rw [xpl_ok (by omega), xpl_oa (fun z => hne z.symm), pe j (by omega) (by omega), eraseIdx_at]
                  by_cases z : (j : Int) < i
                  · rw [if_pos z, if_pos (by omega)]; exact h10 j (by omega)
                  · rw [if_neg z, if_neg (by omega)]; exact h10 (j + 1) (by omega)
                · obtain ⟨x1, x2⟩ := h11 x (List.mem_of_mem_eraseIdx hx)
                  exact ⟨by show x < xnx h2'; omega, by show xaos (xtg h2' x) = true; rw [e.tg x1]; exact x2⟩
  refine v_ArrayList_remove_0 F ?_
  refine ⟨?_, ?_⟩
  · first | exact h3 | omega | (rw [← hD]; first | exact h6 | omega)
  · refine ⟨?_, ?_⟩
    · first | exact h3 | omega | (rw [← hD]; first | exact h6 | omega)
    · refine ⟨?_, ?_⟩
      · first | exact h3 | omega | (rw [← hD]; first | exact h6 | omega)
      · refine ⟨?_, ?_⟩
        · first | exact h3 | omega | (rw [← hD]; first | exact h6 | omega)
        · refine ⟨?_, ?_⟩
          · first | exact h3 | omega | (rw [← hD]; first | exact h6 | omega)
          · refine ⟨?_, ?_⟩
            · first | exact h3 | omega | (rw [← hD]; first | exact h6 | omega)
            · rw [← hD]
              have e0 : xsm (ALC h a) h (xst h a 2 (xw32 ((xpl h a 2) + 1))) := (xsm.refl h).st (by decide) (Or.inl (Or.inl rfl))
              have gD : ∀ k, xpl (xst h a 2 (xw32 ((xpl h a 2) + 1))) D k = xpl h D k := fun k => xpl_oa (fun z => hne z.symm)
              have g0 : xpl (xst h a 2 (xw32 ((xpl h a 2) + 1))) a 0 = D := by rw [xpl_ok (by decide)]; exact hD.symm
              refine v_ArrayList_fastRemove_0 F ?_
              refine ⟨?_, ?_⟩
              · first | exact h3 | exact h6 | exact h1 | omega | exact ⟨by omega, by omega⟩
              · refine ⟨?_, ?_⟩
                · first | exact h3 | exact h6 | exact h1 | omega | exact ⟨by omega, by omega⟩
                · refine ⟨?_, ?_⟩
                  · first | exact h3 | exact h6 | exact h1 | omega | exact ⟨by omega, by omega⟩
                  · refine ⟨fun q1 => ?_, fun q1 => ?_⟩
                    · intro F9
                      rw [h4] at q1 ⊢
                      refine fin _ F9 e0 rfl rfl g0 (fun j j0 j1 => ?_)
                      rw [gD, if_pos (by omega)]
                    · refine ⟨?_, ?_⟩
                      · first | exact h3 | exact h6 | exact h1 | omega | exact ⟨by omega, by omega⟩
                      · refine ⟨?_, ?_⟩
                        · first | exact h3 | exact h6 | exact h1 | omega | exact ⟨by omega, by omega⟩
                        · refine ⟨?_, ?_⟩
                          · first | exact h3 | exact h6 | exact h1 | omega | exact ⟨by omega, by omega⟩
                          · refine ⟨?_, ?_⟩
                            · first | exact h3 | exact h6 | exact h1 | omega | exact ⟨by omega, by omega⟩
                            · refine ⟨?_, ?_⟩
                              · first | exact h3 | exact h6 | exact h1 | omega | exact ⟨by omega, by omega⟩
                              · refine ⟨?_, ?_⟩
                                · rw [h4]; omega
                                · refine ⟨?_, ?_⟩
                                  · intro k k0 k1
                                    rw [gD]
                                    rw [h4] at k1
                                    have := h10 k.toNat (by omega)
                                    rw [show ((k.toNat : Nat) : Int) = k by omega] at this
                                    exact Or.inr (h11 _ (List.mem_of_getElem? this)).2
                                  · intro F9
                                    rw [h4] at F9 ⊢
                                    refine fin _ F9 (e0.up ?_ (Or.inl (Or.inr ⟨h6, hd.2.2⟩))) rfl rfl (by rw [xpl_up2 hne]; exact g0) (fun j j0 j1 => ?_)
                                    · unfold xcpf; rw [if_neg (by omega)]
                                    · rw [xpl_up1]; unfold xcpf; rw [gD, gD]
                                      by_cases z : j < i
                                      · rw [if_neg (by omega), if_pos z]
                                      · rw [if_pos (by omega), if_neg z]
                                        exact congrArg (xpl h D) (by omega)

end
