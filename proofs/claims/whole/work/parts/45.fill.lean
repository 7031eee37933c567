/-! ===== fill ===== -/
section
theorem tabA.keep {h h' : XH} {n i fl : Int} {m : MR} (T : tabA h n i fl m) (e2 : xpl h' 42 (slF n i * 2 + fl) = xpl h 42 (slF n i * 2 + fl)) (e3 : xpl h' 43 (slF n i * 2 + fl) = xpl h 43 (slF n i * 2 + fl)) : tabA h' n i fl m := ⟨e2.trans T.1, e3.trans T.2⟩
theorem s_Fits_fill1 {G : XG} {d : Nat} {h : XH} {Q : XV → XH → Prop} {X : Nat → XH → Prop} {p l : Int} {k i : Nat} {t : PT} {fp es : List Int} {f : List (Txt × Bool)} {a : Int} (F : xFix h) (PR : PartR h p t) (ok : PTok t) (R : FilR h fp f) (L : ALr h l es) (hk : k < es.length) (hp : alg h l k = p)
    (hq : ∀ h', xFix h' → xsm (fun c => FPW c ∨ c = p) h h' → (∀ j, j ≤ 10 → xpl h' p j = xpl h p j) → PFit h' p t f → (∀ p' t', p' ≠ p → 93 ≤ p' → p' < xnx h → t'.1 0 ≠ t.1 0 → PTok t' → PFit h p' t' f → PFit h' p' t' f) → xnx h' = xnx h → xsl h' = xsl h → xwp G m_Fits_fill (d + 6) 50 [xR 41, xR a, xR 7, xI i, xR l, xI ((k : Int) + 1), xZ] [] h' Q X) :
    xwp G m_Fits_fill (d + 6) 50 [xR 41, xR a, xR 7, xI i, xR l, xI k, xZ] [] h Q X := by
  have hnx := F.nx
  have h60 := R.2.2.1
  have hszL := L.sz
  have okn := ok.1
  have p93 := PR.1.1
  have hof0 := hoF_rng t 0 f
  have hof1 := hoF_rng t 1 f
  refine v_Fits_fill_50 F ?_
  refine ⟨?_, ?_⟩
  · first | exact L.1.2.2.1 | exact L.ok | exact ft_7 F | exact R.1.ok | (rw [hp]; exact PR.1.2.2) | omega
  · refine ⟨?_, ?_⟩
    · first | exact L.1.2.2.1 | exact L.ok | exact ft_7 F | exact R.1.ok | (rw [hp]; exact PR.1.2.2) | omega
    · refine ⟨fun q1 => ?_, fun q1 => ?_⟩
      · refine ⟨?_, ?_⟩
        · first | exact L.1.2.2.1 | exact L.ok | exact ft_7 F | exact R.1.ok | (rw [hp]; exact PR.1.2.2) | omega
        · omega
      · refine ⟨?_, ?_⟩
        · first | exact L.1.2.2.1 | exact L.ok | exact ft_7 F | exact R.1.ok | (rw [hp]; exact PR.1.2.2) | omega
        · refine ⟨?_, ?_⟩
          · first | exact L.1.2.2.1 | exact L.ok | exact ft_7 F | exact R.1.ok | (rw [hp]; exact PR.1.2.2) | omega
          · refine ⟨?_, ?_⟩
            · first | exact L.1.2.2.1 | exact L.ok | exact ft_7 F | exact R.1.ok | (rw [hp]; exact PR.1.2.2) | omega
            · refine ⟨?_, ?_⟩
              · first | exact L.1.2.2.1 | exact L.ok | exact ft_7 F | exact R.1.ok | (rw [hp]; exact PR.1.2.2) | omega
              · rw [hp]
                have hsz := R.1.sz
                have hln := R.2.1
                have e7 : als h 7 = f.length := by omega
                refine s_Fits_fillPart F PR ok R (Or.inl rfl) (fun h3 F3 S3 T3 K3 n3 l3 => ?_)
                have PR3 := PR.fp S3
                have R3 := R.fp F S3
                have hsz3 := R3.1.sz
                rw [e7]
                have G4 : xFix (xst h3 p 11 (rrF f.length (hoF t 0 f))) → xsm (fun c => FPW c ∨ c = p) h (xst h3 p 11 (rrF f.length (hoF t 0 f))) := fun _ => (S3.mono (fun c _ w => Or.inl w)).trans (xs1 (k := 11) (Or.inr rfl))
                refine v_Fits_fill_86 F3 ?_
                refine ⟨?_, ?_⟩
                · first | omega | exact PR3.1.2.2 | exact ft_7 F3 | (exact ALr.ok (R3.1.frame F3 (xsm.st (C := fun c => c = p) (xsm.refl h3) (by decide) (Or.inl rfl)) (fun c w v => by have v : c = p := v; rcases w with w | ⟨w, -⟩; exact absurd w (by omega); rw [v, PR3.1.2.2] at w; cases w)))
                · refine ⟨?_, ?_⟩
                  · first | omega | exact PR3.1.2.2 | exact ft_7 F3 | (exact ALr.ok (R3.1.frame F3 (xsm.st (C := fun c => c = p) (xsm.refl h3) (by decide) (Or.inl rfl)) (fun c w v => by have v : c = p := v; rcases w with w | ⟨w, -⟩; exact absurd w (by omega); rw [v, PR3.1.2.2] at w; cases w)))
                  · refine ⟨?_, ?_⟩
                    · first | omega | exact PR3.1.2.2 | exact ft_7 F3 | (exact ALr.ok (R3.1.frame F3 (xsm.st (C := fun c => c = p) (xsm.refl h3) (by decide) (Or.inl rfl)) (fun c w v => by have v : c = p := v; rcases w with w | ⟨w, -⟩; exact absurd w (by omega); rw [v, PR3.1.2.2] at w; cases w)))
                    · refine ⟨?_, ?_⟩
                      · first | omega | exact PR3.1.2.2 | exact ft_7 F3 | (exact ALr.ok (R3.1.frame F3 (xsm.st (C := fun c => c = p) (xsm.refl h3) (by decide) (Or.inl rfl)) (fun c w v => by have v : c = p := v; rcases w with w | ⟨w, -⟩; exact absurd w (by omega); rw [v, PR3.1.2.2] at w; cases w)))
                      · refine ⟨?_, ?_⟩
                        · first | omega | exact PR3.1.2.2 | exact ft_7 F3 | (exact ALr.ok (R3.1.frame F3 (xsm.st (C := fun c => c = p) (xsm.refl h3) (by decide) (Or.inl rfl)) (fun c w v => by have v : c = p := v; rcases w with w | ⟨w, -⟩; exact absurd w (by omega); rw [v, PR3.1.2.2] at w; cases w)))
                        · refine ⟨?_, ?_⟩
                          · first | omega | exact PR3.1.2.2 | exact ft_7 F3 | (exact ALr.ok (R3.1.frame F3 (xsm.st (C := fun c => c = p) (xsm.refl h3) (by decide) (Or.inl rfl)) (fun c w v => by have v : c = p := v; rcases w with w | ⟨w, -⟩; exact absurd w (by omega); rw [v, PR3.1.2.2] at w; cases w)))
                          · refine ⟨?_, ?_⟩
                            · first | omega | exact PR3.1.2.2 | exact ft_7 F3 | (exact ALr.ok (R3.1.frame F3 (xsm.st (C := fun c => c = p) (xsm.refl h3) (by decide) (Or.inl rfl)) (fun c w v => by have v : c = p := v; rcases w with w | ⟨w, -⟩; exact absurd w (by omega); rw [v, PR3.1.2.2] at w; cases w)))
                            · refine ⟨?_, ?_⟩
                              · first | omega | exact PR3.1.2.2 | exact ft_7 F3 | (exact ALr.ok (R3.1.frame F3 (xsm.st (C := fun c => c = p) (xsm.refl h3) (by decide) (Or.inl rfl)) (fun c w v => by have v : c = p := v; rcases w with w | ⟨w, -⟩; exact absurd w (by omega); rw [v, PR3.1.2.2] at w; cases w)))
                              · intro F9
                                have F4 := F9
                                have e7b : als (xst h3 p 11 (rrF f.length (hoF t 0 f))) 7 = f.length := by
                                  have : xpl (xst h3 p 11 (rrF f.length (hoF t 0 f))) 7 1 = xpl h3 7 1 := by rw [xpl_st, if_neg (by omega)]
                                  have h9 : als h3 7 = f.length := by have := R3.2.1; omega
                                  exact this.trans h9
                                rw [e7b]
                                have S4 : xsm (fun c => c = p) h3 (xst h3 p 11 (rrF f.length (hoF t 0 f))) := xs1 (k := 11) rfl
                                obtain ⟨H4, hH4⟩ : ∃ H4, H4 = xst h3 p 11 (rrF f.length (hoF t 0 f)) := ⟨_, rfl⟩
                                have q4 : ∀ c j, c ≠ p → xpl H4 c j = xpl h3 c j := fun c j hc => by rw [hH4, xpl_st, if_neg (fun y => hc y.1)]
                                have q4p : ∀ j, j ≠ 11 → xpl H4 p j = xpl h3 p j := fun j hj => by rw [hH4, xpl_st, if_neg (fun y => hj y.2)]
                                have q411 : xpl H4 p 11 = rrF f.length (hoF t 0 f) := by rw [hH4, xpl_st, if_pos ⟨rfl, rfl⟩]
                                have n4 : xnx H4 = xnx h3 := by rw [hH4]; rfl
                                have l4 : xsl H4 = xsl h3 := by rw [hH4]; rfl
                                rw [← hH4] at S4 F4 ⊢
                                have PR4 : PartR H4 p t := PR3.frame S4 (fun j _ j1 => q4p j (by omega)) (fun r r1 _ _ w => by have w : r = p := w; rw [w, PR3.1.2.2] at r1; cases r1)
                                have R4 : FilR H4 fp f := R3.frame F3 S4 (fun c w v => by
                                  have v : c = p := v
                                  rcases w with (w | ⟨w, -⟩) | w | ⟨w, -⟩
                                  · omega
                                  · rw [v, PR3.1.2.2] at w; cases w
                                  · rw [v, PR3.1.2.2] at w; cases w
                                  · rw [v, PR3.1.2.2] at w; cases w)
                                refine s_Fits_fillPart F4 PR4 ok R4 (Or.inr rfl) (fun h5 F5 S5 T5 K5 n5 l5 => ?_)
                                have PR5 := PR4.fp S5
                                refine v_Fits_fill_106 F5 ?_
                                refine ⟨?_, ?_⟩
                                · first | omega | exact PR5.1.2.2 | exact ⟨by have := L.1.2.2.2.2; omega, by have := L.1.2.2.2.2; omega⟩
                                · refine ⟨?_, ?_⟩
                                  · first | omega | exact PR5.1.2.2 | exact ⟨by have := L.1.2.2.2.2; omega, by have := L.1.2.2.2.2; omega⟩
                                  · refine ⟨?_, ?_⟩
                                    · first | omega | exact PR5.1.2.2 | exact ⟨by have := L.1.2.2.2.2; omega, by have := L.1.2.2.2.2; omega⟩
                                    · refine ⟨?_, ?_⟩
                                      · first | omega | exact PR5.1.2.2 | exact ⟨by have := L.1.2.2.2.2; omega, by have := L.1.2.2.2.2; omega⟩
                                      · refine ⟨?_, ?_⟩
                                        · first | omega | exact PR5.1.2.2 | exact ⟨by have := L.1.2.2.2.2; omega, by have := L.1.2.2.2.2; omega⟩
                                        · refine ⟨?_, ?_⟩
                                          · first | omega | exact PR5.1.2.2 | exact ⟨by have := L.1.2.2.2.2; omega, by have := L.1.2.2.2.2; omega⟩
                                          · refine ⟨?_, ?_⟩
                                            · first | omega | exact PR5.1.2.2 | exact ⟨by have := L.1.2.2.2.2; omega, by have := L.1.2.2.2.2; omega⟩
                                            · intro F9
                                              have F6 := F9
                                              have S6 : xsm (fun c => c = p) h5 (xst h5 p 12 (rrF f.length (hoF t 1 f))) := xs1 (k := 12) rfl
                                              obtain ⟨H6, hH6⟩ : ∃ H6, H6 = xst h5 p 12 (rrF f.length (hoF t 1 f)) := ⟨_, rfl⟩
                                              have q6 : ∀ c j, c ≠ p → xpl H6 c j = xpl h5 c j := fun c j hc => by rw [hH6, xpl_st, if_neg (fun y => hc y.1)]
                                              have q6p : ∀ j, j ≠ 12 → xpl H6 p j = xpl h5 p j := fun j hj => by rw [hH6, xpl_st, if_neg (fun y => hj y.2)]
                                              have q612 : xpl H6 p 12 = rrF f.length (hoF t 1 f) := by rw [hH6, xpl_st, if_pos ⟨rfl, rfl⟩]
                                              have n6 : xnx H6 = xnx h5 := by rw [hH6]; rfl
                                              have l6 : xsl H6 = xsl h5 := by rw [hH6]; rfl
                                              rw [← hH6] at S6 F6 ⊢
                                              have g5 : ∀ c j, 93 ≤ c → c < xnx h → xpl h5 c j = xpl H4 c j := fun c j c1 c2 => S5.pl (by omega) (fun w => by have := w.hi; omega) j
                                              have g3 : ∀ c j, 93 ≤ c → c < xnx h → xpl h3 c j = xpl h c j := fun c j c1 c2 => S3.pl (by omega) (fun w => by have := w.hi; omega) j
                                              have pn := PR.1.2.1
                                              have tk : ∀ c j, (c = 42 ∨ c = 43) → xpl H4 c j = xpl h3 c j ∧ xpl H6 c j = xpl h5 c j := fun c j hc => ⟨q4 c j (by omega), q6 c j (by omega)⟩
                                              refine hq H6 F6 ?_ (fun j hj => ?_) ⟨fun x y hxy => ⟨?_, ?_⟩, ?_, ?_⟩ (fun p' t' hp' p1 p2 ht' ok' hP => ?_) (by omega) (by omega)
                                              · exact (((S3.mono (fun c _ w => Or.inl w)).trans (S4.mono (fun c _ w => Or.inr w))).trans (S5.mono (fun c _ w => Or.inl w))).trans (S6.mono (fun c _ w => Or.inr w))
                                              · rw [q6p j (by omega), g5 p j p93 pn, q4p j (by omega), g3 p j p93 pn]
                                              · have hx := (List.getElem?_eq_some_iff.mp hxy).1
                                                have k5 := K5 (slF (t.1 0) x * 2 + 0) (fun z hz => slF_ne2 (Or.inl rfl) (Or.inr rfl) (by decide))
                                                exact (T3 x y hxy).keep (by rw [(tk 42 _ (Or.inl rfl)).2, k5.1, (tk 42 _ (Or.inl rfl)).1]) (by rw [(tk 43 _ (Or.inr rfl)).2, k5.2, (tk 43 _ (Or.inr rfl)).1])
                                              · exact (T5 x y hxy).keep (by rw [(tk 42 _ (Or.inl rfl)).2]) (by rw [(tk 43 _ (Or.inr rfl)).2])
                                              · rw [q6p 11 (by decide), g5 p 11 p93 pn]; exact q411
                                              · exact q612
                                              · obtain ⟨a1, a2, a3⟩ := hP
                                                refine ⟨fun x y hxy => ?_, ?_, ?_⟩
                                                · have hx := (List.getElem?_eq_some_iff.mp hxy).1
                                                  have okn' := ok'.1
                                                  obtain ⟨b1, b2⟩ := a1 x y hxy
                                                  have ne : ∀ (z : Nat) (fl fl' : Int), z < f.length → (fl = 0 ∨ fl = 1) → (fl' = 0 ∨ fl' = 1) → slF (t'.1 0) x * 2 + fl ≠ slF (t.1 0) z * 2 + fl' := fun z fl fl' hz h1 h2 => slF_ne okn' okn ht' (by omega) (by omega) h1 h2
                                                  have kp : ∀ fl : Int, (fl = 0 ∨ fl = 1) → (xpl H6 42 (slF (t'.1 0) x * 2 + fl) = xpl h 42 (slF (t'.1 0) x * 2 + fl) ∧ xpl H6 43 (slF (t'.1 0) x * 2 + fl) = xpl h 43 (slF (t'.1 0) x * 2 + fl)) := fun fl hfl => by
                                                    have k3 := K3 _ (fun z hz => ne z fl 0 hz hfl (Or.inl rfl))
                                                    have k5 := K5 _ (fun z hz => ne z fl 1 hz hfl (Or.inr rfl))
                                                    exact ⟨by rw [(tk 42 _ (Or.inl rfl)).2, k5.1, (tk 42 _ (Or.inl rfl)).1, k3.1], by rw [(tk 43 _ (Or.inr rfl)).2, k5.2, (tk 43 _ (Or.inr rfl)).1, k3.2]⟩
                                                  exact ⟨b1.keep (kp 0 (Or.inl rfl)).1 (kp 0 (Or.inl rfl)).2, b2.keep (kp 1 (Or.inr rfl)).1 (kp 1 (Or.inr rfl)).2⟩
                                                · rw [q6 p' 11 hp', g5 p' 11 p1 p2, q4 p' 11 hp', g3 p' 11 p1 p2]; exact a2
                                                · rw [q6 p' 12 hp', g5 p' 12 p1 p2, q4 p' 12 hp', g3 p' 12 p1 p2]; exact a3

end
