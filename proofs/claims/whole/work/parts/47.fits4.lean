/-! ===== fits4 ===== -/
section
def inF (t : PT) (x : Txt) : Bool := decide (0 < (fitF t 0 (rwT x 0)).1) || decide (0 < (fitF t 1 (rwT x 1)).1)
theorem p_Fits_isIn {G : XG} {d : Nat} {h : XH} {Q : XV → XH → Prop} {X : Nat → XH → Prop} {p : Int} {i : Nat} {t : PT} {f : List (Txt × Bool)} {x : Txt × Bool} (F : xFix h) (PR : PartR h p t) (P : PFit h p t f) (hx : f[i]? = some x) (hq : Q (xI (b2i (inF t x.1))) h) : xwp G m_Fits_isIn (d + 3) 0 [xR 41, xR p, xI i] [] h Q X := by
  obtain ⟨⟨a1, -⟩, ⟨b1, -⟩⟩ := P.1 i x hx
  have e0 := PR.2.1 0 (by decide) (by decide) (by decide)
  rw [← e0] at a1 b1
  unfold inF at hq
  refine v_Fits_isIn_0 F ?_
  refine ⟨?_, ?_⟩
  · first | exact PR.1.2.2 | exact ⟨by decide, by decide⟩ | omega
  · refine ⟨?_, ?_⟩
    · first | exact PR.1.2.2 | exact ⟨by decide, by decide⟩ | omega
    · refine ⟨fun q1 => ?_, fun q1 => ?_⟩
      · rw [a1] at q1; rw [decide_eq_true q1, Bool.true_or] at hq; exact hq
      · refine ⟨?_, ?_⟩
        · first | exact PR.1.2.2 | exact ⟨by decide, by decide⟩ | omega
        · refine ⟨fun q2 => ?_, fun q2 => ?_⟩
          · rw [a1] at q1; rw [b1] at q2; rw [decide_eq_false q1, decide_eq_false (by omega)] at hq; exact hq
          · rw [a1] at q1; rw [b1] at q2; rw [decide_eq_false q1, decide_eq_true (by omega)] at hq; exact hq
def uwF (f : List (Txt × Bool)) (t : PT) (x : Txt) : Int :=
  min (2 * fwF (rrF f.length (hoF t 0 f)) (fitF t 0 (rwT x 0)).1 (rwT x 0).length (mlF f 0) + fwF (rrF f.length (hoF t 1 f)) (fitF t 1 (rwT x 1)).1 (rwT x 1).length (mlF f 1)) 1000000
theorem p_Fits_unitWeight {G : XG} {d : Nat} {h : XH} {Q : XV → XH → Prop} {X : Nat → XH → Prop} {p tp : Int} {i : Nat} {t : PT} {f : List (Txt × Bool)} {x : Txt × Bool} (F : xFix h) (PR : PartR h p t) (P : PFit h p t f) (M : xpl h 44 0 = mlF f 0 ∧ xpl h 44 1 = mlF f 1) (hf : f.length ≤ 60) (hx : f[i]? = some x) (T : TxtR h tp x.1) (hq : Q (xI (uwF f t x.1)) h) : xwp G m_Fits_unitWeight (d + 3) 0 [xR 41, xR p, xI i, xR tp, xZ, xZ, xZ, xZ] [] h Q X := by
  obtain ⟨⟨a1, -⟩, ⟨b1, -⟩⟩ := P.1 i x hx
  have e0 := PR.2.1 0 (by decide) (by decide) (by decide)
  rw [← e0] at a1 b1
  have r0 := T.row 0
  have r1 := T.row 1
  have t0 : txr h tp 0 = xpl h tp 3 := rfl
  have t1 : txr h tp 1 = xpl h tp 4 := rfl
  rw [t0] at r0
  rw [t1] at r1
  have g0 := fitF_rng t 0 (rwT x.1 0)
  have g1 := fitF_rng t 1 (rwT x.1 1)
  have l0 := r0.2.2.2.1.2.1
  have l1 := r1.2.2.2.1.2.1
  have m0 := r0.2.2.2.2
  have m1 := r1.2.2.2.2
  have h0 := hoF_rng t 0 f
  have h1 := hoF_rng t 1 f
  have p0 := rrF_rng (n := f.length) (m := hoF t 0 f) (by omega) h0.1
  have p1 := rrF_rng (n := f.length) (m := hoF t 1 f) (by omega) h1.1
  have w0 := fwF_rng (r := rrF f.length (hoF t 0 f)) (c := (fitF t 0 (rwT x.1 0)).1) (l := (rwT x.1 0).length) (m := mlF f 0) (by omega) (by omega) (by omega) (by omega)
  have w1 := fwF_rng (r := rrF f.length (hoF t 1 f)) (c := (fitF t 1 (rwT x.1 1)).1) (l := (rwT x.1 1).length) (m := mlF f 1) (by omega) (by omega) (by omega) (by omega)
  have hq2 : Q (xI (min (2 * fwF (xpl h p 11) (xpl h 42 (slF (xpl h p 0) i * 2 + 0)) (xln h (xpl h tp 3)) (xpl h 44 0) + fwF (xpl h p 12) (xpl h 42 (slF (xpl h p 0) i * 2 + 1)) (xln h (xpl h tp 4)) (xpl h 44 1)) 1000000)) h := by
    rw [P.2.1, P.2.2, a1, b1, l0, l1, M.1, M.2]; exact hq
  have c11 := P.2.1
  have c12 := P.2.2
  rw [← c11, ← a1, ← l0, ← M.1] at w0
  rw [← c12, ← b1, ← l1, ← M.2] at w1
  refine v_Fits_unitWeight_0 F ?_
  refine ⟨?_, ?_⟩
  · first | exact PR.1.2.2 | exact T.1.2.2 | exact r0.2.2.2.1.1 | exact r1.2.2.2.1.1 | exact ⟨by decide, by decide⟩ | exact ⟨by omega, by omega⟩ | omega
  · refine ⟨?_, ?_⟩
    · first | exact PR.1.2.2 | exact T.1.2.2 | exact r0.2.2.2.1.1 | exact r1.2.2.2.1.1 | exact ⟨by decide, by decide⟩ | exact ⟨by omega, by omega⟩ | omega
    · refine ⟨?_, ?_⟩
      · first | exact PR.1.2.2 | exact T.1.2.2 | exact r0.2.2.2.1.1 | exact r1.2.2.2.1.1 | exact ⟨by decide, by decide⟩ | exact ⟨by omega, by omega⟩ | omega
      · refine ⟨?_, ?_⟩
        · first | exact PR.1.2.2 | exact T.1.2.2 | exact r0.2.2.2.1.1 | exact r1.2.2.2.1.1 | exact ⟨by decide, by decide⟩ | exact ⟨by omega, by omega⟩ | omega
        · refine ⟨?_, ?_⟩
          · first | exact PR.1.2.2 | exact T.1.2.2 | exact r0.2.2.2.1.1 | exact r1.2.2.2.1.1 | exact ⟨by decide, by decide⟩ | exact ⟨by omega, by omega⟩ | omega
          · refine ⟨?_, ?_⟩
            · first | exact PR.1.2.2 | exact T.1.2.2 | exact r0.2.2.2.1.1 | exact r1.2.2.2.1.1 | exact ⟨by decide, by decide⟩ | exact ⟨by omega, by omega⟩ | omega
            · refine ⟨?_, ?_⟩
              · first | exact PR.1.2.2 | exact T.1.2.2 | exact r0.2.2.2.1.1 | exact r1.2.2.2.1.1 | exact ⟨by decide, by decide⟩ | exact ⟨by omega, by omega⟩ | omega
              · refine ⟨?_, ?_⟩
                · first | exact PR.1.2.2 | exact T.1.2.2 | exact r0.2.2.2.1.1 | exact r1.2.2.2.1.1 | exact ⟨by decide, by decide⟩ | exact ⟨by omega, by omega⟩ | omega
                · refine ⟨?_, ?_⟩
                  · first | exact PR.1.2.2 | exact T.1.2.2 | exact r0.2.2.2.1.1 | exact r1.2.2.2.1.1 | exact ⟨by decide, by decide⟩ | exact ⟨by omega, by omega⟩ | omega
                  · refine ⟨?_, ?_⟩
                    · first | exact PR.1.2.2 | exact T.1.2.2 | exact r0.2.2.2.1.1 | exact r1.2.2.2.1.1 | exact ⟨by decide, by decide⟩ | exact ⟨by omega, by omega⟩ | omega
                    · refine ⟨?_, ?_⟩
                      · first | exact PR.1.2.2 | exact T.1.2.2 | exact r0.2.2.2.1.1 | exact r1.2.2.2.1.1 | exact ⟨by decide, by decide⟩ | exact ⟨by omega, by omega⟩ | omega
                      · refine ⟨?_, ?_⟩
                        · first | exact PR.1.2.2 | exact T.1.2.2 | exact r0.2.2.2.1.1 | exact r1.2.2.2.1.1 | exact ⟨by decide, by decide⟩ | exact ⟨by omega, by omega⟩ | omega
                        · refine ⟨?_, ?_⟩
                          · first | exact PR.1.2.2 | exact T.1.2.2 | exact r0.2.2.2.1.1 | exact r1.2.2.2.1.1 | exact ⟨by decide, by decide⟩ | exact ⟨by omega, by omega⟩ | omega
                          · refine ⟨?_, ?_⟩
                            · first | exact PR.1.2.2 | exact T.1.2.2 | exact r0.2.2.2.1.1 | exact r1.2.2.2.1.1 | exact ⟨by decide, by decide⟩ | exact ⟨by omega, by omega⟩ | omega
                            · refine ⟨?_, ?_⟩
                              · first | exact PR.1.2.2 | exact T.1.2.2 | exact r0.2.2.2.1.1 | exact r1.2.2.2.1.1 | exact ⟨by decide, by decide⟩ | exact ⟨by omega, by omega⟩ | omega
                              · refine ⟨?_, ?_⟩
                                · first | exact PR.1.2.2 | exact T.1.2.2 | exact r0.2.2.2.1.1 | exact r1.2.2.2.1.1 | exact ⟨by decide, by decide⟩ | exact ⟨by omega, by omega⟩ | omega
                                · refine ⟨?_, ?_⟩
                                  · first | exact PR.1.2.2 | exact T.1.2.2 | exact r0.2.2.2.1.1 | exact r1.2.2.2.1.1 | exact ⟨by decide, by decide⟩ | exact ⟨by omega, by omega⟩ | omega
                                  · refine ⟨?_, ?_⟩
                                    · first | exact PR.1.2.2 | exact T.1.2.2 | exact r0.2.2.2.1.1 | exact r1.2.2.2.1.1 | exact ⟨by decide, by decide⟩ | exact ⟨by omega, by omega⟩ | omega
                                    · refine ⟨?_, ?_⟩
                                      · first | exact PR.1.2.2 | exact T.1.2.2 | exact r0.2.2.2.1.1 | exact r1.2.2.2.1.1 | exact ⟨by decide, by decide⟩ | exact ⟨by omega, by omega⟩ | omega
                                      · refine ⟨?_, ?_⟩
                                        · first | exact PR.1.2.2 | exact T.1.2.2 | exact r0.2.2.2.1.1 | exact r1.2.2.2.1.1 | exact ⟨by decide, by decide⟩ | exact ⟨by omega, by omega⟩ | omega
                                        · refine ⟨?_, ?_⟩
                                          · first | exact PR.1.2.2 | exact T.1.2.2 | exact r0.2.2.2.1.1 | exact r1.2.2.2.1.1 | exact ⟨by decide, by decide⟩ | exact ⟨by omega, by omega⟩ | omega
                                          · exact hq2
def foF1 (l : Int) (t : PT) (x : Txt) (fl : Int) : Int :=
  if t.1 3 = 0 then (if (fitF t fl (rwT x fl)).2 = -1 then l else if l = -1 then (fitF t fl (rwT x fl)).2 else if (fitF t fl (rwT x fl)).2 < l then (fitF t fl (rwT x fl)).2 else l) else l
def foN (D : DR) (x : Txt) (fl : Int) : List Nat → Int → Int
  | [], l => l
  | n :: r, l => foN D x fl r (match D.1[n]? with | some t => foF1 l t x fl | none => l)
def foQ (D : DR) (x : Txt) (fl : Int) : List (List Nat) → Int → Int
  | [], l => l
  | ns :: r, l => foQ D x fl r (foN D x fl ns l)
theorem p_Fits_firstOfAll {G : XG} {d : Nat} {h : XH} {Q : XV → XH → Prop} {X : Nat → XH → Prop} {a fl : Int} {i : Nat} {qa pa : List Int} {D : DR} {f : List (Txt × Bool)} {x : Txt × Bool} (F : xFix h) (W : DraR h a qa pa D) (P : FitsR h pa D f) (hx : f[i]? = some x) (hf : fl = 0 ∨ fl = 1) (hq : Q (xI (foQ D x.1 fl D.2 (-1))) h) : xwp G m_Fits_firstOfAll (d + 4) 0 [xR 41, xR a, xI i, xI fl, xZ, xZ, xZ, xZ, xZ, xZ] [] h Q X := by
  have inner : ∀ (m k j : Nat) (l : Int) (ns : List Nat), D.2[j]? = some ns → k + m = ns.length → xwp G m_Fits_firstOfAll (d + 4) 6 [xR 41, xR a, xI i, xI fl, xI (foN D x.1 fl (ns.drop k) l), xI ((j : Int) + 1), xZ, xZ, xZ, xZ] [] h Q X → xwp G m_Fits_firstOfAll (d + 4) 32 [xR 41, xR a, xI i, xI fl, xI l, xI j, xR (xpl h (alg h a j) 0), xI k, xZ, xZ] [] h Q X := by
    intro m
    induction m with
    | zero =>
      intro k j l ns hj e hk
      obtain ⟨ns', y1, y2, y3, y4, y5, y6, y7⟩ := W.q (i := j) (List.getElem?_eq_some_iff.mp hj).1
      rw [hj] at y1
      cases y1
      have hsz := y5.sz
      rw [List.length_map] at hsz
      have hil := (List.getElem?_eq_some_iff.mp hj).1
      have h41 := W.1.2.2.2
      rw [List.drop_eq_nil_of_le (by omega)] at hk
      refine v_Fits_firstOfAll_32 F ?_
      refine ⟨?_, ?_⟩
      · first | exact y5.1.2.2.1 | exact y5.ok | exact ⟨by omega, by omega⟩ | omega
      · refine ⟨?_, ?_⟩
        · first | exact y5.1.2.2.1 | exact y5.ok | exact ⟨by omega, by omega⟩ | omega
        · refine ⟨fun q1 => ?_, fun q1 => ?_⟩
          · refine ⟨?_, ?_⟩
            · first | exact y5.1.2.2.1 | exact y5.ok | exact ⟨by omega, by omega⟩ | omega
            · exact hk
          · refine ⟨?_, ?_⟩
            · first | exact y5.1.2.2.1 | exact y5.ok | exact ⟨by omega, by omega⟩ | omega
            · refine ⟨?_, ?_⟩
              · first | exact y5.1.2.2.1 | exact y5.ok | exact ⟨by omega, by omega⟩ | omega
              · refine ⟨fun q2 => ?_, fun q2 => ?_⟩
                · refine ⟨?_, ?_⟩
                  · first | exact y5.1.2.2.1 | exact y5.ok | exact ⟨by omega, by omega⟩ | omega
                  · refine ⟨?_, ?_⟩
                    · first | exact y5.1.2.2.1 | exact y5.ok | exact ⟨by omega, by omega⟩ | omega
                    · refine ⟨?_, ?_⟩
                      · first | exact y5.1.2.2.1 | exact y5.ok | exact ⟨by omega, by omega⟩ | omega
                      · refine ⟨?_, ?_⟩
                        · first | exact y5.1.2.2.1 | exact y5.ok | exact ⟨by omega, by omega⟩ | omega
                        · omega
                · omega
    | succ m ih =>
      intro k j l ns hj e hk
      obtain ⟨ns', y1, y2, y3, y4, y5, y6, y7⟩ := W.q (i := j) (List.getElem?_eq_some_iff.mp hj).1
      rw [hj] at y1
      cases y1
      have hsz := y5.sz
      rw [List.length_map] at hsz
      obtain ⟨n, t, g1, g2, g3, g4, g5, g6⟩ := W.p y5 y6 (k := k) (by omega)
      obtain ⟨z1, z2⟩ := List.getElem?_eq_some_iff.mp g1
      have hm : n ∈ ns := List.mem_of_getElem? g1
      have PF := P.2 j ns n _ t hj hm g2 g3
      obtain ⟨⟨-, a2⟩, ⟨-, b2⟩⟩ := PF.1 i x hx
      have e0 := g4.2.1 0 (by decide) (by decide) (by decide)
      have e3 := g4.2.1 3 (by decide) (by decide) (by decide)
      have a43 : xpl h 43 (slF (xpl h (alg h (xpl h (alg h a j) 0) k) 0) i * 2 + fl) = (fitF t fl (rwT x.1 fl)).2 := by
        rw [e0]
        rcases hf with hf | hf
        · rw [hf]; exact a2
        · rw [hf]; exact b2
      rw [List.drop_eq_getElem_cons z1, z2] at hk
      have hk2 : xwp G m_Fits_firstOfAll (d + 4) 6 [xR 41, xR a, xI i, xI fl, xI (foN D x.1 fl (ns.drop (k + 1)) (foF1 l t x.1 fl)), xI ((j : Int) + 1), xZ, xZ, xZ, xZ] [] h Q X := by
        have : foN D x.1 fl (n :: ns.drop (k + 1)) l = foN D x.1 fl (ns.drop (k + 1)) (match D.1[n]? with | some t => foF1 l t x.1 fl | none => l) := rfl
        rw [this, g3] at hk
        exact hk
      have hsl := slF_rng (xpl h (alg h (xpl h (alg h a j) 0) k) 0) i
      have rek : ∀ v, foF1 l t x.1 fl = v → xwp G m_Fits_firstOfAll (d + 4) 32 [xR 41, xR a, xI i, xI fl, xI v, xI j, xR (xpl h (alg h a j) 0), xI ((k : Int) + 1), xZ, xZ] [] h Q X := fun v hv => by
        subst hv
        exact ih (k + 1) j _ ns hj (by omega) hk2
      unfold foF1 at rek
      refine v_Fits_firstOfAll_32 F ?_
      refine ⟨?_, ?_⟩
      · first | exact y5.1.2.2.1 | exact y5.ok | exact g4.1.2.2 | exact ⟨by omega, by omega⟩ | omega
      · refine ⟨?_, ?_⟩
        · first | exact y5.1.2.2.1 | exact y5.ok | exact g4.1.2.2 | exact ⟨by omega, by omega⟩ | omega
        · refine ⟨fun q1 => ?_, fun q1 => ?_⟩
          · refine ⟨?_, ?_⟩
            · first | exact y5.1.2.2.1 | exact y5.ok | exact g4.1.2.2 | exact ⟨by omega, by omega⟩ | omega
            · omega
          · refine ⟨?_, ?_⟩
            · first | exact y5.1.2.2.1 | exact y5.ok | exact g4.1.2.2 | exact ⟨by omega, by omega⟩ | omega
            · refine ⟨?_, ?_⟩
              · first | exact y5.1.2.2.1 | exact y5.ok | exact g4.1.2.2 | exact ⟨by omega, by omega⟩ | omega
              · refine ⟨fun q2 => ?_, fun q2 => ?_⟩
                · refine ⟨?_, ?_⟩
                  · first | exact y5.1.2.2.1 | exact y5.ok | exact g4.1.2.2 | exact ⟨by omega, by omega⟩ | omega
                  · refine ⟨?_, ?_⟩
                    · first | exact y5.1.2.2.1 | exact y5.ok | exact g4.1.2.2 | exact ⟨by omega, by omega⟩ | omega
                    · refine ⟨?_, ?_⟩
                      · first | exact y5.1.2.2.1 | exact y5.ok | exact g4.1.2.2 | exact ⟨by omega, by omega⟩ | omega
                      · refine ⟨?_, ?_⟩
                        · first | exact y5.1.2.2.1 | exact y5.ok | exact g4.1.2.2 | exact ⟨by omega, by omega⟩ | omega
                        · rw [a43]
                          rw [e3] at q2
                          rw [if_pos q2] at rek
                          refine v_Fits_firstOfAll_78 F ?_
                          refine ⟨fun q1 => ?_, fun q1 => ?_⟩
                          · refine ⟨?_, ?_⟩
                            · exact ⟨by omega, by omega⟩
                            · exact rek _ (by rw [if_pos q1])
                          · refine ⟨fun q2 => ?_, fun q2 => ?_⟩
                            · refine ⟨?_, ?_⟩
                              · exact ⟨by omega, by omega⟩
                              · exact rek _ (by rw [if_neg q1, if_pos q2])
                            · refine ⟨fun q3 => ?_, fun q3 => ?_⟩
                              · refine ⟨?_, ?_⟩
                                · exact ⟨by omega, by omega⟩
                                · exact rek _ (by rw [if_neg q1, if_neg q2, if_neg (by omega)])
                              · refine ⟨?_, ?_⟩
                                · exact ⟨by omega, by omega⟩
                                · exact rek _ (by rw [if_neg q1, if_neg q2, if_pos (by omega)])
                · rw [e3] at q2
                  rw [if_neg q2] at rek
                  refine v_Fits_firstOfAll_78 F ?_
                  refine ⟨fun q1 => ?_, fun q1 => ?_⟩
                  · refine ⟨?_, ?_⟩
                    · exact ⟨by omega, by omega⟩
                    · exact rek _ rfl
                  · refine ⟨fun q2 => ?_, fun q2 => ?_⟩
                    · refine ⟨?_, ?_⟩
                      · exact ⟨by omega, by omega⟩
                      · omega
                    · refine ⟨fun q3 => ?_, fun q3 => ?_⟩
                      · refine ⟨?_, ?_⟩
                        · exact ⟨by omega, by omega⟩
                        · omega
                      · refine ⟨?_, ?_⟩
                        · exact ⟨by omega, by omega⟩
                        · omega
  have outer : ∀ (m j : Nat) (l : Int), j + m = D.2.length → foQ D x.1 fl (D.2.drop j) l = foQ D x.1 fl D.2 (-1) → xwp G m_Fits_firstOfAll (d + 4) 6 [xR 41, xR a, xI i, xI fl, xI l, xI j, xZ, xZ, xZ, xZ] [] h Q X := by
    intro m
    induction m with
    | zero =>
      intro j l e hv
      have hsz := W.1.1.sz
      have hln := W.1.2.2.1
      rw [List.drop_eq_nil_of_le (by omega)] at hv
      have hv2 : l = foQ D x.1 fl D.2 (-1) := hv
      refine v_Fits_firstOfAll_6 F ?_
      refine ⟨?_, ?_⟩
      · first | exact W.1.1.1.2.2.1 | exact W.1.1.ok | omega
      · refine ⟨?_, ?_⟩
        · first | exact W.1.1.1.2.2.1 | exact W.1.1.ok | omega
        · refine ⟨fun q1 => ?_, fun q1 => ?_⟩
          · rw [hv2]; exact hq
          · refine ⟨?_, ?_⟩
            · first | exact W.1.1.1.2.2.1 | exact W.1.1.ok | omega
            · refine ⟨?_, ?_⟩
              · first | exact W.1.1.1.2.2.1 | exact W.1.1.ok | omega
              · omega
    | succ m ih =>
      intro j l e hv
      have hsz := W.1.1.sz
      have hln := W.1.2.2.1
      obtain ⟨ns, y1, y2, y3, y4, y5, y6, y7⟩ := W.q (i := j) (by omega)
      obtain ⟨z1, z2⟩ := List.getElem?_eq_some_iff.mp y1
      rw [List.drop_eq_getElem_cons z1, z2] at hv
      have hv2 : foQ D x.1 fl (D.2.drop (j + 1)) (foN D x.1 fl ns l) = foQ D x.1 fl D.2 (-1) := hv
      refine v_Fits_firstOfAll_6 F ?_
      refine ⟨?_, ?_⟩
      · first | exact W.1.1.1.2.2.1 | exact W.1.1.ok | exact y3.2.2 | omega
      · refine ⟨?_, ?_⟩
        · first | exact W.1.1.1.2.2.1 | exact W.1.1.ok | exact y3.2.2 | omega
        · refine ⟨fun q1 => ?_, fun q1 => ?_⟩
          · omega
          · refine ⟨?_, ?_⟩
            · first | exact W.1.1.1.2.2.1 | exact W.1.1.ok | exact y3.2.2 | omega
            · refine ⟨?_, ?_⟩
              · first | exact W.1.1.1.2.2.1 | exact W.1.1.ok | exact y3.2.2 | omega
              · exact inner ns.length 0 j l ns y1 (by omega) (ih (j + 1) _ (by omega) hv2)
  refine v_Fits_firstOfAll_0 F ?_
  exact outer D.2.length 0 (-1) (by omega) rfl

end
