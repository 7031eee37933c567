/-! ===== voc2 ===== -/
section
/-- the room that the table's growth has taken is counted against its length -/
def VOB (h h' : XH) : Prop := xnx h' - vlen h' ≤ xnx h - vlen h ∧ xsl h' - 6 * vlen h' ≤ xsl h - 6 * vlen h ∧ vlen h ≤ vlen h'
theorem VOB.refl (h : XH) : VOB h h := ⟨by omega, by omega, by omega⟩
theorem VOB.trans {h h1 h2 : XH} (a : VOB h h1) (b : VOB h1 h2) : VOB h h2 := by
  obtain ⟨a1, a2, a3⟩ := a
  obtain ⟨b1, b2, b3⟩ := b
  exact ⟨by omega, by omega, by omega⟩
def VOroom (h : XH) : Prop := xnx h - vlen h + 32768 ≤ xKC ∧ xsl h - 6 * vlen h + 196608 ≤ xKS
theorem VOroom.of {h h' : XH} (r : VOroom h) (b : VOB h h') : VOroom h' := by
  obtain ⟨r1, r2⟩ := r
  obtain ⟨b1, b2, b3⟩ := b
  exact ⟨by omega, by omega⟩
theorem s_Voc_makeRoomAt {G : XG} {d : Nat} {h : XH} {Q : XV → XH → Prop} {X : Nat → XH → Prop} {k : Int} {V : List VE} (F : xFix h) (R : VocR h V) (k0 : 0 ≤ k) (k1 : k ≤ V.length) (hl : V.length ≤ 16000) (hr : VOroom h)
    (hq : ∀ h', xFix h' → xsm (VOW h) h h' → VOB h h' → vok h' → xpl h' 12 3 = V.length + 1 → (∀ (i : Nat) e, V[i]? = some e → xpl h' (xpl h' 12 0) (ins9 k i) = e.1 ∧ xpl h' (xpl h' 12 1) (ins9 k i) = e.2.1 ∧ xpl h' (xpl h' 12 2) (ins9 k i) = e.2.2) → Q xN h') : xwp G m_Vocabulary_makeRoomAt (d + 3) 0 [xR 12, xI k] [] h Q X := by
  have R0 := R
  obtain ⟨p0, hsz, hV⟩ := R
  obtain ⟨n1, n2, n3, n4, n5, n6⟩ := p0.ne
  have hnx := F.nx
  obtain ⟨w1, w2, w3⟩ := p0.w0
  obtain ⟨t, g, c1, c2, c3, ⟨d1, d2⟩, e, f⟩ := id p0
  obtain ⟨r1, r2⟩ := id hr
  unfold vlen at r1 r2
  refine v_Vocabulary_makeRoomAt_0 F p0 c1.1 c2.1 c3.1 e.1 e.2 f.1 f.2 ?_
  refine ⟨fun q1 => ?_, fun q1 => ?_⟩
  · exact s_Voc_shift F R0 k0 k1 (by unfold vlen; omega) (fun h' F' e' n' m' v' l' s' q' => hq h' F' e' ⟨by omega, by omega, by omega⟩ v' s' q')
  · have hfull : xln h (xpl h 12 0) = V.length := by omega
    refine s_copyOfJ F t.1 c1.2 (by omega) (by omega) (by omega) (by omega) (by omega) (by omega) (fun h1 F1 e1 q1n q1s q1t q1l q1g q1c => ?_)
    have a1 : ∀ a, a < xnx h → ∀ j, xpl h1 a j = xpl h a j := fun a ha => e1.pl ha (fun z => z.elim)
    have p121 : xpl h1 12 1 = xpl h 12 1 := a1 12 (by omega) 1
    have p122 : xpl h1 12 2 = xpl h 12 2 := a1 12 (by omega) 2
    have p123 : xpl h1 12 3 = V.length := (a1 12 (by omega) 3).trans hsz
    refine v_Vocabulary_makeRoomAt_26 F1 ?_
    refine ⟨?_, ?_⟩
    · first | exact (e1.tg (by omega)).trans (ft_12 F) | decide | exact ⟨by omega, by omega⟩
    · refine ⟨?_, ?_⟩
      · first | exact (e1.tg (by omega)).trans (ft_12 F) | decide | exact ⟨by omega, by omega⟩
      · refine ⟨?_, ?_⟩
        · first | exact (e1.tg (by omega)).trans (ft_12 F) | decide | exact ⟨by omega, by omega⟩
        · intro F9
          rw [p121, p123]
          have e2' : xsm (fun c => c = 12) h (xst h1 12 0 (xnx h)) := (e1.mono fun c _ z => z.elim).st (by decide) (Or.inl rfl)
          have n2' : xnx (xst h1 12 0 (xnx h)) = xnx h + 1 := q1n
          refine s_copyOfI F9 ((e2'.tg c2.2).trans t.2.1) (by omega) (by omega) (by omega) (by omega) (by rw [e2'.ln c2.2]; omega) (by omega) (by show xsl h1 + _ ≤ _; omega) (fun h2 F2 e2 q2n q2s q2t q2l q2g q2c => ?_)
          rw [n2'] at q2n q2t q2l q2g q2c ⊢
          have q2s' : xsl h2 = xsl h1 + V.length * 2 := q2s
          rw [e2'.ln c2.2] at q2c
          have a2 : ∀ a, a < xnx h + 1 → ∀ j, xpl h2 a j = xpl (xst h1 12 0 (xnx h)) a j := fun a ha => e2.pl (by rw [n2']; exact ha) (fun z => z.elim)
          have o2 : ∀ a, a < xnx h → a ≠ 12 → ∀ j, xpl h2 a j = xpl h a j := fun a ha hne j => by rw [a2 a (by omega), xpl_oa hne, a1 a ha]
          have p222 : xpl h2 12 2 = xpl h 12 2 := by rw [a2 12 (by omega), xpl_ok (by decide)]; exact p122
          have p223 : xpl h2 12 3 = V.length := by rw [a2 12 (by omega), xpl_ok (by decide)]; exact p123
          have p220 : xpl h2 12 0 = xnx h := by rw [a2 12 (by omega), xpl_hit]
          have e2h : xsm (fun c => c = 12) h h2 := e2'.then e2 (fun c _ z => z.elim)
          refine v_Vocabulary_makeRoomAt_43 F2 ?_
          refine ⟨?_, ?_⟩
          · first | exact (e2h.tg (by omega)).trans (ft_12 F) | decide | exact ⟨by omega, by omega⟩
          · refine ⟨?_, ?_⟩
            · first | exact (e2h.tg (by omega)).trans (ft_12 F) | decide | exact ⟨by omega, by omega⟩
            · refine ⟨?_, ?_⟩
              · first | exact (e2h.tg (by omega)).trans (ft_12 F) | decide | exact ⟨by omega, by omega⟩
              · intro F9
                rw [p222, p223]
                have e3' : xsm (fun c => c = 12) h (xst h2 12 1 (xnx h + 1)) := e2h.st (by decide) (Or.inl rfl)
                have n3' : xnx (xst h2 12 1 (xnx h + 1)) = xnx h + 1 + 1 := q2n
                refine s_copyOfI F9 ((e3'.tg c3.2).trans t.2.2) (by omega) (by omega) (by omega) (by omega) (by rw [e3'.ln c3.2]; omega) (by omega) (by show xsl h2 + _ ≤ _; omega) (fun h3 F3 e3 q3n q3s q3t q3l q3g q3c => ?_)
                rw [n3'] at q3n q3t q3l q3g q3c ⊢
                have q3s' : xsl h3 = xsl h2 + V.length * 2 := q3s
                rw [e3'.ln c3.2] at q3c
                have a3 : ∀ a, a < xnx h + 1 + 1 → ∀ j, xpl h3 a j = xpl (xst h2 12 1 (xnx h + 1)) a j := fun a ha => e3.pl (by rw [n3']; exact ha) (fun z => z.elim)
                have e3h : xsm (fun c => c = 12) h h3 := e3'.then e3 (fun c _ z => z.elim)
                refine v_Vocabulary_makeRoomAt_60 F3 ?_
                refine ⟨?_, ?_⟩
                · first | exact (e3h.tg (by omega)).trans (ft_12 F) | decide
                · refine ⟨?_, ?_⟩
                  · first | exact (e3h.tg (by omega)).trans (ft_12 F) | decide
                  · intro F9
                    have e4h : xsm (fun c => c = 12) h (xst h3 12 2 (xnx h + 1 + 1)) := e3h.st (by decide) (Or.inl rfl)
                    refine xwp_gh (r := xnx h) (v := -11) (by omega) ?_
                    refine xwp_gh (r := xnx h + 1) (v := -12) (by omega) ?_
                    refine xwp_gh (r := xnx h + 1 + 1) (v := -13) (by omega) ?_
                    obtain ⟨H, hH⟩ : ∃ H, H = xst (xst (xst (xst h3 12 2 (xnx h + 1 + 1)) (xnx h) (-1) (-11)) (xnx h + 1) (-1) (-12)) (xnx h + 1 + 1) (-1) (-13) := ⟨_, rfl⟩
                    have FH : xFix H := by rw [hH]; exact F9.gh.gh.gh
                    have eH : xsm (fun c => c = 12) h H := by rw [hH]; exact ((e4h.gh (by omega)).gh (by omega)).gh (by omega)
                    rw [← hH]
                    have nH : xnx H = xnx h + 3 := by rw [hH]; show xnx h3 = _; omega
                    have sH : xsl H = xsl h + 3 * (V.length * 2) := by rw [hH]; show xsl h3 = _; omega
                    have tH : ∀ a, xtg H a = xtg h3 a := fun a => by rw [hH]; rfl
                    have lH : ∀ a, xln H a = xln h3 a := fun a => by rw [hH]; rfl
                    have gH : ∀ a j, 0 ≤ j → xpl H a j = xpl (xst h3 12 2 (xnx h + 1 + 1)) a j := fun a j hj => by rw [hH, xpl_ok (by omega), xpl_ok (by omega), xpl_ok (by omega)]
                    have h120 : xpl H 12 0 = xnx h := by rw [gH 12 0 (by decide), xpl_ok (by decide), a3 12 (by omega), xpl_ok (by decide)]; exact p220
                    have h121 : xpl H 12 1 = xnx h + 1 := by rw [gH 12 1 (by decide), xpl_ok (by decide), a3 12 (by omega), xpl_hit]
                    have h122 : xpl H 12 2 = xnx h + 1 + 1 := by rw [gH 12 2 (by decide), xpl_hit]
                    have h123 : xpl H 12 3 = V.length := by rw [gH 12 3 (by decide), xpl_ok (by decide), a3 12 (by omega), xpl_ok (by decide)]; exact p223
                    have T0 : xtg H (xnx h) = 101 := by rw [tH, e3.tg (by rw [n3']; omega)]; show xtg h2 _ = _; rw [e2.tg (by rw [n2']; omega)]; exact q1t
                    have L0 : xln H (xnx h) = V.length * 2 := by rw [lH, e3.ln (by rw [n3']; omega)]; show xln h2 _ = _; rw [e2.ln (by rw [n2']; omega)]; show xln h1 _ = _; rw [q1l, hsz]
                    have T1 : xtg H (xnx h + 1) = 100 := by rw [tH, e3.tg (by rw [n3']; omega)]; exact q2t
                    have L1 : xln H (xnx h + 1) = V.length * 2 := by rw [lH, e3.ln (by rw [n3']; omega)]; exact q2l
                    have T2 : xtg H (xnx h + 1 + 1) = 100 := by rw [tH]; exact q3t
                    have L2 : xln H (xnx h + 1 + 1) = V.length * 2 := by rw [lH]; exact q3l
                    have vH : vok H := by
                      unfold vok
                      rw [h120, h121, h122, h123, T0, T1, T2, L0, L1, L2, nH]
                      refine ⟨⟨rfl, rfl, rfl⟩, ⟨?_, ?_, ?_⟩, ⟨by omega, by omega⟩, ⟨by omega, by omega⟩, ⟨by omega, by omega⟩, ⟨rfl, rfl⟩, ⟨by omega, by omega⟩, by omega, by omega⟩
                      · rw [hH, xpl_oa (by omega), xpl_oa (by omega), xpl_hit]
                      · rw [hH, xpl_oa (by omega), xpl_hit]
                      · rw [hH, xpl_hit]
                    have RH : VocR H V := by
                      refine ⟨vH, h123, fun i en hi => ?_⟩
                      have hil : i < V.length := (List.getElem?_eq_some_iff.mp hi).1
                      obtain ⟨v1, v2, v3⟩ := hV i en hi
                      rw [h120, h121, h122]
                      refine ⟨?_, ?_, ?_⟩
                      · rw [gH _ _ (by omega), xpl_oa (by omega), a3 _ (by omega), xpl_oa (by omega), a2 _ (by omega), xpl_oa (by omega), q1c i (by omega) (by omega) (by omega)]; exact v1
                      · rw [gH _ _ (by omega), xpl_oa (by omega), a3 _ (by omega), xpl_oa (by omega), q2c i (by omega) (by omega) (by omega), xpl_oa (by omega), a1 _ c2.2]; exact v2
                      · rw [gH _ _ (by omega), xpl_oa (by omega), q3c i (by omega) (by omega) (by omega), xpl_oa (by omega), o2 _ c3.2 n6]; exact v3
                    have vl : vlen H = V.length * 2 := by unfold vlen; rw [h120]; exact L0
                    have eHV : xsm (VOW h) h H := eH.mono fun c _ z => Or.inl z
                    refine s_Voc_shift FH RH k0 k1 (by rw [vl]; omega) (fun h' F' e' n' m' v' l' s' q' => hq h' F' (eHV.then e' (fun c hc w => w.back eHV hc)) ⟨?_, ?_, ?_⟩ v' s' q')
                    · rw [l', vl, n', nH]; unfold vlen; omega
                    · rw [l', vl, m', sH]; unfold vlen; omega
                    · rw [l', vl]; unfold vlen; omega

end
