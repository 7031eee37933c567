/-! ===== rdsteps2 ===== -/
section
theorem bigF_le : ∀ ws : List Int, bigF ws ≤ ws.length
  | [] => Nat.le_refl _
  | w :: r => by
    have := bigF_le r
    show (if w = 0 then 0 else 1) + bigF r ≤ r.length + 1
    split <;> omega
theorem s_QR_appendPhrase {G : XG} {d : Nat} {h : XH} {Q : XV → XH → Prop} {X : Nat → XH → Prop} {h0 : XH} {bs qa pa : List Int} {a : Int} {r : RS} {n : Nat} (B : RdB h0 h bs a qa pa r.2.1 r.2.2.1) (RF : RdF h a pa r) (h5 : r.1.1 = 5) (I : RDI n r) (hn : n < 40) (hc : xnx h + 3 ≤ xKC) (hs : xsl h + 3 * n + 23 ≤ xKS)
    (hq : ∀ h' qa' pa', RdB h0 h' bs a qa' pa' (apH r).2.1 (apH r).2.2.1 → RdF h' a pa' (apH r) → xnx h' ≤ xnx h + 3 → xsl h' ≤ xsl h + 3 * n + 23 → (∀ k, k ≠ 6 → k ≠ 7 → xpl h' 32 k = xpl h 32 k) → Q xN h') : xwp G m_QuestionReader_appendPhrase (d + 9) 0 [xR 32, xZ, xZ] [] h Q X := by
  have F := B.1.1
  have hnx := F.nx
  have hpl := I.1.2.2.2.2.1
  obtain ⟨f7, f8⟩ := RF.2.2 (Or.inr h5)
  have RX := RF.1.2 (by omega) (by omega)
  refine v_QuestionReader_appendPhrase_0 F ?_
  rw [f7]
  refine s_copyOfJ F (ft_33 F) (by omega) (by decide) (by omega) (by omega) (by rw [fl_33 F]; decide) (by omega) (by omega) (fun h1 F1 e1 n1 l1 t1 ln1 m1 c1 => ?_)
  have B1 := B.mk F1 e1
  have RF1 := RF.keep (e1.pl (by omega) (fun y => y)) (e1.pl (by omega) (fun y => y))
  have W1 : RowOK h1 (xnx h) r.2.2.2.2 := ⟨hnx, by omega, m1, ⟨t1, ln1, fun i hi => by rw [c1 i (by omega) (by omega) (by rw [fl_33 F]; omega)]; exact f8 i hi⟩, by omega⟩
  refine v_QuestionReader_appendPhrase_13 F1 ?_
  refine s_QR_appendPart B1 RF1 (RX.keep (e1.pl (by omega) (fun y => y))) I hn (by decide) (by decide) W1 (by omega) (by omega) (by omega) (fun h2 p B2 RF2 n2 l2 k2 _ ⟨hp, hp4, W2⟩ => ?_)
  have F2 := B2.1.1
  have k32 : ∀ k, k ≠ 6 → k ≠ 7 → xpl h2 32 k = xpl h 32 k := fun k k6 k7 => (k2 k k6 k7).trans (e1.pl (by omega) (fun y => y) k)
  have lal : (apF r 2 r.2.2.2.2).2.2.2.1 < (apF r 2 r.2.2.2.2).2.1.1.length := by
    show r.2.1.1.length < (r.2.1.1 ++ [_]).length
    rw [List.length_append]; show r.2.1.1.length < _ + 1; omega
  have hpm := B2.2.2.1.pm (List.mem_of_getElem? (RF2.2.1.2.2 lal))
  have loop : ∀ (m k : Nat) (b : Nat), k + m = r.2.2.2.2.length → b + bigF (r.2.2.2.2.drop k) = bigF r.2.2.2.2 → xwp G m_QuestionReader_appendPhrase (d + 9) 20 [xR 32, xI b, xI k] [] h2 Q X := by
    intro m
    have hb40 := bigF_le r.2.2.2.2
    induction m with
    | zero =>
      intro k b e hv
      rw [List.drop_eq_nil_of_le (by omega)] at hv
      have hv : b + 0 = bigF r.2.2.2.2 := hv
      refine v_QuestionReader_appendPhrase_20 F2 ?_
      refine ⟨?_, ?_⟩
      · first | exact hpm.2.2 | (rw [hp, hp4]; exact W2.2.2.2.1.1) | omega
      · refine ⟨?_, ?_⟩
        · first | exact hpm.2.2 | (rw [hp, hp4]; exact W2.2.2.2.1.1) | omega
        · refine ⟨fun q1 => ?_, fun q1 => ?_⟩
          · refine ⟨fun q2 => ?_, fun q2 => ?_⟩
            · have e9 : apH r = apF r 2 r.2.2.2.2 := by unfold apH; rw [if_pos (by omega)]
              rw [e9] at hq
              exact hq h2 qa (pa ++ [p]) B2 RF2 (by omega) (by omega) k32
            · refine ⟨?_, ?_⟩
              · first | exact hpm.2.2 | (rw [hp, hp4]; exact W2.2.2.2.1.1) | omega
              · intro F9
                have e9 : apH r = sdF (apF r 2 r.2.2.2.2) 5 0 := by unfold apH; rw [if_neg (by omega)]
                rw [e9] at hq
                obtain ⟨B3, RF3, -, -, -⟩ := B2.sd RF2 lal F9 (by decide) (by decide) (fun t ht => ⟨ht.1, ht.2.1, ht.2.2.1, ⟨by show (0 : Int) ≤ 0; decide, by show (0 : Int) ≤ 3; decide⟩, ht.2.2.2.2⟩)
                exact hq _ qa (pa ++ [p]) B3 RF3 (by show xnx h2 ≤ _; omega) (by show xsl h2 ≤ _; omega) (fun k k6 k7 => by rw [xpl_st, if_neg (by omega)]; exact k32 k k6 k7)
          · refine ⟨?_, ?_⟩
            · first | exact hpm.2.2 | (rw [hp, hp4]; exact W2.2.2.2.1.1) | omega
            · refine ⟨fun q2 => ?_, fun q2 => ?_⟩
              · rw [hp, hp4, W2.2.2.2.1.2.1] at q1; omega
              · refine ⟨?_, ?_⟩
                · first | exact hpm.2.2 | (rw [hp, hp4]; exact W2.2.2.2.1.1) | omega
                · rw [hp, hp4, W2.2.2.2.1.2.1] at q1; omega
    | succ m ih =>
      intro k b e hv
      obtain ⟨a1, a2⟩ := List.getElem?_eq_some_iff.mp (W2.2.2.2.1.2.2 k (by omega))
      rw [List.drop_eq_getElem_cons a1, a2] at hv
      have hv : b + ((if xpl h2 (xnx h) k = 0 then 0 else 1) + bigF (r.2.2.2.2.drop (k + 1))) = bigF r.2.2.2.2 := hv
      have hb := bigF_le (r.2.2.2.2.drop (k + 1))
      rw [List.length_drop] at hb
      refine v_QuestionReader_appendPhrase_20 F2 ?_
      refine ⟨?_, ?_⟩
      · first | exact hpm.2.2 | (rw [hp, hp4]; exact W2.2.2.2.1.1) | exact ⟨by omega, by omega⟩ | omega
      · refine ⟨?_, ?_⟩
        · first | exact hpm.2.2 | (rw [hp, hp4]; exact W2.2.2.2.1.1) | exact ⟨by omega, by omega⟩ | omega
        · refine ⟨fun q1 => ?_, fun q1 => ?_⟩
          · refine ⟨fun q2 => ?_, fun q2 => ?_⟩
            · rw [hp, hp4, W2.2.2.2.1.2.1] at q1; omega
            · refine ⟨?_, ?_⟩
              · first | exact hpm.2.2 | (rw [hp, hp4]; exact W2.2.2.2.1.1) | exact ⟨by omega, by omega⟩ | omega
              · intro F9
                rw [hp, hp4, W2.2.2.2.1.2.1] at q1; omega
          · refine ⟨?_, ?_⟩
            · first | exact hpm.2.2 | (rw [hp, hp4]; exact W2.2.2.2.1.1) | exact ⟨by omega, by omega⟩ | omega
            · refine ⟨fun q2 => ?_, fun q2 => ?_⟩
              · rw [hp, hp4] at q2
                rw [if_pos q2] at hv
                exact ih (k + 1) b (by omega) (by omega)
              · refine ⟨?_, ?_⟩
                · first | exact hpm.2.2 | (rw [hp, hp4]; exact W2.2.2.2.1.1) | exact ⟨by omega, by omega⟩ | omega
                · rw [hp, hp4] at q2
                  rw [if_neg q2] at hv
                  exact ih (k + 1) (b + 1) (by omega) (by omega)
  refine v_QuestionReader_appendPhrase_16 F2 ?_
  exact loop r.2.2.2.2.length 0 0 (by omega) (by rw [List.drop_zero]; omega)
theorem s_QR_takesQuote {G : XG} {d : Nat} {h : XH} {Q : XV → XH → Prop} {X : Nat → XH → Prop} {h0 : XH} {bs qa pa : List Int} {a : Int} {r : RS} {n : Nat} (B : RdB h0 h bs a qa pa r.2.1 r.2.2.1) (RF : RdF h a pa r) (I : RDI n r) (hn : n < 40) (h8 : xpl h 32 8 ≤ bs.length) (hc : xnx h + 8 ≤ xKC) (hs : xsl h + 4 * n + 70 ≤ xKS) (hq : TKP Q h0 h bs a n (tkQ r)) : xwp G m_QuestionReader_takesQuote (d + 10) 0 [xR 32] [] h Q X := by
  have F := B.1.1
  have f1 := RF.1.1
  unfold tkQ at hq
  refine v_QuestionReader_takesQuote_0 F ?_
  refine ⟨fun q1 => ?_, fun q1 => ?_⟩
  · rw [f1] at q1
    rw [if_pos q1] at hq
    refine s_QR_appendPhrase B RF q1 I hn (by omega) (by omega) (fun h2 qa2 pa2 B2 RF2 n2 l2 k2 => ?_)
    refine v_QuestionReader_takesQuote_12 B2.1.1 ?_
    intro F9
    refine hq.2 _ _ qa2 pa2 rfl (B2.f32 F9 (x32 (by decide))) (RF2.st (fun _ y => absurd y (by decide)) (by decide)) (by show xnx h2 ≤ _; omega) (by show xsl h2 ≤ _; omega) ?_ ?_ ?_
    · rw [xpl_st, if_neg (by omega)]; exact k2 9 (by decide) (by decide)
    · rw [xpl_st, if_neg (by omega)]; exact k2 10 (by decide) (by decide)
    · rw [xpl_st, if_neg (by omega), k2 8 (by decide) (by decide)]; exact ⟨Int.le_refl _, h8, rfl⟩
  · refine ⟨fun q2 => ?_, fun q2 => ?_⟩
    · rw [f1] at q1 q2
      rw [if_neg q1, if_pos q2] at hq
      refine s_QR_beginCore B RF q2 (fun h2 B2 RF2 RX2 S2 k2 n2 l2 => ?_)
      refine v_QuestionReader_takesQuote_33 B2.1.1 ?_
      intro F9
      obtain ⟨⟨g1, -⟩, ⟨g4, g5, g6⟩, -⟩ := RF2
      obtain ⟨g2, g3⟩ := RX2
      refine hq.2 _ _ qa pa rfl (B2.f32 F9 ((x32 (by decide)).trans (x32 (by decide)))) ⟨⟨?_, fun _ _ => ⟨?_, ?_⟩⟩, ⟨?_, ?_, ?_⟩, fun _ => ⟨?_, fun i hi => absurd hi (Nat.not_lt_zero i)⟩⟩ (by show xnx h2 ≤ _; omega) (by show xsl h2 ≤ _; omega) ?_ ?_ ?_
      · rw [xpl_st, if_pos ⟨rfl, rfl⟩]; rfl
      · rw [xpl_st, if_neg (by omega), xpl_st, if_neg (by omega)]; exact g2
      · rw [xpl_st, if_neg (by omega), xpl_st, if_neg (by omega)]; exact g3
      · rw [xpl_st, if_neg (by omega), xpl_st, if_neg (by omega)]; exact g4
      · rw [xpl_st, if_neg (by omega), xpl_st, if_neg (by omega)]; exact g5
      · rw [xpl_st, if_neg (by omega), xpl_st, if_neg (by omega)]; exact g6
      · rw [xpl_st, if_neg (by omega), xpl_st, if_pos ⟨rfl, rfl⟩]; rfl
      · rw [xpl_st, if_neg (by omega), xpl_st, if_neg (by omega)]; exact k2 9 (by decide) (by decide)
      · rw [xpl_st, if_neg (by omega), xpl_st, if_neg (by omega)]; exact k2 10 (by decide) (by decide)
      · rw [xpl_st, if_neg (by omega), xpl_st, if_neg (by omega), k2 8 (by decide) (by decide)]; exact ⟨Int.le_refl _, h8, rfl⟩
    · rw [f1] at q1 q2
      rw [if_neg q1, if_neg q2] at hq
      exact hq.1 rfl
/-- a new question's cells -/
theorem newQ {h : XH} (F : xFix h) : ∀ H, H = xst (xst (xst (xst (xst (xst (xst (xmk (xmk h 5 5 (xdef 5)) 13 3 (xdef 13)) (xnx (xmk h 5 5 (xdef 5))) 2 0) (xnx (xmk h 5 5 (xdef 5))) 0 (-103)) (xnx h) 0 (xnx (xmk h 5 5 (xdef 5)))) (xnx h) 1 0) (xnx h) 2 0) (xnx h) 3 0) (xnx h) 4 0 → xFix H → xsm (fun _ => False) h H ∧ xnx H = xnx h + 2 ∧ xsl H = xsl h + 8 ∧ xtg H (xnx h) = 5 ∧ xpl H (xnx h) 0 = xnx h + 1 ∧ ALr H (xnx h + 1) [] ∧ QuesJ H (xnx h) q000 := by
  intro H hH F9
  have hnx := F.nx
  have n1 : xnx (xmk h 5 5 (xdef 5)) = xnx h + 1 := xnx_mk h 5 5 (xdef 5)
  rw [n1] at hH
  have hne : ¬ xnx h = xnx h + 1 := by omega
  have hne' : ¬ xnx h + 1 = xnx h := by omega
  have nH : xnx H = xnx h + 2 := by rw [hH]; show xnx (xmk (xmk h 5 5 (xdef 5)) 13 3 (xdef 13)) = _; rw [xnx_mk, n1]; omega
  have lH : xsl H = xsl h + 8 := by rw [hH]; show xsl (xmk (xmk h 5 5 (xdef 5)) 13 3 (xdef 13)) = _; rw [xsl_mk, xsl_mk]; omega
  have tq : xtg H (xnx h) = 5 := by rw [hH]; show xtg (xmk (xmk h 5 5 (xdef 5)) 13 3 (xdef 13)) _ = _; rw [xtg_mk, if_neg (by rw [n1]; exact hne)]; exact xtg_new rfl
  have tl : xtg H (xnx h + 1) = 13 := by rw [hH]; show xtg (xmk (xmk h 5 5 (xdef 5)) 13 3 (xdef 13)) _ = _; rw [xtg_mk, if_pos n1.symm]
  have S : xsm (fun _ => False) h H := by
    rw [hH]
    exact (((((((((xsm.refl h).mk (by decide)).mk (by decide)).st (by decide) (Or.inr (by omega))).st (by decide) (Or.inr (by omega))).st (by decide) (Or.inr (by omega))).st (by decide) (Or.inr (by omega))).st (by decide) (Or.inr (by omega))).st (by decide) (Or.inr (by omega))).st (by decide) (Or.inr (by omega))
  have p0 : xpl H (xnx h + 1) 0 = -103 := by
    rw [hH]
    iterate 5 rw [xpl_oa hne']
    rw [xpl_hit]
  have p1 : xpl H (xnx h + 1) 1 = 0 := by
    rw [hH]
    iterate 5 rw [xpl_oa hne']
    rw [xpl_ok (by decide), xpl_ok (by decide), xpl_mk, if_pos n1.symm]; rfl
  have e0 : xpl H (xnx h) 0 = xnx h + 1 := by
    rw [hH, xpl_ok (by decide), xpl_ok (by decide), xpl_ok (by decide), xpl_ok (by decide), xpl_hit]
  refine ⟨S, nH, lH, tq, e0, ⟨⟨by omega, by omega, tl, p1, by decide⟩, ?_, ?_, fun i hi => absurd hi (Nat.not_lt_zero i), fun x hx => absurd hx List.not_mem_nil⟩, ⟨⟨tq, by omega⟩, ?_, ?_, ?_, ?_⟩⟩
  · rw [p0, ft_m103 F9, fl_m103 F9]; exact ⟨rfl, by decide, by decide⟩
  · rw [p0]; exact Or.inl rfl
  · rw [hH, xpl_ok (by decide), xpl_ok (by decide), xpl_ok (by decide), xpl_hit]; rfl
  · rw [hH, xpl_ok (by decide), xpl_ok (by decide), xpl_hit]; rfl
  · rw [hH, xpl_ok (by decide), xpl_hit]; rfl
  · rw [hH, xpl_hit]; rfl
theorem s_QR_takesOpening {G : XG} {d : Nat} {h : XH} {Q : XV → XH → Prop} {X : Nat → XH → Prop} {h0 : XH} {bs qa pa : List Int} {a : Int} {r : RS} {n : Nat} (B : RdB h0 h bs a qa pa r.2.1 r.2.2.1) (RF : RdF h a pa r) (I : RDI n r) (hn : n < 40) (h8 : xpl h 32 8 ≤ bs.length) (hc : xnx h + 8 ≤ xKC) (hs : xsl h + 4 * n + 70 ≤ xKS) (hq : TKP Q h0 h bs a n (tkO r)) : xwp G m_QuestionReader_takesOpening (d + 9) 0 [xR 32] [] h Q X := by
  have F := B.1.1
  have f1 := RF.1.1
  have A := B.2.1.1
  have hsz := A.sz
  rw [List.length_cons, List.length_map] at hsz
  have h093 := B.1.2.2.2
  unfold tkO at hq
  refine v_QuestionReader_takesOpening_0 F ?_
  refine ⟨fun q1 => ?_, fun q1 => ?_⟩
  · refine ⟨?_, ?_⟩
    · exact A.ok
    · refine ⟨fun q2 => ?_, fun q2 => ?_⟩
      · rw [f1] at q1
        rw [if_pos ⟨q1, by omega⟩] at hq
        refine s_QR_beginCore B RF q1 (fun h2 B2 RF2 RX2 S2 k2 n2 l2 => ?_)
        have I2 := I.bc
        obtain ⟨r2, hr2⟩ : ∃ r2, r2 = bcF r := ⟨_, rfl⟩
        have er := (bcF_st r).2
        rw [← hr2] at B2 RF2 RX2 I2 hq er
        have F2 := B2.1.1
        have hnx2 := F2.nx
        refine v_QuestionReader_takesOpening_24 F2 ?_
        refine ⟨?_, ?_⟩
        · omega
        · refine ⟨?_, ?_⟩
          · omega
          · intro F9
            have S3 : xsm (fun _ => False) h2 (xmk h2 101 0 (fun _ => 0)) := (xsm.refl h2).mk (by decide)
            have B3 := B2.mk F9 S3
            have RF3 : RdF (xmk h2 101 0 (fun _ => 0)) a pa r2 := RF2.keep (S3.pl (by omega) (fun y => y)) (S3.pl (by omega) (fun y => y))
            have W3 : RowOK (xmk h2 101 0 (fun _ => 0)) (xnx h2) [] := ⟨hnx2, by rw [xnx_mk]; omega, xpl_new rfl, ⟨xtg_new rfl, xln_new rfl, fun i hi => absurd hi (Nat.not_lt_zero i)⟩, by show 0 ≤ 200; decide⟩
            have n3 : xnx (xmk h2 101 0 (fun _ => 0)) = xnx h2 + 1 := xnx_mk h2 101 0 (fun _ => 0)
            have l3 : xsl (xmk h2 101 0 (fun _ => 0)) = xsl h2 + 0 := xsl_mk h2 101 0 (fun _ => 0)
            refine s_QR_appendPart B3 RF3 (RX2.keep (S3.pl (by omega) (fun y => y))) I2 hn (by decide) (by decide) W3 (by show 0 ≤ 40; decide) (by omega) (by omega) (fun h4 p B4 RF4 n4 l4 k4 _ ⟨hp, hp4, W4⟩ => ?_)
            have k42 : ∀ k, k ≠ 6 → k ≠ 7 → xpl h4 32 k = xpl h2 32 k := fun k k6 k7 => (k4 k k6 k7).trans (S3.pl (by omega) (fun y => y) k)
            have F4 := B4.1.1
            have hnx4 := F4.nx
            have lal : (apF r2 3 []).2.2.2.1 < (apF r2 3 []).2.1.1.length := by
              show r2.2.1.1.length < (r2.2.1.1 ++ [_]).length
              rw [List.length_append]; show r2.2.1.1.length < _ + 1; omega
            have hpa4 := RF4.2.1.2.2 lal
            have hpm := B4.2.2.1.pm (List.mem_of_getElem? hpa4)
            have hdr := RF4.2.1.1
            have Aq := B4.2.2.1.1.1
            have lq : als h4 a = (r2.2.1.2.length : Int) := by
              rw [Aq.sz, B4.2.2.1.1.2.2.1]
              show (((r2.2.1.2.set _ _).length : Nat) : Int) = _
              rw [List.length_set]
            obtain ⟨N, hN⟩ : ∃ N, N = als h4 a := ⟨_, rfl⟩
            have hN40 : 0 ≤ N ∧ N ≤ 40 := by have := I2.1.2.1; omega
            have h9x : xFix (xst h4 (xpl h4 32 7) 10 N) := F4.stD hpm.1
            obtain ⟨B5, RF5, -, -, -⟩ := B4.sd RF4 lal h9x (by decide) (by decide) (fun t ht => ⟨ht.1, ht.2.1, ht.2.2.1, ht.2.2.2.1, ht.2.2.2.2.1, ht.2.2.2.2.2.1, ht.2.2.2.2.2.2.1, ⟨by show 0 ≤ N; omega, by show N ≤ 40; omega⟩, ht.2.2.2.2.2.2.2.2⟩)
            refine v_QuestionReader_takesOpening_32 F4 ?_
            refine ⟨?_, ?_⟩
            · first | (rw [hdr]; exact Aq.1.2.2.1) | (rw [hdr]; exact Aq.ok) | exact hpm.2.2 | omega
            · refine ⟨?_, ?_⟩
              · first | (rw [hdr]; exact Aq.1.2.2.1) | (rw [hdr]; exact Aq.ok) | exact hpm.2.2 | omega
              · refine ⟨?_, ?_⟩
                · first | (rw [hdr]; exact Aq.1.2.2.1) | (rw [hdr]; exact Aq.ok) | exact hpm.2.2 | omega
                · refine ⟨?_, ?_⟩
                  · first | (rw [hdr]; exact Aq.1.2.2.1) | (rw [hdr]; exact Aq.ok) | exact hpm.2.2 | omega
                  · intro F9
                    rw [hdr, ← hN] at F9 ⊢
                    obtain ⟨h5, hh5⟩ : ∃ h5, h5 = xst h4 (xpl h4 32 7) 10 N := ⟨_, rfl⟩
                    rw [← hh5] at F9 B5 RF5 ⊢
                    have n5 : xnx h5 = xnx h4 := by rw [hh5]; rfl
                    have l5 : xsl h5 = xsl h4 := by rw [hh5]; rfl
                    have F5 := B5.1.1
                    have hdr5 := RF5.2.1.1
                    have alt5 := B5.2.2.1.1.1.1
                    refine v_QuestionReader_takesOpening_46 F5 ?_
                    refine ⟨?_, ?_⟩
                    · first | omega | (rw [xnx_mk]; omega) | (rw [xsl_mk]; omega) | (rw [hdr5, xtg_mk, if_neg (by rw [xnx_mk]; omega), xtg_mk, if_neg (by omega)]; exact alt5.2.2.1)
                    · refine ⟨?_, ?_⟩
                      · first | omega | (rw [xnx_mk]; omega) | (rw [xsl_mk]; omega) | (rw [hdr5, xtg_mk, if_neg (by rw [xnx_mk]; omega), xtg_mk, if_neg (by omega)]; exact alt5.2.2.1)
                      · refine ⟨?_, ?_⟩
                        · first | omega | (rw [xnx_mk]; omega) | (rw [xsl_mk]; omega) | (rw [hdr5, xtg_mk, if_neg (by rw [xnx_mk]; omega), xtg_mk, if_neg (by omega)]; exact alt5.2.2.1)
                        · refine ⟨?_, ?_⟩
                          · first | omega | (rw [xnx_mk]; omega) | (rw [xsl_mk]; omega) | (rw [hdr5, xtg_mk, if_neg (by rw [xnx_mk]; omega), xtg_mk, if_neg (by omega)]; exact alt5.2.2.1)
                          · refine ⟨?_, ?_⟩
                            · first | omega | (rw [xnx_mk]; omega) | (rw [xsl_mk]; omega) | (rw [hdr5, xtg_mk, if_neg (by rw [xnx_mk]; omega), xtg_mk, if_neg (by omega)]; exact alt5.2.2.1)
                            · intro F9
                              rw [hdr5]
                              obtain ⟨H, hH⟩ : ∃ H, H = xst (xst (xst (xst (xst (xst (xst (xmk (xmk h5 5 5 (xdef 5)) 13 3 (xdef 13)) (xnx (xmk h5 5 5 (xdef 5))) 2 0) (xnx (xmk h5 5 5 (xdef 5))) 0 (-103)) (xnx h5) 0 (xnx (xmk h5 5 5 (xdef 5)))) (xnx h5) 1 0) (xnx h5) 2 0) (xnx h5) 3 0) (xnx h5) 4 0 := ⟨_, rfl⟩
                              rw [← hH] at F9 ⊢
                              obtain ⟨SH, nH, lH, tH, pH, AH, -⟩ := newQ F5 H hH F9
                              have B6 := B5.mk F9 SH
                              have RF6 := RF5.keep (h' := H) (SH.pl (by omega) (fun y => y)) (SH.pl (by omega) (fun y => y))
                              have hdr6 := RF6.2.1.1
                              have A6 := B6.2.2.1.1.1
                              have lq6 : qa.length = r2.2.1.2.length := by rw [B4.2.2.1.1.2.2.1]; exact List.length_set
                              have q40 := I2.1.2.1
                              refine s_AL_add F9 A6 (by omega) (by omega) (by rw [tH]; rfl) (by omega) (by omega) (fun h7 F7 e7 n7 l7 A7 => ?_)
                              have h0a := B6.2.2.2.1
                              have h0n : xnx h0 ≤ xnx h5 := B5.1.2.1.nx
                              have qlt : ∀ x ∈ qa, x < xnx h5 ∧ xpl H x 0 < xnx h5 := fun x hx => by
                                have y1 := (B5.2.2.1.qm hx).1.2.1
                                refine ⟨y1, ?_⟩
                                rw [SH.pl y1 (fun y => y)]
                                obtain ⟨i, hi⟩ := List.mem_iff_getElem?.mp hx
                                have hl := (List.getElem?_eq_some_iff.mp hi).1
                                have h2 : (sdF (apF r2 3 []) 10 N).2.1.2[i]? = some ((sdF (apF r2 3 []) 10 N).2.1.2[i]'(by have := B5.2.2.1.1.2.2.1; omega)) := List.getElem?_eq_getElem _
                                exact (B5.2.2.1.alm hi h2).1.1.2.1
                              have alt : a < xnx h5 := B5.2.2.1.1.1.1.2.1
                              obtain ⟨W7, kp7⟩ := B6.2.2.1.adq h0 B6.2.2.2 F9 e7 A7 ⟨by omega, by omega, tH⟩ pH (by omega) (by omega) AH (fun y => by have := (qlt _ y).1; omega) (by show (sdF (apF r2 3 []) 10 N).2.1.2.length ≤ 40; have : (sdF (apF r2 3 []) 10 N).2.1.2.length = r2.2.1.2.length := List.length_set; omega)
                              have low7 : ∀ c, c < 93 → xtg H c ≠ 110 → ∀ k, xpl h7 c k = xpl H c k := fun c c1 c2 k => e7.pl (by omega) (fun w => by
                                rcases w with w | w
                                · omega
                                · exact c2 w.1) k
                              have B7 : RdB h0 h7 bs a (qa ++ [xnx h5]) (pa ++ [p]) (adQ (sdF (apF r2 3 []) 10 N).2.1) r2.2.2.1 := by
                                refine ⟨⟨F7, B6.1.2.1.then e7 (fun c hc w => ?_), B6.1.2.2.1.keep (low7 1 (by decide) (by rw [ft_1 F9]; decide) 3) (low7 2 (by decide) (by rw [ft_2 F9]; decide)), h093⟩, ⟨B6.2.1.1.frame F9 e7 (fun c w => ALC_ne (ft_34 F9) A6.1.2.2.1 (by omega) w), by rw [low7 35 (by decide) (by rw [ft_35 F9]; decide)]; exact B6.2.1.2⟩, W7, h0a, fun q hq => ?_, B6.2.2.2.2.2.1, fun i j q q' hi hj hne => ?_⟩
                                · rcases w with w | ⟨w1, w2⟩
                                  · omega
                                  · rw [B6.1.2.1.tg hc] at w1
                                    rw [B6.1.2.1.mkd hc] at w2
                                    exact Or.inr ⟨w1, Or.inr (by omega)⟩
                                · rcases List.mem_append.mp hq with w | w
                                  · rw [kp7 q (Or.inl w) (by have := (qlt q w).1; omega)]
                                    exact B6.2.2.2.2.1 q w
                                  · rw [List.mem_singleton] at w
                                    rw [w, kp7 _ (Or.inr (Or.inl rfl)) (by omega), pH]
                                    exact ⟨by omega, by omega, by omega⟩
                                · have lst : ∀ (i : Nat) x, (qa ++ [xnx h5])[i]? = some x → (i < qa.length ∧ qa[i]? = some x ∧ xpl h7 x 0 = xpl H x 0 ∧ xpl H x 0 < xnx h5) ∨ (i = qa.length ∧ xpl h7 x 0 = xnx h5 + 1) := fun i x hx => by
                                    by_cases z : i < qa.length
                                    · rw [List.getElem?_append_left z] at hx
                                      have hm := List.mem_of_getElem? hx
                                      exact Or.inl ⟨z, hx, kp7 x (Or.inl hm) (by have := (qlt x hm).1; omega) 0, (qlt x hm).2⟩
                                    · have hb := (List.getElem?_eq_some_iff.mp hx).1
                                      rw [List.length_append] at hb
                                      have hb : i < qa.length + 1 := hb
                                      rw [List.getElem?_append_right (by omega), show i - qa.length = 0 by omega] at hx
                                      have hx : xnx h5 = x := Option.some.inj hx
                                      rw [← hx, kp7 _ (Or.inr (Or.inl rfl)) (by omega), pH]
                                      exact Or.inr ⟨by omega, rfl⟩
                                  rcases lst i q hi with ⟨a1, a2, a3, a4⟩ | ⟨a1, a2⟩ <;> rcases lst j q' hj with ⟨b1, b2, b3, b4⟩ | ⟨b1, b2⟩
                                  · rw [a3, b3]; exact B6.2.2.2.2.2.2 i j q q' a2 b2 hne
                                  · rw [a3, b2]; omega
                                  · rw [a2, b3]; omega
                                  · omega
                              have RF7 := RF6.keep (h' := h7) (low7 32 (by decide) (by rw [ft_32 F9]; decide)) (low7 33 (by decide) (by rw [ft_33 F9]; decide))
                              have e79 : ∀ k, k ≠ 6 → k ≠ 7 → xpl h7 32 k = xpl h 32 k ∨ k = 13 ∨ k = 14 := fun k k6 k7 => by
                                by_cases z : k = 13 ∨ k = 14
                                · exact Or.inr z
                                · refine Or.inl ?_
                                  rw [low7 32 (by decide) (by rw [ft_32 F9]; decide), SH.pl (by omega) (fun y => y), hh5, xpl_st, if_neg (by omega), k42 k k6 k7]
                                  exact k2 k (by omega) (by omega)
                              have hp7 : xpl h7 32 7 = p := by
                                rw [low7 32 (by decide) (by rw [ft_32 F9]; decide), SH.pl (by omega) (fun y => y), hh5, xpl_st, if_neg (by omega)]
                                exact hp
                              have pm7 := B7.2.2.1.pm (p := p) (List.mem_append.mpr (Or.inr (List.mem_singleton.mpr rfl)))
                              have hN2 : N = (r2.2.1.2.length : Int) := hN.trans lq
                              have hq : TKP Q h0 h bs a n (some (stF (r2.1, adQ (seD (apF r2 3 []).2.1 r2.2.1.1.length 10 r2.2.1.2.length), r2.2.2.1 ++ [r2.2.1.1.length], r2.2.1.1.length, r2.2.2.2.2) 0)) := by rw [er]; exact hq
                              have hop : r2.2.2.1.length ≤ 4 := I2.1.2.2.2.2.2
                              refine v_QuestionReader_takesOpening_60 F7 ?_
                              rw [hp7]
                              refine s_AL_add F7 B7.2.1.1 (by rw [List.length_cons, List.length_map]; omega) pm7.2.1 (by rw [pm7.2.2]; rfl) (by omega) (by rw [List.length_cons, List.length_map]; omega) (fun h8' F8 e8 n8 l8 A8 => ?_)
                              rw [List.length_cons, List.length_map] at l8
                              have lp : pa.length = r2.2.1.1.length := B3.2.2.1.2.1.1
                              have eA : 35 :: r2.2.2.1.map (fun n => ((pa ++ [p])[n]?).getD 0) ++ [p] = 35 :: (r2.2.2.1 ++ [r2.2.1.1.length]).map (fun n => ((pa ++ [p])[n]?).getD 0) := by
                                rw [List.map_append, List.cons_append]
                                congr 2
                                show [p] = [((pa ++ [p])[r2.2.1.1.length]?).getD 0]
                                rw [← lp, List.getElem?_append_right (Nat.le_refl _), Nat.sub_self]; rfl
                              have A8 : ALr h8' 34 (35 :: (r2.2.2.1 ++ [r2.2.1.1.length]).map (fun n => ((pa ++ [p])[n]?).getD 0)) := by rw [← eA]; exact A8
                              obtain ⟨B8, low8⟩ := B7.op34 F8 e8 A8
                              refine v_QuestionReader_takesOpening_72 F8 ?_
                              intro F9
                              have RF8 := RF7.keep (h' := h8') (low8 32 (by decide) (by rw [ft_32 F7]; decide) (by decide)) (low8 33 (by decide) (by rw [ft_33 F7]; decide) (by decide))
                              have l32 : ∀ k, xpl h8' 32 k = xpl h7 32 k := low8 32 (by decide) (by rw [ft_32 F7]; decide) (by decide)
                              have e79' : ∀ k, k ≠ 6 → k ≠ 7 → k ≠ 13 → k ≠ 14 → xpl h8' 32 k = xpl h 32 k := fun k k6 k7 k13 k14 => by
                                rw [l32]
                                rcases e79 k k6 k7 with z | z
                                · exact z
                                · omega
                              rw [hN2] at B8 RF8
                              obtain ⟨⟨g1, -⟩, ⟨g4, g5, g6⟩, -⟩ := RF8
                              refine hq.2 _ _ (qa ++ [xnx h5]) (pa ++ [p]) rfl (B8.f32 F9 (x32 (by decide))) ⟨⟨?_, fun y => absurd y (by show ¬ (1 : Int) ≤ 0; decide)⟩, ⟨?_, ?_, fun _ => ?_⟩, fun y => absurd y (by show ¬ ((0 : Int) = 4 ∨ (0 : Int) = 5); decide)⟩ (by show xnx h8' ≤ _; omega) (by show xsl h8' ≤ _; omega) ?_ ?_ ?_
                              · rw [xpl_st, if_pos ⟨rfl, rfl⟩]; rfl
                              · rw [xpl_st, if_neg (by omega)]; exact g4
                              · rw [xpl_st, if_neg (by omega)]; exact g5
                              · rw [xpl_st, if_neg (by omega), l32, hp7]
                                show (pa ++ [p])[r2.2.1.1.length]? = _
                                rw [← lp, List.getElem?_append_right (Nat.le_refl _), Nat.sub_self]; rfl
                              · rw [xpl_st, if_neg (by omega)]; exact e79' 9 (by decide) (by decide) (by decide) (by decide)
                              · rw [xpl_st, if_neg (by omega)]; exact e79' 10 (by decide) (by decide) (by decide) (by decide)
                              · rw [xpl_st, if_neg (by omega), e79' 8 (by decide) (by decide) (by decide) (by decide)]; exact ⟨Int.le_refl _, h8, rfl⟩
      · rw [if_neg (fun y => by omega)] at hq
        exact hq.1 rfl
  · rw [f1] at q1
    rw [if_neg (fun y => q1 y.1)] at hq
    exact hq.1 rfl

end
