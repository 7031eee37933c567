/-! ===== find3 ===== -/
section
theorem p_Findings_textAt {G : XG} {d : Nat} {h : XH} {Q : XV → XH → Prop} {X : Nat → XH → Prop} {k : Nat} {O : List Nat} (F : xFix h) (A : OrdR h O) (hO : O.length ≤ 60) (hk : k < O.length) (hq : ∀ o, O[k]? = some o → Q (xI o) h) : xwp G m_Findings_textAt (d + 1) 0 [xR 40, xI k] [] h Q X := by
  obtain ⟨o, o1, o2⟩ := A.2 k hk
  have e := A.1
  refine v_Findings_textAt_0 F ?_
  refine ⟨fun q1 => ?_, fun q1 => ?_⟩
  · omega
  · refine ⟨fun q2 => ?_, fun q2 => ?_⟩
    · omega
    · refine ⟨fun q3 => ?_, fun q3 => ?_⟩
      · omega
      · rw [o2]; exact hq o o1
theorem p_Findings_weightAt {G : XG} {d : Nat} {h : XH} {Q : XV → XH → Prop} {X : Nat → XH → Prop} {k : Nat} {O : List Nat} {wt : Nat → Int} (F : xFix h) (A : OrdR h O) (hO : O.length ≤ 60) (hk : k < O.length) (hw : ∀ o ∈ O, o < 60 ∧ xpl h 50 o = wt o) (hq : ∀ o, O[k]? = some o → Q (xI (wt o)) h) : xwp G m_Findings_weightAt (d + 2) 0 [xR 40, xI k, xZ] [] h Q X := by
  refine v_Findings_weightAt_0 F ?_
  refine p_Findings_textAt F A hO hk (fun o ho => ?_)
  obtain ⟨w1, w2⟩ := hw o (List.mem_of_getElem? ho)
  refine v_Findings_weightAt_5 F ?_
  refine ⟨fun q1 => ?_, fun q1 => ?_⟩
  · omega
  · refine ⟨?_, ?_⟩
    · omega
    · refine ⟨?_, ?_⟩
      · omega
      · rw [w2]; exact hq o ho
theorem p_Findings_weightOfPart {G : XG} {d : Nat} {h : XH} {Q : XV → XH → Prop} {X : Nat → XH → Prop} {p i : Int} {t : PT} (F : xFix h) (PR : PartR h p t) (hq : Q (xI (xpl h 49 (slF (t.1 0) i))) h) : xwp G m_Findings_weightOfPart (d + 3) 0 [xR 40, xR p, xI i] [] h Q X := by
  have e0 := PR.2.1 0 (by decide) (by decide) (by decide)
  refine v_Findings_weightOfPart_0 F ?_
  refine ⟨?_, ?_⟩
  · exact PR.1.2.2
  · rw [e0]; exact hq
/-- a question without the part at the place wo; I: whether a part is in the text -/
def cwN (D : DR) (I : PT → Bool) (wo : Int) : List Nat → Nat → JS → JS
  | [], _, j => j
  | n :: r, k, j => cwN D I wo r (k + 1) (if (k : Int) = wo then j else match D.1[n]? with | some t => qcnt j (t.1 1) (I t) 0 | none => j)
theorem s_Findings_isFoundWithout {G : XG} {d : Nat} {h : XH} {Q : XV → XH → Prop} {X : Nat → XH → Prop} {a qx wo : Int} {q i : Nat} {qa pa : List Int} {D : DR} {ns : List Nat} {I : PT → Bool} (F : xFix h) (W : DraR h a qa pa D) (hqx : qa[q]? = some qx) (hns : D.2[q]? = some ns) (hI : ∀ n ∈ ns, ∀ t, D.1[n]? = some t → xpl h 48 (slF n i) = b2i (I t))
    (hq : ∀ h', xFix h' → xsm (fun c => c = qx) h h' → xpl h' qx 0 = xpl h qx 0 → xnx h' = xnx h → xsl h' = xsl h → Q (xI (b2i (qfin (cwN D I wo ns 0 q000)))) h') : xwp G m_Findings_isFoundWithout (d + 4) 0 [xR 40, xI wo, xR qx, xI i, xZ, xZ] [] h Q X := by
  have hnx := F.nx
  obtain ⟨ns', y1, y2, y3, y4, y5, y6, y7⟩ := W.q (i := q) (List.getElem?_eq_some_iff.mp hns).1
  rw [hns] at y1
  cases y1
  have eqx : alg h a q = qx := Option.some.inj (y2.symm.trans hqx)
  rw [eqx] at y3 y4 y5
  obtain ⟨z93, znx, z5⟩ := y3
  have loop : ∀ (m k : Nat) (j2 : JS) (h2 : XH), k + m = ns.length → xFix h2 → xsm (fun c => c = qx) h h2 → xpl h2 qx 0 = xpl h qx 0 → QuesJ h2 qx j2 → j2.2.2.2 = 0 → cwN D I wo (ns.drop k) k j2 = cwN D I wo ns 0 q000 → xnx h2 = xnx h → xsl h2 = xsl h →
      xwp G m_Findings_isFoundWithout (d + 4) 7 [xR 40, xI wo, xR qx, xI i, xI k, xZ] [] h2 Q X := by
    intro m
    induction m with
    | zero =>
      intro k j2 h2 e F2 S2 e0 J2 w0 hv n2 l2
      have W2 := W.jd F (S2.mono (fun c _ w => Or.inr (Or.inr w))) z5 e0
      obtain ⟨ns', v1, v2, v3, v4, v5, v6, v7⟩ := W2.q (i := q) (List.getElem?_eq_some_iff.mp hns).1
      rw [hns] at v1
      cases v1
      have eqx2 : alg h2 a q = qx := Option.some.inj (v2.symm.trans hqx)
      rw [eqx2] at v3 v4 v5
      have hsz := v5.sz
      rw [List.length_map] at hsz
      rw [List.drop_eq_nil_of_le (by omega)] at hv
      have hv2 : j2 = cwN D I wo ns 0 q000 := hv
      refine v_Findings_isFoundWithout_7 F2 ?_
      refine ⟨?_, ?_⟩
      · first | exact J2.1.1 | exact v5.1.2.2.1 | exact v5.ok | omega
      · refine ⟨?_, ?_⟩
        · first | exact J2.1.1 | exact v5.1.2.2.1 | exact v5.ok | omega
        · refine ⟨?_, ?_⟩
          · first | exact J2.1.1 | exact v5.1.2.2.1 | exact v5.ok | omega
          · refine ⟨fun q1 => ?_, fun q1 => ?_⟩
            · refine p_Question_finds F2 J2 ?_
              have hb := b2i_rng (qfin j2)
              refine v_Findings_isFoundWithout_70 F2 ?_
              refine ⟨?_, ?_⟩
              · exact hb
              · rw [hv2]; exact hq h2 F2 S2 e0 n2 l2
            · refine ⟨fun q2 => ?_, fun q2 => ?_⟩
              · omega
              · refine ⟨?_, ?_⟩
                · first | exact J2.1.1 | exact v5.1.2.2.1 | exact v5.ok | omega
                · refine ⟨?_, ?_⟩
                  · first | exact J2.1.1 | exact v5.1.2.2.1 | exact v5.ok | omega
                  · refine ⟨?_, ?_⟩
                    · first | exact J2.1.1 | exact v5.1.2.2.1 | exact v5.ok | omega
                    · omega
    | succ m ih =>
      intro k j2 h2 e F2 S2 e0 J2 w0 hv n2 l2
      have W2 := W.jd F (S2.mono (fun c _ w => Or.inr (Or.inr w))) z5 e0
      obtain ⟨ns', v1, v2, v3, v4, v5, v6, v7⟩ := W2.q (i := q) (List.getElem?_eq_some_iff.mp hns).1
      rw [hns] at v1
      cases v1
      have eqx2 : alg h2 a q = qx := Option.some.inj (v2.symm.trans hqx)
      rw [eqx2] at v3 v4 v5
      have hsz := v5.sz
      rw [List.length_map] at hsz
      obtain ⟨n, t, g1, g2, g3, g4, g5, g6⟩ := W2.p v5 v6 (k := k) (by omega)
      obtain ⟨b1, b2⟩ := List.getElem?_eq_some_iff.mp g1
      rw [List.drop_eq_getElem_cons b1, b2] at hv
      have hv2 : cwN D I wo (ns.drop (k + 1)) (k + 1) (if (k : Int) = wo then j2 else qcnt j2 (t.1 1) (I t) 0) = cwN D I wo ns 0 q000 := by
        have : cwN D I wo (n :: ns.drop (k + 1)) k j2 = cwN D I wo (ns.drop (k + 1)) (k + 1) (if (k : Int) = wo then j2 else match D.1[n]? with | some t => qcnt j2 (t.1 1) (I t) 0 | none => j2) := rfl
        rw [this, g3] at hv
        exact hv
      have q1e := g4.2.1 1 (by decide) (by decide) (by decide)
      have q0e := g4.2.1 0 (by decide) (by decide) (by decide)
      have h48 : xpl h2 48 (slF (t.1 0) i) = b2i (I t) := by
        rw [S2.pl (by omega) (by omega), g6]
        exact hI n (List.mem_of_getElem? g1) t g3
      refine v_Findings_isFoundWithout_7 F2 ?_
      refine ⟨?_, ?_⟩
      · first | exact J2.1.1 | exact v5.1.2.2.1 | exact v5.ok | exact g4.1.2.2 | omega
      · refine ⟨?_, ?_⟩
        · first | exact J2.1.1 | exact v5.1.2.2.1 | exact v5.ok | exact g4.1.2.2 | omega
        · refine ⟨?_, ?_⟩
          · first | exact J2.1.1 | exact v5.1.2.2.1 | exact v5.ok | exact g4.1.2.2 | omega
          · refine ⟨fun q1 => ?_, fun q1 => ?_⟩
            · omega
            · refine ⟨fun q2 => ?_, fun q2 => ?_⟩
              · rw [if_pos q2] at hv2
                refine v_Findings_isFoundWithout_60 F2 ?_
                refine ⟨?_, ?_⟩
                · exact ⟨by omega, by omega⟩
                · exact ih (k + 1) j2 h2 (by omega) F2 S2 e0 J2 w0 hv2 n2 l2
              · refine ⟨?_, ?_⟩
                · first | exact J2.1.1 | exact v5.1.2.2.1 | exact v5.ok | exact g4.1.2.2 | omega
                · refine ⟨?_, ?_⟩
                  · first | exact J2.1.1 | exact v5.1.2.2.1 | exact v5.ok | exact g4.1.2.2 | omega
                  · refine ⟨?_, ?_⟩
                    · first | exact J2.1.1 | exact v5.1.2.2.1 | exact v5.ok | exact g4.1.2.2 | omega
                    · rw [if_neg q2] at hv2
                      rw [q0e, q1e, h48]
                      refine s_Question_count F2 J2 ⟨by omega, by omega⟩ (fun h3 F3 S3 J3 e3 n3 l3 => ?_)
                      refine v_Findings_isFoundWithout_60 F3 ?_
                      refine ⟨?_, ?_⟩
                      · exact ⟨by omega, by omega⟩
                      · exact ih (k + 1) _ h3 (by omega) F3 (S2.trans S3) (e3.trans e0) J3 (by rw [qcnt_w, w0]; rfl) hv2 (n3.trans n2) (l3.trans l2)
  refine v_Findings_isFoundWithout_0 F ?_
  refine ⟨?_, ?_⟩
  · exact z5
  · refine s_Question_forgetText F z5 (by omega) (fun h2 F2 S2 J2 e2 n2 l2 => ?_)
    refine v_Findings_isFoundWithout_4 F2 ?_
    exact loop ns.length 0 q000 h2 (by omega) F2 S2 e2 J2 rfl rfl n2 l2
/-- whether a part is in a text, as judged -/
def inI (D : DR) (f : List (Txt × Bool)) (x : Txt) (t : PT) : Bool := (jdP f x 0 (jdL D f x 1 (D.2.drop 1)) D.2.length t).1
def cwF (D : DR) (f : List (Txt × Bool)) (wo : Int) (ns : List Nat) : List (Txt × Bool) → Int
  | [] => 0
  | x :: r => (if x.2 = false ∧ qfin (cwN D (inI D f x.1) wo ns 0 q000) = true then 1 else 0) + cwF D f wo ns r
theorem s_Findings_countWithout {G : XG} {d : Nat} {h : XH} {Q : XV → XH → Prop} {X : Nat → XH → Prop} {a qx wo : Int} {qa pa fp : List Int} {D : DR} {f : List (Txt × Bool)} {ns : List Nat} (F : xFix h) (R : FilR h fp f) (W : DraR h a qa pa D) (T : FndT h D f f.length) (hqx : qa[0]? = some qx) (hns : D.2[0]? = some ns)
    (hq : ∀ h', xFix h' → xsm (fun c => c = qx) h h' → xpl h' qx 0 = xpl h qx 0 → xnx h' = xnx h → xsl h' = xsl h → Q (xI (cwF D f wo ns f)) h') : xwp G m_Findings_countWithout (d + 5) 0 [xR 40, xI wo, xR qx, xR 7, xZ, xZ] [] h Q X := by
  have hnx := F.nx
  have h60 := R.2.2.1
  obtain ⟨ns', y1, y2, y3, -⟩ := W.q (i := 0) (List.getElem?_eq_some_iff.mp hns).1
  have eqx : alg h a (0 : Nat) = qx := Option.some.inj (y2.symm.trans hqx)
  rw [eqx] at y3
  obtain ⟨z93, znx, z5⟩ := y3
  have RBq : ∀ h2, xsm (fun c => c = qx) h h2 → xpl h2 qx 0 = xpl h qx 0 → xnx h2 = xnx h → xsl h2 = xsl h → RB h h2 := fun h2 S2 e0 n2 l2 => ⟨S2.mono (fun c _ w => by
      have w : c = qx := w
      rw [w]; exact Or.inr ⟨z93, Or.inr z5⟩), fun c k c1 c2 c3 _ => S2.pl c2 (fun w => by
      have w : c = qx := w
      rw [w, z5] at c3; cases c3) k, fun c c1 c2 c3 => by
      by_cases z : c = qx
      · rw [z]; exact e0
      · exact S2.pl c2 z 0, n2, l2⟩
  have loop : ∀ (m i : Nat) (s : Int) (h2 : XH), i + m = f.length → 0 ≤ s → s ≤ i → xFix h2 → xsm (fun c => c = qx) h h2 → xpl h2 qx 0 = xpl h qx 0 → s + cwF D f wo ns (f.drop i) = cwF D f wo ns f → xnx h2 = xnx h → xsl h2 = xsl h →
      xwp G m_Findings_countWithout (d + 5) 6 [xR 40, xI wo, xR qx, xR 7, xI s, xI i] [] h2 Q X := by
    intro m
    induction m with
    | zero =>
      intro i s h2 e s0 s1 F2 S2 e0 hv n2 l2
      have R2 := R.rf F (RBq h2 S2 e0 n2 l2)
      have hsz := R2.1.sz
      have hln := R2.2.1
      rw [List.drop_eq_nil_of_le (by omega)] at hv
      have hv2 : s + 0 = cwF D f wo ns f := hv
      have fin : Q (xI s) h2 := by
        rw [show s = cwF D f wo ns f by omega]
        exact hq h2 F2 S2 e0 n2 l2
      refine v_Findings_countWithout_6 F2 ?_
      refine ⟨?_, ?_⟩
      · first | exact ft_7 F2 | exact R2.1.ok | omega
      · refine ⟨?_, ?_⟩
        · first | exact ft_7 F2 | exact R2.1.ok | omega
        · refine ⟨fun q1 => ?_, fun q1 => ?_⟩
          · exact fin
          · refine ⟨fun q2 => ?_, fun q2 => ?_⟩
            · exact fin
            · refine ⟨?_, ?_⟩
              · first | exact ft_7 F2 | exact R2.1.ok | omega
              · refine ⟨?_, ?_⟩
                · first | exact ft_7 F2 | exact R2.1.ok | omega
                · refine ⟨fun q3 => ?_, fun q3 => ?_⟩
                  · omega
                  · omega
    | succ m ih =>
      intro i s h2 e s0 s1 F2 S2 e0 hv n2 l2
      have B2 := RBq h2 S2 e0 n2 l2
      have R2 := R.rf F B2
      have W2 := W.rf F B2
      have hsz := R2.1.sz
      have hln := R2.2.1
      obtain ⟨x, x1, x2, x3⟩ := R2.at (i := i) (by omega)
      obtain ⟨a1, a2⟩ := List.getElem?_eq_some_iff.mp x1
      rw [List.drop_eq_getElem_cons a1, a2] at hv
      have hv2 : s + ((if x.2 = false ∧ qfin (cwN D (inI D f x.1) wo ns 0 q000) = true then 1 else 0) + cwF D f wo ns (f.drop (i + 1))) = cwF D f wo ns f := hv
      refine v_Findings_countWithout_6 F2 ?_
      refine ⟨?_, ?_⟩
      · first | exact ft_7 F2 | exact R2.1.ok | exact x2.1.2.2 | omega
      · refine ⟨?_, ?_⟩
        · first | exact ft_7 F2 | exact R2.1.ok | exact x2.1.2.2 | omega
        · refine ⟨fun q1 => ?_, fun q1 => ?_⟩
          · omega
          · refine ⟨fun q2 => ?_, fun q2 => ?_⟩
            · omega
            · refine ⟨?_, ?_⟩
              · first | exact ft_7 F2 | exact R2.1.ok | exact x2.1.2.2 | omega
              · refine ⟨?_, ?_⟩
                · first | exact ft_7 F2 | exact R2.1.ok | exact x2.1.2.2 | omega
                · refine ⟨fun q3 => ?_, fun q3 => ?_⟩
                  · have xf : x.2 = false := by
                      rw [x3] at q3
                      cases z : x.2
                      · rfl
                      · rw [z] at q3; cases q3
                    refine s_Findings_isFoundWithout (q := 0) (I := inI D f x.1) F2 W2 hqx hns (fun n hn t ht => ?_) (fun h3 F3 S3 e3 n3 l3 => ?_)
                    · have := ((T.2 i x (by omega) x1 xf).2 0 ns n t (Nat.le_refl _) hns hn ht).1
                      rw [S2.pl (by omega) (by omega)]
                      exact this
                    · refine v_Findings_countWithout_45 F3 ?_
                      refine ⟨fun q1 => ?_, fun q1 => ?_⟩
                      · refine ⟨?_, ?_⟩
                        · exact ⟨by omega, by omega⟩
                        · rw [if_neg (fun y => by rw [bz0 q1] at y; exact absurd y.2 (by decide))] at hv2
                          exact ih (i + 1) s h3 (by omega) s0 (by omega) F3 (S2.trans S3) (e3.trans e0) (by omega) (n3.trans n2) (l3.trans l2)
                      · refine ⟨?_, ?_⟩
                        · exact ⟨by omega, by omega⟩
                        · refine ⟨?_, ?_⟩
                          · exact ⟨by omega, by omega⟩
                          · rw [if_pos ⟨xf, bz1 q1⟩] at hv2
                            exact ih (i + 1) (s + 1) h3 (by omega) (by omega) (by omega) F3 (S2.trans S3) (e3.trans e0) (by omega) (n3.trans n2) (l3.trans l2)
                  · have xt : x.2 = true := by
                      rw [x3] at q3
                      cases z : x.2
                      · exact absurd (by rw [z]; rfl) q3
                      · rfl
                    rw [if_neg (fun y => by rw [xt] at y; exact absurd y.1 (by decide))] at hv2
                    exact ih (i + 1) s h2 (by omega) s0 (by omega) F2 S2 e0 (by omega) n2 l2
  refine v_Findings_countWithout_0 F ?_
  exact loop f.length 0 0 h (by omega) (Int.le_refl _) (by omega) F (xsm.refl h) rfl (by rw [List.drop_zero]; omega) rfl rfl

end
