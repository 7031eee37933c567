/-! ===== refresh3 ===== -/
section
theorem FitsR.lo {h h' : XH} {a : Int} {qa pa : List Int} {D : DR} {f : List (Txt × Bool)} (P : FitsR h pa D f) (W : DraR h a qa pa D) (lo : ∀ c k, 41 ≤ c → c ≤ 47 → xpl h' c k = xpl h c k) (hp : ∀ c k, 93 ≤ c → c < xnx h → xtg h c = 4 → xpl h' c k = xpl h c k) : FitsR h' pa D f := by
  refine ⟨⟨by rw [lo 44 0 (by decide) (by decide)]; exact P.1.1, by rw [lo 44 1 (by decide) (by decide)]; exact P.1.2⟩, fun i ns n p t h1 h2 h3 h4 => ?_⟩
  have PR := (W.2.2.2 n p t h3 h4).1
  exact (P.2 i ns n p t h1 h2 h3 h4).keep (fun k => lo 42 k (by decide) (by decide)) (fun k => lo 43 k (by decide) (by decide)) (hp p 11 PR.1.1 PR.1.2.1 PR.1.2.2) (hp p 12 PR.1.1 PR.1.2.1 PR.1.2.2)
theorem OrdR.keep {h h' : XH} {O : List Nat} (A : OrdR h O) (e1 : xpl h' 40 5 = xpl h 40 5) (e2 : ∀ k, xpl h' 51 k = xpl h 51 k) : OrdR h' O := ⟨e1.trans A.1, fun i hi => by obtain ⟨o, o1, o2⟩ := A.2 i hi; exact ⟨o, o1, (e2 i).trans o2⟩⟩
theorem TabT.keep {h h' : XH} {D : DR} {f : List (Txt × Bool)} {i m : Nat} {x : Txt} (T : TabT h D f i x m) (e : ∀ n : Nat, n < D.1.length → xpl h' 48 (slF n i) = xpl h 48 (slF n i) ∧ xpl h' 49 (slF n i) = xpl h 49 (slF n i)) : TabT h' D f i x m := fun q ns n t a b c d => by
  have := e n (List.getElem?_eq_some_iff.mp d).1
  have T' := T q ns n t a b c d
  exact ⟨this.1.trans T'.1, this.2.trans T'.2⟩
theorem s_Findings_refresh {G : XG} {d : Nat} {h : XH} {Q : XV → XH → Prop} {X : Nat → XH → Prop} {a : Int} {qa pa fp : List Int} {D : DR} {f : List (Txt × Bool)} (F : xFix h) (R : FilR h fp f) (W : DraR h a qa pa D) (dw : DRw D)
    (hq : ∀ h', xFix h' → RB h h' → (D.2.length = 0 → xpl h' 40 5 = 0) → (0 < D.2.length → FitsR h' pa D f ∧ FndT h' D f f.length) → Q xN h') : xwp G m_Findings_refresh (d + 7) 0 [xR 40, xR a, xR 7, xZ, xZ] [] h Q X := by
  have hnx := F.nx
  have h60 := R.2.2.1
  have hlnf := R.2.1
  have hD40 := W.2.1.2.1
  have h41 := W.1.2.2.2
  have hlnq := W.1.2.2.1
  have loop : ∀ (m i : Nat) (h2 : XH), i + m = f.length → 0 < D.2.length → xFix h2 → RB h h2 → FitsR h2 pa D f → FndT h2 D f i → xwp G m_Findings_refresh (d + 7) 24 [xR 40, xR a, xR 7, xI i, xZ] [] h2 Q X := by
    intro m
    induction m with
    | zero =>
      intro i h2 e hp F2 B2 P2 T2
      have R2 := R.rf F B2
      have hsz := R2.1.sz
      have ei : i = f.length := by omega
      rw [ei] at T2
      refine v_Findings_refresh_24 F2 ?_
      refine ⟨?_, ?_⟩
      · first | exact ft_7 F2 | exact R2.1.ok | omega
      · refine ⟨?_, ?_⟩
        · first | exact ft_7 F2 | exact R2.1.ok | omega
        · refine ⟨fun q1 => ?_, fun q1 => ?_⟩
          · exact hq h2 F2 B2 (fun z => by omega) (fun _ => ⟨P2, T2⟩)
          · refine ⟨fun q2 => ?_, fun q2 => ?_⟩
            · exact hq h2 F2 B2 (fun z => by omega) (fun _ => ⟨P2, T2⟩)
            · refine ⟨?_, ?_⟩
              · first | exact ft_7 F2 | exact R2.1.ok | omega
              · refine ⟨?_, ?_⟩
                · first | exact ft_7 F2 | exact R2.1.ok | omega
                · refine ⟨fun q3 => ?_, fun q3 => ?_⟩
                  · refine ⟨?_, ?_⟩
                    · first | exact ft_7 F2 | exact R2.1.ok | omega
                    · refine ⟨?_, ?_⟩
                      · first | exact ft_7 F2 | exact R2.1.ok | omega
                      · omega
                  · omega
    | succ m ih =>
      intro i h2 e hp F2 B2 P2 T2
      have R2 := R.rf F B2
      have W2 := W.rf F B2
      have hsz := R2.1.sz
      have hszq := W2.1.1.sz
      obtain ⟨x, x1, x2, x3⟩ := R2.at (i := i) (by omega)
      have orS : orF D f (i + 1) = if x.2 = false ∧ qfin (js0 D f x.1) = true then insO (ahF f (wtF D f)) (orF D f i) i else orF D f i := by
        show (match f[i]? with | some x => if x.2 = false ∧ qfin (js0 D f x.1) = true then insO (ahF f (wtF D f)) (orF D f i) i else orF D f i | none => orF D f i) = _
        rw [x1]
      have next : ∀ h3, xFix h3 → RB h h3 → FitsR h3 pa D f → FndT h3 D f (i + 1) → xwp G m_Findings_refresh (d + 7) 131 [xR 40, xR a, xR 7, xI i, xZ] [] h3 Q X := by
        intro h3 F3 B3 P3 T3
        refine v_Findings_refresh_131 F3 ?_
        refine ⟨?_, ?_⟩
        · exact ⟨by omega, by omega⟩
        · exact ih (i + 1) h3 (by omega) hp F3 B3 P3 T3
      refine v_Findings_refresh_24 F2 ?_
      refine ⟨?_, ?_⟩
      · first | exact ft_7 F2 | exact R2.1.ok | exact x2.1.2.2 | exact W2.1.1.1.2.2.1 | exact W2.1.1.ok | omega
      · refine ⟨?_, ?_⟩
        · first | exact ft_7 F2 | exact R2.1.ok | exact x2.1.2.2 | exact W2.1.1.1.2.2.1 | exact W2.1.1.ok | omega
        · refine ⟨fun q1 => ?_, fun q1 => ?_⟩
          · omega
          · refine ⟨fun q2 => ?_, fun q2 => ?_⟩
            · omega
            · refine ⟨?_, ?_⟩
              · first | exact ft_7 F2 | exact R2.1.ok | exact x2.1.2.2 | exact W2.1.1.1.2.2.1 | exact W2.1.1.ok | omega
              · refine ⟨?_, ?_⟩
                · first | exact ft_7 F2 | exact R2.1.ok | exact x2.1.2.2 | exact W2.1.1.1.2.2.1 | exact W2.1.1.ok | omega
                · refine ⟨fun q3 => ?_, fun q3 => ?_⟩
                  · refine ⟨?_, ?_⟩
                    · first | exact ft_7 F2 | exact R2.1.ok | exact x2.1.2.2 | exact W2.1.1.1.2.2.1 | exact W2.1.1.ok | omega
                    · refine ⟨?_, ?_⟩
                      · first | exact ft_7 F2 | exact R2.1.ok | exact x2.1.2.2 | exact W2.1.1.1.2.2.1 | exact W2.1.1.ok | omega
                      · have xf : x.2 = false := by
                          rw [x3] at q3
                          cases z : x.2
                          · rfl
                          · rw [z] at q3; cases q3
                        rw [hszq, hlnq]
                        refine s_refresh_q (x := x) W R F dw x1 (fun h3 F3 B3 P3 lo3 J3 T3 O3 => ?_) D.2.length h2 (Nat.le_refl _) F2 B2 P2 (fun _ _ _ => rfl) (fun j qj hj hqj => ?_) (fun q ns n t hq hns => ?_) (fun _ _ => ⟨rfl, rfl⟩)
                        · have W3 := W.rf F B3
                          have R3 := R.rf F B3
                          have hszq3 := W3.1.1.sz
                          obtain ⟨ns, y1, y2, y3, -⟩ := W3.q (i := 0) hp
                          obtain ⟨v, v1, v2⟩ := J3 0 _ y2
                          have ev : js0 D f x.1 = v := by unfold js0; rw [v1]; rfl
                          have tt0 : ∀ k : Nat, k < i → TabT h2 D f k x.1 0 → True := fun _ _ _ => trivial
                          have y2' : qa[0]? = some (alg h3 a 0) := y2
                          have y3' : 93 ≤ alg h3 a 0 ∧ alg h3 a 0 < xnx h3 ∧ xtg h3 (alg h3 a 0) = 5 := y3
                          have v2' : QuesJ h3 (alg h3 a 0) v := v2
                          refine v_Findings_refresh_60 F3 ?_
                          refine ⟨fun q1 => ?_, fun q1 => ?_⟩
                          · refine ⟨?_, ?_⟩
                            · first | exact W3.1.1.1.2.2.1 | exact W3.1.1.ok | exact y3'.2.2 | exact ft_7 F3 | exact R3.1.ok | omega
                            · refine ⟨?_, ?_⟩
                              · first | exact W3.1.1.1.2.2.1 | exact W3.1.1.ok | exact y3'.2.2 | exact ft_7 F3 | exact R3.1.ok | omega
                              · refine ⟨?_, ?_⟩
                                · first | exact W3.1.1.1.2.2.1 | exact W3.1.1.ok | exact y3'.2.2 | exact ft_7 F3 | exact R3.1.ok | omega
                                · refine ⟨?_, ?_⟩
                                  · first | exact W3.1.1.1.2.2.1 | exact W3.1.1.ok | exact y3'.2.2 | exact ft_7 F3 | exact R3.1.ok | omega
                                  · refine p_Question_weightIfFinds F3 v2' ?_
                                    have B4 : ∀ w, RB h3 (xst h3 50 i w) := fun w => RB.low (C := fun c => c = 50) (xsm.st (C := fun c => c = 50) (xsm.refl h3) (by omega) (Or.inl rfl)) F3 (fun c hc => by have hc : c = 50 := hc; omega) rfl rfl
                                    refine v_Findings_refresh_110 F3 ?_
                                    refine ⟨?_, ?_⟩
                                    · first | exact ft_50 F3 | (rw [fl_50 F3]; omega) | exact W3.1.1.1.2.2.1 | exact (W3.rf F3 (B4 _)).1.1.ok | (have := (W3.rf F3 (B4 (qwif v))).1.1.sz; omega) | (obtain ⟨-, -, g2, g3, -⟩ := (W3.rf F3 (B4 (qwif v))).q (i := 0) hp; exact g3.2.2) | omega
                                    · refine ⟨?_, ?_⟩
                                      · first | exact ft_50 F3 | (rw [fl_50 F3]; omega) | exact W3.1.1.1.2.2.1 | exact (W3.rf F3 (B4 _)).1.1.ok | (have := (W3.rf F3 (B4 (qwif v))).1.1.sz; omega) | (obtain ⟨-, -, g2, g3, -⟩ := (W3.rf F3 (B4 (qwif v))).q (i := 0) hp; exact g3.2.2) | omega
                                      · refine ⟨?_, ?_⟩
                                        · first | exact ft_50 F3 | (rw [fl_50 F3]; omega) | exact W3.1.1.1.2.2.1 | exact (W3.rf F3 (B4 _)).1.1.ok | (have := (W3.rf F3 (B4 (qwif v))).1.1.sz; omega) | (obtain ⟨-, -, g2, g3, -⟩ := (W3.rf F3 (B4 (qwif v))).q (i := 0) hp; exact g3.2.2) | omega
                                        · refine ⟨?_, ?_⟩
                                          · first | exact ft_50 F3 | (rw [fl_50 F3]; omega) | exact W3.1.1.1.2.2.1 | exact (W3.rf F3 (B4 _)).1.1.ok | (have := (W3.rf F3 (B4 (qwif v))).1.1.sz; omega) | (obtain ⟨-, -, g2, g3, -⟩ := (W3.rf F3 (B4 (qwif v))).q (i := 0) hp; exact g3.2.2) | omega
                                          · refine ⟨?_, ?_⟩
                                            · first | exact ft_50 F3 | (rw [fl_50 F3]; omega) | exact W3.1.1.1.2.2.1 | exact (W3.rf F3 (B4 _)).1.1.ok | (have := (W3.rf F3 (B4 (qwif v))).1.1.sz; omega) | (obtain ⟨-, -, g2, g3, -⟩ := (W3.rf F3 (B4 (qwif v))).q (i := 0) hp; exact g3.2.2) | omega
                                            · refine ⟨?_, ?_⟩
                                              · first | exact ft_50 F3 | (rw [fl_50 F3]; omega) | exact W3.1.1.1.2.2.1 | exact (W3.rf F3 (B4 _)).1.1.ok | (have := (W3.rf F3 (B4 (qwif v))).1.1.sz; omega) | (obtain ⟨-, -, g2, g3, -⟩ := (W3.rf F3 (B4 (qwif v))).q (i := 0) hp; exact g3.2.2) | omega
                                              · refine ⟨?_, ?_⟩
                                                · first | exact ft_50 F3 | (rw [fl_50 F3]; omega) | exact W3.1.1.1.2.2.1 | exact (W3.rf F3 (B4 _)).1.1.ok | (have := (W3.rf F3 (B4 (qwif v))).1.1.sz; omega) | (obtain ⟨-, -, g2, g3, -⟩ := (W3.rf F3 (B4 (qwif v))).q (i := 0) hp; exact g3.2.2) | omega
                                                · refine ⟨?_, ?_⟩
                                                  · first | exact ft_50 F3 | (rw [fl_50 F3]; omega) | exact W3.1.1.1.2.2.1 | exact (W3.rf F3 (B4 _)).1.1.ok | (have := (W3.rf F3 (B4 (qwif v))).1.1.sz; omega) | (obtain ⟨-, -, g2, g3, -⟩ := (W3.rf F3 (B4 (qwif v))).q (i := 0) hp; exact g3.2.2) | omega
                                                  · intro F9
                                                    obtain ⟨H, hH⟩ : ∃ H, H = xst h3 50 i (qwif v) := ⟨_, rfl⟩
                                                    have BH : RB h3 H := by rw [hH]; exact B4 _
                                                    have W4 := W3.rf F3 BH
                                                    rw [← hH] at F9 ⊢
                                                    have kH : ∀ c k, c ≠ 50 → xpl H c k = xpl h3 c k := fun c k hc => by rw [hH, xpl_st, if_neg (fun y => hc y.1)]
                                                    obtain ⟨-, -, g2, g3, -⟩ := W4.q (i := 0) hp
                                                    have g2' : qa[0]? = some (alg H a 0) := g2
                                                    have eq0 : alg H a 0 = alg h3 a 0 := Option.some.inj (g2'.symm.trans y2')
                                                    have v4 : QuesJ H (alg H a 0) v := by
                                                      rw [eq0]
                                                      exact v2'.keep (by rw [hH]; rfl) (fun k => kH _ k (by have := y3'.1; omega))
                                                    have P4 : FitsR H pa D f := P3.lo W3 (fun c k c1 c2 => kH c k (by omega)) (fun c k c1 _ _ => kH c k (by omega))
                                                    have wH : xpl H 50 i = wtF D f i := by
                                                      rw [hH, xpl_st, if_pos ⟨rfl, rfl⟩]
                                                      unfold wtF
                                                      rw [x1, ← ev]
                                                    have old : ∀ (j : Nat) y, j < i → f[j]? = some y → y.2 = false → xpl H 50 j = wtF D f j ∧ TabT H D f j y.1 0 := fun j y hj hy hy2 => by
                                                      obtain ⟨b1, b2⟩ := T2.2 j y hj hy hy2
                                                      refine ⟨?_, b2.keep (fun n hn => ?_)⟩
                                                      · rw [hH, xpl_st, if_neg (by omega), lo3 50 j (Or.inr (Or.inl rfl))]; exact b1
                                                      · have := O3 (slF n j) (fun n' hn' => slF_txt ⟨by omega, by omega⟩ ⟨by omega, by omega⟩ ⟨by omega, by omega⟩ ⟨by omega, by omega⟩ (Or.inr (by omega)))
                                                        rw [kH 48 _ (by decide), kH 49 _ (by decide)]
                                                        exact this
                                                    have tabi : TabT H D f i x.1 0 := T3.keep (fun n _ => ⟨kH 48 _ (by decide), kH 49 _ (by decide)⟩)
                                                    have ord : OrdR H (orF D f i) := T2.1.keep (by rw [kH 40 5 (by decide), lo3 40 5 (Or.inl ⟨by decide, by decide⟩)]) (fun k => by rw [kH 51 k (by decide), lo3 51 k (Or.inr (Or.inr rfl))])
                                                    have all : ∀ (j : Nat) y, j < i + 1 → f[j]? = some y → y.2 = false → xpl H 50 j = wtF D f j ∧ TabT H D f j y.1 0 := fun j y hj hy hy2 => by
                                                      by_cases z : j = i
                                                      · subst z
                                                        rw [x1] at hy
                                                        cases hy
                                                        exact ⟨wH, tabi⟩
                                                      · exact old j y (by omega) hy hy2
                                                    refine p_Question_finds F9 v4 ?_
                                                    refine v_Findings_refresh_122 F9 ?_
                                                    refine ⟨fun q1 => ?_, fun q1 => ?_⟩
                                                    · refine next H F9 (B3.trans BH) P4 ⟨?_, all⟩
                                                      rw [orS, if_neg (fun y => by rw [ev, bz0 q1] at y; exact absurd y.2 (by decide))]
                                                      exact ord
                                                    · have ol := orF_len D f i
                                                      refine s_Findings_putInOrder (wt := wtF D f) F9 (R3.rf F3 BH) (by omega) ord (fun o ho => by have := (orF_mem D f i o ho).1; omega) (by omega) (fun o ho => ?_) (fun h5 F5 S5 A5 e5 n5 l5 => ?_)
                                                      · rcases ho with ho | ho
                                                        · rw [ho]; exact wH
                                                        · obtain ⟨o1, y, o2, o3⟩ := orF_mem D f i o ho
                                                          exact (old o y o1 o2 o3).1
                                                      · have B5 : RB H h5 := RB.low S5 F9 (fun c hc => by unfold ORW at hc; omega) n5 l5
                                                        have hnH := F9.nx
                                                        have k5 : ∀ c k, c ≠ 40 → c ≠ 51 → c < xnx H → xpl h5 c k = xpl H c k := fun c k c1 c2 c3 => S5.pl c3 (fun w => by unfold ORW at w; omega) k
                                                        refine next h5 F5 ((B3.trans BH).trans B5) (P4.lo W4 (fun c k c1 c2 => k5 c k (by omega) (by omega) (by omega)) (fun c k c1 c2 _ => k5 c k (by omega) (by omega) c2)) ⟨?_, fun j y hj hy hy2 => ?_⟩
                                                        · rw [orS, if_pos ⟨xf, by rw [ev]; exact bz1 q1⟩]
                                                          exact A5
                                                        · obtain ⟨b1, b2⟩ := all j y hj hy hy2
                                                          exact ⟨by rw [k5 50 j (by decide) (by decide) (by omega)]; exact b1, b2.keep (fun n _ => ⟨k5 48 _ (by decide) (by decide) (by omega), k5 49 _ (by decide) (by decide) (by omega)⟩)⟩
                          · refine ⟨?_, ?_⟩
                            · first | exact W3.1.1.1.2.2.1 | exact W3.1.1.ok | exact y3'.2.2 | exact ft_7 F3 | exact R3.1.ok | omega
                            · refine ⟨?_, ?_⟩
                              · first | exact W3.1.1.1.2.2.1 | exact W3.1.1.ok | exact y3'.2.2 | exact ft_7 F3 | exact R3.1.ok | omega
                              · refine ⟨?_, ?_⟩
                                · first | exact W3.1.1.1.2.2.1 | exact W3.1.1.ok | exact y3'.2.2 | exact ft_7 F3 | exact R3.1.ok | omega
                                · refine ⟨?_, ?_⟩
                                  · first | exact W3.1.1.1.2.2.1 | exact W3.1.1.ok | exact y3'.2.2 | exact ft_7 F3 | exact R3.1.ok | omega
                                  · refine ⟨?_, ?_⟩
                                    · first | exact W3.1.1.1.2.2.1 | exact W3.1.1.ok | exact y3'.2.2 | exact ft_7 F3 | exact R3.1.ok | omega
                                    · refine ⟨?_, ?_⟩
                                      · first | exact W3.1.1.1.2.2.1 | exact W3.1.1.ok | exact y3'.2.2 | exact ft_7 F3 | exact R3.1.ok | omega
                                      · refine ⟨?_, ?_⟩
                                        · first | exact W3.1.1.1.2.2.1 | exact W3.1.1.ok | exact y3'.2.2 | exact ft_7 F3 | exact R3.1.ok | omega
                                        · refine ⟨?_, ?_⟩
                                          · first | exact W3.1.1.1.2.2.1 | exact W3.1.1.ok | exact y3'.2.2 | exact ft_7 F3 | exact R3.1.ok | omega
                                          · refine ⟨?_, ?_⟩
                                            · first | exact W3.1.1.1.2.2.1 | exact W3.1.1.ok | exact y3'.2.2 | exact ft_7 F3 | exact R3.1.ok | omega
                                            · omega
                        · have := (List.getElem?_eq_some_iff.mp hqj).1
                          omega
                        · have := (List.getElem?_eq_some_iff.mp hns).1
                          omega
                  · have xt : x.2 = true := by
                      rw [x3] at q3
                      cases z : x.2
                      · exact absurd (by rw [z]; rfl) q3
                      · rfl
                    refine next h2 F2 B2 P2 ⟨?_, fun j y hj hy hy2 => ?_⟩
                    · rw [orS, if_neg (fun y => by rw [xt] at y; exact absurd y.1 (by decide))]
                      exact T2.1
                    · by_cases z : j = i
                      · subst z
                        rw [x1] at hy
                        cases hy
                        rw [xt] at hy2; cases hy2
                      · exact T2.2 j y (by omega) hy hy2
  have B1 : RB h (xst h 40 5 0) := RB.low (C := fun c => c = 40) (xsm.st (C := fun c => c = 40) (xsm.refl h) (by decide) (Or.inl rfl)) F (fun c hc => by have hc : c = 40 := hc; omega) rfl rfl
  have W1 := W.rf F B1
  have R1 := R.rf F B1
  have hs1 := W1.1.1.sz
  refine v_Findings_refresh_0 F ?_
  refine ⟨?_, ?_⟩
  · first | exact W.1.1.1.2.2.1 | exact W1.1.1.ok
  · refine ⟨?_, ?_⟩
    · first | exact W.1.1.1.2.2.1 | exact W1.1.1.ok
    · refine ⟨fun q1 => ?_, fun q1 => ?_⟩
      · intro F9
        have z := of_decide_eq_true q1
        exact hq _ F9 B1 (fun _ => by rw [xpl_st, if_pos ⟨rfl, rfl⟩]) (fun z2 => by omega)
      · intro F9
        have z : als (xst h 40 5 0) a ≠ 0 := fun y => q1 (decide_eq_true y)
        refine s_Fits_fill F9 R1 W1 (fun h2 F2 S2 e10 P2 n2 l2 => ?_)
        have hn1 := F9.nx
        have B2 : RB (xst h 40 5 0) h2 := ⟨S2.mono (fun c _ w => by
            rcases w with w | ⟨w, w2⟩
            · exact Or.inl ⟨by omega, by omega⟩
            · exact Or.inr ⟨w2, Or.inl w⟩), e10, fun c c1 c2 c3 => S2.pl c2 (fun w => by
            rcases w with w | ⟨w, w2⟩
            · omega
            · rw [c3] at w; cases w) 0, n2, l2⟩
        refine v_Findings_refresh_22 F2 ?_
        refine loop f.length 0 h2 (by omega) (by omega) F2 (B1.trans B2) P2 ⟨⟨?_, fun i hi => absurd hi (Nat.not_lt_zero i)⟩, fun i x hi => absurd hi (Nat.not_lt_zero i)⟩
        rw [S2.pl (by omega) (fun w => by
          rcases w with w | ⟨w, w2⟩
          · omega
          · omega) 5, xpl_st, if_pos ⟨rfl, rfl⟩]
        rfl

end
