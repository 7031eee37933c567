/-! ===== read2 ===== -/
section
def r00 : RS := ((0, 0, 2), ([], [[]]), [], 0, [])
theorem r00I : RDI 0 r00 := by
  refine ⟨⟨by decide, by decide, by decide, fun ns hn => ?_, by decide, by decide⟩, ⟨Or.inl rfl, ⟨by decide, by decide⟩, ⟨by decide, by decide⟩, fun y => absurd y (by decide)⟩, fun m hm => absurd hm List.not_mem_nil, fun m t h => ?_, fun ns hn m hm => ?_, fun q ns n t h1 h2 h3 h4 => ?_, fun q q' ns ns' n h1 h2 h3 h4 => ?_⟩
  · have hn : ns ∈ [[]] := hn
    rw [List.mem_singleton] at hn
    rw [hn]; exact Nat.le_refl _
  · have h : ([] : List PT)[m]? = some t := h
    rw [List.getElem?_nil] at h; cases h
  · have hn : ns ∈ [[]] := hn
    rw [List.mem_singleton] at hn
    rw [hn] at hm; exact absurd hm List.not_mem_nil
  · have h3 : ([] : List PT)[n]? = some t := h3
    rw [List.getElem?_nil] at h3; cases h3
  · have h1 : ([[]] : List (List Nat))[q]? = some ns := h1
    have hn := List.mem_of_getElem? h1
    rw [List.mem_singleton] at hn
    rw [hn] at h3; exact absurd h3 List.not_mem_nil
theorem RDW.of34 {h0 h : XH} (e : xsm (RDW h0) h0 h) {c : Int} (hc : c < xnx h0) (w : ALC h 34 c) : RDW h0 c := by
  rcases w with w | ⟨w1, w2⟩
  · exact Or.inl (Or.inr (Or.inr (Or.inl w)))
  · rw [e.tg hc] at w1
    rw [e.mkd hc] at w2
    exact Or.inr ⟨w1, Or.inl w2⟩
theorem RDW.ofA {h0 h : XH} {a : Int} (e : xsm (RDW h0) h0 h) (ha : xnx h0 ≤ a) {c : Int} (hc : c < xnx h0) (w : ALC h a c) : RDW h0 c := by
  rcases w with w | ⟨w1, w2⟩
  · omega
  · rw [e.tg hc] at w1
    rw [e.mkd hc] at w2
    exact Or.inr ⟨w1, Or.inr (by omega)⟩
theorem ALr.lowc {h h' : XH} {a : Int} {es : List Int} (R : ALr h a es) (F : xFix h) (e : xsm (LOWC h) h h') (ha : 52 ≤ a) : ALr h' a es :=
  R.frame F e (fun c w y => LOWC.nd F y (by
    rcases w with w | ⟨w1, w2⟩
    · exact Or.inl ⟨by rw [w]; exact R.1.2.2.1, by omega⟩
    · exact Or.inr (Or.inl ⟨w1, by omega⟩)))
theorem s_QR_read {G : XG} {d : Nat} {h : XH} {Q : XV → XH → Prop} {X : Nat → XH → Prop} {bs es : List Int} (F : xFix h) (T : TapeR h bs) (A : ALr h 34 es) (z10 : xpl h 35 10 = 0) (hc : xnx h + 500 ≤ xKC) (hs : xsl h + 6600 ≤ xKS) (hq : ∀ h', RdQ h h' bs (rdF bs 40 0 r00) → Q (xI (rdF bs 40 0 r00).1) h') : xwp G m_QuestionReader_read (d + 12) 0 [xR 32, xR 1, xZ, xZ] [] h Q X := by
  have hnx := F.nx
  refine v_QuestionReader_read_0 F ?_
  refine ⟨?_, ?_⟩
  · omega
  · refine ⟨?_, ?_⟩
    · omega
    · intro F9
      obtain ⟨a, ha⟩ : ∃ a, a = xnx h := ⟨_, rfl⟩
      obtain ⟨H1, hH1⟩ : ∃ H1, H1 = xst (xst (xst (xmk h 13 3 (xdef 13)) (xnx h) 2 0) (xnx h) 0 (-103)) 32 5 (xnx h) := ⟨_, rfl⟩
      rw [← hH1] at F9 ⊢
      have hne : ¬ xnx h = 32 := by omega
      have S1 : xsm (fun c => c = 32 ∨ c = 33) h H1 := by
        rw [hH1]
        exact ((((xsm.refl h).mk (by decide)).st (by decide) (Or.inr (by omega))).st (by decide) (Or.inr (by omega))).st (by decide) (Or.inl (Or.inl rfl))
      have n1 : xnx H1 = a + 1 := by rw [hH1, ha]; exact xnx_mk h 13 3 (xdef 13)
      have l1 : xsl H1 = xsl h + 3 := by rw [hH1]; exact xsl_mk h 13 3 (xdef 13)
      have t1 : xtg H1 a = 13 := by rw [hH1, ha]; show xtg (xmk h 13 3 (xdef 13)) _ = _; exact xtg_new rfl
      have p0 : xpl H1 a 0 = -103 := by rw [hH1, ha, xpl_oa hne, xpl_hit]
      have p1 : xpl H1 a 1 = 0 := by rw [hH1, ha, xpl_oa hne, xpl_ok (by decide), xpl_ok (by decide), xpl_new rfl]; rfl
      have A1 : ALr H1 a [] := by
        refine ⟨⟨by omega, by omega, t1, p1, by decide⟩, ?_, ?_, fun i hi => absurd hi (Nat.not_lt_zero i), fun x hx => absurd hx List.not_mem_nil⟩
        · rw [p0, ft_m103 F9, fl_m103 F9]; exact ⟨rfl, by decide, by decide⟩
        · rw [p0]; exact Or.inl rfl
      have hdr : xpl H1 32 5 = a := by rw [hH1, xpl_hit, ha]
      have X1 : xsm (RDW h) h H1 := S1.mono (fun c _ w => Or.inl (by omega))
      have A34 : ALr H1 34 es := A.frame F S1 (fun c w y => by
        rcases w with w | w
        · omega
        · rcases y with y | y <;> rw [y] at w
          · rw [ft_32 F] at w; exact absurd w.1 (by decide)
          · rw [ft_33 F] at w; exact absurd w.1 (by decide))
      have T1 : TapeR H1 bs := T.keep (S1.pl (by omega) (by omega) 3) (fun k => S1.pl (by omega) (by omega) k)
      have z1 : xpl H1 35 10 = 0 := (S1.pl (by omega) (by omega) 10).trans z10
      refine v_QuestionReader_read_11 F9 ?_
      refine ⟨?_, ?_⟩
      · first | omega | (rw [xnx_mk]; omega) | (rw [xsl_mk]; omega) | (rw [hdr, xtg_mk, if_neg (by rw [xnx_mk]; omega), xtg_mk, if_neg (by omega)]; exact t1)
      · refine ⟨?_, ?_⟩
        · first | omega | (rw [xnx_mk]; omega) | (rw [xsl_mk]; omega) | (rw [hdr, xtg_mk, if_neg (by rw [xnx_mk]; omega), xtg_mk, if_neg (by omega)]; exact t1)
        · refine ⟨?_, ?_⟩
          · first | omega | (rw [xnx_mk]; omega) | (rw [xsl_mk]; omega) | (rw [hdr, xtg_mk, if_neg (by rw [xnx_mk]; omega), xtg_mk, if_neg (by omega)]; exact t1)
          · refine ⟨?_, ?_⟩
            · first | omega | (rw [xnx_mk]; omega) | (rw [xsl_mk]; omega) | (rw [hdr, xtg_mk, if_neg (by rw [xnx_mk]; omega), xtg_mk, if_neg (by omega)]; exact t1)
            · refine ⟨?_, ?_⟩
              · first | omega | (rw [xnx_mk]; omega) | (rw [xsl_mk]; omega) | (rw [hdr, xtg_mk, if_neg (by rw [xnx_mk]; omega), xtg_mk, if_neg (by omega)]; exact t1)
              · intro F9
                rw [hdr]
                have F1 := A1.1
                obtain ⟨H2, hH2⟩ : ∃ H2, H2 = xst (xst (xst (xst (xst (xst (xst (xmk (xmk H1 5 5 (xdef 5)) 13 3 (xdef 13)) (xnx (xmk H1 5 5 (xdef 5))) 2 0) (xnx (xmk H1 5 5 (xdef 5))) 0 (-103)) (xnx H1) 0 (xnx (xmk H1 5 5 (xdef 5)))) (xnx H1) 1 0) (xnx H1) 2 0) (xnx H1) 3 0) (xnx H1) 4 0 := ⟨_, rfl⟩
                rw [← hH2] at F9 ⊢
                have FH1 : xFix H1 := by assumption
                obtain ⟨S2, n2, l2, t2, p2, A2, -⟩ := newQ FH1 H2 hH2 F9
                obtain ⟨q, hqd⟩ : ∃ q, q = xnx H1 := ⟨_, rfl⟩
                rw [← hqd] at n2 t2 p2 A2 ⊢
                have fr2 : ∀ x es, ALr H1 x es → ALr H2 x es := fun x es R => R.frame FH1 S2 (fun _ _ y => y)
                have X2 : xsm (RDW h) h H2 := X1.then S2 (fun c _ w => w.elim)
                refine s_AL_add F9 (fr2 a [] A1) (by decide) (by omega) (by rw [t2]; rfl) (by omega) (by show xsl H2 + 2 * ((0 : Nat) : Int) + 10 ≤ xKS; omega) (fun h3 F3 e3 n3 l3 A3 => ?_)
                have l3 : xsl h3 ≤ xsl H2 + 2 * ((0 : Nat) : Int) + 10 := l3
                have A3 : ALr h3 a [q] := A3
                have X3 : xsm (RDW h) h h3 := X2.then e3 (fun c hc w => RDW.ofA X2 (by omega) hc w)
                have nA : ∀ c, xtg H2 c ≠ 13 → xtg H2 c ≠ 110 → c < xnx H2 → ∀ k, xpl h3 c k = xpl H2 c k := fun c c1 c2 c3 k => e3.pl c3 (fun w => by
                  rcases w with w | w
                  · rw [w, (fr2 a [] A1).1.2.2.1] at c1; exact c1 rfl
                  · exact c2 w.1) k
                have p3 : xpl h3 q 0 = q + 1 := (nA q (by rw [t2]; decide) (by rw [t2]; decide) (by omega) 0).trans p2
                have t3 : xtg h3 q = 5 := (e3.tg (by omega)).trans t2
                have Al3 : ALr h3 (q + 1) [] := A2.frame F9 e3 (fun c w => ALC_ne A2.1.2.2.1 (fr2 a [] A1).1.2.2.1 (by omega) w)
                have A343 : ALr h3 34 es := (fr2 34 es A34).frame F9 e3 (fun c w => ALC_ne (ft_34 F9) (fr2 a [] A1).1.2.2.1 (by omega) w)
                have T3 : TapeR h3 bs := (T1.keep (S2.pl (by omega) (fun y => y) 3) (fun k => S2.pl (by omega) (fun y => y) k)).keep (nA 1 (by rw [ft_1 F9]; decide) (by rw [ft_1 F9]; decide) (by omega) 3) (nA 2 (by rw [ft_2 F9]; decide) (by rw [ft_2 F9]; decide) (by omega))
                have z3 : xpl h3 35 10 = 0 := ((nA 35 (by rw [ft_35 F9]; decide) (by rw [ft_35 F9]; decide) (by omega) 10).trans (S2.pl (by omega) (fun y => y) 10)).trans z1
                have d3 : xpl h3 32 5 = a := ((nA 32 (by rw [ft_32 F9]; decide) (by rw [ft_32 F9]; decide) (by omega) 5).trans (S2.pl (by omega) (fun y => y) 5)).trans hdr
                refine v_QuestionReader_read_25 F3 ?_
                intro F9
                obtain ⟨h4, hh4⟩ : ∃ h4, h4 = xst h3 32 6 0 := ⟨_, rfl⟩
                rw [← hh4] at F9 ⊢
                have S4 : xsm (LOWC h3) h3 h4 := by rw [hh4]; exact (xsm.refl h3).st (by decide) (Or.inl (Or.inl (Or.inl rfl)))
                have F4 : xFix h4 := F9
                have A344 : ALr h4 34 es := A343.frame F3 (by rw [hh4]; exact (xsm.refl h3).st (by decide) (Or.inl (Or.inl rfl)) : xsm (fun c => c = 32 ∨ c = 33) h3 h4) (fun c w y => by
                  rcases w with w | w
                  · omega
                  · rcases y with y | y <;> rw [y] at w
                    · rw [ft_32 F3] at w; exact absurd w.1 (by decide)
                    · rw [ft_33 F3] at w; exact absurd w.1 (by decide))
                have n4 : xnx h4 = xnx h3 := by rw [hh4]; rfl
                have l4 : xsl h4 = xsl h3 := by rw [hh4]; rfl
                refine s_AL_clear F4 A344 (fun h5 F5 e5 n5 l5 A5 => ?_)
                have lw : ∀ {x y : XH}, xsm (ALC x 34) x y → xsm (LOWC x) x y := fun e => e.mono (fun c _ w => by
                  rcases w with w | w
                  · exact Or.inl (Or.inr (Or.inr (Or.inl w)))
                  · exact Or.inr w)
                have S5 : xsm (LOWC h3) h3 h5 := S4.then (lw e5) (fun c hc w => by
                  rcases w with w | ⟨w1, w2⟩
                  · exact Or.inl w
                  · rw [S4.tg hc] at w1
                    rw [S4.mkd hc] at w2
                    exact Or.inr ⟨w1, w2⟩)
                refine v_QuestionReader_read_38 F5 ?_
                refine s_AL_add F5 A5 (by decide) (by have := F5.nx; omega) (by rw [ft_35 F5]; rfl) (by omega) (by show xsl h5 + 2 * ((0 : Nat) : Int) + 10 ≤ xKS; omega) (fun h6 F6 e6 n6 l6 A6 => ?_)
                have l6 : xsl h6 ≤ xsl h5 + 2 * ((0 : Nat) : Int) + 10 := l6
                have A6 : ALr h6 34 [35] := A6
                have S6 : xsm (LOWC h3) h3 h6 := S5.then (lw e6) (fun c hc w => by
                  rcases w with w | ⟨w1, w2⟩
                  · exact Or.inl w
                  · rw [S5.tg hc] at w1
                    rw [S5.mkd hc] at w2
                    exact Or.inr ⟨w1, w2⟩)
                refine v_QuestionReader_read_49 F6 ?_
                intro F9
                obtain ⟨h7, hh7⟩ : ∃ h7, h7 = xst (xst h6 32 8 0) 32 12 0 := ⟨_, rfl⟩
                rw [← hh7] at F9 ⊢
                have e7 : xsm (fun c => c = 32 ∨ c = 33) h6 h7 := by rw [hh7]; exact (x32 (by decide)).trans (x32 (by decide))
                have S7 : xsm (LOWC h3) h3 h7 := S6.then e7 (fun c hc w => Or.inl (by omega))
                have n7 : xnx h7 = xnx h6 := by rw [hh7]; rfl
                have l7 : xsl h7 = xsl h6 := by rw [hh7]; rfl
                have nx3 := F3.nx
                have k34 : ∀ {x y : XH}, xFix x → xsm (ALC x 34) x y → ∀ c, c < 93 → xtg x c ≠ 110 → c ≠ 34 → ∀ k, xpl y c k = xpl x c k := fun {x y} Fx e c c1 c2 c3 k => e.pl (by have := Fx.nx; omega) (fun w => by
                  rcases w with w | w
                  · exact c3 w
                  · exact c2 w.1) k
                have e63 : ∀ c, c = 1 ∨ c = 2 ∨ c = 35 ∨ c = 32 → ∀ k, xpl h6 c k = xpl h4 c k := fun c hc k => by
                  rcases hc with e | e | e | e <;> rw [e]
                  · exact (k34 F5 e6 1 (by decide) (by rw [ft_1 F5]; decide) (by decide) k).trans (k34 F4 e5 1 (by decide) (by rw [ft_1 F4]; decide) (by decide) k)
                  · exact (k34 F5 e6 2 (by decide) (by rw [ft_2 F5]; decide) (by decide) k).trans (k34 F4 e5 2 (by decide) (by rw [ft_2 F4]; decide) (by decide) k)
                  · exact (k34 F5 e6 35 (by decide) (by rw [ft_35 F5]; decide) (by decide) k).trans (k34 F4 e5 35 (by decide) (by rw [ft_35 F4]; decide) (by decide) k)
                  · exact (k34 F5 e6 32 (by decide) (by rw [ft_32 F5]; decide) (by decide) k).trans (k34 F4 e5 32 (by decide) (by rw [ft_32 F4]; decide) (by decide) k)
                have e73 : ∀ c, c = 1 ∨ c = 2 ∨ c = 35 → ∀ k, xpl h7 c k = xpl h3 c k := fun c hc k => by
                  rw [hh7, xpl_oa (by omega), xpl_oa (by omega), e63 c (by omega), hh4, xpl_oa (by omega)]
                have q93 : 93 ≤ q := by omega
                have qlt3 : q + 1 < xnx h3 := Al3.1.2.1
                have q0 : xpl h7 q 0 = q + 1 := (S7.pl (by omega) (fun w => by have := w.hi (by omega); rw [t3] at this; cases this) 0).trans p3
                have D7 : DraR h7 a [q] [] ([], [[]]) := by
                  refine ⟨⟨A3.lowc F3 S7 (by omega), by omega, rfl, by show 1 ≤ 41; decide⟩, ⟨rfl, by show 0 ≤ 40; decide, by simp, by simp⟩, fun i x ns h1 h3' => ?_, fun n p t h1 _ => ?_⟩
                  · have hm := List.mem_of_getElem? h1
                    rw [List.mem_singleton] at hm
                    have hm2 : ns ∈ ([[]] : List (List Nat)) := List.mem_of_getElem? h3'
                    rw [List.mem_singleton] at hm2
                    rw [hm, hm2, q0]
                    exact ⟨⟨q93, by have := S7.nx; omega, by rw [S7.tg (by omega)]; exact t3⟩, by omega, Al3.lowc F3 S7 (by omega), fun n hn => absurd hn List.not_mem_nil, by show 0 ≤ 40; decide⟩
                  · rw [List.getElem?_nil] at h1; cases h1
                refine s_QR_readLoop (h := h) (h0 := h) (bs := bs) (a := a) (ans := rdF bs 40 0 r00) hq hc hs 40 0 h7 [q] [] r00 0 rfl ⟨⟨F9, X3.then S7 (fun c hc w => RDW.low X3 hc w), T3.keep (e73 1 (by omega) 3) (e73 2 (by omega)), hnx⟩, ⟨?_, by rw [e73 35 (by omega)]; exact z3⟩, D7, ?_⟩ ⟨⟨?_, fun y => absurd y (by decide)⟩, ⟨?_, ?_, fun y => absurd y (by decide)⟩, fun y => absurd y (by decide)⟩ r00I (Int.le_refl _) (by omega) ?_ (by omega) (by omega) rfl
                · exact A6.frame F6 e7 (fun c w y => by
                    rcases w with w | w
                    · omega
                    · rcases y with y | y <;> rw [y] at w
                      · rw [ft_32 F6] at w; exact absurd w.1 (by decide)
                      · rw [ft_33 F6] at w; exact absurd w.1 (by decide))
                · refine ⟨by omega, fun x hx => ?_, fun p hp => absurd hp List.not_mem_nil, fun i j x y hi hj hij => ?_⟩
                  · rw [List.mem_singleton] at hx
                    rw [hx, q0]
                    exact ⟨by omega, by omega, by omega⟩
                  · have h1 := (List.getElem?_eq_some_iff.mp hi).1
                    have h2 := (List.getElem?_eq_some_iff.mp hj).1
                    have h1 : i < 1 := h1
                    have h2 : j < 1 := h2
                    omega
                · rw [hh7, xpl_hit]; rfl
                · rw [hh7, xpl_ok (by decide), xpl_ok (by decide), e63 32 (by omega), hh4, xpl_ok (by decide)]; exact d3
                · rw [hh7, xpl_ok (by decide), xpl_ok (by decide), e63 32 (by omega), hh4, xpl_hit]; rfl
                · rw [hh7, xpl_ok (by decide), xpl_hit]
                  exact ⟨Int.le_refl _, by omega, rfl⟩

end
