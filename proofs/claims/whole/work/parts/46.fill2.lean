/-! ===== fill2 ===== -/
section
theorem DRC.fi {h : XH} (F : xFix h) {c : Int} (w : DRC h c) : ¬ FIW h c := fun v => by
  rcases v with v | ⟨v, v2⟩
  · have : c = 41 ∨ c = 42 ∨ c = 43 ∨ c = 44 ∨ c = 45 ∨ c = 46 ∨ c = 47 := by omega
    have ht : xtg h c ≠ 110 := by
      rcases this with e | e | e | e | e | e | e <;> rw [e]
      · rw [ft_41 F]; decide
      · rw [ft_42 F]; decide
      · rw [ft_43 F]; decide
      · rw [ft_44 F]; decide
      · rw [ft_45 F]; decide
      · rw [ft_46 F]; decide
      · rw [ft_47 F]; decide
    rcases w with ⟨-, w⟩ | ⟨w, -⟩ | ⟨-, -, w⟩
    · omega
    · exact ht w
    · omega
  · rcases w with ⟨w, -⟩ | ⟨w, -⟩ | ⟨w, -⟩
    · rw [v] at w; cases w
    · rw [v] at w; cases w
    · rw [v] at w; cases w
/-- the fields of parts that do not change in filling in -/
def P10 (h h' : XH) : Prop := ∀ c k, 93 ≤ c → c < xnx h → xtg h c = 4 → k ≤ 10 → xpl h' c k = xpl h c k
theorem DraR.fi {h h' : XH} {a : Int} {qa pa : List Int} {D : DR} (R : DraR h a qa pa D) (F : xFix h) (e : xsm (FIW h) h h') (e10 : P10 h h') : DraR h' a qa pa D :=
  R.frame F e (fun _ w => w.fi F) (fun c c1 c2 c3 => e.pl c2 (fun w => by
    rcases w with w | ⟨w, -⟩
    · omega
    · rw [c3] at w; cases w) 0) e10
theorem s_Fits_fill {G : XG} {d : Nat} {h : XH} {Q : XV → XH → Prop} {X : Nat → XH → Prop} {a : Int} {qa pa fp : List Int} {D : DR} {f : List (Txt × Bool)} (F : xFix h) (R : FilR h fp f) (W : DraR h a qa pa D)
    (hq : ∀ h', xFix h' → xsm (FIW h) h h' → P10 h h' → FitsR h' pa D f → xnx h' = xnx h → xsl h' = xsl h → Q xN h') : xwp G m_Fits_fill (d + 6) 0 [xR 41, xR a, xR 7, xZ, xZ, xZ, xZ] [] h Q X := by
  have hnx := F.nx
  obtain ⟨mean, hmean⟩ : ∃ mean : XH → Prop, mean = fun h2 => xpl h2 44 0 = mlF f 0 ∧ xpl h2 44 1 = mlF f 1 := ⟨_, rfl⟩
  have inner : ∀ (m k i : Nat) (ns : List Nat) (h2 : XH), D.2[i]? = some ns → k + m = ns.length → xFix h2 → xsm (FIW h) h h2 → P10 h h2 → mean h2 → (∀ n p t, pa[n]? = some p → D.1[n]? = some t → (∃ j ms, j < i ∧ D.2[j]? = some ms ∧ n ∈ ms) ∨ n ∈ ns.take k → PFit h2 p t f) → xnx h2 = xnx h → xsl h2 = xsl h →
      (∀ h3, xFix h3 → xsm (FIW h) h h3 → P10 h h3 → mean h3 → (∀ n p t, pa[n]? = some p → D.1[n]? = some t → (∃ j ms, j < i + 1 ∧ D.2[j]? = some ms ∧ n ∈ ms) → PFit h3 p t f) → xnx h3 = xnx h → xsl h3 = xsl h → xwp G m_Fits_fill (d + 6) 26 [xR 41, xR a, xR 7, xI ((i : Int) + 1), xZ, xZ, xZ] [] h3 Q X) →
      xwp G m_Fits_fill (d + 6) 50 [xR 41, xR a, xR 7, xI i, xR (xpl h2 (alg h2 a i) 0), xI k, xZ] [] h2 Q X := by
    intro m
    induction m with
    | zero =>
      intro k i ns h2 hi e F2 S2 e10 M2 done n2 l2 hk
      have W2 := W.fi F S2 e10
      obtain ⟨ns', q1, q2, q3, q4, q5, q6, q7⟩ := W2.q (i := i) (List.getElem?_eq_some_iff.mp hi).1
      rw [hi] at q1
      cases q1
      have hsz := q5.sz
      rw [List.length_map] at hsz
      have hil := (List.getElem?_eq_some_iff.mp hi).1
      have h41 := W2.1.2.2.2
      refine v_Fits_fill_50 F2 ?_
      refine ⟨?_, ?_⟩
      · first | exact q5.1.2.2.1 | exact q5.ok | exact ⟨by omega, by omega⟩ | omega
      · refine ⟨?_, ?_⟩
        · first | exact q5.1.2.2.1 | exact q5.ok | exact ⟨by omega, by omega⟩ | omega
        · refine ⟨fun q1 => ?_, fun q1 => ?_⟩
          · refine ⟨?_, ?_⟩
            · first | exact q5.1.2.2.1 | exact q5.ok | exact ⟨by omega, by omega⟩ | omega
            · refine hk h2 F2 S2 e10 M2 (fun n p t hp ht hj => done n p t hp ht ?_) n2 l2
              obtain ⟨j, ms, hj1, hj2, hj3⟩ := hj
              by_cases z : j = i
              · subst z
                rw [hi] at hj2
                cases hj2
                exact Or.inr (by rw [List.take_of_length_le (by omega)]; exact hj3)
              · exact Or.inl ⟨j, ms, by omega, hj2, hj3⟩
          · refine ⟨?_, ?_⟩
            · first | exact q5.1.2.2.1 | exact q5.ok | exact ⟨by omega, by omega⟩ | omega
            · refine ⟨?_, ?_⟩
              · first | exact q5.1.2.2.1 | exact q5.ok | exact ⟨by omega, by omega⟩ | omega
              · refine ⟨?_, ?_⟩
                · first | exact q5.1.2.2.1 | exact q5.ok | exact ⟨by omega, by omega⟩ | omega
                · refine ⟨?_, ?_⟩
                  · first | exact q5.1.2.2.1 | exact q5.ok | exact ⟨by omega, by omega⟩ | omega
                  · omega
    | succ m ih =>
      intro k i ns h2 hi e F2 S2 e10 M2 done n2 l2 hk
      have W2 := W.fi F S2 e10
      have R2 := R.fi F S2
      obtain ⟨ns', q1, q2, q3, q4, q5, q6, q7⟩ := W2.q (i := i) (List.getElem?_eq_some_iff.mp hi).1
      rw [hi] at q1
      cases q1
      obtain ⟨n, t, g1, g2, g3, g4, g5, g6⟩ := W2.p q5 q6 (k := k) (by omega)
      refine s_Fits_fill1 F2 g4 g5 R2 q5 (by rw [List.length_map]; omega) rfl (fun h3 F3 S3 E3 P3 K3 n3 l3 => ?_)
      have p93 := g4.1.1
      have S4 : xsm (FIW h2) h2 h3 := S3.mono (fun c _ w => by
        rcases w with w | w
        · exact Or.inl (by have := w.hi; omega)
        · exact Or.inr (by rw [w]; exact ⟨g4.1.2.2, p93⟩))
      have S5 : xsm (FIW h) h h3 := S2.then S4 (fun c hc w => FIW.back S2 hc w)
      have e10' : P10 h h3 := fun c j c1 c2 c3 c4 => by
        rw [← e10 c j c1 c2 c3 c4]
        by_cases z : c = alg h2 (xpl h2 (alg h2 a i) 0) k
        · rw [z]; exact E3 j c4
        · exact S3.pl (by omega) (fun w => by
            rcases w with w | w
            · have := w.hi; omega
            · exact z w) j
      have q0 : xpl h3 (alg h3 a i) 0 = xpl h2 (alg h2 a i) 0 := by
        have W3 := W.fi F S5 e10'
        obtain ⟨ns'', -, r2, r3, -⟩ := W3.q (i := i) (List.getElem?_eq_some_iff.mp hi).1
        have : alg h3 a i = alg h2 a i := Option.some.inj (r2.symm.trans q2)
        rw [this]
        exact S3.pl q3.2.1 (fun w => by
            rcases w with w | w
            · have := w.hi; omega
            · have hh := q3.2.2; rw [w, g4.1.2.2] at hh; cases hh) 0
      have := ih (k + 1) i ns h3 hi (by omega) F3 S5 e10' ?_ (fun n' p' t' hp' ht' hj => ?_) (n3.trans n2) (l3.trans l2) hk
      · rw [q0] at this
        exact this
      · rw [hmean] at M2 ⊢
        have g44 : ∀ j, xpl h3 44 j = xpl h2 44 j := fun j => S3.pl (by omega) (fun w => by
            rcases w with w | w
            · unfold FPW at w; omega
            · omega) j
        exact ⟨by rw [g44]; exact M2.1, by rw [g44]; exact M2.2⟩
      · by_cases z : n' = n
        · subst z
          rw [g2] at hp'
          rw [g3] at ht'
          cases hp'
          cases ht'
          exact P3
        · obtain ⟨u1, u2, u3⟩ := W2.2.2.2 n' p' t' hp' ht'
          refine K3 p' t' (fun y => z (nodup_at W2.2.1.2.2.2 hp' (by rw [y]; exact g2))) u1.1.1 u1.1.2.1 (by rw [u3, g6]; omega) u2 (done n' p' t' hp' ht' ?_)
          rcases hj with hj | hj
          · exact Or.inl hj
          · right
            rw [List.take_succ, g1, List.mem_append] at hj
            rcases hj with hj | hj
            · exact hj
            · have hj : n' ∈ [n] := hj
              exact absurd (List.mem_singleton.mp hj) z
  have outer : ∀ (m i : Nat) (h2 : XH), i + m = D.2.length → xFix h2 → xsm (FIW h) h h2 → P10 h h2 → mean h2 → (∀ n p t, pa[n]? = some p → D.1[n]? = some t → (∃ j ms, j < i ∧ D.2[j]? = some ms ∧ n ∈ ms) → PFit h2 p t f) → xnx h2 = xnx h → xsl h2 = xsl h →
      xwp G m_Fits_fill (d + 6) 26 [xR 41, xR a, xR 7, xI i, xZ, xZ, xZ] [] h2 Q X := by
    intro m
    induction m with
    | zero =>
      intro i h2 e F2 S2 e10 M2 done n2 l2
      have W2 := W.fi F S2 e10
      have hsz := W2.1.1.sz
      have hln := W2.1.2.2.1
      refine v_Fits_fill_26 F2 ?_
      refine ⟨?_, ?_⟩
      · first | exact W2.1.1.1.2.2.1 | exact W2.1.1.ok | omega
      · refine ⟨?_, ?_⟩
        · first | exact W2.1.1.1.2.2.1 | exact W2.1.1.ok | omega
        · refine ⟨fun q1 => ?_, fun q1 => ?_⟩
          · rw [hmean] at M2
            exact hq h2 F2 S2 e10 ⟨M2, fun j ns n p t hj hn hp ht => done n p t hp ht ⟨j, ns, by have := (List.getElem?_eq_some_iff.mp hj).1; omega, hj, hn⟩⟩ n2 l2
          · refine ⟨?_, ?_⟩
            · first | exact W2.1.1.1.2.2.1 | exact W2.1.1.ok | omega
            · refine ⟨?_, ?_⟩
              · first | exact W2.1.1.1.2.2.1 | exact W2.1.1.ok | omega
              · omega
    | succ m ih =>
      intro i h2 e F2 S2 e10 M2 done n2 l2
      have W2 := W.fi F S2 e10
      have hsz := W2.1.1.sz
      have hln := W2.1.2.2.1
      obtain ⟨ns, y1, y2, y3, y4, y5, y6, y7⟩ := W2.q (i := i) (by omega)
      refine v_Fits_fill_26 F2 ?_
      refine ⟨?_, ?_⟩
      · first | exact W2.1.1.1.2.2.1 | exact W2.1.1.ok | exact y3.2.2 | omega
      · refine ⟨?_, ?_⟩
        · first | exact W2.1.1.1.2.2.1 | exact W2.1.1.ok | exact y3.2.2 | omega
        · refine ⟨fun q1 => ?_, fun q1 => ?_⟩
          · omega
          · refine ⟨?_, ?_⟩
            · first | exact W2.1.1.1.2.2.1 | exact W2.1.1.ok | exact y3.2.2 | omega
            · refine ⟨?_, ?_⟩
              · first | exact W2.1.1.1.2.2.1 | exact W2.1.1.ok | exact y3.2.2 | omega
              · exact inner ns.length 0 i ns h2 y1 (by omega) F2 S2 e10 M2 (fun n p t hp ht hj => done n p t hp ht (by
                  rcases hj with hj | hj
                  · exact hj
                  · simp at hj)) n2 l2 (fun h3 F3 S3 e13 M3 done3 n3 l3 => ih (i + 1) h3 (by omega) F3 S3 e13 M3 done3 n3 l3)
  have means : ∀ (m i : Nat) (h2 : XH), i + m = 2 → xFix h2 → xsm (FIW h) h h2 → P10 h h2 → (1 ≤ i → xpl h2 44 0 = mlF f 0) → (2 ≤ i → xpl h2 44 1 = mlF f 1) → xnx h2 = xnx h → xsl h2 = xsl h → xwp G m_Fits_fill (d + 6) 2 [xR 41, xR a, xR 7, xI i, xZ, xZ, xZ] [] h2 Q X := by
    intro m
    induction m with
    | zero =>
      intro i h2 e F2 S2 e10 m0 m1 n2 l2
      refine v_Fits_fill_2 F2 ?_
      refine ⟨fun q1 => ?_, fun q1 => ?_⟩
      · exact outer D.2.length 0 h2 (by omega) F2 S2 e10 (by rw [hmean]; exact ⟨m0 (by omega), m1 (by omega)⟩) (fun n p t _ _ hj => by obtain ⟨j, ms, hj, -⟩ := hj; exact absurd hj (Nat.not_lt_zero j)) n2 l2
      · omega
    | succ m ih =>
      intro i h2 e F2 S2 e10 m0 m1 n2 l2
      have R2 := R.fi F S2
      refine v_Fits_fill_2 F2 ?_
      refine ⟨fun q1 => ?_, fun q1 => ?_⟩
      · omega
      · refine p_Fits_meanLength F2 R2 ?_
        refine v_Fits_fill_17 F2 ?_
        refine ⟨?_, ?_⟩
        · first | exact ft_44 F2 | (rw [fl_44 F2]; omega) | exact ⟨by omega, by omega⟩ | omega
        · refine ⟨?_, ?_⟩
          · first | exact ft_44 F2 | (rw [fl_44 F2]; omega) | exact ⟨by omega, by omega⟩ | omega
          · refine ⟨?_, ?_⟩
            · first | exact ft_44 F2 | (rw [fl_44 F2]; omega) | exact ⟨by omega, by omega⟩ | omega
            · refine ⟨?_, ?_⟩
              · first | exact ft_44 F2 | (rw [fl_44 F2]; omega) | exact ⟨by omega, by omega⟩ | omega
              · refine ⟨?_, ?_⟩
                · first | exact ft_44 F2 | (rw [fl_44 F2]; omega) | exact ⟨by omega, by omega⟩ | omega
                · intro F9
                  refine ih (i + 1) _ (by omega) F9 (S2.st (by omega) (Or.inl (Or.inl ⟨by omega, by omega⟩))) (fun c k c1 c2 c3 c4 => ?_) (fun _ => ?_) (fun _ => ?_) n2 l2
                  · rw [xpl_st, if_neg (by omega)]; exact e10 c k c1 c2 c3 c4
                  · rw [xpl_st]
                    by_cases z : i = 0
                    · subst z; rw [if_pos ⟨rfl, rfl⟩]; rfl
                    · rw [if_neg (by omega)]; exact m0 (by omega)
                  · rw [xpl_st]
                    have z : i = 1 := by omega
                    subst z; rw [if_pos ⟨rfl, rfl⟩]; rfl
  refine v_Fits_fill_0 F ?_
  exact means 2 0 h (by omega) F (xsm.refl h) (fun _ _ _ _ _ _ => rfl) (fun z => by omega) (fun z => by omega) rfl rfl

end
