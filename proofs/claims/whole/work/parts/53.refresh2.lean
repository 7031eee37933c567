/-! ===== refresh2 ===== -/
section
theorem slF_txt {n m i j : Int} (hn : 0 ≤ n ∧ n < 40) (hm : 0 ≤ m ∧ m < 40) (hi : 0 ≤ i ∧ i < 60) (hj : 0 ≤ j ∧ j < 60) (h : n ≠ m ∨ i ≠ j) : slF n i ≠ slF m j := by
  unfold slF
  rw [if_pos ⟨hn.1, hn.2, hi.1, hi.2⟩, if_pos ⟨hm.1, hm.2, hj.1, hj.2⟩]
  omega
theorem jdL_drop {D : DR} {f : List (Txt × Bool)} {x : Txt} {m : Nat} {ns : List Nat} (h : D.2[m]? = some ns) : jdL D f x m (D.2.drop m) = jdN D f x m (jdL D f x (m + 1) (D.2.drop (m + 1))) ns q000 :: jdL D f x (m + 1) (D.2.drop (m + 1)) := by
  obtain ⟨a1, a2⟩ := List.getElem?_eq_some_iff.mp h
  rw [List.drop_eq_getElem_cons a1, a2]
  rfl
theorem s_refresh_q {G : XG} {d : Nat} {h : XH} {Q : XV → XH → Prop} {X : Nat → XH → Prop} {a : Int} {i : Nat} {qa pa fp : List Int} {D : DR} {f : List (Txt × Bool)} {x : Txt × Bool} {h0 : XH} (W0 : DraR h0 a qa pa D) (R0 : FilR h0 fp f) (F0 : xFix h0) (dw : DRw D) (hx : f[i]? = some x)
    (hk : ∀ h', xFix h' → RB h0 h' → FitsR h' pa D f → (∀ c k, (40 ≤ c ∧ c ≤ 47 ∨ c = 50 ∨ c = 51) → xpl h' c k = xpl h c k) → (∀ (j : Nat) qj, qa[j]? = some qj → ∃ v, (jdL D f x.1 0 D.2)[j]? = some v ∧ QuesJ h' qj v) → TabT h' D f i x.1 0 → (∀ k, (∀ n : Nat, n < D.1.length → k ≠ slF n i) → xpl h' 48 k = xpl h 48 k ∧ xpl h' 49 k = xpl h 49 k) → xwp G m_Findings_refresh (d + 7) 60 [xR 40, xR a, xR 7, xI i, xI (-1)] [] h' Q X) :
    ∀ (m : Nat) (h2 : XH), m ≤ D.2.length → xFix h2 → RB h0 h2 → FitsR h2 pa D f → (∀ c k, (40 ≤ c ∧ c ≤ 47 ∨ c = 50 ∨ c = 51) → xpl h2 c k = xpl h c k) → (∀ (j : Nat) qj, m ≤ j → qa[j]? = some qj → ∃ v, (jdL D f x.1 m (D.2.drop m))[j - m]? = some v ∧ QuesJ h2 qj v) → TabT h2 D f i x.1 m → (∀ k, (∀ n : Nat, n < D.1.length → k ≠ slF n i) → xpl h2 48 k = xpl h 48 k ∧ xpl h2 49 k = xpl h 49 k) →
      xwp G m_Findings_refresh (d + 7) 60 [xR 40, xR a, xR 7, xI i, xI ((m : Int) - 1)] [] h2 Q X := by
  intro m
  induction m with
  | zero =>
    intro h2 hm F2 B2 P2 lo J T o
    exact hk h2 F2 B2 P2 lo (fun j qj hj => J j qj (Nat.zero_le _) hj) T o
  | succ m ih =>
    intro h2 hm F2 B2 P2 lo J T o
    have W2 := W0.rf F0 B2
    have R2 := R0.rf F0 B2
    have hsz := W2.1.1.sz
    have hln := W2.1.2.2.1
    have h41 := W2.1.2.2.2
    have hszf := R2.1.sz
    have hlnf := R2.2.1
    have h60 := R2.2.2.1
    have hi : i < f.length := (List.getElem?_eq_some_iff.mp hx).1
    obtain ⟨x', x1, x2, -⟩ := R2.at hi
    rw [hx] at x1
    cases x1
    obtain ⟨ns, y1, y2, y3, y4, y5, y6, y7⟩ := W2.q (i := m) (by omega)
    have hD40 := W2.2.1.2.1
    have em : ((m + 1 : Nat) : Int) - 1 = (m : Int) := by omega
    rw [em]
    have rr := x2.row
    refine v_Findings_refresh_60 F2 ?_
    refine ⟨fun q1 => ?_, fun q1 => ?_⟩
    · refine ⟨?_, ?_⟩
      · first | exact W2.1.1.1.2.2.1 | exact W2.1.1.ok | exact y3.2.2 | exact ft_7 F2 | exact R2.1.ok | exact x2.1.2.2 | omega
      · refine ⟨?_, ?_⟩
        · first | exact W2.1.1.1.2.2.1 | exact W2.1.1.ok | exact y3.2.2 | exact ft_7 F2 | exact R2.1.ok | exact x2.1.2.2 | omega
        · refine ⟨?_, ?_⟩
          · first | exact W2.1.1.1.2.2.1 | exact W2.1.1.ok | exact y3.2.2 | exact ft_7 F2 | exact R2.1.ok | exact x2.1.2.2 | omega
          · refine ⟨?_, ?_⟩
            · first | exact W2.1.1.1.2.2.1 | exact W2.1.1.ok | exact y3.2.2 | exact ft_7 F2 | exact R2.1.ok | exact x2.1.2.2 | omega
            · omega
    · refine ⟨?_, ?_⟩
      · first | exact W2.1.1.1.2.2.1 | exact W2.1.1.ok | exact y3.2.2 | exact ft_7 F2 | exact R2.1.ok | exact x2.1.2.2 | omega
      · refine ⟨?_, ?_⟩
        · first | exact W2.1.1.1.2.2.1 | exact W2.1.1.ok | exact y3.2.2 | exact ft_7 F2 | exact R2.1.ok | exact x2.1.2.2 | omega
        · refine ⟨?_, ?_⟩
          · first | exact W2.1.1.1.2.2.1 | exact W2.1.1.ok | exact y3.2.2 | exact ft_7 F2 | exact R2.1.ok | exact x2.1.2.2 | omega
          · refine ⟨?_, ?_⟩
            · first | exact W2.1.1.1.2.2.1 | exact W2.1.1.ok | exact y3.2.2 | exact ft_7 F2 | exact R2.1.ok | exact x2.1.2.2 | omega
            · refine ⟨?_, ?_⟩
              · first | exact W2.1.1.1.2.2.1 | exact W2.1.1.ok | exact y3.2.2 | exact ft_7 F2 | exact R2.1.ok | exact x2.1.2.2 | omega
              · refine ⟨?_, ?_⟩
                · first | exact W2.1.1.1.2.2.1 | exact W2.1.1.ok | exact y3.2.2 | exact ft_7 F2 | exact R2.1.ok | exact x2.1.2.2 | omega
                · refine ⟨?_, ?_⟩
                  · first | exact W2.1.1.1.2.2.1 | exact W2.1.1.ok | exact y3.2.2 | exact ft_7 F2 | exact R2.1.ok | exact x2.1.2.2 | omega
                  · refine ⟨?_, ?_⟩
                    · first | exact W2.1.1.1.2.2.1 | exact W2.1.1.ok | exact y3.2.2 | exact ft_7 F2 | exact R2.1.ok | exact x2.1.2.2 | omega
                    · refine ⟨?_, ?_⟩
                      · first | exact W2.1.1.1.2.2.1 | exact W2.1.1.ok | exact y3.2.2 | exact ft_7 F2 | exact R2.1.ok | exact x2.1.2.2 | omega
                      · refine s_Findings_judge (q := m) (tl := jdL D f x.1 (m + 1) (D.2.drop (m + 1))) F2 W2 P2 h60 hx x2 y2 y1 (fun j qj hj hqj => J j qj (by omega) hqj) (jdL_nn h60 (rr 0).2.2.2.2 (rr 1).2.2.2.2 (fun n t hn => by
                          have := List.getElem?_eq_getElem (l := pa) (i := n) (by have := (List.getElem?_eq_some_iff.mp hn).1; have := W2.2.1.1; omega)
                          exact (W2.2.2.2 n _ t this hn).2.1) _ _) (fun n hn t ht h3 => dw.1 m ns n t y1 hn ht h3) (fun h3 F3 S3 e3 J3 T3 O3 n3 l3 => ?_)
                        have z5 := y3.2.2
                        have z93 := y3.1
                        have B3 : RB h2 h3 := ⟨S3.mono (fun c _ w => by
                            rcases w with w | w | w
                            · exact Or.inl ⟨by omega, by omega⟩
                            · exact Or.inl ⟨by omega, by omega⟩
                            · exact Or.inr ⟨by omega, Or.inr (by rw [w]; exact z5)⟩), fun c k c1 c2 c3 _ => S3.pl c2 (fun w => by
                            rcases w with w | w | w
                            · omega
                            · omega
                            · rw [w, z5] at c3; cases c3) k, fun c c1 c2 c3 => by
                            by_cases z : c = alg h2 a m
                            · rw [z]; exact e3
                            · exact S3.pl c2 (fun w => by
                                rcases w with w | w | w
                                · omega
                                · omega
                                · exact z w) 0, n3, l3⟩
                        have hnx := F2.nx
                        refine v_Findings_refresh_88 F3 ?_
                        refine ⟨?_, ?_⟩
                        · exact ⟨by omega, by omega⟩
                        · rw [show (m : Int) + (-1) = (m : Int) - 1 by omega]
                          refine ih h3 (by omega) F3 (B2.trans B3) (P2.jd W2 F2 S3 z5 z93) (fun c k hc => ?_) (fun j qj hj hqj => ?_) (fun q ns' n t hq hns hn ht => ?_) (fun k hk9 => ?_)
                          · rw [← lo c k hc]
                            exact S3.pl (by omega) (fun w => by
                              rcases w with w | w | w
                              · omega
                              · omega
                              · omega) k
                          · rw [jdL_drop y1]
                            by_cases z : j = m
                            · subst z
                              rw [y2] at hqj
                              cases hqj
                              exact ⟨_, by rw [Nat.sub_self]; rfl, J3⟩
                            · obtain ⟨v, v1, v2⟩ := J j qj (by omega) hqj
                              refine ⟨v, ?_, ?_⟩
                              · rw [show j - m = (j - (m + 1)) + 1 by omega, List.getElem?_cons_succ]; exact v1
                              · have hjl : j < qa.length := (List.getElem?_eq_some_iff.mp hqj).1
                                obtain ⟨-, -, w2, w3, -⟩ := W2.q (i := j) (by omega)
                                have eqj : alg h2 a j = qj := Option.some.inj (w2.symm.trans hqj)
                                rw [eqj] at w3
                                have ne : qj ≠ alg h2 a m := fun y => z (nodup_at W2.2.1.2.2.1 hqj (by rw [y]; exact y2))
                                exact v2.keep (S3.tg w3.2.1) (fun k => S3.pl w3.2.1 (fun w => by
                                  rcases w with w | w | w
                                  · omega
                                  · omega
                                  · exact ne w) k)
                          · by_cases z : q = m
                            · subst z
                              rw [y1] at hns
                              cases hns
                              exact T3 n hn t ht
                            · have t9 := T q ns' n t (by omega) hns hn ht
                              have hlt : n < D.1.length := (List.getElem?_eq_some_iff.mp ht).1
                              have o9 := O3 (slF n i) (fun n' hn' => by
                                have : n' < D.1.length := y6 n' hn'
                                refine slF_txt ⟨by omega, by omega⟩ ⟨by omega, by omega⟩ ⟨by omega, by omega⟩ ⟨by omega, by omega⟩ (Or.inl (fun y => z ?_))
                                have : n = n' := by omega
                                subst this
                                exact dw.2 q m ns' ns n hns y1 hn hn')
                              exact ⟨o9.1.trans t9.1, o9.2.trans t9.2⟩
                          · have o9 := O3 k (fun n' hn' => hk9 n' (y6 n' hn'))
                            have o8 := o k hk9
                            exact ⟨o9.1.trans o8.1, o9.2.trans o8.2⟩

end
