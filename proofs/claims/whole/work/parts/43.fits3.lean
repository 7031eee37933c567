/-! ===== fits3 ===== -/
section
def fitF (pt : PT) (fl : Int) (row : List Int) : MR := if lkF pt fl = true then lookF pt row (0, -1) else (0, -1)
theorem neF_rng (ws row : List Int) (wd : Nat) (ld : Int) : ∀ (m n jd : Nat) (r : MR), jd ≤ n → r.1 ≤ (neF ws row wd ld m n jd r).1 ∧ (neF ws row wd ld m n jd r).1 ≤ r.1 + ((n : Int) - jd) + m := by
  intro m
  induction m with
  | zero => intro n jd r hj; exact ⟨Int.le_refl _, by show r.1 ≤ r.1 + ((n : Int) - jd) + ((0 : Nat) : Int); omega⟩
  | succ m ih =>
    intro n jd r hj
    have e : neF ws row wd ld (m + 1) n jd r = (if metL ws row wd (n + 1) = true then neF ws row wd ld m (n + 1) (n + 1) (scF (fun k => decide (rwA row k = ld)) (n + 1 - max jd (n - wd)) (max jd (n - wd)) r) else neF ws row wd ld m (n + 1) jd r) := rfl
    rw [e]
    split
    · have h1 := ih (n + 1) (n + 1) (scF (fun k => decide (rwA row k = ld)) (n + 1 - max jd (n - wd)) (max jd (n - wd)) r) (Nat.le_refl _)
      have h2 := scF_rng (fun k => decide (rwA row k = ld)) (n + 1 - max jd (n - wd)) (max jd (n - wd)) r
      omega
    · have h1 := ih (n + 1) jd r (by omega)
      omega
theorem fitF_rng (pt : PT) (fl : Int) (row : List Int) : 0 ≤ (fitF pt fl row).1 ∧ (fitF pt fl row).1 ≤ row.length := by
  have hs : ∀ P : Nat → Bool, 0 ≤ (scF P row.length 0 (0, -1)).1 ∧ (scF P row.length 0 (0, -1)).1 ≤ row.length := fun P => by
    have := scF_rng P row.length 0 (0, -1)
    have e : ((0, -1) : MR).1 = 0 := rfl
    omega
  have hz : 0 ≤ ((0, -1) : MR).1 ∧ ((0, -1) : MR).1 ≤ row.length := ⟨Int.le_refl 0, by show (0 : Int) ≤ row.length; omega⟩
  unfold fitF lookF
  split
  · split
    · exact hs _
    · split
      · exact hs _
      · split
        · split
          · exact hs _
          · have := neF_rng pt.2 row (pt.1 7 + pt.2.length - 1).toNat (fwL pt.2) row.length 0 0 (0, -1) (Nat.le_refl _)
            have e : ((0, -1) : MR).1 = 0 := rfl
            omega
        · exact hz
  · exact hz
def hoF (pt : PT) (fl : Int) : List (Txt × Bool) → Int
  | [] => 0
  | t :: r => (if 0 < (fitF pt fl (rwT t.1 fl)).1 then 1 else 0) + hoF pt fl r
theorem hoF_rng (pt : PT) (fl : Int) : ∀ f, 0 ≤ hoF pt fl f ∧ hoF pt fl f ≤ f.length := by
  intro f
  induction f with
  | nil => exact ⟨Int.le_refl 0, Int.le_refl 0⟩
  | cons t r ih =>
    have e : hoF pt fl (t :: r) = (if 0 < (fitF pt fl (rwT t.1 fl)).1 then 1 else 0) + hoF pt fl r := rfl
    rw [e, List.length_cons]
    split <;> omega
/-- what filling in a part writes -/
def FPW : Int → Prop := fun c => c = 42 ∨ c = 43 ∨ (45 ≤ c ∧ c ≤ 47)
theorem MTW.fp {h h' : XH} (e : xsm MTW h h') : xsm FPW h h' := e.mono (fun c _ w => by have w : 45 ≤ c ∧ c ≤ 47 := w; exact Or.inr (Or.inr w))
theorem FPW.hi {c : Int} (w : FPW c) : 42 ≤ c ∧ c ≤ 47 := by unfold FPW at w; omega
theorem PartR.fp {h h' : XH} {p : Int} {t : PT} (R : PartR h p t) (e : xsm FPW h h') : PartR h' p t := R.frame e (fun k _ _ => e.pl R.1.2.1 (fun w => by have := w.hi; have := R.1.1; omega) k) (fun r _ _ a b => by have := FPW.hi b; omega)
theorem FilR.fp {h h' : XH} {fp : List Int} {f : List (Txt × Bool)} (R : FilR h fp f) (F : xFix h) (e : xsm FPW h h') : FilR h' fp f := by
  refine R.frame F e (fun c w v => ?_)
  rcases v with v | v | v
  · rcases w with (w | ⟨w, -⟩) | w | ⟨w, -⟩
    · omega
    · rw [v, ft_42 F] at w; cases w
    · rw [v, ft_42 F] at w; cases w
    · rw [v, ft_42 F] at w; cases w
  · rcases w with (w | ⟨w, -⟩) | w | ⟨w, -⟩
    · omega
    · rw [v, ft_43 F] at w; cases w
    · rw [v, ft_43 F] at w; cases w
    · rw [v, ft_43 F] at w; cases w
  · have v2 : c = 45 ∨ c = 46 ∨ c = 47 := by omega
    rcases v2 with v2 | v2 | v2
    · rcases w with (w | ⟨w, -⟩) | w | ⟨w, -⟩
      · omega
      · rw [v2, ft_45 F] at w; cases w
      · rw [v2, ft_45 F] at w; cases w
      · rw [v2, ft_45 F] at w; cases w
    · rcases w with (w | ⟨w, -⟩) | w | ⟨-, -, w⟩
      · omega
      · rw [v2, ft_46 F] at w; cases w
      · rw [v2, ft_46 F] at w; cases w
      · omega
    · rcases w with (w | ⟨w, -⟩) | w | ⟨w, -⟩
      · omega
      · rw [v2, ft_47 F] at w; cases w
      · rw [v2, ft_47 F] at w; cases w
      · rw [v2, ft_47 F] at w; cases w
theorem slF_inj {n i j : Int} (hn : 0 ≤ n ∧ n < 40) (hi : 0 ≤ i ∧ i < 60) (hj : 0 ≤ j ∧ j < 60) (fl : Int) (e : slF n i * 2 + fl = slF n j * 2 + fl) : i = j := by
  unfold slF at e
  rw [if_pos ⟨hn.1, hn.2, hi.1, hi.2⟩, if_pos ⟨hn.1, hn.2, hj.1, hj.2⟩] at e
  omega
def tabA (h : XH) (n : Int) (i : Int) (fl : Int) (m : MR) : Prop := xpl h 42 (slF n i * 2 + fl) = m.1 ∧ xpl h 43 (slF n i * 2 + fl) = m.2
theorem s_Fits_fillPart {G : XG} {d : Nat} {h : XH} {Q : XV → XH → Prop} {X : Nat → XH → Prop} {p fl : Int} {pt : PT} {fp : List Int} {f : List (Txt × Bool)} (F : xFix h) (PR : PartR h p pt) (ok : PTok pt) (R : FilR h fp f) (hf : fl = 0 ∨ fl = 1)
    (hq : ∀ h', xFix h' → xsm FPW h h' → (∀ (i : Nat) t, f[i]? = some t → tabA h' (pt.1 0) i fl (fitF pt fl (rwT t.1 fl))) → (∀ k, (∀ i : Nat, i < f.length → k ≠ slF (pt.1 0) i * 2 + fl) → xpl h' 42 k = xpl h 42 k ∧ xpl h' 43 k = xpl h 43 k) → xnx h' = xnx h → xsl h' = xsl h → Q (xI (hoF pt fl f)) h') : xwp G m_Fits_fillPart (d + 5) 0 [xR 41, xR p, xI fl, xR 7, xZ, xZ] [] h Q X := by
  have hnx := F.nx
  have okn := ok.1
  have h60 := R.2.2.1
  have loop : ∀ (m i : Nat) (hs : Int) (h2 : XH), i + m = f.length → xFix h2 → xsm FPW h h2 → 0 ≤ hs → hs ≤ i → hs + hoF pt fl (f.drop i) = hoF pt fl f → (∀ (j : Nat) t, j < i → f[j]? = some t → tabA h2 (pt.1 0) j fl (fitF pt fl (rwT t.1 fl))) → (∀ k, (∀ j : Nat, j < f.length → k ≠ slF (pt.1 0) j * 2 + fl) → xpl h2 42 k = xpl h 42 k ∧ xpl h2 43 k = xpl h 43 k) → xnx h2 = xnx h → xsl h2 = xsl h →
      xwp G m_Fits_fillPart (d + 5) 6 [xR 41, xR p, xI fl, xR 7, xI hs, xI i] [] h2 Q X := by
    intro m
    induction m with
    | zero =>
      intro i hs h2 e F2 S2 s0 s1 hv ht hk n2 l2
      have R2 := R.fp F S2
      have hsz := R2.1.sz
      have hln := R2.2.1
      rw [List.drop_eq_nil_of_le (by omega)] at hv
      have hv2 : hs + 0 = hoF pt fl f := hv
      have fin : Q (xI hs) h2 := by
        rw [show hs = hoF pt fl f by omega]
        exact hq h2 F2 S2 (fun j t hj => ht j t (by have := (List.getElem?_eq_some_iff.mp hj).1; omega) hj) hk n2 l2
      refine v_Fits_fillPart_6 F2 ?_
      refine ⟨?_, ?_⟩
      · first | exact ft_7 F2 | exact R2.1.ok
      · refine ⟨?_, ?_⟩
        · first | exact ft_7 F2 | exact R2.1.ok
        · refine ⟨fun q1 => ?_, fun q1 => ?_⟩
          · exact fin
          · refine ⟨fun q2 => ?_, fun q2 => ?_⟩
            · exact fin
            · omega
    | succ m ih =>
      intro i hs h2 e F2 S2 s0 s1 hv ht hk n2 l2
      have R2 := R.fp F S2
      have hsz := R2.1.sz
      have hln := R2.2.1
      obtain ⟨t, ht2, T, -⟩ := R2.at (i := i) (by omega)
      obtain ⟨a1, a2⟩ := List.getElem?_eq_some_iff.mp ht2
      rw [List.drop_eq_getElem_cons a1, a2] at hv
      have hv2 : hs + ((if 0 < (fitF pt fl (rwT t.1 fl)).1 then 1 else 0) + hoF pt fl (f.drop (i + 1))) = hoF pt fl f := hv
      -- behind the look
      have p58 : ∀ h3, xFix h3 → xsm FPW h h3 → MatT h3 (fitF pt fl (rwT t.1 fl)) → (∀ (j : Nat) t, j < i → f[j]? = some t → tabA h3 (pt.1 0) j fl (fitF pt fl (rwT t.1 fl))) → (∀ k, (∀ j : Nat, j < f.length → k ≠ slF (pt.1 0) j * 2 + fl) → xpl h3 42 k = xpl h 42 k ∧ xpl h3 43 k = xpl h 43 k) → xnx h3 = xnx h → xsl h3 = xsl h →
          xwp G m_Fits_fillPart (d + 5) 58 [xR 41, xR p, xI fl, xR 7, xI hs, xI i] [] h3 Q X := by
        intro h3 F3 S3 T3 ht3 hk3 n3 l3
        have PR3 := PR.fp S3
        have e0 := PR3.2.1 0 (by decide) (by decide) (by decide)
        obtain ⟨K, hK⟩ : ∃ K, K = slF (pt.1 0) i * 2 + fl := ⟨_, rfl⟩
        have hsl := slF_rng (pt.1 0) i
        have e02 : ∀ k v, xpl (xst h3 42 k v) p 0 = pt.1 0 := fun k v => by rw [xpl_st, if_neg (by have := PR.1.1; omega)]; exact e0
        have step : ∀ hs2 : Int, hs2 = hs + (if 0 < (fitF pt fl (rwT t.1 fl)).1 then 1 else 0) → xFix (xst (xst h3 42 K (xpl h3 45 4)) 43 K (xpl h3 45 5)) → xwp G m_Fits_fillPart (d + 5) 6 [xR 41, xR p, xI fl, xR 7, xI hs2, xI ((i : Int) + 1)] [] (xst (xst h3 42 K (xpl h3 45 4)) 43 K (xpl h3 45 5)) Q X := by
          intro hs2 hh F4
          have hb : 0 ≤ hs2 ∧ hs2 ≤ (i : Int) + 1 := by
            rw [hh]
            split <;> omega
          refine ih (i + 1) hs2 _ (by omega) F4 (S3.trans (xsm.trans (xs1 (k := K.toNat) (Or.inl rfl) |> fun z => by rwa [show ((K.toNat : Nat) : Int) = K by omega] at z) (xs1 (k := K.toNat) (Or.inr (Or.inl rfl)) |> fun z => by rwa [show ((K.toNat : Nat) : Int) = K by omega] at z))) hb.1 hb.2 (by omega) (fun j t2 hj hj2 => ?_) (fun k hkk => ?_) n3 l3
          · unfold tabA
            by_cases z : j = i
            · subst z
              rw [ht2] at hj2
              cases hj2
              rw [← hK, xpl_st, if_neg (by omega), xpl_st, if_pos ⟨rfl, rfl⟩, xpl_st, if_pos ⟨rfl, rfl⟩]
              exact T3
            · have hne : slF (pt.1 0) j * 2 + fl ≠ K := fun y => z (by
                have := slF_inj okn (i := j) (j := i) (by omega) (by omega) fl (by rw [y, hK])
                omega)
              rw [xpl_st, if_neg (by omega), xpl_st, if_neg (fun y => hne y.2), xpl_st, if_neg (fun y => hne y.2), xpl_st, if_neg (by omega)]
              exact ht3 j t2 (by omega) hj2
          · have hne : k ≠ K := fun y => hkk i (by omega) (by rw [y, hK])
            rw [xpl_st, if_neg (by omega), xpl_st, if_neg (fun y => hne y.2), xpl_st, if_neg (fun y => hne y.2), xpl_st, if_neg (by omega)]
            exact hk3 k hkk
        refine v_Fits_fillPart_58 F3 ?_
        refine ⟨?_, ?_⟩
        · first | exact PR3.1.2.2 | exact ⟨by omega, by omega⟩ | (rw [e0]; omega) | (rw [e02]; omega)
        · refine ⟨?_, ?_⟩
          · first | exact PR3.1.2.2 | exact ⟨by omega, by omega⟩ | (rw [e0]; omega) | (rw [e02]; omega)
          · refine ⟨?_, ?_⟩
            · first | exact PR3.1.2.2 | exact ⟨by omega, by omega⟩ | (rw [e0]; omega) | (rw [e02]; omega)
            · refine ⟨?_, ?_⟩
              · first | exact PR3.1.2.2 | exact ⟨by omega, by omega⟩ | (rw [e0]; omega) | (rw [e02]; omega)
              · refine ⟨?_, ?_⟩
                · first | exact PR3.1.2.2 | exact ⟨by omega, by omega⟩ | (rw [e0]; omega) | (rw [e02]; omega)
                · refine ⟨?_, ?_⟩
                  · first | exact PR3.1.2.2 | exact ⟨by omega, by omega⟩ | (rw [e0]; omega) | (rw [e02]; omega)
                  · refine ⟨?_, ?_⟩
                    · first | exact PR3.1.2.2 | exact ⟨by omega, by omega⟩ | (rw [e0]; omega) | (rw [e02]; omega)
                    · refine ⟨fun q1 => ?_, fun q1 => ?_⟩
                      · refine ⟨?_, ?_⟩
                        · first | exact PR3.1.2.2 | exact ⟨by omega, by omega⟩ | (rw [e0]; omega) | (rw [e02]; omega)
                        · intro F9
                          rw [e02, e0, ← hK] at F9 ⊢
                          exact step _ (by rw [if_neg (by have := T3.1; omega)]) F9
                      · refine ⟨?_, ?_⟩
                        · first | exact PR3.1.2.2 | exact ⟨by omega, by omega⟩ | (rw [e0]; omega) | (rw [e02]; omega)
                        · refine ⟨?_, ?_⟩
                          · first | exact PR3.1.2.2 | exact ⟨by omega, by omega⟩ | (rw [e0]; omega) | (rw [e02]; omega)
                          · intro F9
                            rw [e02, e0, ← hK] at F9 ⊢
                            exact step _ (by rw [if_pos (by have := T3.1; omega)]) F9
      refine v_Fits_fillPart_6 F2 ?_
      refine ⟨?_, ?_⟩
      · first | exact ft_7 F2 | exact R2.1.ok
      · refine ⟨?_, ?_⟩
        · first | exact ft_7 F2 | exact R2.1.ok
        · refine ⟨fun q1 => ?_, fun q1 => ?_⟩
          · omega
          · refine ⟨fun q2 => ?_, fun q2 => ?_⟩
            · omega
            · refine s_Match_forget F2 (fun h3 F3 S3 T3 f3 n3 l3 => ?_)
              have S4 : xsm FPW h h3 := S2.trans (MTW.fp S3.t47)
              have PR3 := PR.fp S4
              have R3 := R.fp F S4
              have hsz3 := R3.1.sz
              obtain ⟨t', ht', T', -⟩ := R3.at (i := i) (by omega)
              rw [ht2] at ht'
              cases ht'
              have k42 : ∀ k, xpl h3 42 k = xpl h2 42 k := fun k => S3.pl (by omega) (by decide) k
              have k43 : ∀ k, xpl h3 43 k = xpl h2 43 k := fun k => S3.pl (by omega) (by decide) k
              refine v_Fits_fillPart_29 F3 ?_
              refine ⟨?_, ?_⟩
              · exact PR3.1.2.2
              · refine p_Part_isLookedForIn F3 PR3 ?_
                refine v_Fits_fillPart_34 F3 ?_
                refine ⟨fun q1 => ?_, fun q1 => ?_⟩
                · refine p58 h3 F3 S4 ?_ (fun j t9 hj hj2 => ?_) (fun k hkk => ?_) (n3.trans n2) (l3.trans l2)
                  · unfold fitF; rw [bz0 q1]; exact T3
                  · unfold tabA; rw [k42, k43]; exact ht j t9 hj hj2
                  · rw [k42, k43]; exact hk k hkk
                · refine ⟨?_, ?_⟩
                  · first | exact ft_7 F3 | exact R3.1.ok | exact T'.1.2.2 | omega
                  · refine ⟨?_, ?_⟩
                    · first | exact ft_7 F3 | exact R3.1.ok | exact T'.1.2.2 | omega
                    · refine ⟨?_, ?_⟩
                      · first | exact ft_7 F3 | exact R3.1.ok | exact T'.1.2.2 | omega
                      · refine ⟨?_, ?_⟩
                        · first | exact ft_7 F3 | exact R3.1.ok | exact T'.1.2.2 | omega
                        · refine ⟨?_, ?_⟩
                          · first | exact ft_7 F3 | exact R3.1.ok | exact T'.1.2.2 | omega
                          · have hrl := (T'.row fl).2.2.2.2
                            refine s_Match_look F3 PR3 ok (T'.row fl) T3 (Int.le_refl _) (by show (0 : Int) + _ ≤ 5000; omega) (fun h5 F5 S5 T5 n5 l5 => ?_)
                            have g42 : ∀ k, xpl h5 42 k = xpl h3 42 k := fun k => S5.pl (by omega) (fun w => by have w : (45 : Int) ≤ 42 ∧ _ := w; omega) k
                            have g43 : ∀ k, xpl h5 43 k = xpl h3 43 k := fun k => S5.pl (by omega) (fun w => by have w : (45 : Int) ≤ 43 ∧ _ := w; omega) k
                            refine p58 h5 F5 (S4.trans (MTW.fp S5)) ?_ (fun j t9 hj hj2 => ?_) (fun k hkk => ?_) (n5.trans (n3.trans n2)) (l5.trans (l3.trans l2))
                            · unfold fitF; rw [if_pos (bz1 q1)]; exact T5
                            · unfold tabA; rw [g42, g43, k42, k43]; exact ht j t9 hj hj2
                            · rw [g42, g43, k42, k43]; exact hk k hkk
  refine v_Fits_fillPart_0 F ?_
  exact loop f.length 0 0 h (by omega) F (xsm.refl h) (Int.le_refl _) (by omega) (by rw [List.drop_zero]; omega) (fun j t hj => absurd hj (Nat.not_lt_zero j)) (fun k _ => ⟨rfl, rfl⟩) rfl rfl

end
