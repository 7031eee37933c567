/-! ===== order ===== -/
section
def ahF (f : List (Txt × Bool)) (wt : Nat → Int) (t o : Nat) : Bool :=
  if wt t = wt o then (match f[t]?, f[o]? with
    | some a, some b => if a.1.2.2.1 = b.1.2.2.1 then decide (a.1.1 < b.1.1) else decide (b.1.2.2.1 < a.1.2.2.1)
    | _, _ => false)
  else decide (wt o < wt t)
theorem p_Findings_isAhead {G : XG} {d : Nat} {h : XH} {Q : XV → XH → Prop} {X : Nat → XH → Prop} {t o : Nat} {fp : List Int} {f : List (Txt × Bool)} {wt : Nat → Int} (F : xFix h) (R : FilR h fp f) (h1 : t < f.length) (h2 : o < f.length) (w1 : xpl h 50 t = wt t) (w2 : xpl h 50 o = wt o) (hq : Q (xI (b2i (ahF f wt t o))) h) : xwp G m_Findings_isAhead (d + 4) 0 [xR 40, xI t, xI o, xR 7, xZ, xZ] [] h Q X := by
  have h60 := R.2.2.1
  have hsz := R.1.sz
  have hln := R.2.1
  obtain ⟨a, a1, a2, -⟩ := R.at h1
  obtain ⟨b, b1, b2, -⟩ := R.at h2
  unfold ahF at hq
  rw [a1, b1] at hq
  have ea := a2.2.1
  have eb := b2.2.1
  have hq2 : Q (xI (b2i (if wt t = wt o then (if a.1.2.2.1 = b.1.2.2.1 then decide (a.1.1 < b.1.1) else decide (b.1.2.2.1 < a.1.2.2.1)) else decide (wt o < wt t)))) h := hq
  clear hq
  refine v_Findings_isAhead_0 F ?_
  refine ⟨?_, ?_⟩
  · first | exact ft_7 F | exact R.1.ok | exact a2.1.2.2 | exact b2.1.2.2 | omega
  · refine ⟨?_, ?_⟩
    · first | exact ft_7 F | exact R.1.ok | exact a2.1.2.2 | exact b2.1.2.2 | omega
    · refine ⟨?_, ?_⟩
      · first | exact ft_7 F | exact R.1.ok | exact a2.1.2.2 | exact b2.1.2.2 | omega
      · refine ⟨?_, ?_⟩
        · first | exact ft_7 F | exact R.1.ok | exact a2.1.2.2 | exact b2.1.2.2 | omega
        · refine ⟨fun q1 => ?_, fun q1 => ?_⟩
          · refine ⟨?_, ?_⟩
            · first | exact ft_7 F | exact R.1.ok | exact a2.1.2.2 | exact b2.1.2.2 | omega
            · refine ⟨?_, ?_⟩
              · first | exact ft_7 F | exact R.1.ok | exact a2.1.2.2 | exact b2.1.2.2 | omega
              · refine ⟨?_, ?_⟩
                · first | exact ft_7 F | exact R.1.ok | exact a2.1.2.2 | exact b2.1.2.2 | omega
                · refine ⟨?_, ?_⟩
                  · first | exact ft_7 F | exact R.1.ok | exact a2.1.2.2 | exact b2.1.2.2 | omega
                  · refine ⟨?_, ?_⟩
                    · first | exact ft_7 F | exact R.1.ok | exact a2.1.2.2 | exact b2.1.2.2 | omega
                    · refine ⟨?_, ?_⟩
                      · first | exact ft_7 F | exact R.1.ok | exact a2.1.2.2 | exact b2.1.2.2 | omega
                      · refine ⟨fun q2 => ?_, fun q2 => ?_⟩
                        · refine ⟨fun q3 => ?_, fun q3 => ?_⟩
                          · rw [if_pos (by omega), if_pos (by omega), decide_eq_false (by omega)] at hq2; exact hq2
                          · rw [if_pos (by omega), if_pos (by omega), decide_eq_true (by omega)] at hq2; exact hq2
                        · refine ⟨fun q3 => ?_, fun q3 => ?_⟩
                          · rw [if_pos (by omega), if_neg (by omega), decide_eq_false (by omega)] at hq2; exact hq2
                          · rw [if_pos (by omega), if_neg (by omega), decide_eq_true (by omega)] at hq2; exact hq2
          · refine ⟨fun q2 => ?_, fun q2 => ?_⟩
            · rw [if_neg (by omega), decide_eq_false (by omega)] at hq2; exact hq2
            · rw [if_neg (by omega), decide_eq_true (by omega)] at hq2; exact hq2
def insK (ah : Nat → Nat → Bool) (O : List Nat) (t : Nat) : Nat → Nat
  | 0 => 0
  | k + 1 => if ah t ((O[k]?).getD 0) = true then insK ah O t k else k + 1
def insO (ah : Nat → Nat → Bool) (O : List Nat) (t : Nat) : List Nat := O.take (insK ah O t O.length) ++ t :: O.drop (insK ah O t O.length)
theorem insK_le (ah : Nat → Nat → Bool) (O : List Nat) (t : Nat) : ∀ k, insK ah O t k ≤ k := by
  intro k
  induction k with
  | zero => exact Nat.le_refl _
  | succ k ih =>
    have e : insK ah O t (k + 1) = if ah t ((O[k]?).getD 0) = true then insK ah O t k else k + 1 := rfl
    rw [e]
    split <;> omega
theorem insO_at {ah : Nat → Nat → Bool} {O : List Nat} {t k : Nat} (hk : k = insK ah O t O.length) (i : Nat) : (insO ah O t)[i]? = if i < k then O[i]? else if i = k then some t else O[i - 1]? := by
  have hl := insK_le ah O t O.length
  unfold insO
  rw [← hk] at *
  have h1 : (O.take k).length = k := by rw [List.length_take]; omega
  by_cases z : i < k
  · rw [if_pos z, List.getElem?_append_left (by omega), List.getElem?_take, if_pos z]
  · rw [if_neg z, List.getElem?_append_right (by omega), h1]
    by_cases y : i = k
    · subst y
      rw [if_pos rfl, Nat.sub_self]; rfl
    · rw [if_neg y, show i - k = (i - k - 1) + 1 by omega, List.getElem?_cons_succ, List.getElem?_drop]
      congr 1
      omega
theorem insO_len (ah : Nat → Nat → Bool) (O : List Nat) (t : Nat) : (insO ah O t).length = O.length + 1 := by
  have := insK_le ah O t O.length
  unfold insO
  rw [List.length_append, List.length_cons, List.length_take, List.length_drop]; omega
theorem insO_mem {ah : Nat → Nat → Bool} {O : List Nat} {t x : Nat} (h : x ∈ insO ah O t) : x = t ∨ x ∈ O := by
  unfold insO at h
  rcases List.mem_append.mp h with z | z
  · exact Or.inr (List.mem_of_mem_take z)
  · rcases List.mem_cons.mp z with y | y
    · exact Or.inl y
    · exact Or.inr (List.mem_of_mem_drop y)
/-- the order of the texts found -/
def OrdR (h : XH) (O : List Nat) : Prop := xpl h 40 5 = O.length ∧ ∀ i : Nat, i < O.length → ∃ o, O[i]? = some o ∧ xpl h 51 i = (o : Int)
def ORW : Int → Prop := fun c => c = 40 ∨ c = 51
theorem ALr.low {h h' : XH} {C : Int → Prop} {a : Int} {es : List Int} (R : ALr h a es) (F : xFix h) (e : xsm C h h') (ha : a = 7 ∨ 52 ≤ a) (hC : ∀ c, C c → 40 ≤ c ∧ c ≤ 51) : ALr h' a es := R.frame F e (fun c w v => by
  have hc := hC c v
  rcases w with w | ⟨w, -⟩
  · omega
  · have : c = 40 ∨ c = 41 ∨ c = 42 ∨ c = 43 ∨ c = 44 ∨ c = 45 ∨ c = 46 ∨ c = 47 ∨ c = 48 ∨ c = 49 ∨ c = 50 ∨ c = 51 := by omega
    have t110 : xtg h c ≠ 110 := by
      rcases this with e | e | e | e | e | e | e | e | e | e | e | e <;> rw [e]
      · rw [ft_40 F]; decide
      · rw [ft_41 F]; decide
      · rw [ft_42 F]; decide
      · rw [ft_43 F]; decide
      · rw [ft_44 F]; decide
      · rw [ft_45 F]; decide
      · rw [ft_46 F]; decide
      · rw [ft_47 F]; decide
      · rw [ft_48 F]; decide
      · rw [ft_49 F]; decide
      · rw [ft_50 F]; decide
      · rw [ft_51 F]; decide
    exact t110 w)
theorem FilR.low {h h' : XH} {C : Int → Prop} {fp : List Int} {f : List (Txt × Bool)} (R : FilR h fp f) (F : xFix h) (e : xsm C h h') (hC : ∀ c, C c → 40 ≤ c ∧ c ≤ 51) : FilR h' fp f := by
  obtain ⟨r1, r2, r3, r4⟩ := R
  refine ⟨r1.low F e (Or.inl rfl) hC, r2, r3, fun i p t hp ht => ?_⟩
  obtain ⟨q1, q2⟩ := r4 i p t hp ht
  have p93 := q1.1.1
  have hx := e.pl q1.1.2.1 (fun w => by have := hC _ w; omega)
  exact ⟨q1.frame e (fun k _ _ => hx k) (fun r _ _ c w => by have := hC _ w; omega), by rw [hx]; exact q2⟩
theorem s_Findings_putInOrder {G : XG} {d : Nat} {h : XH} {Q : XV → XH → Prop} {X : Nat → XH → Prop} {t : Nat} {O : List Nat} {fp : List Int} {f : List (Txt × Bool)} {wt : Nat → Int} (F : xFix h) (R : FilR h fp f) (ht : t < f.length) (A : OrdR h O) (hO : ∀ o ∈ O, o < f.length) (hl : O.length < 60) (hw : ∀ o : Nat, (o = t ∨ o ∈ O) → xpl h 50 o = wt o)
    (hq : ∀ h', xFix h' → xsm ORW h h' → OrdR h' (insO (ahF f wt) O t) → (∀ k, k ≠ 5 → xpl h' 40 k = xpl h 40 k) → xnx h' = xnx h → xsl h' = xsl h → Q xN h') : xwp G m_Findings_putInOrder (d + 5) 0 [xR 40, xI t, xR 7, xZ] [] h Q X := by
  have hnx := F.nx
  obtain ⟨A1, A2⟩ := A
  have low : ∀ c, ORW c → 40 ≤ c ∧ c ≤ 51 := fun c w => by unfold ORW at w; omega
  obtain ⟨K, hK⟩ : ∃ K, K = insK (ahF f wt) O t O.length := ⟨_, rfl⟩
  have fin : ∀ (h2 : XH) (k : Nat), k = K → k ≤ O.length → xFix h2 → xsm ORW h h2 → (∀ j, xpl h2 40 j = xpl h 40 j) → (∀ i : Nat, i < k → xpl h2 51 i = xpl h 51 i) → (∀ i : Nat, k ≤ i → i < O.length → xpl h2 51 ((i : Int) + 1) = xpl h 51 i) → xnx h2 = xnx h → xsl h2 = xsl h → xwp G m_Findings_putInOrder (d + 5) 59 [xR 40, xI t, xZ, xI k] [] h2 Q X := by
    intro h2 k hkK hkl F2 S2 e40 lo hi n2 l2
    have e5 := e40 5
    refine v_Findings_putInOrder_59 F2 ?_
    refine ⟨?_, ?_⟩
    · first | exact ⟨by omega, by omega⟩ | omega
    · refine ⟨?_, ?_⟩
      · first | exact ⟨by omega, by omega⟩ | omega
      · refine ⟨?_, ?_⟩
        · first | exact ⟨by omega, by omega⟩ | omega
        · intro F9
          rw [e5, A1] at F9 ⊢
          refine hq _ F9 (xsm.st (C := ORW) (a := 40) (k := 5) (xsm.st (C := ORW) (a := 51) (k := k) S2 (by omega) (Or.inl (Or.inr rfl))) (by omega) (Or.inl (Or.inl rfl))) ⟨?_, fun i hi2 => ?_⟩ (fun j hj => ?_) n2 l2
          · rw [xpl_st, if_pos ⟨rfl, rfl⟩, insO_len]; omega
          · rw [insO_len] at hi2
            rw [insO_at hK, ← hkK]
            by_cases z : i < k
            · obtain ⟨o, o1, o2⟩ := A2 i (by omega)
              refine ⟨o, by rw [if_pos z]; exact o1, ?_⟩
              rw [xpl_st, if_neg (by omega), xpl_st, if_neg (by omega), lo i z]; exact o2
            · by_cases y : i = k
              · refine ⟨t, by rw [if_neg z, if_pos y], ?_⟩
                rw [xpl_st, if_neg (by omega), xpl_st, if_pos ⟨rfl, by omega⟩]
              · obtain ⟨o, o1, o2⟩ := A2 (i - 1) (by omega)
                refine ⟨o, by rw [if_neg z, if_neg y]; exact o1, ?_⟩
                have := hi (i - 1) (by omega) (by omega)
                rw [show (((i - 1 : Nat) : Int) + 1) = (i : Int) by omega] at this
                rw [xpl_st, if_neg (by omega), xpl_st, if_neg (by omega), this]; exact o2
          · rw [xpl_st, if_neg (by omega), xpl_st, if_neg (by omega)]; exact e40 j
  have loop : ∀ (k : Nat) (h2 : XH), k ≤ O.length → insK (ahF f wt) O t k = K → xFix h2 → xsm ORW h h2 → (∀ j, xpl h2 40 j = xpl h 40 j) → (∀ i : Nat, i < k → xpl h2 51 i = xpl h 51 i) → (∀ i : Nat, k ≤ i → i < O.length → xpl h2 51 ((i : Int) + 1) = xpl h 51 i) → xnx h2 = xnx h → xsl h2 = xsl h → xwp G m_Findings_putInOrder (d + 5) 18 [xR 40, xI t, xR 7, xI k] [] h2 Q X := by
    intro k
    induction k with
    | zero =>
      intro h2 hkl hkK F2 S2 e40 lo hi n2 l2
      refine v_Findings_putInOrder_18 F2 ?_
      refine ⟨fun q1 => ?_, fun q1 => ?_⟩
      · exact fin h2 0 hkK hkl F2 S2 e40 lo hi n2 l2
      · refine ⟨?_, ?_⟩
        · omega
        · omega
    | succ k ih =>
      intro h2 hkl hkK F2 S2 e40 lo hi n2 l2
      obtain ⟨o, o1, o2⟩ := A2 k (by omega)
      have om : o ∈ O := List.mem_of_getElem? o1
      have hk1 : ((k + 1 : Nat) : Int) - 1 = (k : Int) := by omega
      have e51 : xpl h2 51 (((k + 1 : Nat) : Int) - 1) = (o : Int) := by rw [hk1, lo k (by omega)]; exact o2
      have hkK2 : (if ahF f wt t ((O[k]?).getD 0) = true then insK (ahF f wt) O t k else k + 1) = K := hkK
      rw [o1] at hkK2
      have hkK3 : (if ahF f wt t o = true then insK (ahF f wt) O t k else k + 1) = K := hkK2
      have R2 := R.low F S2 low
      have e50 : ∀ j, xpl h2 50 j = xpl h 50 j := fun j => S2.pl (by omega) (fun w => by unfold ORW at w; omega) j
      refine v_Findings_putInOrder_18 F2 ?_
      refine ⟨fun q1 => ?_, fun q1 => ?_⟩
      · omega
      · refine ⟨?_, ?_⟩
        · omega
        · rw [e51]
          refine p_Findings_isAhead (wt := wt) F2 R2 ht (hO o om) (by rw [e50]; exact hw t (Or.inl rfl)) (by rw [e50]; exact hw o (Or.inr om)) ?_
          refine v_Findings_putInOrder_36 F2 ?_
          refine ⟨fun q1 => ?_, fun q1 => ?_⟩
          · rw [if_neg (by rw [bz0 q1]; decide)] at hkK3
            exact fin h2 (k + 1) hkK3 hkl F2 S2 e40 lo hi n2 l2
          · refine ⟨?_, ?_⟩
            · first | exact ⟨by omega, by omega⟩ | omega
            · refine ⟨?_, ?_⟩
              · first | exact ⟨by omega, by omega⟩ | omega
              · refine ⟨?_, ?_⟩
                · first | exact ⟨by omega, by omega⟩ | omega
                · refine ⟨?_, ?_⟩
                  · first | exact ⟨by omega, by omega⟩ | omega
                  · intro F9
                    rw [if_pos (bz1 q1)] at hkK3
                    rw [e51] at F9 ⊢
                    rw [show ((k + 1 : Nat) : Int) + (-1) = (k : Int) by omega]
                    refine ih _ (by omega) hkK3 F9 (xsm.st (C := ORW) S2 (by omega) (Or.inl (Or.inr rfl))) (fun j => ?_) (fun i hi2 => ?_) (fun i hi2 hi3 => ?_) n2 l2
                    · rw [xpl_st, if_neg (by omega)]; exact e40 j
                    · rw [xpl_st, if_neg (by omega)]; exact lo i (by omega)
                    · by_cases z : i = k
                      · rw [z, xpl_st, if_pos ⟨rfl, by omega⟩, o2]
                      · rw [xpl_st, if_neg (by omega)]; exact hi i (by omega) hi3
  refine v_Findings_putInOrder_0 F ?_
  refine ⟨fun q1 => ?_, fun q1 => ?_⟩
  · rw [A1]
    exact loop O.length h (Nat.le_refl _) hK.symm F (xsm.refl h) (fun _ => rfl) (fun _ _ => rfl) (fun i h1 h2 => by omega) rfl rfl
  · omega

end
