/-! ===== quest ===== -/
section
/-! the question's calls -/
def oC (s : CS) : List Nat := orF (dC s) (fC s) (fC s).length
theorem CIR.q {h : XH} {s : CS} (R : CIR h s) : xtg h (xpl h 0 6) = 13 ∧ alok h (xpl h 0 6) ∧ als h (xpl h 0 6) = (dC s).2.length ∧ ((dC s).2.length = 0 → xpl h 40 5 = 0) ∧ ∃ qa pa, DraR h (xpl h 0 6) qa pa (dC s) ∧ (0 < (dC s).2.length → FitsR h pa (dC s) (fC s) ∧ FndT h (dC s) (fC s) (fC s).length) := by
  obtain ⟨-, -, -, -, -, ⟨a, qa, pa, q1, q2, q3, q4⟩, -⟩ := R
  rw [q1]
  exact ⟨q2.1.1.1.2.2.1, q2.1.1.ok, by rw [q2.1.1.sz, q2.1.2.2.1], q3, qa, pa, q2, q4⟩
theorem CIR.ord {h : XH} {s : CS} (R : CIR h s) (hq : 0 < (dC s).2.length) : OrdR h (oC s) ∧ (oC s).length ≤ 60 ∧ (∀ o ∈ oC s, o < (fC s).length) ∧ ∀ o ∈ oC s, o < 60 ∧ xpl h 50 o = wtF (dC s) (fC s) o := by
  obtain ⟨-, -, -, -, qa, pa, W, P⟩ := R.q
  have T := (P hq).2
  have l60 := R.wf.1.2
  have ol := orF_len (dC s) (fC s) (fC s).length
  refine ⟨T.1, by unfold oC; omega, fun o ho => (orF_mem _ _ _ o ho).1, fun o ho => ?_⟩
  obtain ⟨o1, x, o2, o3⟩ := orF_mem _ _ _ o ho
  exact ⟨by omega, (T.2 o x o1 o2 o3).1⟩
def nP (s : CS) : Int := (((dC s).2[0]?).getD []).length
def cParts (s : CS) : (Int × Int) × CS := (if (dC s).2.length = 0 then (2, 0) else (0, nP s), s)
def cFound (s : CS) : (Int × Int) × CS := (if (dC s).2.length = 0 then (2, 0) else (0, (oC s).length), s)
def oA (s : CS) (p : Int) : Nat := ((oC s)[p.toNat]?).getD 0
def cKeyFound (s : CS) (p : Int) : (Int × Int) × CS := (if (dC s).2.length = 0 then (2, 0) else if 0 ≤ p ∧ p < (oC s).length then (0, (fA s (oA s p)).1.1) else (3, 0), s)
def cWeightFound (s : CS) (p : Int) : (Int × Int) × CS := (if (dC s).2.length = 0 then (2, 0) else if 0 ≤ p ∧ p < (oC s).length then (0, wtF (dC s) (fC s) (oA s p)) else (3, 0), s)
def foF (s : CS) (sh : Int) : List Nat → Int
  | [] => 0
  | o :: r => (if (fA s o).1.2.1 = sh then 1 else 0) + foF s sh r
def cFoundOn (s : CS) (sh : Int) : (Int × Int) × CS := (if (dC s).2.length = 0 then (2, 0) else if 0 ≤ sh ∧ sh < 8 then (0, foF s sh (oC s)) else (3, 0), s)
def plF (s : CS) (k : Int) : List Nat → Int → Int
  | [], _ => -1
  | o :: r, i => if (fA s o).1.1 = k then i else plF s k r (i + 1)
def cPlaceOf (s : CS) (k : Int) : (Int × Int) × CS := (if (dC s).2.length = 0 then (2, 0) else if 0 ≤ k ∧ k < 100 then (0, plF s k (oC s) 0) else (1, 0), s)
def cFirstFit (s : CS) (k f : Int) : (Int × Int) × CS := (if (dC s).2.length = 0 then (2, 0) else if 0 ≤ k ∧ k < 100 then (if 0 ≤ f ∧ f < 2 then (0, if sidx (fC s) k = -1 then -1 else foQ (dC s) (fA s (sidx (fC s) k)).1 f (dC s).2 (-1)) else (3, 0)) else (1, 0), s)
theorem s_B_parts {G : XG} {d : Nat} {h : XH} {Q : XV → XH → Prop} {X : Nat → XH → Prop} {s : CS} {n9 s9 : Int} (R : CIR h s) (M : Room h n9 s9) (hn : 0 ≤ n9) (hs : 0 ≤ s9) (q : CAN Q X xI h (cParts s) n9 s9) : xwp G m_B_parts (d + 8) 0 [xR 0] [] h Q X := by
  have hr := R.room M
  obtain ⟨c1, c2, c3, -, qa, pa, W, -⟩ := R.q
  unfold cParts at q
  have g : ¬ als h (xpl h 0 6) = 0 → ∃ ns, (dC s).2[0]? = some ns ∧ xtg h (alg h (xpl h 0 6) 0) = 5 ∧ ALr h (xpl h (alg h (xpl h 0 6) 0) 0) (ns.map (fun n => (pa[n]?).getD 0)) := fun y => by
    obtain ⟨ns, y1, -, y3, -, y5, -⟩ := W.q (i := 0) (by omega)
    exact ⟨ns, y1, y3.2.2, y5⟩
  refine v_B_parts_0 R.fx ?_
  refine ⟨?_, ?_⟩
  · first | exact c1 | exact c2 | omega | (have z : ¬ als h (xpl h 0 6) = 0 := fun y => q1 (decide_eq_true y); obtain ⟨ns, y1, y3, y5⟩ := g z; first | exact y3 | exact y5.1.2.2.1 | exact y5.ok | omega) | (exact absurd q2 q1)
  · refine ⟨?_, ?_⟩
    · first | exact c1 | exact c2 | omega | (have z : ¬ als h (xpl h 0 6) = 0 := fun y => q1 (decide_eq_true y); obtain ⟨ns, y1, y3, y5⟩ := g z; first | exact y3 | exact y5.1.2.2.1 | exact y5.ok | omega) | (exact absurd q2 q1)
    · refine ⟨fun q1 => ?_, fun q1 => ?_⟩
      · refine ⟨?_, ?_⟩
        · first | exact c1 | exact c2 | omega | (have z : ¬ als h (xpl h 0 6) = 0 := fun y => q1 (decide_eq_true y); obtain ⟨ns, y1, y3, y5⟩ := g z; first | exact y3 | exact y5.1.2.2.1 | exact y5.ok | omega) | (exact absurd q2 q1)
        · refine ⟨?_, ?_⟩
          · first | exact c1 | exact c2 | omega | (have z : ¬ als h (xpl h 0 6) = 0 := fun y => q1 (decide_eq_true y); obtain ⟨ns, y1, y3, y5⟩ := g z; first | exact y3 | exact y5.1.2.2.1 | exact y5.ok | omega) | (exact absurd q2 q1)
          · intro F9
            have z := of_decide_eq_true q1
            rw [if_pos (by omega)] at q
            exact CAN.thr (k := 1) q R hn hs F9
      · refine ⟨fun q2 => ?_, fun q2 => ?_⟩
        · refine ⟨?_, ?_⟩
          · first | exact c1 | exact c2 | omega | (have z : ¬ als h (xpl h 0 6) = 0 := fun y => q1 (decide_eq_true y); obtain ⟨ns, y1, y3, y5⟩ := g z; first | exact y3 | exact y5.1.2.2.1 | exact y5.ok | omega) | (exact absurd q2 q1)
          · exact absurd q2 q1
        · refine ⟨?_, ?_⟩
          · first | exact c1 | exact c2 | omega | (have z : ¬ als h (xpl h 0 6) = 0 := fun y => q1 (decide_eq_true y); obtain ⟨ns, y1, y3, y5⟩ := g z; first | exact y3 | exact y5.1.2.2.1 | exact y5.ok | omega) | (exact absurd q2 q1)
          · refine ⟨?_, ?_⟩
            · first | exact c1 | exact c2 | omega | (have z : ¬ als h (xpl h 0 6) = 0 := fun y => q1 (decide_eq_true y); obtain ⟨ns, y1, y3, y5⟩ := g z; first | exact y3 | exact y5.1.2.2.1 | exact y5.ok | omega) | (exact absurd q2 q1)
            · refine ⟨?_, ?_⟩
              · first | exact c1 | exact c2 | omega | (have z : ¬ als h (xpl h 0 6) = 0 := fun y => q1 (decide_eq_true y); obtain ⟨ns, y1, y3, y5⟩ := g z; first | exact y3 | exact y5.1.2.2.1 | exact y5.ok | omega) | (exact absurd q2 q1)
              · refine ⟨?_, ?_⟩
                · first | exact c1 | exact c2 | omega | (have z : ¬ als h (xpl h 0 6) = 0 := fun y => q1 (decide_eq_true y); obtain ⟨ns, y1, y3, y5⟩ := g z; first | exact y3 | exact y5.1.2.2.1 | exact y5.ok | omega) | (exact absurd q2 q1)
                · have z : ¬ als h (xpl h 0 6) = 0 := fun y => q1 (decide_eq_true y)
                  obtain ⟨ns, y1, y3, y5⟩ := g z
                  rw [if_neg (by omega)] at q
                  have e : als h (xpl h (alg h (xpl h 0 6) 0) 0) = nP s := by rw [y5.sz, List.length_map]; unfold nP; rw [y1]; rfl
                  rw [e]
                  exact CAN.ret q R (by omega) (by omega)
theorem s_B_found {G : XG} {d : Nat} {h : XH} {Q : XV → XH → Prop} {X : Nat → XH → Prop} {s : CS} {n9 s9 : Int} (R : CIR h s) (M : Room h n9 s9) (hn : 0 ≤ n9) (hs : 0 ≤ s9) (q : CAN Q X xI h (cFound s) n9 s9) : xwp G m_B_found (d + 8) 0 [xR 0] [] h Q X := by
  have hr := R.room M
  obtain ⟨c1, c2, c3, -⟩ := R.q
  unfold cFound at q
  refine v_B_found_0 R.fx ?_
  refine ⟨?_, ?_⟩
  · first | exact c1 | exact c2 | omega
  · refine ⟨?_, ?_⟩
    · first | exact c1 | exact c2 | omega
    · refine ⟨fun q1 => ?_, fun q1 => ?_⟩
      · refine ⟨?_, ?_⟩
        · first | exact c1 | exact c2 | omega
        · refine ⟨?_, ?_⟩
          · first | exact c1 | exact c2 | omega
          · intro F9
            have z := of_decide_eq_true q1
            rw [if_pos (by omega)] at q
            exact CAN.thr (k := 1) q R hn hs F9
      · have z : ¬ als h (xpl h 0 6) = 0 := fun y => q1 (decide_eq_true y)
        rw [if_neg (by omega)] at q
        rw [(R.ord (by omega)).1.1]
        exact CAN.ret q R (by omega) (by omega)
theorem s_B_keyFound {G : XG} {d : Nat} {h : XH} {Q : XV → XH → Prop} {X : Nat → XH → Prop} {s : CS} {p n9 s9 : Int} (R : CIR h s) (M : Room h n9 s9) (hn : 0 ≤ n9) (hs : 0 ≤ s9) (q : CAN Q X xI h (cKeyFound s p) n9 s9) : xwp G m_B_keyFound (d + 8) 0 [xR 0, xI p] [] h Q X := by
  have hr := R.room M
  obtain ⟨c1, c2, c3, -⟩ := R.q
  unfold cKeyFound at q
  refine v_B_keyFound_0 R.fx ?_
  refine ⟨?_, ?_⟩
  · first | exact c1 | exact c2 | omega
  · refine ⟨?_, ?_⟩
    · first | exact c1 | exact c2 | omega
    · refine ⟨fun q1 => ?_, fun q1 => ?_⟩
      · refine ⟨?_, ?_⟩
        · first | exact c1 | exact c2 | omega
        · refine ⟨?_, ?_⟩
          · first | exact c1 | exact c2 | omega
          · intro F9
            have z := of_decide_eq_true q1
            rw [if_pos (by omega)] at q
            exact CAN.thr (k := 1) q R hn hs F9
      · refine ⟨fun q2 => ?_, fun q2 => ?_⟩
        · refine ⟨?_, ?_⟩
          · first | exact c1 | exact c2 | omega
          · refine ⟨?_, ?_⟩
            · first | exact c1 | exact c2 | omega
            · intro F9
              have z : ¬ als h (xpl h 0 6) = 0 := fun y => q1 (decide_eq_true y)
              rw [if_neg (by omega), if_neg (by omega)] at q
              exact CAN.thr (k := 2) q R hn hs F9
        · refine ⟨fun q3 => ?_, fun q3 => ?_⟩
          · have z : ¬ als h (xpl h 0 6) = 0 := fun y => q1 (decide_eq_true y)
            obtain ⟨O, O1, O2, O3⟩ := R.ord (by omega)
            rw [O.1] at q3
            rw [if_neg (by omega), if_pos ⟨by omega, q3⟩] at q
            have ep : p = (p.toNat : Nat) := by omega
            rw [ep]
            refine p_Findings_textAt R.fx O O1 (by omega) (fun o ho => ?_)
            have eo : oA s p = o := by unfold oA; rw [ho]; rfl
            rw [eo] at q
            have ol := O2 o (List.mem_of_getElem? ho)
            refine v_B_keyFound_21 R.fx ?_
            refine ⟨?_, ?_⟩
            · exact R.ok
            · rw [(R.fat (p := o) (by omega) (by omega)).2.1.2.1.1]
              exact CAN.ret q R (by omega) (by omega)
          · refine ⟨?_, ?_⟩
            · first | exact c1 | exact c2 | omega
            · refine ⟨?_, ?_⟩
              · first | exact c1 | exact c2 | omega
              · intro F9
                have z : ¬ als h (xpl h 0 6) = 0 := fun y => q1 (decide_eq_true y)
                obtain ⟨O, -⟩ := R.ord (by omega)
                rw [O.1] at q3
                rw [if_neg (by omega), if_neg (by omega)] at q
                exact CAN.thr (k := 2) q R hn hs F9
theorem s_B_weightFound {G : XG} {d : Nat} {h : XH} {Q : XV → XH → Prop} {X : Nat → XH → Prop} {s : CS} {p n9 s9 : Int} (R : CIR h s) (M : Room h n9 s9) (hn : 0 ≤ n9) (hs : 0 ≤ s9) (q : CAN Q X xI h (cWeightFound s p) n9 s9) : xwp G m_B_weightFound (d + 8) 0 [xR 0, xI p] [] h Q X := by
  have hr := R.room M
  obtain ⟨c1, c2, c3, -⟩ := R.q
  unfold cWeightFound at q
  refine v_B_weightFound_0 R.fx ?_
  refine ⟨?_, ?_⟩
  · first | exact c1 | exact c2 | omega
  · refine ⟨?_, ?_⟩
    · first | exact c1 | exact c2 | omega
    · refine ⟨fun q1 => ?_, fun q1 => ?_⟩
      · refine ⟨?_, ?_⟩
        · first | exact c1 | exact c2 | omega
        · refine ⟨?_, ?_⟩
          · first | exact c1 | exact c2 | omega
          · intro F9
            have z := of_decide_eq_true q1
            rw [if_pos (by omega)] at q
            exact CAN.thr (k := 1) q R hn hs F9
      · refine ⟨fun q2 => ?_, fun q2 => ?_⟩
        · refine ⟨?_, ?_⟩
          · first | exact c1 | exact c2 | omega
          · refine ⟨?_, ?_⟩
            · first | exact c1 | exact c2 | omega
            · intro F9
              have z : ¬ als h (xpl h 0 6) = 0 := fun y => q1 (decide_eq_true y)
              rw [if_neg (by omega), if_neg (by omega)] at q
              exact CAN.thr (k := 2) q R hn hs F9
        · refine ⟨fun q3 => ?_, fun q3 => ?_⟩
          · have z : ¬ als h (xpl h 0 6) = 0 := fun y => q1 (decide_eq_true y)
            obtain ⟨O, O1, O2, O3⟩ := R.ord (by omega)
            rw [O.1] at q3
            rw [if_neg (by omega), if_pos ⟨by omega, q3⟩] at q
            have ep : p = (p.toNat : Nat) := by omega
            rw [ep]
            refine p_Findings_weightAt R.fx O O1 (by omega) O3 (fun o ho => ?_)
            have eo : oA s p = o := by unfold oA; rw [ho]; rfl
            rw [eo] at q
            refine v_B_weightFound_17 R.fx ?_
            exact CAN.ret q R (by omega) (by omega)
          · refine ⟨?_, ?_⟩
            · first | exact c1 | exact c2 | omega
            · refine ⟨?_, ?_⟩
              · first | exact c1 | exact c2 | omega
              · intro F9
                have z : ¬ als h (xpl h 0 6) = 0 := fun y => q1 (decide_eq_true y)
                obtain ⟨O, -⟩ := R.ord (by omega)
                rw [O.1] at q3
                rw [if_neg (by omega), if_neg (by omega)] at q
                exact CAN.thr (k := 2) q R hn hs F9
theorem s_B_foundOn {G : XG} {d : Nat} {h : XH} {Q : XV → XH → Prop} {X : Nat → XH → Prop} {s : CS} {sh n9 s9 : Int} (R : CIR h s) (M : Room h n9 s9) (hn : 0 ≤ n9) (hs : 0 ≤ s9) (q : CAN Q X xI h (cFoundOn s sh) n9 s9) : xwp G m_B_foundOn (d + 8) 0 [xR 0, xI sh, xZ, xZ] [] h Q X := by
  have hr := R.room M
  obtain ⟨c1, c2, c3, -⟩ := R.q
  unfold cFoundOn at q
  refine v_B_foundOn_0 R.fx ?_
  refine ⟨?_, ?_⟩
  · first | exact c1 | exact c2 | omega
  · refine ⟨?_, ?_⟩
    · first | exact c1 | exact c2 | omega
    · refine ⟨fun q1 => ?_, fun q1 => ?_⟩
      · refine ⟨?_, ?_⟩
        · first | exact c1 | exact c2 | omega
        · refine ⟨?_, ?_⟩
          · first | exact c1 | exact c2 | omega
          · intro F9
            have z := of_decide_eq_true q1
            rw [if_pos (by omega)] at q
            exact CAN.thr (k := 1) q R hn hs F9
      · refine ⟨fun q2 => ?_, fun q2 => ?_⟩
        · refine ⟨?_, ?_⟩
          · first | exact c1 | exact c2 | omega
          · refine ⟨?_, ?_⟩
            · first | exact c1 | exact c2 | omega
            · intro F9
              have z : ¬ als h (xpl h 0 6) = 0 := fun y => q1 (decide_eq_true y)
              rw [if_neg (by omega), if_neg (by omega)] at q
              exact CAN.thr (k := 2) q R hn hs F9
        · refine ⟨fun q3 => ?_, fun q3 => ?_⟩
          · have z : ¬ als h (xpl h 0 6) = 0 := fun y => q1 (decide_eq_true y)
            obtain ⟨O, O1, O2, O3⟩ := R.ord (by omega)
            rw [if_neg (by omega), if_pos ⟨by omega, by omega⟩] at q
            have eO := O.1
            have loop : ∀ (m i : Nat) (c : Int), i + m = (oC s).length → 0 ≤ c → c ≤ i → c + foF s sh ((oC s).drop i) = foF s sh (oC s) → xwp G m_B_foundOn (d + 8) 26 [xR 0, xI sh, xI c, xI i] [] h Q X := by
              intro m
              induction m with
              | zero =>
                intro i c e c0 ci hv
                rw [List.drop_eq_nil_of_le (by omega)] at hv
                have hv : c + 0 = foF s sh (oC s) := hv
                refine v_B_foundOn_26 R.fx ?_
                refine ⟨fun q1 => ?_, fun q1 => ?_⟩
                · rw [show c = foF s sh (oC s) by omega]; exact CAN.ret q R (by omega) (by omega)
                · omega
              | succ m ih =>
                intro i c e c0 ci hv
                refine v_B_foundOn_26 R.fx ?_
                refine ⟨fun q1 => ?_, fun q1 => ?_⟩
                · omega
                · refine p_Findings_textAt R.fx O O1 (k := i) (by omega) (fun o ho => ?_)
                  have ol := O2 o (List.mem_of_getElem? ho)
                  obtain ⟨a1, a2⟩ := List.getElem?_eq_some_iff.mp ho
                  rw [List.drop_eq_getElem_cons a1, a2] at hv
                  have hv : c + ((if (fA s o).1.2.1 = sh then 1 else 0) + foF s sh ((oC s).drop (i + 1))) = foF s sh (oC s) := hv
                  have ef := (R.fat (p := o) (by omega) (by omega)).2.1.2.1.2.1
                  refine v_B_foundOn_49 R.fx ?_
                  refine ⟨?_, ?_⟩
                  · first | exact R.ok | exact ⟨by omega, by omega⟩
                  · refine ⟨fun q1 => ?_, fun q1 => ?_⟩
                    · refine ⟨?_, ?_⟩
                      · first | exact R.ok | exact ⟨by omega, by omega⟩
                      · refine ⟨?_, ?_⟩
                        · first | exact R.ok | exact ⟨by omega, by omega⟩
                        · rw [ef] at q1
                          rw [if_pos q1] at hv
                          exact ih (i + 1) (c + 1) (by omega) (by omega) (by omega) (by omega)
                    · refine ⟨?_, ?_⟩
                      · first | exact R.ok | exact ⟨by omega, by omega⟩
                      · rw [ef] at q1
                        rw [if_neg q1] at hv
                        exact ih (i + 1) c (by omega) c0 (by omega) (by omega)
            exact loop (oC s).length 0 0 (by omega) (Int.le_refl _) (Int.le_refl _) (by rw [List.drop_zero]; omega)
          · refine ⟨?_, ?_⟩
            · first | exact c1 | exact c2 | omega
            · refine ⟨?_, ?_⟩
              · first | exact c1 | exact c2 | omega
              · intro F9
                have z : ¬ als h (xpl h 0 6) = 0 := fun y => q1 (decide_eq_true y)
                rw [if_neg (by omega), if_neg (by omega)] at q
                exact CAN.thr (k := 2) q R hn hs F9
theorem s_B_placeOf {G : XG} {d : Nat} {h : XH} {Q : XV → XH → Prop} {X : Nat → XH → Prop} {s : CS} {k n9 s9 : Int} (R : CIR h s) (M : Room h n9 s9) (hn : 0 ≤ n9) (hs : 0 ≤ s9) (q : CAN Q X xI h (cPlaceOf s k) n9 s9) : xwp G m_B_placeOf (d + 8) 0 [xR 0, xI k, xZ] [] h Q X := by
  have hr := R.room M
  obtain ⟨c1, c2, c3, -⟩ := R.q
  unfold cPlaceOf at q
  refine v_B_placeOf_0 R.fx ?_
  refine ⟨?_, ?_⟩
  · first | exact c1 | exact c2 | omega
  · refine ⟨?_, ?_⟩
    · first | exact c1 | exact c2 | omega
    · refine ⟨fun q1 => ?_, fun q1 => ?_⟩
      · refine ⟨?_, ?_⟩
        · first | exact c1 | exact c2 | omega
        · refine ⟨?_, ?_⟩
          · first | exact c1 | exact c2 | omega
          · intro F9
            have z := of_decide_eq_true q1
            rw [if_pos (by omega)] at q
            exact CAN.thr (k := 1) q R hn hs F9
      · refine ⟨fun q2 => ?_, fun q2 => ?_⟩
        · refine ⟨?_, ?_⟩
          · first | exact c1 | exact c2 | omega
          · refine ⟨?_, ?_⟩
            · first | exact c1 | exact c2 | omega
            · intro F9
              have z : ¬ als h (xpl h 0 6) = 0 := fun y => q1 (decide_eq_true y)
              rw [if_neg (by omega), if_neg (by omega)] at q
              exact CAN.thr (k := 0) q R hn hs F9
        · refine ⟨fun q3 => ?_, fun q3 => ?_⟩
          · have z : ¬ als h (xpl h 0 6) = 0 := fun y => q1 (decide_eq_true y)
            obtain ⟨O, O1, O2, O3⟩ := R.ord (by omega)
            rw [if_neg (by omega), if_pos ⟨by omega, by omega⟩] at q
            have eO := O.1
            have loop : ∀ (m i : Nat), i + m = (oC s).length → plF s k ((oC s).drop i) i = plF s k (oC s) 0 → xwp G m_B_placeOf (d + 8) 10 [xR 0, xI k, xI i] [] h Q X := by
              intro m
              induction m with
              | zero =>
                intro i e hv
                rw [List.drop_eq_nil_of_le (by omega)] at hv
                have hv : -1 = plF s k (oC s) 0 := hv
                refine v_B_placeOf_10 R.fx ?_
                refine ⟨fun q1 => ?_, fun q1 => ?_⟩
                · rw [hv]; exact CAN.ret q R (by omega) (by omega)
                · omega
              | succ m ih =>
                intro i e hv
                refine v_B_placeOf_10 R.fx ?_
                refine ⟨fun q1 => ?_, fun q1 => ?_⟩
                · omega
                · refine p_Findings_textAt R.fx O O1 (k := i) (by omega) (fun o ho => ?_)
                  have ol := O2 o (List.mem_of_getElem? ho)
                  obtain ⟨a1, a2⟩ := List.getElem?_eq_some_iff.mp ho
                  rw [List.drop_eq_getElem_cons a1, a2] at hv
                  have hv : (if (fA s o).1.1 = k then (i : Int) else plF s k ((oC s).drop (i + 1)) ((i : Int) + 1)) = plF s k (oC s) 0 := hv
                  have ef := (R.fat (p := o) (by omega) (by omega)).2.1.2.1.1
                  refine v_B_placeOf_33 R.fx ?_
                  refine ⟨?_, ?_⟩
                  · first | exact R.ok | exact ⟨by omega, by omega⟩
                  · refine ⟨fun q1 => ?_, fun q1 => ?_⟩
                    · rw [ef] at q1
                      rw [if_pos q1] at hv
                      rw [hv]
                      exact CAN.ret q R (by omega) (by omega)
                    · refine ⟨?_, ?_⟩
                      · first | exact R.ok | exact ⟨by omega, by omega⟩
                      · rw [ef] at q1
                        rw [if_neg q1] at hv
                        exact ih (i + 1) (by omega) hv
            exact loop (oC s).length 0 (by omega) (by rw [List.drop_zero]; rfl)
          · refine ⟨?_, ?_⟩
            · first | exact c1 | exact c2 | omega
            · refine ⟨?_, ?_⟩
              · first | exact c1 | exact c2 | omega
              · intro F9
                have z : ¬ als h (xpl h 0 6) = 0 := fun y => q1 (decide_eq_true y)
                rw [if_neg (by omega), if_neg (by omega)] at q
                exact CAN.thr (k := 0) q R hn hs F9
theorem s_B_firstFit {G : XG} {d : Nat} {h : XH} {Q : XV → XH → Prop} {X : Nat → XH → Prop} {s : CS} {k f n9 s9 : Int} (R : CIR h s) (M : Room h n9 s9) (hn : 0 ≤ n9) (hs : 0 ≤ s9) (q : CAN Q X xI h (cFirstFit s k f) n9 s9) : xwp G m_B_firstFit (d + 8) 0 [xR 0, xI k, xI f, xZ] [] h Q X := by
  have hr := R.room M
  have e2 := R.eqs.2.1
  have sr := sidx_rng (fC s) k
  obtain ⟨c1, c2, c3, -, qa, pa, W, P⟩ := R.q
  unfold cFirstFit at q
  refine v_B_firstFit_0 R.fx ?_
  refine ⟨?_, ?_⟩
  · first | exact c1 | exact c2 | exact R.ok | omega
  · refine ⟨?_, ?_⟩
    · first | exact c1 | exact c2 | exact R.ok | omega
    · refine ⟨fun q1 => ?_, fun q1 => ?_⟩
      · refine ⟨?_, ?_⟩
        · first | exact c1 | exact c2 | exact R.ok | omega
        · refine ⟨?_, ?_⟩
          · first | exact c1 | exact c2 | exact R.ok | omega
          · intro F9
            have z := of_decide_eq_true q1
            rw [if_pos (by omega)] at q
            exact CAN.thr (k := 1) q R hn hs F9
      · refine ⟨fun q2 => ?_, fun q2 => ?_⟩
        · refine ⟨?_, ?_⟩
          · first | exact c1 | exact c2 | exact R.ok | omega
          · refine ⟨?_, ?_⟩
            · first | exact c1 | exact c2 | exact R.ok | omega
            · intro F9
              have z : ¬ als h (xpl h 0 6) = 0 := fun y => q1 (decide_eq_true y)
              rw [if_neg (by omega), if_neg (by omega)] at q
              exact CAN.thr (k := 0) q R hn hs F9
        · refine ⟨fun q3 => ?_, fun q3 => ?_⟩
          · refine ⟨fun q4 => ?_, fun q4 => ?_⟩
            · refine ⟨?_, ?_⟩
              · first | exact c1 | exact c2 | exact R.ok | omega
              · refine ⟨?_, ?_⟩
                · first | exact c1 | exact c2 | exact R.ok | omega
                · intro F9
                  have z : ¬ als h (xpl h 0 6) = 0 := fun y => q1 (decide_eq_true y)
                  rw [if_neg (by omega), if_pos ⟨by omega, by omega⟩, if_neg (by omega)] at q
                  exact CAN.thr (k := 2) q R hn hs F9
            · refine ⟨fun q5 => ?_, fun q5 => ?_⟩
              · refine ⟨?_, ?_⟩
                · first | exact c1 | exact c2 | exact R.ok | omega
                · refine ⟨fun q6 => ?_, fun q6 => ?_⟩
                  · have z : ¬ als h (xpl h 0 6) = 0 := fun y => q1 (decide_eq_true y)
                    rw [e2] at q6
                    rw [if_neg (by omega), if_pos ⟨by omega, by omega⟩, if_pos ⟨by omega, by omega⟩, if_pos q6] at q
                    refine v_B_firstFit_46 R.fx ?_
                    exact CAN.ret q R (by omega) (by omega)
                  · have z : ¬ als h (xpl h 0 6) = 0 := fun y => q1 (decide_eq_true y)
                    rw [e2] at q6 ⊢
                    rw [if_neg (by omega), if_pos ⟨by omega, by omega⟩, if_pos ⟨by omega, by omega⟩, if_neg q6] at q
                    have ei : sidx (fC s) k = ((sidx (fC s) k).toNat : Nat) := by omega
                    rw [ei]
                    refine p_Fits_firstOfAll R.fx W (P (by omega)).1 (fA_at (s := s) (i := (sidx (fC s) k).toNat) (by omega)) (by omega) ?_
                    rw [← ei]
                    refine v_B_firstFit_46 R.fx ?_
                    exact CAN.ret q R (by omega) (by omega)
              · refine ⟨?_, ?_⟩
                · first | exact c1 | exact c2 | exact R.ok | omega
                · refine ⟨?_, ?_⟩
                  · first | exact c1 | exact c2 | exact R.ok | omega
                  · intro F9
                    have z : ¬ als h (xpl h 0 6) = 0 := fun y => q1 (decide_eq_true y)
                    rw [if_neg (by omega), if_pos ⟨by omega, by omega⟩, if_neg (by omega)] at q
                    exact CAN.thr (k := 2) q R hn hs F9
          · refine ⟨?_, ?_⟩
            · first | exact c1 | exact c2 | exact R.ok | omega
            · refine ⟨?_, ?_⟩
              · first | exact c1 | exact c2 | exact R.ok | omega
              · intro F9
                have z : ¬ als h (xpl h 0 6) = 0 := fun y => q1 (decide_eq_true y)
                rw [if_neg (by omega), if_neg (by omega)] at q
                exact CAN.thr (k := 0) q R hn hs F9

end
