/-! ===== near ===== -/
section
/-! the model looks along a field for near words: the words of a phrase, the counts -/
/-- a word's number among those of a phrase, from the k-th on -/
def ixB : List (Int × Int) → Int → Nat → Int
  | [], _, _ => -1
  | v :: r, w, k => if v.1 = w then k else ixB r w (k + 1)
theorem ixB_rng : ∀ (l : List (Int × Int)) (w : Int) (k : Nat), ixB l w k = -1 ∨ ((k : Int) ≤ ixB l w k ∧ ixB l w k < (k : Int) + l.length)
  | [], w, k => Or.inl rfl
  | v :: r, w, k => by
    have e : ixB (v :: r) w k = if v.1 = w then (k : Int) else ixB r w (k + 1) := rfl
    have ih := ixB_rng r w (k + 1)
    rw [e, List.length_cons]
    by_cases z : v.1 = w
    · rw [if_pos z]; omega
    · rw [if_neg z]; omega
theorem p_M_inPhrase {G : XG} {d : Nat} {h : XH} {Q : XV → XH → Prop} {X : Nat → XH → Prop} {q w : Int} {D : DR} {i : Nat} {pt : PT} (F : xFix h) (A : MQR h q D) (hi : D.1[i]? = some pt) (k1 : pt.1 5 ≠ 1) (hq : Q (xI (ixB (bgL 0 pt.2) w 0)) h) : xwp G m_M_inPhrase (d + 1) 0 [xR 53, xI (i : Nat), xL w, xZ, xZ, xZ] [] h Q X := by
  obtain ⟨e19, C, ⟨-, pr, -, -⟩, l40, w41⟩ := A
  have li := (List.getElem?_eq_some_iff.mp hi).1
  obtain ⟨-, ra, -, f0, f1, -⟩ := pr i pt hi
  obtain ⟨s1, s2, s3⟩ := ra k1
  have ne : neW pt = (bgL 0 pt.2).length := by unfold neW; rw [if_neg k1]
  obtain ⟨⟨c12, c1, c2, c3, c4, c5, c6, c7, c8, c9, c11, c13⟩, cr⟩ := C.rows
  obtain ⟨⟨b0, b1, b2⟩, -, -, ⟨-, t10, l10⟩, -, -, -⟩ := C
  have g6 := cr 6 (by decide) (by decide)
  have g7 := cr 7 (by decide) (by decide)
  have loop : ∀ (m k : Nat), k + m = (bgL 0 pt.2).length → ixB ((bgL 0 pt.2).drop k) w k = ixB (bgL 0 pt.2) w 0 → xwp G m_M_inPhrase (d + 1) 14 [xR 53, xI (i : Nat), xL w, xZ, xI (xpl h (q + 6) i), xI (k : Nat)] [] h Q X := by
    intro m
    induction m with
    | zero =>
      intro k ek e
      refine v_M_inPhrase_14 F ?_
      rw [e19, c7, s1]
      refine ⟨c12, g7.1, by omega, by omega, fun _ => ?_, fun y => absurd (by omega) y⟩
      rw [List.drop_eq_nil_of_le (by omega)] at e
      have e : (-1 : Int) = ixB (bgL 0 pt.2) w 0 := e
      rw [e]; exact hq
    | succ m ih =>
      intro k ek e
      have hk : k < (bgL 0 pt.2).length := by omega
      obtain ⟨v1, -⟩ := s3 k _ (List.getElem?_eq_getElem hk)
      rw [List.drop_eq_getElem_cons hk] at e
      have e : (if ((bgL 0 pt.2)[k]).1 = w then (k : Int) else ixB ((bgL 0 pt.2).drop (k + 1)) w (k + 1)) = ixB (bgL 0 pt.2) w 0 := e
      refine v_M_inPhrase_14 F ?_
      rw [e19, c7, c11, s1, v1]
      refine ⟨c12, g7.1, by omega, by omega, fun y => by omega, fun _ => ⟨⟨by omega, by omega⟩, t10, by omega, by omega, fun q2 => ?_, fun q2 => ?_⟩⟩
      · rw [if_pos q2] at e
        rw [e]; exact hq
      · rw [if_neg q2] at e
        have go := ih (k + 1) (by omega) e
        rw [show ((k + 1 : Nat) : Int) = (k : Int) + 1 by omega] at go
        exact go
  refine v_M_inPhrase_0 F ?_
  rw [e19, c6]
  refine ⟨c12, g6.1, by omega, by omega, ?_⟩
  exact loop (bgL 0 pt.2).length 0 (by omega) rfl
/-- a word comes or goes -/
theorem s_M_turn {G : XG} {d : Nat} {h : XH} {Q : XV → XH → Prop} {X : Nat → XH → Prop} {k b l : Int} (F : xFix h) (hk : k = -1 ∨ (0 ≤ k ∧ k < 40)) (hb : b = 1 ∨ b = -1) (hl : xpl h 53 35 = l) (l0 : -100000 ≤ l) (l1 : l ≤ 100000) (h0 : 0 ≤ k → -100000 ≤ xpl h 88 k ∧ xpl h 88 k ≤ 100000)
    (hq : ∀ h', xFix h' → xsm (fun a => a = 53 ∨ a = 88) h h' → (∀ a j : Int, (a ≠ 53 ∨ j ≠ 35) → (a ≠ 88 ∨ j ≠ k) → xpl h' a j = xpl h a j) → (0 ≤ k → xpl h' 88 k = xpl h 88 k + b) → xpl h' 53 35 = (if k = -1 then l else if (0 < b ∧ xpl h 88 k < xpl h 87 k) ∨ (b ≤ 0 ∧ xpl h 88 k ≤ xpl h 87 k) then l - b else l) → xnx h' = xnx h → xsl h' = xsl h → Q xN h') : xwp G m_M_turn (d + 1) 0 [xR 53, xI k, xI b] [] h Q X := by
  by_cases z : k = -1
  · refine v_M_turn_0 F ⟨fun _ => hq h F (xsm.refl h) (fun _ _ _ _ => rfl) (fun y => by omega) (by rw [if_pos z]; exact hl) rfl rfl, fun y => absurd z y⟩
  · have k0 : 0 ≤ k ∧ k < 40 := by omega
    obtain ⟨a0, a1⟩ := h0 k0.1
    have at43 : ((0 < b ∧ xpl h 88 k < xpl h 87 k) ∨ (b ≤ 0 ∧ xpl h 88 k ≤ xpl h 87 k)) → xwp G m_M_turn (d + 1) 43 [xR 53, xI k, xI b] [] h Q X := fun c => by
      refine v_M_turn_43 F ⟨by rw [hl]; exact ⟨by omega, by omega⟩, ?_⟩
      rw [hl]
      intro F1
      have e88 : xpl (xst h 53 35 (l - b)) 88 k = xpl h 88 k := xpl_oa (by decide)
      refine v_M_turn_53 F1 ⟨k0.1, k0.2, by rw [e88]; exact ⟨by omega, by omega⟩, ?_⟩
      rw [e88]
      intro F2
      refine hq _ F2 (((xsm.refl h).st (by decide) (Or.inl (Or.inl rfl))).st k0.1 (Or.inl (Or.inr rfl))) (fun a j x y => ?_) (fun _ => xpl_hit _ _ _ _) ?_ rfl rfl
      · rw [xpl_st, if_neg (by omega), xpl_st, if_neg (by omega)]
      · rw [xpl_oa (by decide), xpl_hit, if_neg z, if_pos c]
    have at53 : ¬ ((0 < b ∧ xpl h 88 k < xpl h 87 k) ∨ (b ≤ 0 ∧ xpl h 88 k ≤ xpl h 87 k)) → xwp G m_M_turn (d + 1) 53 [xR 53, xI k, xI b] [] h Q X := fun c => by
      refine v_M_turn_53 F ⟨k0.1, k0.2, ⟨by omega, by omega⟩, fun F2 => ?_⟩
      refine hq _ F2 ((xsm.refl h).st k0.1 (Or.inl (Or.inr rfl))) (fun a j x y => ?_) (fun _ => xpl_hit _ _ _ _) ?_ rfl rfl
      · rw [xpl_st, if_neg (by omega)]
      · rw [xpl_oa (by decide), if_neg z, if_neg c]; exact hl
    refine v_M_turn_0 F ⟨fun y => absurd y z, fun _ => ⟨fun q1 => ⟨k0.1, k0.2, fun q2 => at53 (by omega), fun q2 => at43 (by omega)⟩, fun q1 => ⟨k0.1, k0.2, fun q2 => at53 (by omega), fun q2 => at43 (by omega)⟩⟩⟩

end
