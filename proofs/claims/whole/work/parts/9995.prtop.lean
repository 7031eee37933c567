/-! ===== prtop ===== -/
section
/-! the model reads a question: questions at every depth -/
theorem ques_all {G : XG} {h0 : XH} {q : Int} {bs : List Int} {RES : Int × RS} {L : Nat} (g : GR h0 q bs) (hP : PARS G h0 q bs RES L) : QUES G h0 q bs RES L := by
  intro d h Q X r t N C cp sp oL hend hF hT
  have O := N.2.2.2.2.2.1
  have ar : ∀ r' : RS, r'.2.2.1 = r.2.2.1 → STB r r' → (arF r'.2.1 r'.2.2.1).1 = (arF r.2.1 r.2.2.1).1 := fun r' e sb => by
    unfold arF
    rw [e]
    cases z : r.2.2.1.getLast? with
    | none => rfl
    | some m =>
      obtain ⟨t0, t1, -⟩ := O m (List.mem_of_getLast? z)
      obtain ⟨t2, t3, t4⟩ := sb m t0 t1
      show (arT r'.2.1.1[m]?).1 = (arT r.2.1.1[m]?).1
      rw [t1, t3]
      exact t4
  have ino : ∀ r' : RS, r'.2.2.1 = r.2.2.1 → inoV r' = inoV r := fun r' e => by unfold inoV; rw [e]
  have inn : inoV r = -1 ↔ r.2.2.1 = [] := by
    unfold inoV
    cases z : r.2.2.1.getLast? with
    | none => exact ⟨fun _ => List.getLast?_eq_none_iff.mp z, fun _ => rfl⟩
    | some m =>
      refine ⟨fun y => ?_, fun y => ?_⟩
      · have y : ((m : Nat) : Int) = -1 := y
        omega
      · rw [y] at z; cases z
  have loop : ∀ (m t' : Nat) (r' : RS) (h' : XH), 40 < t' + m → t ≤ t' → RIN h0 h' q bs RES r' t' → PIC h' q r'.2.1 r'.2.1.1.length → cpb r'.1.1 = true → SpR bs r' t' → r'.2.2.1 = r.2.2.1 → STB r r' → (8 ≤ r'.1.1 → if r.2.2.1 = [] then tK bs t' ≠ 400 else tK bs t' ≠ 41) → xwp G m_M_isQuestion (d + 3 * L + 11) 0 [xR 53, xI (inoV r), xI (arF r.2.1 r.2.2.1).1] [] h' Q X := by
    intro m
    induction m with
    | zero =>
      intro t' r' h' tm _ N' _ _ _ _ _ _
      have := N'.2.1.1
      omega
    | succ m ih =>
      intro t' r' h' tm tt N' C' cp' sp' op' sb' he'
      have go := hP d h' (fun v9 h9 => xwp G m_M_isQuestion (d + 3 * L + 11) 6 [xR 53, xI (inoV r), xI (arF r.2.1 r.2.2.1).1] (xpush v9 []) h9 Q X) X r' t' N' C' cp' sp' (by rw [op']; exact oL) (by rw [op']; exact he') (fun h2 Fa => v_M_isQuestion_6 Fa.1.1 ⟨fun _ => hF h2 Fa, fun y => absurd rfl y⟩) (fun h3 r3 t3 N3 C3 lt3 op3 st3 sb3 sp3 => ?_) (fun h3 Do => ?_)
      · rw [ino r' op', ar r' op' sb'] at go
        exact v_M_isQuestion_0 N'.1.1 go
      · have P3 := N3.1
        have T3 := N3.2.1
        have op9 := op3.trans op'
        have sb9 := sb'.trans sb3
        refine v_M_isQuestion_6 P3.1 ⟨fun y => absurd y (by decide), fun _ => ⟨fun x1 => ?_, fun x1 => ?_⟩⟩
        · refine p_M_is g P3 T3 ?_
          by_cases k : tK bs t3 = 400
          · rw [decide_eq_true k]
            refine v_M_isQuestion_28 P3.1 ⟨fun y => absurd y (by decide), fun _ => ?_⟩
            exact hT h3 r3 t3 N3 C3 (by omega) op9 st3 sb9 (by rw [if_pos (inn.mp x1)]; exact k)
          · rw [decide_eq_false k]
            refine v_M_isQuestion_28 P3.1 ⟨fun _ => ?_, fun y => absurd rfl y⟩
            exact ih t3 r3 h3 (by omega) (by omega) N3 C3 (decide_eq_true (Or.inr st3)) sp3 op9 sb9 (fun _ => by rw [if_pos (inn.mp x1)]; exact k)
        · have ne : r.2.2.1 ≠ [] := fun y => x1 (inn.mpr y)
          refine p_M_is g P3 T3 ?_
          by_cases k : tK bs t3 = 41
          · rw [decide_eq_true k]
            refine v_M_isQuestion_28 P3.1 ⟨fun y => absurd y (by decide), fun _ => ?_⟩
            exact hT h3 r3 t3 N3 C3 (by omega) op9 st3 sb9 (by rw [if_neg ne]; exact k)
          · rw [decide_eq_false k]
            refine v_M_isQuestion_28 P3.1 ⟨fun _ => ?_, fun y => absurd rfl y⟩
            exact ih t3 r3 h3 (by omega) (by omega) N3 C3 (decide_eq_true (Or.inr st3)) sp3 op9 sb9 (fun _ => by rw [if_neg ne]; exact k)
      · have Do0 := Do
        obtain ⟨P3, e, Te, k41, re, n0, n1⟩ := Do
        have again : xwp G m_M_isQuestion (d + 3 * L + 11) 0 [xR 53, xI (inoV r), xI (arF r.2.1 r.2.2.1).1] [] h3 Q X := by
          refine v_M_isQuestion_0 P3.1 ?_
          exact part_doom g Do0 (fun h2 Fa => v_M_isQuestion_6 Fa.1.1 ⟨fun _ => hF h2 Fa, fun y => absurd rfl y⟩)
        refine v_M_isQuestion_6 P3.1 ⟨fun y => absurd y (by decide), fun _ => ⟨fun x1 => ?_, fun x1 => ?_⟩⟩
        · refine p_M_is g P3 Te ?_
          rw [decide_eq_false (by omega)]
          exact v_M_isQuestion_28 P3.1 ⟨fun _ => again, fun y => absurd rfl y⟩
        · refine p_M_is g P3 Te ?_
          rw [decide_eq_false (by omega)]
          exact v_M_isQuestion_28 P3.1 ⟨fun _ => again, fun y => absurd rfl y⟩
  exact loop (41 - t) t r h (by omega) (Nat.le_refl _) N C cp sp rfl (STB.refl r) hend
theorem ques_L {G : XG} {h0 : XH} {q : Int} {bs : List Int} {RES : Int × RS} (g : GR h0 q bs) : ∀ L : Nat, QUES G h0 q bs RES L
  | 0 => ques_all g (part_all g (core_all g (fun L' e => by omega)))
  | L + 1 => ques_all g (part_all g (core_all g (fun L' e => by
      have : L' = L := by omega
      rw [this]
      exact ques_L g L)))
/-- the whole question -/
theorem s_M_isQuestion {G : XG} {d : Nat} {h : XH} {Q : XV → XH → Prop} {X : Nat → XH → Prop} {h0 : XH} {q : Int} {bs : List Int} (g : GR h0 q bs) (P : PX h0 h q) (e24 : xpl h 53 24 = 0) (e25 : xpl h 53 25 = 0) (z0 : xpl h q 0 = 0) (z10 : xpl h q 10 = 0) (z : ZeR h q 0)
    (hF : ∀ h' (e : Nat), PX h0 h' q → TK h' bs e → (rdF bs 40 0 r00).1 = tP bs e → Q (xI 0) h')
    (hT : ∀ h' r', PX h0 h' q → rdF bs 40 0 r00 = (-1, r') → PIC h' q r'.2.1 r'.2.1.1.length → (r'.2.1.1.length ≤ 40 ∧ xpl h' q 10 ≤ 40) → Q (xI 1) h') : xwp G m_M_isQuestion (d + 23) 0 [xR 53, xI (-1), xI 2] [] h Q X := by
  have T : TK h bs 0 := ⟨by omega, fun j hj => absurd hj (Nat.not_lt_zero j), e24⟩
  have N : RIN h0 h q bs (rdF bs 40 0 r00) r00 0 := ⟨P, T, e25, r00I, rfl, fun m hm => absurd hm List.not_mem_nil, by rw [z10]; exact Int.le_refl _, by rw [z10]; exact Int.le_refl _⟩
  have C : PIC h q r00.2.1 r00.2.1.1.length := by
    refine ⟨z0, fun i t y => (by cases y), fun qi ns m y1 y2 => ?_, z⟩
    have y1 : ([[]] : List (List Nat))[qi]? = some ns := y1
    have := List.mem_of_getElem? y1
    rw [List.mem_singleton] at this
    rw [this] at y2; cases y2
  have s0 : r00.1.1 = 0 := rfl
  have go := ques_L (G := G) (RES := rdF bs 40 0 r00) g 4 d h Q X r00 0 N C rfl ⟨⟨fun y => by omega, fun y => by omega⟩, fun y => by omega⟩ rfl (fun y => by omega) (fun h' Fa => ?_) (fun h' r' t' N' C' lt op st sb kk => ?_)
  · exact go
  · obtain ⟨P', e, Te, re⟩ := Fa
    exact hF h' e P' Te re
  · obtain ⟨P', T', -, I', eR, -, w1, -⟩ := N'
    have op : r'.2.2.1 = [] := op
    have kk : tK bs t' = 400 := by
      have e : r00.2.2.1 = [] := rfl
      rw [if_pos e] at kk; exact kk
    have := RD_400 kk st op
    have a := I'.1.1
    have b := T'.1
    exact hT h' r' P' (eR.symm.trans this) C' ⟨by omega, by omega⟩

end
