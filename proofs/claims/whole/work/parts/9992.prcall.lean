/-! ===== prcall ===== -/
section
/-! the model reads a question: any core -/
theorem PIC.s53 {h h' : XH} {q n : Int} {D : DR} (C : PIC h q D n) (q0 : 54 ≤ q) (o : ∀ c k, c ≠ 53 → xpl h' c k = xpl h c k) : PIC h' q D n := by
  obtain ⟨c1, c2, c3, c4⟩ := C
  refine ⟨(o _ _ (by omega)).trans c1, fun i t z => ?_, fun qi ns m z1 z2 => ?_, fun c k hc z1 z2 => (o _ _ (by omega)).trans (c4 c k hc z1 z2)⟩
  · exact (c2 i t z).keep (w := xpl h q 10) (fun c x y => o _ _ (by omega)) (fun c k x y => o _ _ (by omega)) (Int.le_refl _) (by rw [o _ _ (by omega)]; exact Int.le_refl _)
  · rw [o _ _ (by omega)]; exact c3 qi ns m z1 z2
theorem core_all {G : XG} {h0 : XH} {q : Int} {bs : List Int} {RES : Int × RS} {L : Nat} (g : GR h0 q bs) (hQ : ∀ L', L = L' + 1 → QUES G h0 q bs RES L') : CORS G h0 q bs RES L := by
  intro d h Q X r t N C cc Pe oL hf hno hF hT hD
  have N0 := N
  obtain ⟨P, T, e25, I, eR, O, w1, w0⟩ := N
  have e24 := T.2.2
  have t4 := T.1
  have pt := I.1.1
  have C0 := g.2.1
  obtain ⟨⟨qb0, qb1, qb2⟩, -⟩ := C0
  have C0 := g.2.1
  refine v_M_isCore_0 P.1 ?_
  refine p_M_is g P T ?_
  by_cases k40 : tK bs t = 40
  · rw [decide_eq_true k40]
    have k4 : tK bs t < 400 := by omega
    have t5 := ((@tK_T bs t).2.1 (by omega)).2
    refine v_M_isCore_6 P.1 ⟨fun y => absurd y (by decide), fun _ => ⟨fun q2 => ?_, fun q2 => ?_⟩⟩
    · refine hF h ⟨P, t, T, ?_⟩
      rw [← eR]
      refine RD_none k4 ?_
      have e : tkK bs t r = tkO r := by unfold tkK; rw [k40]; rfl
      rw [e]
      unfold tkO
      rw [e25] at q2
      rw [if_neg (fun y => by have := y.2; omega)]
    · rw [e25] at q2
      obtain ⟨L', eL⟩ : ∃ L', L = L' + 1 := ⟨L - 1, by omega⟩
      have hq' := hQ L' eL
      subst eL
      have o4 : r.2.2.1.length < 4 := by omega
      have s1 := tk_opn k40 cc o4
      have I1 := I.tkK k4 s1
      have eR1 := (RD_some t4 k4 s1).symm.trans eR
      obtain ⟨⟨a1, a2, a3, a4, a5⟩, b6, b7, b8, b9⟩ := Pe
      have e20 := g.e20 P
      obtain ⟨⟨c12, -, -, -, c4, c5, -, -, -, -, -, -⟩, cr⟩ := (P.qc C0).rows
      have c4t := cr 4 (by decide) (by decide)
      have c5t := cr 5 (by decide) (by decide)
      rw [e20, c5, c4, e25, e24]
      refine ⟨⟨by omega, by omega⟩, ⟨by omega, by omega⟩, c12, c5t.1, by omega, by omega, by omega, c4t.1, by omega, fun F9 => ?_⟩
      have Y : PY h0 h q := P.2
      have P2 : PX h0 (xst (xst (xst h 53 25 ((r.2.2.1.length : Int) + 1)) 53 24 ((t : Int) + 1)) (q + 5) (r.2.1.1.length : Nat) 2) q := ⟨F9, ((Y.s53 C0 (Or.inr rfl)).s53 C0 (Or.inl rfl)).row C0 (Or.inl ⟨by omega, by omega⟩) (by omega)⟩
      have T2 : TK (xst (xst (xst h 53 25 ((r.2.2.1.length : Int) + 1)) 53 24 ((t : Int) + 1)) (q + 5) (r.2.1.1.length : Nat) 2) bs (t + 1) := T.succ k4 (by rw [xpl_oa (by omega), xpl_hit])
      have b2 : xpl (xst (xst (xst h 53 25 ((r.2.2.1.length : Int) + 1)) 53 24 ((t : Int) + 1)) (q + 5) (r.2.1.1.length : Nat) 2) 53 25 = (r.2.2.1.length : Int) + 1 := by rw [xpl_oa (by omega), xpl_ok (by decide), xpl_hit]
      have o2 : ∀ c k, c ≠ 53 → xpl (xst (xst (xst h 53 25 ((r.2.2.1.length : Int) + 1)) 53 24 ((t : Int) + 1)) (q + 5) (r.2.1.1.length : Nat) 2) c k = xpl (xst h (q + 5) (r.2.1.1.length : Nat) 2) c k := fun c k x => by
        rw [xpl_st, xpl_st h, xpl_oa x, xpl_oa x]
      obtain ⟨h2, eh⟩ : ∃ h2, h2 = xst (xst (xst h 53 25 ((r.2.2.1.length : Int) + 1)) 53 24 ((t : Int) + 1)) (q + 5) (r.2.1.1.length : Nat) 2 := ⟨_, rfl⟩
      rw [← eh] at P2 T2 b2 o2 ⊢
      obtain ⟨hm, em⟩ : ∃ hm, hm = xst h (q + 5) (r.2.1.1.length : Nat) 2 := ⟨_, rfl⟩
      rw [← em] at o2
      have om : ∀ c k : Int, c ≠ q + 5 ∨ k ≠ (r.2.1.1.length : Nat) → xpl hm c k = xpl h c k := fun c k x => by rw [em, xpl_st, if_neg (by omega)]
      have km : KP h hm q r.2.1.1.length (xpl h q 10) := ⟨fun c k x y z => om c k (Or.inr z), fun c k x y => om c k (Or.inl (by omega)), om _ _ (Or.inl (by omega)), om _ _ (Or.inl (by omega))⟩
      have m10 : xpl hm q 10 = xpl h q 10 := om _ _ (Or.inl (by omega))
      have na := npT_at r 3 []
      have Rm : RoR hm q r.2.1.1.length (quT r) := by
        refine ⟨⟨(om _ _ (Or.inl (by omega))).trans a2, (om _ _ (Or.inl (by omega))).trans a3, (om _ _ (Or.inl (by omega))).trans (a4.trans na.2.1.symm), ?_, (om _ _ (Or.inl (by omega))).trans b9⟩, fun _ => ?_, fun z => absurd z (by show ¬ (3 : Int) = 1; decide), ?_, ?_, Or.inr (Or.inr (Or.inr ⟨rfl, rfl⟩))⟩
        · rw [em, xpl_hit]
          show (2 : Int) = if (3 : Int) = 3 then 2 else _
          rw [if_pos rfl]
        · exact ⟨(om _ _ (Or.inl (by omega))).trans b7, (om _ _ (Or.inl (by omega))).trans b8, fun j v hv => by cases hv⟩
        · rw [om _ _ (Or.inl (by omega)), b6]; exact w0
        · rw [om _ _ (Or.inl (by omega)), b6, m10]
          show xpl h q 10 + 0 ≤ _
          omega
      have e1m : xpl hm (q + 1) r.2.1.1.length = xpl h (q + 1) r.2.1.1.length := om _ _ (Or.inl (by omega))
      have C2 := ((C.ap (qn := quN r) km rfl (by omega) Rm I.2.2.2.2.1 e1m (by rw [a1]; exact ino_hi I O)).adq).s53 (by omega) o2
      obtain ⟨r2, er⟩ : ∃ r2 : RS, r2 = ((0, (bcF r).1.2), adQ (apD r.2.1 (quN r) (quT r)), r.2.2.1 ++ [r.2.1.1.length], r.2.1.1.length, r.2.2.2.2) := ⟨_, rfl⟩
      rw [← er] at I1 eR1
      have D2 : r2.2.1 = adQ (apD r.2.1 (quN r) (quT r)) := by rw [er]
      have op2 : r2.2.2.1 = r.2.2.1 ++ [r.2.1.1.length] := by rw [er]
      have st2 : r2.1.1 = 0 := by rw [er]
      have gl2 : r2.2.2.1.getLast? = some r.2.1.1.length := by rw [op2, List.getLast?_append]; rfl
      have ln : r2.2.1.1.length = r.2.1.1.length + 1 := by rw [D2]; show (r.2.1.1 ++ [quT r]).length = _; rw [List.length_append]; rfl
      have at2 : r2.2.1.1[r.2.1.1.length]? = some (quT r) := by
        rw [D2]
        show (r.2.1.1 ++ [quT r])[r.2.1.1.length]? = _
        rw [List.getElem?_append_right (Nat.le_refl _), Nat.sub_self]; rfl
      have in2 : inoV r2 = (r.2.1.1.length : Nat) := by unfold inoV; rw [gl2]
      have ar2 : (arF r2.2.1 r2.2.2.1).1 = fldV r := by
        unfold arF
        rw [gl2]
        show (arT (r2.2.1.1[r.2.1.1.length]?)).1 = _
        rw [at2]
        exact na.2.1
      have v4 : xpl h2 (q + 4) r.2.1.1.length = fldV r := by rw [o2 _ _ (by omega), om _ _ (Or.inl (by omega))]; exact a4
      have N2 : RIN h0 h2 q bs RES r2 (t + 1) := by
        refine ⟨P2, T2, ?_, I1, eR1, fun m hm' => ?_, ?_, ?_⟩
        · rw [b2, op2, List.length_append]
          show (r.2.2.1.length : Int) + 1 = ((r.2.2.1.length + 1 : Nat) : Int)
          omega
        · rw [op2] at hm'
          rcases List.mem_append.mp hm' with z | z
          · obtain ⟨t, t1, t2⟩ := O m z
            refine ⟨t, ?_, t2⟩
            rw [D2]
            show (r.2.1.1 ++ [quT r])[m]? = some t
            rw [List.getElem?_append_left (List.getElem?_eq_some_iff.mp t1).1]; exact t1
          · rw [List.mem_singleton] at z
            rw [z]
            exact ⟨quT r, at2, rfl⟩
        · rw [o2 _ _ (by omega), m10]; omega
        · rw [o2 _ _ (by omega), m10]; exact w0
      have C2 : PIC h2 q r2.2.1 r2.2.1.1.length := by
        rw [ln, D2]; exact C2
      have go := hq' d h2 (fun v9 h9 => xwp G m_M_isCore (d + 3 * (L' + 1) + 9) 63 [xR 53, xZ] (xpush v9 []) h9 Q X) X r2 (t + 1) N2 C2 (by rw [st2]; rfl) ⟨⟨fun y => by omega, fun y => by omega⟩, fun y => by omega⟩ (by rw [op2, List.length_append]; show r.2.2.1.length + 1 + L' = 4; omega) (fun y => by omega) (fun h' Fa => ?_) (fun h3 r3 t3 N3 C3 lt3 op3 st3 sb3 kk => ?_)
      · rw [in2, ar2, ← v4, show d + 3 * L' + 11 = d + 3 * (L' + 1) + 8 by omega] at go
        exact go
      · refine v_M_isCore_63 Fa.1.1 ⟨fun _ => hF h' Fa, fun y => absurd rfl y⟩
      · obtain ⟨P3, T3, f25, I3, eR3, O3, x1, x0⟩ := N3
        have ne : r2.2.2.1 ≠ [] := by rw [op2]; exact List.append_ne_nil_of_right_ne_nil _ (List.cons_ne_nil _ _)
        rw [if_neg ne] at kk
        have Y3 : PY h0 h3 q := P3.2
        rw [op3, op2, List.length_append] at f25
        have f25 : xpl h3 53 25 = ((r.2.2.1.length + 1 : Nat) : Int) := f25
        refine v_M_isCore_63 P3.1 ⟨fun y => absurd y (by decide), fun _ => ?_⟩
        rw [f25]
        refine ⟨⟨by omega, by omega⟩, fun F4 => ?_⟩
        have P4 : PX h0 (xst h3 53 25 (((r.2.2.1.length + 1 : Nat) : Int) - 1)) q := ⟨F4, Y3.s53 C0 (Or.inr rfl)⟩
        have Y4 : PY h0 (xst h3 53 25 (((r.2.2.1.length + 1 : Nat) : Int) - 1)) q := P4.2
        have T4 : TK (xst h3 53 25 (((r.2.2.1.length + 1 : Nat) : Int) - 1)) bs t3 := ⟨T3.1, T3.2.1, by rw [xpl_ok (by decide)]; exact T3.2.2⟩
        refine s_M_eat g P4 T4 (fun n => absurd kk n) (fun k5 F5 => ?_)
        refine v_M_isCore_84 F5 ⟨⟨by decide, by decide⟩, ?_⟩
        have s3 : tkK bs t3 r3 = some ((10, r3.1.2), r3.2.1, r.2.2.1, r.2.1.1.length, r3.2.2.2.2) := by
          have e : tkK bs t3 r3 = tkC r3 := by unfold tkK; rw [kk]; rfl
          rw [e]
          unfold tkC
          rw [if_pos st3, op3, gl2]
          show some ((10, r3.1.2), r3.2.1, r2.2.2.1.dropLast, r.2.1.1.length, r3.2.2.2.2) = _
          rw [op2, List.dropLast_concat]
        have I5 := I3.tkK (by omega) s3
        have eR5 := (RD_some T3.1 (by omega) s3).symm.trans eR3
        have lt5 : r.2.1.1.length < r3.2.1.1.length := I5.2.1.2.2.2 (by show (6 : Int) ≤ 10; decide)
        have o5 : ∀ c k, c ≠ 53 → xpl (xst (xst h3 53 25 (((r.2.2.1.length + 1 : Nat) : Int) - 1)) 53 24 ((t3 : Int) + 1)) c k = xpl h3 c k := fun c k x => by rw [xpl_oa x, xpl_oa x]
        refine hT _ ((10, r3.1.2), r3.2.1, r.2.2.1, r.2.1.1.length, r3.2.2.2.2) (t3 + 1) ⟨⟨F5, Y4.s53 C0 (Or.inl rfl)⟩, T3.succ (by omega) (xpl_hit _ _ _ _), ?_, I5, eR5, fun m hm' => ?_, ?_, ?_⟩ (C3.s53 (by omega) o5) (by omega) rfl rfl ⟨lt5, (STB.ap (r' := r2) (q := quN r) (t := quT r) (by rw [D2]; rfl)).trans sb3⟩ (by show (8 : Int) ≤ 10; decide) (by show (10 : Int) ≤ 10; decide) ⟨fun y => absurd y (by show ¬ (10 : Int) = 8; decide), fun y => absurd y (by show ¬ (10 : Int) = 9; decide)⟩
        · rw [xpl_ok (by decide), xpl_hit]
          show ((r.2.2.1.length + 1 : Nat) : Int) - 1 = (r.2.2.1.length : Int)
          omega
        · have := O3 m (by rw [op3, op2]; exact List.mem_append_left _ hm')
          exact this
        · rw [o5 _ _ (by omega)]; omega
        · rw [o5 _ _ (by omega)]; exact x0
  · rw [decide_eq_false k40]
    refine v_M_isCore_6 P.1 ⟨fun _ => ?_, fun y => absurd rfl y⟩
    refine s_M_eat g P T (fun n34 => ?_) (fun k34 F1 => ?_)
    · refine v_M_isCore_91 P.1 ⟨fun _ => ?_, fun y => absurd rfl y⟩
      refine p_M_is g P T ?_
      by_cases k3 : tK bs t = 300
      · rw [decide_eq_true k3]
        exact core_run g N0 C cc Pe hf k3 hT hD
      · rw [decide_eq_false k3]
        refine v_M_isCore_167 P.1 ⟨fun _ => ?_, fun y => absurd rfl y⟩
        exact hF h ⟨P, t, T, hno k3 k40 n34⟩
    · refine v_M_isCore_91 F1 ⟨fun y => absurd y (by decide), fun _ => ?_⟩
      exact core_phr g N0 C cc Pe k34 hF hT F1

end
