/-! ===== prphr ===== -/
section
/-! the model reads a question: a core that is a phrase -/
/-- the reader in a phrase -/
def rpF (r : RS) (s : Int) (ws : List Int) : RS := ((s, (bcF r).1.2), r.2.1, r.2.2.1, r.2.2.2.1, ws)
def phT (r : RS) (ws : List Int) : PT := if 2 ≤ bigF ws then npT (bcF r) 2 ws else upP (npT (bcF r) 2 ws) 5 0
theorem phT_at (r : RS) (ws : List Int) : (phT r ws).1 1 = (bcF r).1.2.1 ∧ (phT r ws).1 2 = fldV r ∧ (((phT r ws).1 5 = 0 ∧ bigF ws ≤ 1) ∨ ((phT r ws).1 5 = 2 ∧ 2 ≤ bigF ws)) ∧ (phT r ws).1 6 = 1 ∧ (phT r ws).1 7 = 0 ∧ (phT r ws).2 = ws := by
  have e := (npT_at r 2 ws).2.1
  unfold phT
  by_cases z : 2 ≤ bigF ws
  · rw [if_pos z]; exact ⟨rfl, e, Or.inr ⟨rfl, z⟩, rfl, rfl, rfl⟩
  · rw [if_neg z]; exact ⟨rfl, e, Or.inl ⟨rfl, by omega⟩, rfl, rfl, rfl⟩
theorem tk_quo {bs : List Int} {t : Nat} {r : RS} (k : tK bs t = 34) (cc : ccb r.1.1 = true) : tkK bs t r = some (rpF r 4 []) := by
  have c2 := of_decide_eq_true (by unfold ccb at cc; exact cc)
  have e : tkK bs t r = tkQ r := by unfold tkK; rw [k]; rfl
  rw [e]
  unfold tkQ
  rw [if_neg (by omega), if_pos cc]
  show some ((4, (bcF r).1.2), (bcF r).2.1, (bcF r).2.2.1, (bcF r).2.2.2.1, []) = _
  rw [(bcF_st r).2]; rfl
theorem tk_prun {bs : List Int} {t : Nat} {r : RS} {s : Int} {ws : List Int} (k : tK bs t = 300) (hs : s = 4 ∨ s = 5) (hl : ws.length < 40) : tkK bs t (rpF r s ws) = some (rpF r 5 (ws ++ [wdT bs t])) := by
  unfold tkK tkR
  have hs : (rpF r s ws).1.1 = 4 ∨ (rpF r s ws).1.1 = 5 := hs
  rw [if_pos k, if_pos hs]
  show some ((5, (bcF r).1.2), r.2.1, r.2.2.1, r.2.2.2.1, if ws.length < 40 then ws ++ [ntW bs (tP bs t) 0] else ws) = _
  rw [if_pos hl]; rfl
theorem npT_rp (r : RS) (s k : Int) (ws l : List Int) : npT (rpF r s ws) k l = npT (bcF r) k l := by
  unfold npT
  rw [(bcF_st r).2]; rfl
theorem tk_pend {bs : List Int} {t : Nat} {r : RS} {ws : List Int} (k : tK bs t = 34) : tkK bs t (rpF r 5 ws) = some ((9, (bcF r).1.2), apD r.2.1 (quN r) (phT r ws), r.2.2.1, r.2.1.1.length, ws) := by
  have e : tkK bs t (rpF r 5 ws) = tkQ (rpF r 5 ws) := by unfold tkK; rw [k]; rfl
  rw [e]
  show (if (5 : Int) = 5 then some (stF (apH (rpF r 5 ws)) 9) else _) = _
  rw [if_pos rfl]
  have ap : apF (rpF r 5 ws) 2 ws = ((5, (bcF r).1.2), apD r.2.1 (quN r) (npT (bcF r) 2 ws), r.2.2.1, r.2.1.1.length, ws) := by
    show ((5, (bcF r).1.2), apD r.2.1 (arF r.2.1 r.2.2.1).2.2.toNat (npT (rpF r 5 ws) 2 ws), r.2.2.1, r.2.1.1.length, ws) = _
    rw [npT_rp]; rfl
  show some (stF (if 2 ≤ bigF ws then apF (rpF r 5 ws) 2 ws else sdF (apF (rpF r 5 ws) 2 ws) 5 0) 9) = _
  unfold phT
  rw [ap]
  by_cases z : 2 ≤ bigF ws
  · rw [if_pos z, if_pos z]; rfl
  · rw [if_neg z, if_neg z]
    show some ((9, (bcF r).1.2), seD (apD r.2.1 (quN r) (npT (bcF r) 2 ws)) r.2.1.1.length 5 0, r.2.2.1, r.2.1.1.length, ws) = _
    rw [seD_ap]
theorem core_phr {G : XG} {d : Nat} {h : XH} {Q : XV → XH → Prop} {X : Nat → XH → Prop} {h0 : XH} {q : Int} {bs : List Int} {RES : Int × RS} {r : RS} {t : Nat} (g : GR h0 q bs) (N : RIN h0 h q bs RES r t) (C : PIC h q r.2.1 (r.2.1.1.length + 1)) (cc : ccb r.1.1 = true) (Pe : PeR h q r.2.1.1.length (bcF r).1.2.1 (fldV r) (inoV r) (xpl h q 10)) (k : tK bs t = 34)
    (hF : ∀ h', FAI h0 h' q bs RES → Q (xI 0) h')
    (hT : ∀ h' r' t', RIN h0 h' q bs RES r' t' → PIC h' q r'.2.1 r'.2.1.1.length → t < t' → r'.2.2.1 = r.2.2.1 → r'.2.2.2.1 = r.2.1.1.length → (r.2.1.1.length < r'.2.1.1.length ∧ STB r r') → 8 ≤ r'.1.1 → r'.1.1 ≤ 10 → ScR bs r' t' → Q (xI 1) h')
    (F1 : xFix (xst h 53 24 ((t : Int) + 1))) : xwp G m_M_isCore (d + 9) 94 [xR 53, xI (r.2.1.1.length : Nat)] [] (xst h 53 24 ((t : Int) + 1)) Q X := by
  have N0 := N
  obtain ⟨P, T, e25, I, eR, O, w1, w0⟩ := N
  have t4 := T.1
  have t5 := ((@tK_T bs t).2.1 (by omega)).2
  have k4 : tK bs t < 400 := by omega
  have pt := I.1.1
  have C0 := g.2.1
  obtain ⟨⟨qb0, qb1, qb2⟩, -⟩ := C0
  have C0 := g.2.1
  have Pe0 := Pe
  obtain ⟨⟨a1, a2, a3, a4, a5⟩, b6, b7, b8, b9⟩ := Pe
  have s0 := tk_quo k cc
  -- behind the phrase's end
  have loop : ∀ (m u : Nat) (ws : List Int) (s : Int) (h1 : XH), u + m = 40 → PX h0 h1 q → TK h1 bs u → PhR h1 q r.2.1.1.length (xpl h q 10) ws → KP h h1 q r.2.1.1.length (xpl h q 10) → (∀ c, q + 1 ≤ c → c ≤ q + 9 → c ≠ q + 7 → c ≠ q + 8 → xpl h1 c r.2.1.1.length = xpl h c r.2.1.1.length) → (s = 4 ∨ (s = 5 ∧ tK bs u ≠ 34)) → RD bs u (rpF r s ws) = RES → RDI u (rpF r s ws) → ws.length + t + 1 = u → xwp G m_M_isCore (d + 9) 94 [xR 53, xI (r.2.1.1.length : Nat)] [] h1 Q X := by
    intro m
    induction m with
    | zero =>
      intro u ws s h1 eu P1 T1 R1 K1 o1 hs e1 I1 wl
      have n3 : tK bs u ≠ 300 := fun z => (tK_300 z).2 (by omega)
      refine v_M_isCore_94 P1.1 ?_
      refine p_M_is g P1 T1 ?_
      rw [decide_eq_false n3]
      refine v_M_isCore_101 P1.1 ⟨fun _ => ?_, fun y => absurd rfl y⟩
      refine hF h1 ⟨P1, u, T1, ?_⟩
      rw [← e1]
      exact RD_mid n3 (by show (4 : Int) ≤ s; omega) (by show s ≤ 7; omega) (fun y => by
        have y : s = 5 := y
        rcases hs with z | z
        · omega
        · exact z.2)
    | succ m ih =>
      intro u ws s h1 eu P1 T1 R1 K1 o1 hs e1 I1 wl
      refine v_M_isCore_94 P1.1 ?_
      refine p_M_is g P1 T1 ?_
      by_cases k3 : tK bs u = 300
      · rw [decide_eq_true k3]
        refine v_M_isCore_101 P1.1 ⟨fun y => absurd y (by decide), fun _ => ?_⟩
        have s1 := tk_prun (r := r) (s := s) (ws := ws) k3 (by omega) (by omega)
        have e2 := (RD_some (by omega) (by omega) s1).symm.trans e1
        have I2 := I1.tkK (by omega) s1
        refine s_M_run g P1 T1 k3 (by omega) (by omega) R1 w0 (by omega) (fun h2 P2 T2 R2 K2 o2 => ?_)
        have K9 := K1.trans K2
        have o9 : ∀ c, q + 1 ≤ c → c ≤ q + 9 → c ≠ q + 7 → c ≠ q + 8 → xpl h2 c r.2.1.1.length = xpl h c r.2.1.1.length := fun c x y z w => (o2 c x y z w).trans (o1 c x y z w)
        have l2 : (ws ++ [wdT bs u]).length = ws.length + 1 := by rw [List.length_append]; rfl
        refine v_M_isCore_111 P2.1 ?_
        refine p_M_is g P2 T2 ?_
        by_cases k34 : tK bs (u + 1) = 34
        · rw [decide_eq_true k34]
          have e24 := T2.2.2
          have u4 := ((@tK_T bs (u + 1)).2.1 (by omega)).2
          have s2 := tk_pend (bs := bs) (t := u + 1) (r := r) (ws := ws ++ [wdT bs u]) k34
          have e3 := (RD_some (by omega) (by omega) s2).symm.trans e2
          have I3 := I2.tkK (by omega) s2
          have Y2 : PY h0 h2 q := P2.2
          refine v_M_isCore_117 P2.1 ⟨fun y => absurd y (by decide), fun _ => ?_⟩
          rw [e24]
          refine ⟨⟨by omega, by omega⟩, fun F3 => ?_⟩
          have P3 : PX h0 (xst h2 53 24 (((u + 1 : Nat) : Int) + 1)) q := ⟨F3, Y2.s53 C0 (Or.inl rfl)⟩
          have T3 : TK (xst h2 53 24 (((u + 1 : Nat) : Int) + 1)) bs (u + 1 + 1) := T2.succ (by omega) (xpl_hit _ _ _ _)
          obtain ⟨h3, eh⟩ : ∃ h3, h3 = xst h2 53 24 (((u + 1 : Nat) : Int) + 1) := ⟨_, rfl⟩
          rw [← eh] at F3 P3 T3 ⊢
          have oh : ∀ c k, c ≠ 53 → xpl h3 c k = xpl h2 c k := fun c k x => by rw [eh, xpl_oa x]
          have K3 : KP h h3 q r.2.1.1.length (xpl h q 10) := ⟨fun c k x y z => (oh c k (by omega)).trans (K9.1 c k x y z), fun c k x y => (oh c k (by omega)).trans (K9.2.1 c k x y), (oh _ _ (by omega)).trans K9.2.2.1, by rw [eh, xpl_ok (by decide)]; exact K9.2.2.2⟩
          have o3 : ∀ c, q + 1 ≤ c → c ≤ q + 9 → c ≠ q + 7 → c ≠ q + 8 → xpl h3 c r.2.1.1.length = xpl h c r.2.1.1.length := fun c x y z w => (oh c _ (by omega)).trans (o9 c x y z w)
          have R3 : PhR h3 q r.2.1.1.length (xpl h q 10) (ws ++ [wdT bs u]) := ⟨(oh _ _ (by omega)).trans R2.1, (oh _ _ (by omega)).trans R2.2.1, (oh _ _ (by omega)).trans R2.2.2.1, fun j v hv => by
            rw [oh _ _ (by omega), oh _ _ (by omega)]; exact R2.2.2.2 j v hv⟩
          have bl := bgL_len (ws ++ [wdT bs u]) 0
          have bl2 := bigF_le (ws ++ [wdT bs u])
          obtain ⟨y1, y2, y3, y4, y5, y6⟩ := phT_at r (ws ++ [wdT bs u])
          have Ro := RoR.ofPh Pe0 R3 o3 w0 y1 y2 y3 y4 y5 y6
          refine s_M_eat g P3 T3 (fun n126 => ?_) (fun k126 F4 => ?_)
          · refine v_M_isCore_136 P3.1 ⟨fun _ => ?_, fun y => absurd rfl y⟩
            obtain ⟨f1, f2, f3⟩ := core_fin N0 C a1 P3 T3 K3 Ro (o3 _ (by omega) (by omega) (by omega) (by omega)) (by rw [R3.2.2.1]; omega) (by rw [R3.2.2.1]; omega) I3 e3
            exact hT h3 _ _ f1 f2 (by omega) rfl rfl f3 (by show (8 : Int) ≤ 9; decide) (by show (9 : Int) ≤ 10; decide) ⟨fun y => absurd y (by show ¬ (9 : Int) = 8; decide), fun _ => n126⟩
          · have u5 := ((@tK_T bs (u + 1 + 1)).2.1 (by omega)).2
            have s4 : tkK bs (u + 1 + 1) ((9, (bcF r).1.2), apD r.2.1 (quN r) (phT r (ws ++ [wdT bs u])), r.2.2.1, r.2.1.1.length, ws ++ [wdT bs u]) = some ((6, (bcF r).1.2), apD r.2.1 (quN r) (phT r (ws ++ [wdT bs u])), r.2.2.1, r.2.1.1.length, ws ++ [wdT bs u]) := by unfold tkK; rw [k126]; rfl
            have e4 := (RD_some (by have := T3.1; omega) (by omega) s4).symm.trans e3
            have I4 := I3.tkK (by omega) s4
            have Y3 : PY h0 h3 q := P3.2
            have P4 : PX h0 (xst h3 53 24 (((u + 1 + 1 : Nat) : Int) + 1)) q := ⟨F4, Y3.s53 C0 (Or.inl rfl)⟩
            have T4 : TK (xst h3 53 24 (((u + 1 + 1 : Nat) : Int) + 1)) bs (u + 1 + 1 + 1) := T3.succ (by omega) (xpl_hit _ _ _ _)
            obtain ⟨h4, eh4⟩ : ∃ h4, h4 = xst h3 53 24 (((u + 1 + 1 : Nat) : Int) + 1) := ⟨_, rfl⟩
            rw [← eh4] at F4 P4 T4 ⊢
            have oh4 : ∀ c k, c ≠ 53 → xpl h4 c k = xpl h3 c k := fun c k x => by rw [eh4, xpl_oa x]
            have e20 := g.e20 P4
            obtain ⟨⟨c12, -, -, -, -, -, -, -, -, c9, -, -⟩, cr⟩ := (P4.qc C0).rows
            refine v_M_isCore_136 P4.1 ⟨fun y => absurd y (by decide), fun _ => ?_⟩
            rw [e20, c9]
            refine ⟨c12, ?_⟩
            refine s_M_isNumber g P4 T4 (by omega) (by omega) (by omega) (by omega) (fun n1 h5 P5 e5 => ?_) (fun n1 k5 h5 P5 T5 v5 o5 b5 => ?_)
            · refine v_M_isCore_151 P5.1 ⟨fun _ => ?_, fun y => absurd rfl y⟩
              refine hF h5 ⟨P5, u + 1 + 1 + 1, ⟨T4.1, T4.2.1, e5⟩, ?_⟩
              rw [← e4]
              exact RD_num n1 (Or.inl rfl)
            · refine v_M_isCore_151 P5.1 ⟨fun y => absurd y (by decide), fun _ => ?_⟩
              have s5 := tk_num (r := ((6, (bcF r).1.2), apD r.2.1 (quN r) (phT r (ws ++ [wdT bs u])), r.2.2.1, r.2.1.1.length, ws ++ [wdT bs u])) k5 n1 (Or.inl rfl)
              have s5 : tkK bs (u + 1 + 1 + 1) ((6, (bcF r).1.2), apD r.2.1 (quN r) (phT r (ws ++ [wdT bs u])), r.2.2.1, r.2.1.1.length, ws ++ [wdT bs u]) = some ((10, (bcF r).1.2), apD r.2.1 (quN r) (upP (phT r (ws ++ [wdT bs u])) 7 (nmV bs (u + 1 + 1 + 1))), r.2.2.1, r.2.1.1.length, ws ++ [wdT bs u]) := by
                rw [s5]
                show some ((10, (bcF r).1.2), seD (apD r.2.1 (quN r) (phT r (ws ++ [wdT bs u]))) r.2.1.1.length 7 (nmV bs (u + 1 + 1 + 1)), r.2.2.1, r.2.1.1.length, ws ++ [wdT bs u]) = _
                rw [seD_ap]
              have e5 := (RD_some T4.1 (by omega) s5).symm.trans e4
              have I5 := I4.tkK (by omega) s5
              have o53 : ∀ c k : Int, c ≠ 53 → (c ≠ q + 9 ∨ k ≠ (r.2.1.1.length : Nat)) → xpl h5 c k = xpl h3 c k := fun c k x y => (o5 c k x y).trans (oh4 c k x)
              have K5 : KP h h5 q r.2.1.1.length (xpl h q 10) := ⟨fun c k x y z => (o53 c k (by omega) (Or.inr z)).trans (K3.1 c k x y z), fun c k x y => (o53 c k (by omega) (Or.inl (by omega))).trans (K3.2.1 c k x y), (o53 _ _ (by omega) (Or.inl (by omega))).trans K3.2.2.1, b5.trans (by rw [eh4, xpl_ok (by decide)]; exact K3.2.2.2)⟩
              have w10 : xpl h5 q 10 = xpl h3 q 10 := o53 _ _ (by omega) (Or.inl (by omega))
              have Ro5 : RoR h5 q r.2.1.1.length (upP (phT r (ws ++ [wdT bs u])) 7 (nmV bs (u + 1 + 1 + 1))) := by
                obtain ⟨⟨x1, x2, x3, x4, x5⟩, xa, xb, xc, xd, xe⟩ := Ro
                have n1 : (phT r (ws ++ [wdT bs u])).1 5 ≠ 1 := by omega
                have e6 : xpl h5 (q + 6) r.2.1.1.length = xpl h3 (q + 6) r.2.1.1.length := o53 _ _ (by omega) (Or.inl (by omega))
                refine ⟨⟨(o53 _ _ (by omega) (Or.inl (by omega))).trans x1, (o53 _ _ (by omega) (Or.inl (by omega))).trans x2, (o53 _ _ (by omega) (Or.inl (by omega))).trans x3, (o53 _ _ (by omega) (Or.inl (by omega))).trans x4, v5⟩, fun _ => ?_, fun z => absurd z n1, by rw [e6]; exact xc, by rw [e6, w10]; exact xd, xe⟩
                obtain ⟨z1, z2, z3⟩ := xa n1
                refine ⟨(o53 _ _ (by omega) (Or.inl (by omega))).trans z1, (o53 _ _ (by omega) (Or.inl (by omega))).trans z2, fun j v hv => ?_⟩
                rw [e6, o53 _ _ (by omega) (Or.inl (by omega)), o53 _ _ (by omega) (Or.inl (by omega))]
                exact z3 j v hv
              obtain ⟨f1, f2, f3⟩ := core_fin N0 C a1 P5 T5 K5 Ro5 ((o53 _ _ (by omega) (Or.inl (by omega))).trans (o3 _ (by omega) (by omega) (by omega) (by omega))) (by rw [w10, R3.2.2.1]; omega) (by rw [w10, R3.2.2.1]; omega) I5 e5
              exact hT h5 _ _ f1 f2 (by omega) rfl rfl f3 (by show (8 : Int) ≤ 10; decide) (by show (10 : Int) ≤ 10; decide) ⟨fun y => absurd y (by show ¬ (10 : Int) = 8; decide), fun y => absurd y (by show ¬ (10 : Int) = 9; decide)⟩
        · rw [decide_eq_false k34]
          refine v_M_isCore_117 P2.1 ⟨fun _ => ?_, fun y => absurd rfl y⟩
          exact ih (u + 1) (ws ++ [wdT bs u]) 5 h2 (by omega) P2 T2 R2 K9 o9 (Or.inr ⟨rfl, k34⟩) e2 I2 (by omega)
      · rw [decide_eq_false k3]
        refine v_M_isCore_101 P1.1 ⟨fun _ => ?_, fun y => absurd rfl y⟩
        refine hF h1 ⟨P1, u, T1, ?_⟩
        rw [← e1]
        exact RD_mid k3 (by show (4 : Int) ≤ s; omega) (by show s ≤ 7; omega) (fun y => by
          have y : s = 5 := y
          rcases hs with z | z
          · omega
          · exact z.2)
  have Y : PY h0 h q := P.2
  have oh : ∀ c k, c ≠ 53 → xpl (xst h 53 24 ((t : Int) + 1)) c k = xpl h c k := fun c k x => xpl_oa x
  refine loop (39 - t) (t + 1) [] 4 _ (by omega) ⟨F1, Y.s53 C0 (Or.inl rfl)⟩ (T.succ k4 (xpl_hit _ _ _ _)) ⟨(oh _ _ (by omega)).trans b7, (oh _ _ (by omega)).trans b8, ?_, fun j v hv => by cases hv⟩ ⟨fun c k x y z => oh c k (by omega), fun c k x y => oh c k (by omega), oh _ _ (by omega), xpl_ok (by decide)⟩ (fun c x y z w => oh c _ (by omega)) (Or.inl rfl) ((RD_some t4 k4 s0).symm.trans eR) (I.tkK k4 s0) (by show 0 + t + 1 = t + 1; omega)
  rw [oh _ _ (by omega)]
  show xpl h q 10 = xpl h q 10 + 0
  omega

end
