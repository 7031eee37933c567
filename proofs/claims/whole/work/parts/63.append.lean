/-! ===== append ===== -/
section
/-- the part whose ( is open: what appendPart reads of it -/
theorem RdB.ar {h0 h : XH} {bs : List Int} {a : Int} {qa pa : List Int} {n : Nat} {r : RS} (B : RdB h0 h bs a qa pa r.2.1 r.2.2.1) (I : RDI n r) : ∃ x3, alg h 34 (als h 34 - 1) = x3 ∧ xtg h x3 = 4 ∧ xpl h x3 2 = (arF r.2.1 r.2.2.1).1 ∧ xpl h x3 3 = (arF r.2.1 r.2.2.1).2.1 ∧ xpl h x3 10 = (arF r.2.1 r.2.2.1).2.2 ∧ 35 ≤ x3 ∧ x3 < xnx h ∧ als h 34 = r.2.2.1.length + 1 := by
  obtain ⟨⟨F, -, -, -⟩, ⟨A, z10⟩, W, -⟩ := B
  have hsz := A.sz
  have hnx := F.nx
  rw [List.length_cons, List.length_map] at hsz
  have hat := A.at (i := r.2.2.1.length) (by rw [List.length_cons, List.length_map]; omega)
  have ei : als h 34 - 1 = (r.2.2.1.length : Int) := by omega
  rw [ei]
  refine ⟨_, rfl, ?_⟩
  obtain ⟨x3, hx⟩ : ∃ x3, alg h 34 (r.2.2.1.length : Nat) = x3 := ⟨_, rfl⟩
  rw [hx] at hat ⊢
  have e1 : als h 34 = r.2.2.1.length + 1 := by omega
  cases z : r.2.2.1.getLast? with
  | none =>
    have e9 : arF r.2.1 r.2.2.1 = (2, 0, 0) := by unfold arF; rw [z]
    have z0 := List.getLast?_eq_none_iff.mp z
    rw [z0] at hat
    have hat : (35 : Int) = x3 := Option.some.inj hat
    rw [← hat, e9]
    exact ⟨ft_35 F, fp_35_2 F, fp_35_3 F, z10, by decide, by omega, e1⟩
  | some m =>
    obtain ⟨l, hl⟩ : ∃ l, r.2.2.1 = l ++ [m] := List.getLast?_eq_some_iff.mp z
    have hm : m ∈ r.2.2.1 := by rw [hl]; exact List.mem_append.mpr (Or.inr (List.mem_singleton.mpr rfl))
    obtain ⟨t, t1, -⟩ := I.2.2.1 m hm
    have e9 : arF r.2.1 r.2.2.1 = (t.1 2, t.1 3, t.1 10) := by unfold arF; rw [z]; show arT _ = _; rw [t1]; rfl
    have ml := (List.getElem?_eq_some_iff.mp t1).1
    have hp : pa[m]? = some (pa[m]'(by have := W.2.1.1; omega)) := List.getElem?_eq_getElem _
    have hat2 : (pa[m]?).getD 0 = x3 := by
      have : (35 :: r.2.2.1.map (fun n => (pa[n]?).getD 0))[r.2.2.1.length]? = some ((pa[m]?).getD 0) := by
        rw [hl, List.map_append, List.length_append]
        show (35 :: (l.map (fun n => (pa[n]?).getD 0) ++ [(pa[m]?).getD 0]))[l.length + 1]? = _
        rw [List.getElem?_cons_succ, List.getElem?_append_right (by rw [List.length_map]; omega), List.length_map, Nat.sub_self]; rfl
      rw [this] at hat
      exact Option.some.inj hat
    rw [hp] at hat2
    have hat2 : (pa[m]'(by have := W.2.1.1; omega)) = x3 := hat2
    rw [hat2] at hp
    have PR := (W.2.2.2 m x3 t hp t1).1
    rw [e9]
    exact ⟨PR.1.2.2, PR.2.1 2 (by decide) (by decide) (by decide), PR.2.1 3 (by decide) (by decide) (by decide), PR.2.1 10 (by decide) (by decide) (by decide), by have := PR.1.1; omega, PR.1.2.1, e1⟩
theorem s_QR_appendPart {G : XG} {d : Nat} {h : XH} {Q : XV → XH → Prop} {X : Nat → XH → Prop} {h0 : XH} {bs qa pa : List Int} {a x2 k : Int} {r : RS} {n : Nat} {ws : List Int} (B : RdB h0 h bs a qa pa r.2.1 r.2.2.1) (RF : RdF h a pa r) (RX : RdX h r) (I : RDI n r) (hn : n < 40) (hk0 : 0 ≤ k) (hk1 : k ≤ 3) (W9 : RowOK h x2 ws) (hw : ws.length ≤ 40) (hc : xnx h + 2 ≤ xKC) (hs : xsl h + 2 * n + 23 ≤ xKS)
    (hq : ∀ h' p, RdB h0 h' bs a qa (pa ++ [p]) (apF r k ws).2.1 r.2.2.1 → RdF h' a (pa ++ [p]) (apF r k ws) → xnx h' ≤ xnx h + 2 → xsl h' ≤ xsl h + 2 * n + 23 → (∀ k, k ≠ 6 → k ≠ 7 → xpl h' 32 k = xpl h 32 k) → (∀ c, TPC c → ∀ k, xpl h' c k = xpl h c k) → (xpl h' 32 7 = p ∧ xpl h' p 4 = x2 ∧ RowOK h' x2 ws) → Q xN h') : xwp G m_QuestionReader_appendPart (d + 8) 0 [xR 32, xI k, xR x2, xZ, xZ, xZ] [] h Q X := by
  have F := B.1.1
  have hnx := F.nx
  obtain ⟨x3, ex, xt, x2f, x3f, x10, xlo, xlt, hsz⟩ := B.ar I
  have RF0 := RF
  obtain ⟨⟨f1, -⟩, ⟨f4, f5, f6⟩, f7⟩ := RF
  obtain ⟨f2, f3⟩ := RX
  have arr := arF_rng I
  obtain ⟨⟨ia, ib, ic, id9, ie, io⟩, ⟨ig1, ig2, ig3, ig4⟩, -⟩ := id I
  have k79 : ∀ fv bv : Int, fv = (npT r k ws).1 2 → bv = (npT r k ws).1 3 → xwp G m_QuestionReader_appendPart (d + 8) 79 [xR 32, xI k, xR x2, xR x3, xI fv, xZ] [xI bv] h Q X := by
    intro fv bv hfv hbv
    have hb01 : 0 ≤ bv ∧ bv ≤ 1 := by
      rw [hbv]
      show 0 ≤ (if (arF r.2.1 r.2.2.1).2.1 = 0 ∧ r.1.2.1 ≠ 45 then (0 : Int) else 1) ∧ (if (arF r.2.1 r.2.2.1).2.1 = 0 ∧ r.1.2.1 ≠ 45 then (0 : Int) else 1) ≤ 1
      split <;> exact ⟨by decide, by decide⟩
    refine v_QuestionReader_appendPart_79 F ?_
    refine ⟨?_, ?_⟩
    · first | exact hb01 | (rw [f5]; exact ⟨by omega, by omega⟩) | omega
    · refine ⟨?_, ?_⟩
      · first | exact hb01 | (rw [f5]; exact ⟨by omega, by omega⟩) | omega
      · refine ⟨?_, ?_⟩
        · first | exact hb01 | (rw [f5]; exact ⟨by omega, by omega⟩) | omega
        · refine ⟨?_, ?_⟩
          · first | exact hb01 | (rw [f5]; exact ⟨by omega, by omega⟩) | omega
          · intro F9
            obtain ⟨H, hH⟩ : ∃ H, H = xst (xst (xst (xst (xst (xst (xst (xst (xst (xst (xst (xst (xst (xst (xst (xmk h 4 13 (xdef 4)) (xnx h) 6 1) (xnx h) 7 0) (xnx h) 8 0) (xnx h) 9 0) (xnx h) 10 0) (xnx h) 11 0) (xnx h) 12 0) (xnx h) 0 (xpl h 32 6)) (xnx h) 1 (xpl h 32 13)) (xnx h) 2 fv) (xnx h) 3 bv) (xnx h) 5 k) (xnx h) 4 x2) 32 7 (xnx h)) 32 6 ((xpl h 32 6) + 1) := ⟨_, rfl⟩
            rw [← hH] at F9 ⊢
            have hne : ¬ xnx h = 32 := by omega
            have SH : xsm (fun c => c = 32 ∨ c = 33) h H := by
              rw [hH]
              exact ((((((((((((((((xsm.refl h).mk (by decide)).st (by decide) (Or.inr (by omega))).st (by decide) (Or.inr (by omega))).st (by decide) (Or.inr (by omega))).st (by decide) (Or.inr (by omega))).st (by decide) (Or.inr (by omega))).st (by decide) (Or.inr (by omega))).st (by decide) (Or.inr (by omega))).st (by decide) (Or.inr (by omega))).st (by decide) (Or.inr (by omega))).st (by decide) (Or.inr (by omega))).st (by decide) (Or.inr (by omega))).st (by decide) (Or.inr (by omega))).st (by decide) (Or.inr (by omega))).st (by decide) (Or.inl (Or.inl rfl))).st (by decide) (Or.inl (Or.inl rfl))
            have BH := B.f32 F9 SH
            have kH : ∀ c j, c ≠ 32 → c ≠ xnx h → xpl H c j = xpl h c j := fun c j c1 c2 => by
              rw [hH]
              rw [xpl_oa c1, xpl_oa c1]
              iterate 13 rw [xpl_oa c2]
              rw [xpl_mk, if_neg c2]
            have k32 : ∀ j, j ≠ 6 → j ≠ 7 → xpl H 32 j = xpl h 32 j := fun j j6 j7 => by
              have hne' : ¬ (32 : Int) = xnx h := fun y => hne y.symm
              rw [hH, xpl_ok j6, xpl_ok j7]
              iterate 13 rw [xpl_oa hne']
              rw [xpl_mk, if_neg hne']
            have k326 : xpl H 32 6 = xpl h 32 6 + 1 := by rw [hH, xpl_hit]
            have k327 : xpl H 32 7 = xnx h := by rw [hH, xpl_ok (by decide), xpl_hit]
            have nH : xnx H = xnx h + 1 := by rw [hH]; exact xnx_mk h 4 13 (xdef 4)
            have lH : xsl H = xsl h + 13 := by rw [hH]; exact xsl_mk h 4 13 (xdef 4)
            have tH : xtg H (xnx h) = 4 := by rw [hH]; show xtg (xmk h 4 13 (xdef 4)) _ = _; exact xtg_new rfl
            have tO : ∀ c, c < xnx h → xtg H c = xtg h c := fun c hc => SH.tg hc
            have pf : ∀ j v, xpl H (xnx h) j = v → xpl H (xnx h) j = v := fun _ _ y => y
            have PR : PartR H (xnx h) (npT r k ws) := by
              refine ⟨⟨hnx, by omega, tH⟩, fun j j0 j1 j4 => ?_, ?_⟩
              · have hj : j = 0 ∨ j = 1 ∨ j = 2 ∨ j = 3 ∨ j = 5 ∨ j = 6 ∨ j = 7 ∨ j = 8 ∨ j = 9 ∨ j = 10 := by omega
                rcases hj with e | e | e | e | e | e | e | e | e | e <;> rw [e, hH, xpl_oa hne, xpl_oa hne]
                · simp only [xpl_st]
                  simp only [true_and]
                  exact (show xpl h 32 6 = (r.2.1.1.length : Int) from f5)
                · simp only [xpl_st]
                  simp only [true_and]
                  exact f2
                · simp only [xpl_st]
                  simp only [true_and]
                  exact hfv
                · simp only [xpl_st]
                  simp only [true_and]
                  exact hbv
                · simp only [xpl_st]; rfl
                · simp only [xpl_st]; rfl
                · simp only [xpl_st]; rfl
                · simp only [xpl_st]; rfl
                · simp only [xpl_st]; rfl
                · simp only [xpl_st]; rfl
              · rw [hH, xpl_oa hne, xpl_oa hne, xpl_hit, ← hH]
                exact W9.frame SH (fun y _ z w => by omega)
            have x3H : ∀ j, xpl H x3 j = xpl h x3 j := fun j => kH x3 j (fun y => by rw [y, ft_32 F] at xt; cases xt) (by omega)
            have W := BH.2.2.1
            have Fr := BH.2.2.2
            have hszq := W.1.1.sz
            have hlq := W.1.2.2.1
            have ain : (arF r.2.1 r.2.2.1).2.2 = (((arF r.2.1 r.2.2.1).2.2.toNat : Nat) : Int) := by omega
            obtain ⟨q0, hq0⟩ : ∃ q0, q0 = (arF r.2.1 r.2.2.1).2.2.toNat := ⟨_, rfl⟩
            have ain : (arF r.2.1 r.2.2.1).2.2 = (q0 : Int) := by omega
            have q0l : q0 < r.2.1.2.length := by omega
            obtain ⟨n0, y1, y2, y3, y4, y5, y6, y7⟩ := W.q (i := q0) q0l
            have hdr : xpl H 32 5 = a := (k32 5 (by decide) (by decide)).trans f4
            have hn0 : n0.length ≤ n := id9 n0 (List.mem_of_getElem? y1)
            refine v_QuestionReader_appendPart_116 F9 ?_
            refine ⟨?_, ?_⟩
            · first | (rw [tO x3 xlt]; exact xt) | (rw [hdr]; exact W.1.1.1.2.2.1) | (rw [hdr]; exact W.1.1.ok) | (rw [x3H, x10]; omega) | (rw [hdr, x3H, x10, ain]; exact y3.2.2) | (rw [hdr, x3H, x10, ain]; exact y5.1.2.2.1)
            · refine ⟨?_, ?_⟩
              · first | (rw [tO x3 xlt]; exact xt) | (rw [hdr]; exact W.1.1.1.2.2.1) | (rw [hdr]; exact W.1.1.ok) | (rw [x3H, x10]; omega) | (rw [hdr, x3H, x10, ain]; exact y3.2.2) | (rw [hdr, x3H, x10, ain]; exact y5.1.2.2.1)
              · refine ⟨?_, ?_⟩
                · first | (rw [tO x3 xlt]; exact xt) | (rw [hdr]; exact W.1.1.1.2.2.1) | (rw [hdr]; exact W.1.1.ok) | (rw [x3H, x10]; omega) | (rw [hdr, x3H, x10, ain]; exact y3.2.2) | (rw [hdr, x3H, x10, ain]; exact y5.1.2.2.1)
                · refine ⟨fun q1 => ?_, fun q1 => ?_⟩
                  · rw [hdr, x3H, x10] at q1
                    omega
                  · refine ⟨?_, ?_⟩
                    · first | (rw [tO x3 xlt]; exact xt) | (rw [hdr]; exact W.1.1.1.2.2.1) | (rw [hdr]; exact W.1.1.ok) | (rw [x3H, x10]; omega) | (rw [hdr, x3H, x10, ain]; exact y3.2.2) | (rw [hdr, x3H, x10, ain]; exact y5.1.2.2.1)
                    · refine ⟨?_, ?_⟩
                      · first | (rw [tO x3 xlt]; exact xt) | (rw [hdr]; exact W.1.1.1.2.2.1) | (rw [hdr]; exact W.1.1.ok) | (rw [x3H, x10]; omega) | (rw [hdr, x3H, x10, ain]; exact y3.2.2) | (rw [hdr, x3H, x10, ain]; exact y5.1.2.2.1)
                      · refine ⟨?_, ?_⟩
                        · first | (rw [tO x3 xlt]; exact xt) | (rw [hdr]; exact W.1.1.1.2.2.1) | (rw [hdr]; exact W.1.1.ok) | (rw [x3H, x10]; omega) | (rw [hdr, x3H, x10, ain]; exact y3.2.2) | (rw [hdr, x3H, x10, ain]; exact y5.1.2.2.1)
                        · rw [hdr, x3H, x10, ain, k327]
                          obtain ⟨q, hqd⟩ : ∃ q, q = alg H a (q0 : Int) := ⟨_, rfl⟩
                          rw [← hqd] at y2 y3 y4 y5 ⊢
                          have hqm := List.mem_of_getElem? y2
                          refine s_AL_add F9 y5 (by rw [List.length_map]; omega) (by omega) (by rw [tH]; rfl) (by omega) (by rw [List.length_map]; omega) (fun h2 F2 e2 n2 l2 L2 => ?_)
                          rw [List.length_map] at l2
                          have hp9 : xnx h ∉ pa := fun y => by have := (B.2.2.1.pm y).2.1; omega
                          have ok9 : PTok (npT r k ws) := by
                            refine ⟨⟨by show (0 : Int) ≤ (r.2.1.1.length : Int); omega, by show (r.2.1.1.length : Int) < 40; omega⟩, ig1, npT_f2 I k ws, ⟨hk0, hk1⟩, ⟨by show (0 : Int) ≤ 1; decide, by show (1 : Int) ≤ 99; decide⟩, ⟨by show (0 : Int) ≤ 0; decide, by show (0 : Int) ≤ 99; decide⟩, ⟨by show (0 : Int) ≤ 0; decide, by show (0 : Int) ≤ 1000; decide⟩, ⟨by show (0 : Int) ≤ 0; decide, by show (0 : Int) ≤ 40; decide⟩, hw⟩
                          obtain ⟨W2, kp2⟩ := W.apd h0 Fr F9 y2 y1 e2 L2 PR ok9 hp9 rfl (by omega) (by omega)
                          have lge : xnx h0 ≤ xpl H q 0 := (Fr.2.1 q hqm).2.1
                          have h093 := B.1.2.2.2
                          have n0h : xnx h0 ≤ xnx h := B.1.2.1.nx
                          have low2 : ∀ c, c < 93 → xtg H c ≠ 110 → c < xnx H → ∀ j, xpl h2 c j = xpl H c j := fun c c1 c2 c3 j => e2.pl c3 (fun w => by
                            rcases w with w | w
                            · omega
                            · exact c2 w.1) j
                          have t32 : ∀ j, xpl h2 32 j = xpl H 32 j := fun j => low2 32 (by decide) (by rw [ft_32 F9]; decide) (by omega) j
                          have tp : ∀ c, TPC c → ∀ j, xpl h2 c j = xpl h c j := fun c hc j => by
                            have tg9 : xtg H c ≠ 110 := by
                              unfold TPC at hc
                              rcases hc with e | e | e | e <;> rw [e]
                              · rw [ft_1 F9]; decide
                              · rw [ft_2 F9]; decide
                              · rw [ft_3 F9]; decide
                              · rw [ft_4 F9]; decide
                            have hc5 : c < 5 := by unfold TPC at hc; omega
                            rw [low2 c (by omega) tg9 (by omega)]
                            exact kH c j (by omega) (by omega)
                          have hrun : RowOK h2 x2 ws := (W9.frame SH (fun _ _ _ w => by have := W9.1; omega)).frame e2 (fun y _ _ w => by
                            rcases w with w | w
                            · rw [w, y5.1.2.2.1] at y; cases y
                            · rw [w.1] at y; cases y)
                          refine v_QuestionReader_appendPart_154 F2 ?_
                          refine hq h2 (xnx h) ⟨⟨F2, ?_, ?_, h093⟩, ⟨?_, ?_⟩, ?_, ?_⟩ ⟨⟨?_, fun _ _ => ⟨?_, ?_⟩⟩, ⟨?_, ?_, fun _ => ?_⟩, fun y => ⟨?_, fun i hi => ?_⟩⟩ (by omega) (by omega) (fun j j6 j7 => ?_) tp ⟨?_, ?_, hrun⟩
                          · refine BH.1.2.1.then e2 (fun c hc w => ?_)
                            rcases w with w | ⟨w1, w2⟩
                            · omega
                            · rw [BH.1.2.1.tg hc] at w1
                              rw [BH.1.2.1.mkd hc] at w2
                              exact Or.inr ⟨w1, Or.inr (by omega)⟩
                          · exact B.1.2.2.1.keep (tp 1 (Or.inl rfl) 3) (fun j => tp 2 (Or.inr (Or.inl rfl)) j)
                          · rw [map_paApp (fun m hm => by
                              obtain ⟨t, t1, -⟩ := I.2.2.1 m hm
                              have := (List.getElem?_eq_some_iff.mp t1).1
                              have := B.2.2.1.2.1.1
                              omega)]
                            exact BH.2.1.1.frame F9 e2 (fun c w => ALC_ne (ft_34 F9) y5.1.2.2.1 (by omega) w)
                          · rw [low2 35 (by decide) (by rw [ft_35 F9]; decide) (by omega)]
                            exact BH.2.1.2
                          · have e9 : (apF r k ws).2.1 = apD r.2.1 q0 (npT r k ws) := by rw [hq0]; rfl
                            rw [e9]; exact W2
                          · refine ⟨Fr.1, fun q hq => ?_, fun p hp => ?_, fun i j q q' hi hj hne9 => ?_⟩
                            · rw [kp2 q (Or.inl hq) (W.qm hq).1.2.1]; exact Fr.2.1 q hq
                            · rcases List.mem_append.mp hp with w | w
                              · exact Fr.2.2.1 p w
                              · rw [List.mem_singleton] at w; rw [w]; exact n0h
                            · rw [kp2 q (Or.inl (List.mem_of_getElem? hi)) (W.qm (List.mem_of_getElem? hi)).1.2.1, kp2 q' (Or.inl (List.mem_of_getElem? hj)) (W.qm (List.mem_of_getElem? hj)).1.2.1]
                              exact Fr.2.2.2 i j q q' hi hj hne9
                          · rw [t32, k32 12 (by decide) (by decide)]; exact f1
                          · rw [t32, k32 13 (by decide) (by decide)]; exact f2
                          · rw [t32, k32 14 (by decide) (by decide)]; exact f3
                          · rw [t32]; exact hdr
                          · rw [t32, k326, f5]
                            show _ = (((r.2.1.1 ++ [npT r k ws]).length : Nat) : Int)
                            rw [List.length_append]; show _ = (((r.2.1.1.length + 1 : Nat)) : Int); omega
                          · rw [t32, k327]
                            show (pa ++ [xnx h])[r.2.1.1.length]? = _
                            rw [← B.2.2.1.2.1.1, List.getElem?_append_right (Nat.le_refl _), Nat.sub_self]; rfl
                          · rw [t32, k32 1 (by decide) (by decide)]; exact (f7 y).1
                          · rw [low2 33 (by decide) (by rw [ft_33 F9]; decide) (by omega), kH 33 _ (by decide) (by omega)]
                            exact (f7 y).2 i hi
                          · rw [t32]; exact k32 j j6 j7
                          · rw [t32]; exact k327
                          · rw [kp2 (xnx h) (Or.inr tH) (by omega), hH, xpl_oa hne, xpl_oa hne, xpl_hit]
  have k56 : ∀ fv : Int, fv = (npT r k ws).1 2 → xwp G m_QuestionReader_appendPart (d + 8) 56 [xR 32, xI k, xR x2, xR x3, xZ, xZ] [xI fv] h Q X := by
    intro fv hfv
    refine v_QuestionReader_appendPart_56 F ?_
    refine ⟨?_, ?_⟩
    · exact xt
    · refine ⟨fun q1 => ?_, fun q1 => ?_⟩
      · refine ⟨fun q2 => ?_, fun q2 => ?_⟩
        · refine k79 fv 1 hfv ?_
          rw [f2] at q2
          show (1 : Int) = if (arF r.2.1 r.2.2.1).2.1 = 0 ∧ r.1.2.1 ≠ 45 then 0 else 1
          rw [if_neg (fun y => y.2 q2)]
        · refine k79 fv 0 hfv ?_
          rw [x3f] at q1
          rw [f2] at q2
          show (0 : Int) = if (arF r.2.1 r.2.2.1).2.1 = 0 ∧ r.1.2.1 ≠ 45 then 0 else 1
          rw [if_pos ⟨q1, q2⟩]
      · refine k79 fv 1 hfv ?_
        rw [x3f] at q1
        show (1 : Int) = if (arF r.2.1 r.2.2.1).2.1 = 0 ∧ r.1.2.1 ≠ 45 then 0 else 1
        rw [if_neg (fun y => q1 y.1)]
  have k36 : xwp G m_QuestionReader_appendPart (d + 8) 36 [xR 32, xI k, xR x2, xZ, xZ, xZ] [xR x3] h Q X := by
    refine v_QuestionReader_appendPart_36 F ?_
    refine ⟨fun q1 => ?_, fun q1 => ?_⟩
    · refine ⟨?_, ?_⟩
      · exact xt
      · rw [f3] at q1
        refine k56 _ ?_
        rw [x2f]
        show _ = if r.1.2.2 = 2 then (arF r.2.1 r.2.2.1).1 else r.1.2.2
        rw [if_pos q1]
    · rw [f3] at q1 ⊢
      refine k56 _ ?_
      show _ = if r.1.2.2 = 2 then (arF r.2.1 r.2.2.1).1 else r.1.2.2
      rw [if_neg q1]
  refine v_QuestionReader_appendPart_0 F ?_
  refine ⟨?_, ?_⟩
  · first | exact B.2.1.1.ok | (rw [ex]; exact xt) | omega
  · refine ⟨fun q1 => ?_, fun q1 => ?_⟩
    · have := of_decide_eq_true q1
      omega
    · refine ⟨?_, ?_⟩
      · first | exact B.2.1.1.ok | (rw [ex]; exact xt) | omega
      · refine ⟨?_, ?_⟩
        · first | exact B.2.1.1.ok | (rw [ex]; exact xt) | omega
        · rw [ex]; exact k36

end
