/-! ===== judge ===== -/
section
theorem d_Question_weightIfFinds_0 : decode prog_6_method_5_code 0 = .ok (.aload_n 0, 1) := by decide +kernel
theorem d_Question_weightIfFinds_1 : decode prog_6_method_5_code 1 = .ok (.invokevirtual 30, 3) := by decide +kernel
theorem w_734 : Cond.methodLink "BeaconIndex$Question" 30 ⟨"BeaconIndex$Question", "finds", "()Z"⟩ ∈ lw_tbl := List.mem_append_right _ (List.mem_of_getElem? (i := 734) (by decide +kernel))
theorem v_Question_weightIfFinds_0 {G : XG} {d : Nat} {h : XH} {Q : XV → XH → Prop} {X : Nat → XH → Prop} {x0 : Int} (F : xFix h) (hyp : xtg h x0 = 5 ∧ (xwp G m_Question_finds (d + 2) 0 [xR x0] [] h (fun v9 h9 => xwp G m_Question_weightIfFinds (d + 3) 4 [xR x0] (xpush v9 []) h9 Q X) X)) : xwp G m_Question_weightIfFinds (d + 3) 0 [xR x0] [] h Q X := by
  have hnx9 : (93 : Int) ≤ xnx h := F.2.2
  refine xr_aload_n (pc := 0) (i := 0) (hI := d_Question_weightIfFinds_0) (hi := rfl) (hl := rfl) ?_
  obtain ⟨c9, hyp⟩ := hyp
  have t1_ := c9
  clear c9
  exact xq_callV (pc := 1) (index := 30) (K := m_Question_finds) (As := []) (S := []) (L0 := [xR x0]) (hI := d_Question_weightIfFinds_1) (hK := k_Question_finds) (hlk := w_734) (hnoM := rfl) (hS8 := Nat.le_of_ble_eq_true rfl) (ci := 5) (N := 5) (C := "BeaconIndex$Question") (T := xF5) (hc := rfl) (hci := Nat.le_of_ble_eq_true rfl) (htb := t1_) (hinst := w_727) (hsel := w_728) (hlen := Nat.le_of_ble_eq_true rfl) (hst := rfl) (hL0 := rfl)  hyp
theorem d_Question_weightIfFinds_4 : decode prog_6_method_5_code 4 = .ok (.ifCond .eq 13, 3) := by decide +kernel
theorem d_Question_weightIfFinds_17 : decode prog_6_method_5_code 17 = .ok (.iconst 0, 1) := by decide +kernel
theorem d_Question_weightIfFinds_18 : decode prog_6_method_5_code 18 = .ok (.ireturn, 1) := by decide +kernel
theorem d_Question_weightIfFinds_7 : decode prog_6_method_5_code 7 = .ok (.aload_n 0, 1) := by decide +kernel
theorem d_Question_weightIfFinds_8 : decode prog_6_method_5_code 8 = .ok (.getfield 26, 3) := by decide +kernel
theorem d_Question_weightIfFinds_11 : decode prog_6_method_5_code 11 = .ok (.invokestatic 34, 3) := by decide +kernel
theorem w_735 : Cond.methodLink "BeaconIndex$Question" 34 ⟨"BeaconIndex$Fits", "capped", "(I)I"⟩ ∈ lw_tbl := List.mem_append_right _ (List.mem_of_getElem? (i := 735) (by decide +kernel))
theorem d_Question_weightIfFinds_14 : decode prog_6_method_5_code 14 = .ok (.goto 4, 3) := by decide +kernel
theorem v_Question_weightIfFinds_4 {G : XG} {d : Nat} {h : XH} {Q : XV → XH → Prop} {X : Nat → XH → Prop} {x0 s0 : Int} (F : xFix h) (hyp : ((s0 = 0 → (Q (xI 0) h)) ∧ (¬ s0 = 0 → xtg h x0 = 5 ∧ (Q (xI (min (xpl h x0 4) 1000000)) h)))) : xwp G m_Question_weightIfFinds (d + 3) 4 [xR x0] [xI s0] h Q X := by
  have hnx9 : (93 : Int) ≤ xnx h := F.2.2
  refine xr_okS (fun hs9 => ?_)
  have r_s0 : -2147483648 ≤ s0 ∧ s0 ≤ 2147483647 := hs9 (xI s0) (.head _)
  refine xr_if_eq (pc := 4) (tgt := 17) (hI := d_Question_weightIfFinds_4) (ht := by decide) (fun q9 => ?_) (fun q9 => ?_)
  · replace hyp := hyp.1 q9
    have q1_ := q9
    clear q9
    refine xr_iconst (pc := 17) (hI := d_Question_weightIfFinds_17) (hr := by decide) ?_
    refine xr_ireturn (S := []) (pc := 18) (hI := d_Question_weightIfFinds_18) (hr := rfl) ?_
    exact hyp
  · replace hyp := hyp.2 q9
    have q1_ := q9
    clear q9
    refine xr_aload_n (pc := 7) (i := 0) (hI := d_Question_weightIfFinds_7) (hi := rfl) (hl := rfl) ?_
    obtain ⟨c9, hyp⟩ := hyp
    have t2_ := c9
    clear c9
    refine xg_getf (pc := 8) (ci := 5) (k := 4) (N := 5) (v9 := 0) (v := (xpl h x0 4)) (T := xF5) (hI := d_Question_weightIfFinds_8) (hw := w_294) rfl xi5 (Or.inl rfl) (Nat.le_of_ble_eq_true rfl) (Nat.le_of_ble_eq_true rfl) rfl t2_ rfl (fun f3_ => ?_)
    replace f3_ : -2147483648 ≤ (xpl h x0 4) ∧ (xpl h x0 4) ≤ 2147483647 := f3_
    refine xq_callS (pc := 11) (index := 34) (K := m_Fits_capped) (As := [xI (xpl h x0 4)]) (S := []) (L0 := [xI (xpl h x0 4)]) (hI := d_Question_weightIfFinds_11) (hK := k_Fits_capped) (hlk := w_735) (hnoM := rfl) (hS8 := Nat.le_of_ble_eq_true rfl) (hstat := w_722) (hlen := Nat.le_of_ble_eq_true rfl) (hst := rfl) (hL0 := rfl)  (p_Fits_capped F  ?_)
    show xwp G m_Question_weightIfFinds (d + 3) 14 [xR x0] [xI (min (xpl h x0 4) 1000000)] _ _ _
    refine xr_goto (pc := 14) (tgt := 18) (hI := d_Question_weightIfFinds_14) (ht := by decide) ?_
    refine xr_ireturn (S := []) (pc := 18) (hI := d_Question_weightIfFinds_18) (hr := rfl) ?_
    exact hyp
theorem p_Question_weightIfFinds {G : XG} {d : Nat} {h : XH} {Q : XV → XH → Prop} {X : Nat → XH → Prop} {q : Int} {j : JS} (F : xFix h) (J : QuesJ h q j) (hq : Q (xI (qwif j)) h) : xwp G m_Question_weightIfFinds (d + 3) 0 [xR q] [] h Q X := by
  unfold qwif at hq
  refine v_Question_weightIfFinds_0 F ?_
  refine ⟨?_, ?_⟩
  · exact J.1.1
  · refine p_Question_finds F J ?_
    refine v_Question_weightIfFinds_4 F ?_
    refine ⟨fun q1 => ?_, fun q1 => ?_⟩
    · rw [bz0 q1] at hq; exact hq
    · refine ⟨?_, ?_⟩
      · exact J.1.1
      · rw [if_pos (bz1 q1)] at hq
        rw [J.2.2.2.2]; exact hq
def tabJ (h : XH) (n i : Int) (r : Bool × Int) : Prop := xpl h 48 (slF n i) = b2i r.1 ∧ xpl h 49 (slF n i) = r.2
theorem PFit.keep {h h' : XH} {p : Int} {t : PT} {f : List (Txt × Bool)} (P : PFit h p t f) (a : ∀ k, xpl h' 42 k = xpl h 42 k) (b : ∀ k, xpl h' 43 k = xpl h 43 k) (c : xpl h' p 11 = xpl h p 11) (d : xpl h' p 12 = xpl h p 12) : PFit h' p t f :=
  ⟨fun i x hx => ⟨(P.1 i x hx).1.keep (a _) (b _), (P.1 i x hx).2.keep (a _) (b _)⟩, c.trans P.2.1, d.trans P.2.2⟩
/-- what judging a question writes -/
def JDW (qx : Int) : Int → Prop := fun c => c = 48 ∨ c = 49 ∨ c = qx
theorem DraR.jd {h h' : XH} {a qx : Int} {qa pa : List Int} {D : DR} (W : DraR h a qa pa D) (F : xFix h) (e : xsm (JDW qx) h h') (h5 : xtg h qx = 5) (h0 : xpl h' qx 0 = xpl h qx 0) : DraR h' a qa pa D := by
  have nt : ∀ c, xtg h c ≠ 5 → c ≠ 48 → c ≠ 49 → ¬ JDW qx c := fun c c1 c2 c3 w => by
    rcases w with w | w | w
    · exact c2 w
    · exact c3 w
    · rw [w] at c1; exact c1 h5
  refine W.frame F e (fun c w => ?_) (fun c c1 c2 c3 => ?_) (fun c k c1 c2 c3 c4 => ?_)
  · have t48 := ft_48 F
    have t49 := ft_49 F
    rcases w with ⟨w, w2⟩ | ⟨w, w2⟩ | ⟨w, -, w2⟩
    · exact nt c (by rw [w]; decide) (by omega) (by omega)
    · exact nt c (by rw [w]; decide) (fun y => by rw [y, t48] at w; cases w) (fun y => by rw [y, t49] at w; cases w)
    · exact nt c (by rw [w]; decide) (by omega) (by omega)
  · by_cases z : c = qx
    · rw [z]; exact h0
    · exact e.pl c2 (fun w => by
        rcases w with w | w | w
        · omega
        · omega
        · exact z w) 0
  · exact e.pl c2 (nt c (by rw [c3]; decide) (by omega) (by omega)) k
theorem FitsR.jd {h h' : XH} {a qx : Int} {qa pa : List Int} {D : DR} {f : List (Txt × Bool)} (P : FitsR h pa D f) (W : DraR h a qa pa D) (F : xFix h) (e : xsm (JDW qx) h h') (h5 : xtg h qx = 5) (h93 : 93 ≤ qx) : FitsR h' pa D f := by
  have hnx := F.nx
  have low : ∀ c k, 40 ≤ c → c ≤ 47 → xpl h' c k = xpl h c k := fun c k c1 c2 => e.pl (by omega) (fun w => by
    rcases w with w | w | w
    · omega
    · omega
    · omega) k
  refine ⟨⟨by rw [low 44 0 (by decide) (by decide)]; exact P.1.1, by rw [low 44 1 (by decide) (by decide)]; exact P.1.2⟩, fun i ns n p t h1 h2 h3 h4 => ?_⟩
  have PR := (W.2.2.2 n p t h3 h4).1
  have pp : ∀ k, xpl h' p k = xpl h p k := fun k => e.pl PR.1.2.1 (fun w => by
    have := PR.1.1
    rcases w with w | w | w
    · omega
    · omega
    · have t4 := PR.1.2.2; rw [w, h5] at t4; cases t4) k
  exact (P.2 i ns n p t h1 h2 h3 h4).keep (fun k => low 42 k (by decide) (by decide)) (fun k => low 43 k (by decide) (by decide)) (pp 11) (pp 12)
theorem TxtR.jd {h h' : XH} {p qx : Int} {t : Txt} (T : TxtR h p t) (e : xsm (JDW qx) h h') (h5 : xtg h qx = 5) : TxtR h' p t := by
  have hp := T.1.1
  refine T.frame e (fun k _ _ => e.pl T.1.2.1 (fun w => ?_) k) (fun r r1 _ r3 w => ?_)
  · rcases w with w | w | w
    · omega
    · omega
    · have t4 := T.1.2.2; rw [w, h5] at t4; cases t4
  · rcases w with w | w | w
    · omega
    · omega
    · rw [w, h5] at r1; cases r1
theorem QuesJ.keep {h h' : XH} {q : Int} {j : JS} (J : QuesJ h q j) (e0 : xtg h' q = xtg h q) (e : ∀ k, xpl h' q k = xpl h q k) : QuesJ h' q j := ⟨⟨e0.trans J.1.1, J.1.2⟩, (e 1).trans J.2.1, (e 2).trans J.2.2.1, (e 3).trans J.2.2.2.1, (e 4).trans J.2.2.2.2⟩
theorem slF_inj1 {n m i : Int} (hn : 0 ≤ n ∧ n < 40) (hm : 0 ≤ m ∧ m < 40) (hi : 0 ≤ i ∧ i < 60) (e : slF n i = slF m i) : n = m := by
  unfold slF at e
  rw [if_pos ⟨hn.1, hn.2, hi.1, hi.2⟩, if_pos ⟨hm.1, hm.2, hi.1, hi.2⟩] at e
  omega
theorem s_Findings_judge {G : XG} {d : Nat} {h : XH} {Q : XV → XH → Prop} {X : Nat → XH → Prop} {a qx tp : Int} {q i : Nat} {qa pa : List Int} {D : DR} {f : List (Txt × Bool)} {x : Txt × Bool} {ns : List Nat} {tl : List JS} (F : xFix h) (W : DraR h a qa pa D) (P : FitsR h pa D f) (hf : f.length ≤ 60) (hx : f[i]? = some x) (T : TxtR h tp x.1) (hqx : qa[q]? = some qx) (hns : D.2[q]? = some ns)
    (ht : ∀ (j : Nat) qj, q < j → qa[j]? = some qj → ∃ v, tl[j - (q + 1)]? = some v ∧ QuesJ h qj v) (tn : ∀ j ∈ tl, 0 ≤ j.2.2.2) (dw : ∀ n ∈ ns, ∀ t, D.1[n]? = some t → t.1 5 = 3 → (q : Int) < t.1 10)
    (hq : ∀ h', xFix h' → xsm (JDW qx) h h' → xpl h' qx 0 = xpl h qx 0 → QuesJ h' qx (jdN D f x.1 q tl ns q000) → (∀ n ∈ ns, ∀ t, D.1[n]? = some t → tabJ h' n i (jdP f x.1 q tl D.2.length t)) → (∀ k, (∀ n ∈ ns, k ≠ slF n i) → xpl h' 48 k = xpl h 48 k ∧ xpl h' 49 k = xpl h 49 k) → xnx h' = xnx h → xsl h' = xsl h → Q xN h') :
    xwp G m_Findings_judge (d + 4) 0 [xR 40, xR qx, xR a, xI i, xR tp, xZ, xZ, xZ, xZ] [] h Q X := by
  have hnx := F.nx
  obtain ⟨ns', y1, y2, y3, y4, y5, y6, y7⟩ := W.q (i := q) (List.getElem?_eq_some_iff.mp hns).1
  rw [hns] at y1
  cases y1
  have eqx : alg h a q = qx := Option.some.inj (y2.symm.trans hqx)
  rw [eqx] at y3 y4 y5
  obtain ⟨z93, znx, z5⟩ := y3
  have hi60 : i < f.length := (List.getElem?_eq_some_iff.mp hx).1
  have hr0 := (T.row 0).2.2.2.2
  have hr1 := (T.row 1).2.2.2.2
  have loop : ∀ (m k : Nat) (j2 : JS) (h2 : XH), k + m = ns.length → xFix h2 → xsm (JDW qx) h h2 → xpl h2 qx 0 = xpl h qx 0 → QuesJ h2 qx j2 → 0 ≤ j2.2.2.2 → j2.2.2.2 ≤ 1000000 * k → jdN D f x.1 q tl (ns.drop k) j2 = jdN D f x.1 q tl ns q000 →
      (∀ n ∈ ns.take k, ∀ t, D.1[n]? = some t → tabJ h2 n i (jdP f x.1 q tl D.2.length t)) → (∀ k', (∀ n ∈ ns, k' ≠ slF n i) → xpl h2 48 k' = xpl h 48 k' ∧ xpl h2 49 k' = xpl h 49 k') → xnx h2 = xnx h → xsl h2 = xsl h →
      xwp G m_Findings_judge (d + 4) 7 [xR 40, xR qx, xR a, xI i, xR tp, xI k, xZ, xZ, xZ] [] h2 Q X := by
    intro m
    induction m with
    | zero =>
      intro k j2 h2 e F2 S2 e0 J2 w0 w1 hv done oth n2 l2
      have W2 := W.jd F S2 z5 e0
      have L2 := W2.q (i := q) (List.getElem?_eq_some_iff.mp hns).1
      obtain ⟨ns', v1, v2, v3, v4, v5, v6, v7⟩ := L2
      rw [hns] at v1
      cases v1
      have eqx2 : alg h2 a q = qx := Option.some.inj (v2.symm.trans hqx)
      rw [eqx2] at v3 v4 v5
      have hsz := v5.sz
      rw [List.length_map] at hsz
      rw [List.drop_eq_nil_of_le (by omega)] at hv
      have hv2 : j2 = jdN D f x.1 q tl ns q000 := hv
      refine v_Findings_judge_7 F2 ?_
      refine ⟨?_, ?_⟩
      · first | exact J2.1.1 | exact v5.1.2.2.1 | exact v5.ok | omega
      · refine ⟨?_, ?_⟩
        · first | exact J2.1.1 | exact v5.1.2.2.1 | exact v5.ok | omega
        · refine ⟨?_, ?_⟩
          · first | exact J2.1.1 | exact v5.1.2.2.1 | exact v5.ok | omega
          · refine ⟨fun q1 => ?_, fun q1 => ?_⟩
            · refine hq h2 F2 S2 e0 ?_ (fun n hn => done n (by rw [List.take_of_length_le (by omega)]; exact hn)) oth n2 l2
              rw [← hv2]; exact J2
            · refine ⟨?_, ?_⟩
              · first | exact J2.1.1 | exact v5.1.2.2.1 | exact v5.ok | omega
              · refine ⟨?_, ?_⟩
                · first | exact J2.1.1 | exact v5.1.2.2.1 | exact v5.ok | omega
                · omega
    | succ m ih =>
      intro k j2 h2 e F2 S2 e0 J2 w0 w1 hv done oth n2 l2
      have W2 := W.jd F S2 z5 e0
      have P2 := P.jd W F S2 z5 z93
      have T2 := T.jd S2 z5
      have L2 := W2.q (i := q) (List.getElem?_eq_some_iff.mp hns).1
      obtain ⟨ns', v1, v2, v3, v4, v5, v6, v7⟩ := L2
      rw [hns] at v1
      cases v1
      have eqx2 : alg h2 a q = qx := Option.some.inj (v2.symm.trans hqx)
      rw [eqx2] at v3 v4 v5
      have hsz := v5.sz
      rw [List.length_map] at hsz
      obtain ⟨n, t, g1, g2, g3, g4, g5, g6⟩ := W2.p v5 v6 (k := k) (by omega)
      obtain ⟨p, hp⟩ : ∃ p, p = alg h2 (xpl h2 qx 0) k := ⟨_, rfl⟩
      rw [← hp] at g2 g4
      obtain ⟨b1, b2⟩ := List.getElem?_eq_some_iff.mp g1
      rw [List.drop_eq_getElem_cons b1, b2] at hv
      have hmn : n ∈ ns := List.mem_of_getElem? g1
      have PF := P2.2 q ns n p t hns hmn g2 g3
      have hv2 : jdN D f x.1 q tl (ns.drop (k + 1)) (qcnt j2 (t.1 1) (jdP f x.1 q tl D.2.length t).1 (jdP f x.1 q tl D.2.length t).2) = jdN D f x.1 q tl ns q000 := by
        have : jdN D f x.1 q tl (n :: ns.drop (k + 1)) j2 = jdN D f x.1 q tl (ns.drop (k + 1)) (match D.1[n]? with | some t => qcnt j2 (t.1 1) (jdP f x.1 q tl D.2.length t).1 (jdP f x.1 q tl D.2.length t).2 | none => j2) := rfl
        rw [this, g3] at hv
        exact hv
      have pr := jdP_rng (q := q) (len := D.2.length) hf hr0 hr1 g5 tn
      have q1e := g4.2.1 1 (by decide) (by decide) (by decide)
      have q0e := g4.2.1 0 (by decide) (by decide) (by decide)
      have q5e := g4.2.1 5 (by decide) (by decide) (by decide)
      have q6e := g4.2.1 6 (by decide) (by decide) (by decide)
      have q10e := g4.2.1 10 (by decide) (by decide) (by decide)
      have p93 := g4.1.1
      have ok := g5
      obtain ⟨o0, o1, o2, o5, o6, o7, o9, o10, ol⟩ := ok
      obtain ⟨r, hrr⟩ : ∃ r, r = jdP f x.1 q tl D.2.length t := ⟨_, rfl⟩
      rw [← hrr] at hv2 pr
      -- the weight is known
      have p139 : xwp G m_Findings_judge (d + 4) 139 [xR 40, xR qx, xR a, xI i, xR tp, xI k, xR p, xI (b2i r.1), xZ] [xI r.2] h2 Q X := by
        have hb := b2i_rng r.1
        have qp : ∀ s v, xpl (xst h2 48 s v) p 0 = t.1 0 := fun s v => by rw [xpl_st, if_neg (by omega)]; exact q0e
        refine v_Findings_judge_139 F2 ?_
        refine ⟨?_, ?_⟩
        · first | exact g4.1.2.2 | exact hb | exact J2.1.1
        · refine ⟨?_, ?_⟩
          · first | exact g4.1.2.2 | exact hb | exact J2.1.1
          · refine ⟨?_, ?_⟩
            · first | exact g4.1.2.2 | exact hb | exact J2.1.1
            · refine ⟨?_, ?_⟩
              · first | exact g4.1.2.2 | exact hb | exact J2.1.1
              · refine ⟨?_, ?_⟩
                · first | exact g4.1.2.2 | exact hb | exact J2.1.1
                · intro F9
                  rw [qp, q0e] at F9 ⊢
                  rw [q1e]
                  obtain ⟨K, hK⟩ : ∃ K, K = slF (t.1 0) i := ⟨_, rfl⟩
                  rw [← hK] at F9 ⊢
                  have hsl := slF_rng (t.1 0) i
                  obtain ⟨H, hH⟩ : ∃ H, H = xst (xst h2 48 K (b2i r.1)) 49 K r.2 := ⟨_, rfl⟩
                  rw [← hH] at F9 ⊢
                  have SH : xsm (JDW qx) h2 H := by
                    rw [hH]
                    exact (xsm.st (C := JDW qx) (a := 48) (k := K) (xsm.refl h2) (by omega) (Or.inl (Or.inl rfl))).st (by omega) (Or.inl (Or.inr (Or.inl rfl)))
                  have kH : ∀ c k', c ≠ 48 → c ≠ 49 → xpl H c k' = xpl h2 c k' := fun c k' c1 c2 => by rw [hH, xpl_st, if_neg (fun y => c2 y.1), xpl_st, if_neg (fun y => c1 y.1)]
                  have JH : QuesJ H qx j2 := J2.keep (by rw [hH]; rfl) (fun k' => kH qx k' (by omega) (by omega))
                  have nH : xnx H = xnx h2 := by rw [hH]; rfl
                  have lH : xsl H = xsl h2 := by rw [hH]; rfl
                  refine s_Question_count F9 JH ⟨by omega, by omega⟩ (fun h4 F4 S4 J4 e4 n4 l4 => ?_)
                  have S4' : xsm (JDW qx) H h4 := S4.mono (fun c _ w => Or.inr (Or.inr w))
                  have t4 : ∀ c k', c ≠ qx → c < xnx H → xpl h4 c k' = xpl H c k' := fun c k' c1 c2 => S4.pl c2 c1 k'
                  refine v_Findings_judge_180 F4 ?_
                  refine ⟨?_, ?_⟩
                  · exact ⟨by omega, by omega⟩
                  · refine ih (k + 1) _ h4 (by omega) F4 ((S2.trans SH).trans S4') (by rw [e4, kH qx 0 (by omega) (by omega)]; exact e0) J4 ?_ ?_ hv2 (fun n' hn' t' ht' => ?_) (fun k' hk' => ?_) (n4.trans (nH.trans n2)) (l4.trans (lH.trans l2))
                    · rw [qcnt_w]; omega
                    · rw [qcnt_w]; omega
                    · have u := W2.2.2.2
                      by_cases z : n' = n
                      · subst z
                        rw [g3] at ht'
                        cases ht'
                        rw [← hrr]
                        refine ⟨?_, ?_⟩
                        · rw [t4 48 _ (by omega) (by omega), ← g6, ← hK, hH, xpl_st, if_neg (by omega), xpl_st, if_pos ⟨rfl, rfl⟩]
                        · rw [t4 49 _ (by omega) (by omega), ← g6, ← hK, hH, xpl_st, if_pos ⟨rfl, rfl⟩]
                      · have hlt : n' < D.1.length := (List.getElem?_eq_some_iff.mp ht').1
                        have hD40 := W.2.1.2.1
                        have hne : slF (n' : Int) i ≠ K := fun y => z (by
                          have := slF_inj1 (n := (n' : Int)) (m := t.1 0) (i := (i : Int)) ⟨by omega, by omega⟩ o0 ⟨by omega, by omega⟩ (by rw [y, hK])
                          omega)
                        have hn2 : n' ∈ ns.take k := by
                          rw [List.take_succ, g1, List.mem_append] at hn'
                          rcases hn' with w | w
                          · exact w
                          · have w : n' ∈ [n] := w
                            exact absurd (List.mem_singleton.mp w) z
                        have := done n' hn2 t' ht'
                        refine ⟨?_, ?_⟩
                        · rw [t4 48 _ (by omega) (by omega), hH, xpl_st, if_neg (by omega), xpl_st, if_neg (fun y => hne y.2)]; exact this.1
                        · rw [t4 49 _ (by omega) (by omega), hH, xpl_st, if_neg (fun y => hne y.2), xpl_st, if_neg (by omega)]; exact this.2
                    · have hne : k' ≠ K := fun y => hk' n hmn (by rw [y, hK, g6])
                      have := oth k' hk'
                      rw [t4 48 _ (by omega) (by omega), t4 49 _ (by omega) (by omega), hH, xpl_st, if_neg (by omega), xpl_st, if_neg (fun y => hne y.2), xpl_st, if_neg (fun y => hne y.2), xpl_st, if_neg (by omega)]
                      exact this
      have p114 : ∀ w, r.2 = (if t.1 1 = 45 then 0 else min (w * t.1 6) 1000000) → 0 ≤ w → w ≤ 1000000 → xwp G m_Findings_judge (d + 4) 114 [xR 40, xR qx, xR a, xI i, xR tp, xI k, xR p, xI (b2i r.1), xI w] [] h2 Q X := by
        intro w hw g0 g1
        have hmul : 0 ≤ w * t.1 6 ∧ w * t.1 6 ≤ 99000000 := ⟨Int.mul_nonneg g0 o6.1, by
          have h1 : w * t.1 6 ≤ w * 99 := Int.mul_le_mul_of_nonneg_left o6.2 g0
          omega⟩
        refine v_Findings_judge_114 F2 ?_
        refine ⟨?_, ?_⟩
        · first | exact g4.1.2.2 | (rw [q6e]; exact ⟨by omega, by omega⟩)
        · refine ⟨fun q1 => ?_, fun q1 => ?_⟩
          · rw [if_pos (by omega)] at hw
            rw [← hw]; exact p139
          · refine ⟨?_, ?_⟩
            · first | exact g4.1.2.2 | (rw [q6e]; exact ⟨by omega, by omega⟩)
            · rw [if_neg (by omega)] at hw
              rw [q6e, ← hw]; exact p139
      have hrdef : r = (if t.1 5 = 3 ∧ t.1 10 < D.2.length then qfin ((tl[(t.1 10).toNat - (q + 1)]?).getD q000) else inF t x.1,
         if t.1 1 = 45 then 0 else min ((if t.1 5 = 3 ∧ t.1 10 < D.2.length then qwif ((tl[(t.1 10).toNat - (q + 1)]?).getD q000) else uwF f t x.1) * t.1 6) 1000000) := hrr
      have szq := W2.1.1.sz
      have lnq := W2.1.2.2.1
      have uw := uwF_rng (t := t) hf hr0 hr1
      refine v_Findings_judge_7 F2 ?_
      refine ⟨?_, ?_⟩
      · first | exact J2.1.1 | exact v5.1.2.2.1 | exact v5.ok | (rw [← hp]; exact g4.1.2.2) | omega
      · refine ⟨?_, ?_⟩
        · first | exact J2.1.1 | exact v5.1.2.2.1 | exact v5.ok | (rw [← hp]; exact g4.1.2.2) | omega
        · refine ⟨?_, ?_⟩
          · first | exact J2.1.1 | exact v5.1.2.2.1 | exact v5.ok | (rw [← hp]; exact g4.1.2.2) | omega
          · refine ⟨fun q1 => ?_, fun q1 => ?_⟩
            · omega
            · refine ⟨?_, ?_⟩
              · first | exact J2.1.1 | exact v5.1.2.2.1 | exact v5.ok | (rw [← hp]; exact g4.1.2.2) | omega
              · refine ⟨?_, ?_⟩
                · first | exact J2.1.1 | exact v5.1.2.2.1 | exact v5.ok | (rw [← hp]; exact g4.1.2.2) | omega
                · rw [← hp]
                  refine p_Fits_isIn F2 g4 PF hx ?_
                  refine v_Findings_judge_43 F2 ?_
                  refine p_Fits_unitWeight F2 g4 PF P2.1 hf hx T2 ?_
                  refine v_Findings_judge_57 F2 ?_
                  refine ⟨?_, ?_⟩
                  · first | exact g4.1.2.2 | exact W2.1.1.1.2.2.1 | exact W2.1.1.ok | omega | (obtain ⟨-, -, -, c3, -⟩ := W2.q (i := (xpl h2 p 10).toNat) (by omega); rw [show (((xpl h2 p 10).toNat : Nat) : Int) = xpl h2 p 10 by omega] at c3; exact c3.2.2)
                  · refine ⟨fun q1 => ?_, fun q1 => ?_⟩
                    · refine ⟨?_, ?_⟩
                      · first | exact g4.1.2.2 | exact W2.1.1.1.2.2.1 | exact W2.1.1.ok | omega | (obtain ⟨-, -, -, c3, -⟩ := W2.q (i := (xpl h2 p 10).toNat) (by omega); rw [show (((xpl h2 p 10).toNat : Nat) : Int) = xpl h2 p 10 by omega] at c3; exact c3.2.2)
                      · refine ⟨?_, ?_⟩
                        · first | exact g4.1.2.2 | exact W2.1.1.1.2.2.1 | exact W2.1.1.ok | omega | (obtain ⟨-, -, -, c3, -⟩ := W2.q (i := (xpl h2 p 10).toNat) (by omega); rw [show (((xpl h2 p 10).toNat : Nat) : Int) = xpl h2 p 10 by omega] at c3; exact c3.2.2)
                        · refine ⟨fun q2 => ?_, fun q2 => ?_⟩
                          · have cn : ¬ (t.1 5 = 3 ∧ t.1 10 < D.2.length) := by omega
                            rw [if_neg cn, if_neg cn] at hrdef
                            rw [show inF t x.1 = r.1 by rw [hrdef]]
                            exact p114 _ (by rw [hrdef]) uw.1 uw.2
                          · refine ⟨?_, ?_⟩
                            · first | exact g4.1.2.2 | exact W2.1.1.1.2.2.1 | exact W2.1.1.ok | omega | (obtain ⟨-, -, -, c3, -⟩ := W2.q (i := (xpl h2 p 10).toNat) (by omega); rw [show (((xpl h2 p 10).toNat : Nat) : Int) = xpl h2 p 10 by omega] at c3; exact c3.2.2)
                            · refine ⟨?_, ?_⟩
                              · first | exact g4.1.2.2 | exact W2.1.1.1.2.2.1 | exact W2.1.1.ok | omega | (obtain ⟨-, -, -, c3, -⟩ := W2.q (i := (xpl h2 p 10).toNat) (by omega); rw [show (((xpl h2 p 10).toNat : Nat) : Int) = xpl h2 p 10 by omega] at c3; exact c3.2.2)
                              · have cn : t.1 5 = 3 ∧ t.1 10 < D.2.length := by omega
                                rw [if_pos cn, if_pos cn] at hrdef
                                obtain ⟨I, hI⟩ : ∃ I : Nat, (I : Int) = t.1 10 := ⟨(t.1 10).toNat, by omega⟩
                                have dI := dw n hmn t g3 (by omega)
                                obtain ⟨ms, c1, c2, c3, -⟩ := W2.q (i := I) (by omega)
                                obtain ⟨vj, c4, c5⟩ := ht I _ (by omega) c2
                                have ne : alg h2 a I ≠ qx := fun y => by
                                  have := nodup_at W2.2.1.2.2.1 c2 (by rw [y]; exact hqx)
                                  omega
                                have c93 := c3.1
                                have cnx := c3.2.1
                                have J5 : QuesJ h2 (alg h2 a I) vj := c5.keep (S2.tg (by omega)) (fun k' => S2.pl (by omega) (fun w => by
                                  rcases w with w | w | w
                                  · omega
                                  · omega
                                  · exact ne w) k')
                                have eI : xpl h2 p 10 = (I : Int) := by omega
                                have eN : (tl[(t.1 10).toNat - (q + 1)]?).getD q000 = vj := by
                                  rw [show (t.1 10).toNat = I by omega, c4]; rfl
                                rw [eN] at hrdef
                                rw [eI]
                                refine p_Question_finds F2 J5 ?_
                                refine v_Findings_judge_95 F2 ?_
                                refine ⟨?_, ?_⟩
                                · first | exact g4.1.2.2 | exact W2.1.1.1.2.2.1 | exact W2.1.1.ok | (rw [eI]; exact c3.2.2) | omega
                                · refine ⟨?_, ?_⟩
                                  · first | exact g4.1.2.2 | exact W2.1.1.1.2.2.1 | exact W2.1.1.ok | (rw [eI]; exact c3.2.2) | omega
                                  · refine ⟨?_, ?_⟩
                                    · first | exact g4.1.2.2 | exact W2.1.1.1.2.2.1 | exact W2.1.1.ok | (rw [eI]; exact c3.2.2) | omega
                                    · refine ⟨?_, ?_⟩
                                      · first | exact g4.1.2.2 | exact W2.1.1.1.2.2.1 | exact W2.1.1.ok | (rw [eI]; exact c3.2.2) | omega
                                      · refine ⟨?_, ?_⟩
                                        · first | exact g4.1.2.2 | exact W2.1.1.1.2.2.1 | exact W2.1.1.ok | (rw [eI]; exact c3.2.2) | omega
                                        · refine ⟨?_, ?_⟩
                                          · first | exact g4.1.2.2 | exact W2.1.1.1.2.2.1 | exact W2.1.1.ok | (rw [eI]; exact c3.2.2) | omega
                                          · rw [eI]
                                            refine p_Question_weightIfFinds F2 J5 ?_
                                            refine v_Findings_judge_112 F2 ?_
                                            rw [show qfin vj = r.1 by rw [hrdef]]
                                            have qr := qwif_rng (j := vj) (tn vj (List.mem_of_getElem? c4))
                                            exact p114 _ (by rw [hrdef]) qr.1 qr.2
                    · have cn : ¬ (t.1 5 = 3 ∧ t.1 10 < D.2.length) := by omega
                      rw [if_neg cn, if_neg cn] at hrdef
                      rw [show inF t x.1 = r.1 by rw [hrdef]]
                      exact p114 _ (by rw [hrdef]) uw.1 uw.2
  refine v_Findings_judge_0 F ?_
  refine ⟨?_, ?_⟩
  · exact z5
  · refine s_Question_forgetText F z5 (by omega) (fun h2 F2 S2 J2 e2 n2 l2 => ?_)
    have S2' : xsm (JDW qx) h h2 := S2.mono (fun c _ w => Or.inr (Or.inr w))
    refine v_Findings_judge_4 F2 ?_
    refine loop ns.length 0 q000 h2 (by omega) F2 S2' e2 J2 (by decide) (by decide) rfl (fun n hn => by simp at hn) (fun k' _ => ⟨S2.pl (by omega) (by omega) k', S2.pl (by omega) (by omega) k'⟩) n2 l2

end
