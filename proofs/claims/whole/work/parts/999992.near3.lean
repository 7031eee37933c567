/-! ===== near3 ===== -/
section
theorem wn_app {row : List Int} {p e : Nat} (pe : p ≤ e) (he : e < row.length) : (row.take (e + 1)).drop p = (row.take e).drop p ++ [rwA row e] := by
  have hr : row[e]? = some (rwA row e) := by unfold rwA; rw [List.getElem?_eq_getElem he]; rfl
  rw [List.take_succ, hr, List.drop_append_of_le_length (by rw [List.length_take]; omega)]
  rfl
theorem wn_cons {row : List Int} {p e : Nat} (pe : p < e) (he : e ≤ row.length) : (row.take e).drop p = rwA row p :: (row.take e).drop (p + 1) := by
  have lt : p < (row.take e).length := by rw [List.length_take]; omega
  rw [List.drop_eq_getElem_cons lt, List.getElem_take]
  congr 1
  unfold rwA
  rw [List.getElem?_eq_getElem (by omega)]; rfl
theorem s_M_seekNear {G : XG} {d : Nat} {h : XH} {Q : XV → XH → Prop} {X : Nat → XH → Prop} {q x c : Int} {D : DR} {i : Nat} {pt : PT} {row : List Int} (F : xFix h) (A : MQR h q D) (hi : D.1[i]? = some pt) (ok : PTok pt) (W : WoR h x row) (k2 : pt.1 5 = 2) (nr : 0 < pt.1 7) (c0 : 0 ≤ c) (c1 : c < 4920) (T : MatC h c (0, -1))
    (hq : ∀ h', SW h h' c → MatC h' c (neF pt.2 row (pt.1 7 + pt.2.length - 1).toNat (fwL pt.2) row.length 0 0 (0, -1)) → Q xN h') : xwp G m_M_seekNear (d + 2) 0 [xR 53, xI (i : Nat), xI x, xI (row.length : Nat), xI c, xZ, xZ, xZ, xZ, xZ] [] h Q X := by
  rw [neF_all] at hq
  obtain ⟨wd, hwd⟩ : ∃ wd, wd = (pt.1 7 + pt.2.length - 1).toNat := ⟨_, rfl⟩
  rw [← hwd] at hq
  obtain ⟨-, -, -, -, -, o7, -, -, pl40⟩ := ok
  obtain ⟨B, hB⟩ : ∃ B, B = bgL 0 pt.2 := ⟨_, rfl⟩
  have bl := bgL_len pt.2 0
  have rl := W.1
  have li := (List.getElem?_eq_some_iff.mp hi).1
  have a40 := A.2.2.2.1
  have big : 2 ≤ bigF pt.2 ∧ B.length = bigF pt.2 := by
    obtain ⟨-, -, ⟨-, pr, -, -⟩, -, -⟩ := A
    obtain ⟨-, -, -, -, -, kd⟩ := pr i pt hi
    rw [hB]; exact ⟨by omega, by omega⟩
  have bp : B.length ≤ 40 := by
    have e := bgL_words pt.2 0
    have e2 := congrArg List.length e
    rw [List.length_map, ← hB] at e2
    have := List.length_filter_le (fun w => decide (w ≠ 0)) pt.2
    omega
  -- the facts of the question's rows, at a later heap
  have rows : ∀ h1, SW h h1 c → xpl h1 53 19 = q ∧ (xtg h1 q = 12) ∧ (∀ k : Int, 6 ≤ k → k ≤ 9 → xpl h1 q k = q + k ∧ xtg h1 (q + k) = 100 ∧ xln h1 (q + k) = 41) ∧ (xpl h1 q 11 = q + 10 ∧ xtg h1 (q + 10) = 101 ∧ xln h1 (q + 10) = 42) ∧ xpl h1 (q + 7) i = B.length ∧ xpl h1 (q + 8) i = pt.2.length ∧ xpl h1 (q + 9) i = pt.1 7 ∧ 0 ≤ xpl h1 (q + 6) i ∧ xpl h1 (q + 6) i + B.length ≤ 41 ∧ (∀ (j : Nat) (v : Int × Int), B[j]? = some v → xpl h1 (q + 10) (xpl h1 (q + 6) i + j) = v.1) := fun h1 K => by
    obtain ⟨e19, C, ⟨-, pr, -, -⟩, l40, w41⟩ := K.mqr A
    obtain ⟨⟨-, -, -, -, r5⟩, ra, -, f0, f1, -⟩ := pr i pt hi
    obtain ⟨s1, s2, s3⟩ := ra (by omega)
    have ne : neW pt = (bgL 0 pt.2).length := by unfold neW; rw [if_neg (by omega)]
    rw [hB]
    exact ⟨e19, C.2.1, fun k k6 k9 => C.2.2.1 k (by omega) (by omega), C.2.2.2.1, s1, s2, r5, f0, by omega, fun j v hv => (s3 j v hv).1⟩
  have tail : ∀ (m p e : Nat) (h1 : XH) (t : MR) (la : Int), p + m = row.length → p ≤ e → e ≤ row.length → e ≤ p + wd + 1 → SW h h1 c → MatC h1 c t → 0 ≤ t.1 → t.1 ≤ p → NS h1 B ((row.take e).drop p) → la = (if p = 0 then -1 else laM pt.2 row wd (p - 1)) → scF (fun k => decide (rwA row k = fwL pt.2) && exB pt.2 row wd k) m p t = scF (fun k => decide (rwA row k = fwL pt.2) && exB pt.2 row wd k) row.length 0 (0, -1) → xwp G m_M_seekNear (d + 2) 131 [xR 53, xI (i : Nat), xI x, xI (row.length : Nat), xI c, xI (wd : Nat), xI (e : Nat), xI la, xI (p : Nat), xZ] [] h1 Q X := by
    intro m
    induction m with
    | zero =>
      intro p e h1 t la ep pe el ew K T1 t0 t1 N hla eq
      have eq : t = _ := eq
      exact v_M_seekNear_131 K.1 ⟨fun _ => hq h1 K (by rw [← eq]; exact T1), fun y => absurd (by omega) y⟩
    | succ m ih =>
      intro p e h1 t la ep pe el ew K T1 t0 t1 N hla eq
      have eq : scF (fun k => decide (rwA row k = fwL pt.2) && exB pt.2 row wd k) m (p + 1) (if (decide (rwA row p = fwL pt.2) && exB pt.2 row wd p) = true then htF t p else t) = _ := eq
      have laR : laM pt.2 row wd p = -1 ∨ (0 ≤ laM pt.2 row wd p ∧ laM pt.2 row wd p ≤ p) := by
        rcases laM_iff (ws := pt.2) (row := row) (wd := wd) p with ⟨y, -⟩ | ⟨s, y, z, -⟩
        · exact Or.inl y
        · exact Or.inr (by omega)
      -- behind the window's growth
      have mid : ∀ h2 e2, SW h h2 c → MatC h2 c t → p < e2 → e2 ≤ row.length → e2 ≤ p + wd + 1 → (row.take e2).drop p = wnM row wd p → NS h2 B ((row.take e2).drop p) → xwp G m_M_seekNear (d + 2) 178 [xR 53, xI (i : Nat), xI x, xI (row.length : Nat), xI c, xI (wd : Nat), xI (e2 : Nat), xI la, xI (p : Nat), xZ] [] h2 Q X := fun h2 e2 K2 T2 pe2 el2 ew2 ewn N2 => by
        have at189 : xwp G m_M_seekNear (d + 2) 189 [xR 53, xI (i : Nat), xI x, xI (row.length : Nat), xI c, xI (wd : Nat), xI (e2 : Nat), xI (laM pt.2 row wd p), xI (p : Nat), xZ] [] h2 Q X := by
          refine v_M_seekNear_189 K2.1 ⟨⟨by omega, by omega⟩, by omega, by omega, ?_⟩
          rw [((K2.wor W).2 p (by omega)).1]
          refine p_M_inPhrase K2.1 (K2.mqr A) hi (by omega) ?_
          rw [← hB]
          have rg := ixB_rng B (rwA row p) 0
          have nxt : ∀ h3 t3, SW h h3 c → MatC h3 c t3 → NS h3 B ((row.take e2).drop p) → 0 ≤ t3.1 → t3.1 ≤ p + 1 → scF (fun k => decide (rwA row k = fwL pt.2) && exB pt.2 row wd k) m (p + 1) t3 = scF (fun k => decide (rwA row k = fwL pt.2) && exB pt.2 row wd k) row.length 0 (0, -1) → xwp G m_M_seekNear (d + 2) 234 [xR 53, xI (i : Nat), xI x, xI (row.length : Nat), xI c, xI (wd : Nat), xI (e2 : Nat), xI (laM pt.2 row wd p), xI (p : Nat), xI (ixB B (rwA row p) 0)] [] h3 Q X := fun h3 t3 K3 T3 N3 a0 a1 eq3 => by
            refine v_M_seekNear_234 K3.1 ?_
            rw [wn_cons pe2 el2] at N3
            refine s_turn_out (c := c) K3.1 N3 bp (by rw [List.length_drop, List.length_take]; omega) (fun h4 K4 N4 o4 => ?_)
            refine v_M_seekNear_241 K4.1 ⟨⟨by omega, by omega⟩, ?_⟩
            have go := ih (p + 1) e2 h4 t3 (laM pt.2 row wd p) (by omega) (by omega) el2 (by omega) (K3.trans K4) ⟨(o4 81 c (Or.inl rfl)).trans T3.1, (o4 82 c (Or.inr rfl)).trans T3.2⟩ a0 (by omega) N4 (by rw [if_neg (by omega), Nat.add_sub_cancel]) eq3
            rw [show ((p + 1 : Nat) : Int) = (p : Int) + 1 by omega] at go
            exact go
          have i0 := ixB_0 (ws := pt.2) (w := rwA row p) (by omega)
          rw [← hB] at i0
          have xl := exB_la (ws := pt.2) (row := row) (wd := wd) (k := p) (by omega)
          have no : ¬ (rwA row p = fwL pt.2 ∧ exB pt.2 row wd p = true) → xwp G m_M_seekNear (d + 2) 234 [xR 53, xI (i : Nat), xI x, xI (row.length : Nat), xI c, xI (wd : Nat), xI (e2 : Nat), xI (laM pt.2 row wd p), xI (p : Nat), xI (ixB B (rwA row p) 0)] [] h2 Q X := fun y => by
            refine nxt h2 t K2 T2 N2 t0 (by omega) ?_
            rw [if_neg (by rw [Bool.and_eq_true, decide_eq_true_iff]; exact y)] at eq
            exact eq
          refine v_M_seekNear_203 K2.1 ⟨fun z0 => ⟨fun y => no (fun w => (xl.mp w.2).1 y), fun y => ⟨⟨by omega, by omega⟩, fun z => no (fun w => by have := (xl.mp w.2).2; omega), fun z => ?_⟩⟩, fun z0 => no (fun w => z0 (i0.mpr w.1))⟩
          rw [if_pos (by rw [Bool.and_eq_true, decide_eq_true_iff]; exact ⟨i0.mp z0, xl.mpr ⟨y, by omega⟩⟩)] at eq
          refine s_M_note K2.1 T2 c0 c1 t0 (by omega) (fun h3 F3 S3 T3 o3 n3 l3 => ?_)
          have K3 : SK h2 h3 c := ⟨F3, S3, o3, n3, l3⟩
          refine nxt h3 (htF t p) (K2.trans K3.sw) T3 ⟨fun j hj => ?_, ?_⟩ ?_ ?_ eq
          · rw [o3 87 j (Or.inl (by decide)), o3 88 j (Or.inl (by decide))]; exact N2.1 j hj
          · rw [o3 53 35 (Or.inl (by decide))]; exact N2.2
          · show 0 ≤ t.1 + 1
            omega
          · show t.1 + 1 ≤ (p : Int) + 1
            omega
        have la0 : laF B ((row.take e2).drop p) = 0 ↔ metM pt.2 row wd p = true := by
          rw [ewn, hB]; exact metM_la.symm
        refine v_M_seekNear_178 K2.1 ?_
        rw [N2.2, la0]
        have lae : laM pt.2 row wd p = if metM pt.2 row wd p = true then (p : Int) else la := by
          cases p with
          | zero => rw [hla, if_pos rfl]; rfl
          | succ p => rw [hla, if_neg (Nat.succ_ne_zero p), Nat.add_sub_cancel]; rfl
        refine ⟨fun y => ?_, fun y => ?_⟩
        · rw [if_pos y] at lae
          rw [← lae]; rw [lae] at at189 ⊢; exact at189
        · rw [if_neg y] at lae
          rw [← lae]; exact at189
      have grow : ∀ (n e1 : Nat) (h2 : XH), n = row.length - e1 → p ≤ e1 → e1 ≤ row.length → e1 ≤ p + wd + 1 → SW h h2 c → MatC h2 c t → NS h2 B ((row.take e1).drop p) → xwp G m_M_seekNear (d + 2) 137 [xR 53, xI (i : Nat), xI x, xI (row.length : Nat), xI c, xI (wd : Nat), xI (e1 : Nat), xI la, xI (p : Nat), xZ] [] h2 Q X := by
        intro n
        induction n with
        | zero =>
          intro e1 h2 en pe1 el1 ew1 K2 T2 N2
          refine v_M_seekNear_137 K2.1 ⟨fun _ => mid h2 e1 K2 T2 (by omega) el1 ew1 ?_ N2, fun y => absurd (by omega) y⟩
          unfold wnM
          rw [List.take_of_length_le (l := row) (i := p + wd + 1) (by omega), List.take_of_length_le (by omega)]
        | succ n ihn =>
          intro e1 h2 en pe1 el1 ew1 K2 T2 N2
          refine v_M_seekNear_137 K2.1 ⟨fun y => by omega, fun _ => ⟨⟨by omega, by omega⟩, fun y => mid h2 e1 K2 T2 (by omega) el1 ew1 ?_ N2, fun y => ⟨⟨by omega, by omega⟩, by omega, by omega, ?_⟩⟩⟩
          · unfold wnM
            rw [show e1 = p + wd + 1 by omega]
          · rw [((K2.wor W).2 e1 (by omega)).1]
            refine p_M_inPhrase K2.1 (K2.mqr A) hi (by omega) ?_
            rw [← hB]
            refine v_M_seekNear_168 K2.1 ⟨ft_53 K2.1, ?_⟩
            refine s_turn_in (c := c) K2.1 N2 bp (by rw [List.length_drop, List.length_take]; omega) (fun h3 K3 N3 o3 => ?_)
            refine v_M_seekNear_172 K3.1 ⟨⟨by omega, by omega⟩, ?_⟩
            rw [← wn_app pe1 (by omega)] at N3
            have go := ihn (e1 + 1) h3 (by omega) (by omega) (by omega) (by omega) (K2.trans K3) ⟨(o3 81 c (Or.inl rfl)).trans T2.1, (o3 82 c (Or.inr rfl)).trans T2.2⟩ N3
            rw [show ((e1 + 1 : Nat) : Int) = (e1 : Int) + 1 by omega] at go
            exact go
      exact v_M_seekNear_131 K.1 ⟨fun y => by omega, fun _ => grow _ e h1 rfl pe el ew K T1 N⟩
  -- the counts of the phrase
  have needs : ∀ (m k : Nat) (h1 : XH), k + m = B.length → SW h h1 c → MatC h1 c (0, -1) → xpl h1 53 35 = B.length → (∀ j : Nat, j < B.length → xpl h1 87 j = nbW B ((B.map (·.1)).take k) j ∧ xpl h1 88 j = 0) → xwp G m_M_seekNear (d + 2) 73 [xR 53, xI (i : Nat), xI x, xI (row.length : Nat), xI c, xI (wd : Nat), xI (k : Nat), xZ, xZ, xZ] [] h1 Q X := by
    intro m
    induction m with
    | zero =>
      intro k h1 ek K T1 l1 n1
      refine v_M_seekNear_73 K.1 ⟨fun _ => ?_, fun y => absurd (by omega) y⟩
      refine tail row.length 0 0 h1 (0, -1) (-1) (by omega) (Nat.le_refl _) (by omega) (by omega) K T1 (Int.le_refl _) (Int.le_refl _) ⟨fun j hj => ?_, ?_⟩ rfl rfl
      · obtain ⟨a, b⟩ := n1 j hj
        rw [List.take_of_length_le (by rw [List.length_map]; omega)] at a
        exact ⟨a, b⟩
      · rw [l1]; exact (laF_nil B).symm
    | succ m ih =>
      intro k h1 ek K T1 l1 n1
      have hk : k < B.length := by omega
      obtain ⟨e19, g12, gr, ⟨g11, g10t, g10l⟩, s7, s8, s9, f0, f1, s3⟩ := rows h1 K
      have g6 := gr 6 (by decide) (by decide)
      have v1 := s3 k _ (List.getElem?_eq_getElem hk)
      refine v_M_seekNear_73 K.1 ?_
      rw [e19, g6.1, g11, v1]
      refine ⟨fun y => by omega, fun _ => ⟨g12, g6.2.1, by omega, by rw [g6.2.2]; omega, ⟨by omega, by omega⟩, g10t, by omega, by rw [g10l]; omega, ?_⟩⟩
      refine p_M_inPhrase K.1 (K.mqr A) hi (by omega) ?_
      rw [← hB]
      rcases ixB_at (B := B) (x := (B[k]).1) with z | ⟨j, j1, j2, -⟩
      · exact absurd z (ixB_mem (List.getElem_mem hk))
      · obtain ⟨a, -⟩ := n1 j j1
        have nl := nbW_le B ((B.map (·.1)).take k) j
        rw [List.length_take, List.length_map] at nl
        rw [j2]
        refine v_M_seekNear_111 K.1 ⟨ft_87 K.1, by omega, by rw [fl_87 K.1]; omega, by rw [a]; exact ⟨by omega, by omega⟩, by decide, ⟨by omega, by omega⟩, ?_⟩
        rw [a]
        intro F2
        have go := ih (k + 1) _ (by omega) (K.trans ⟨F2, (xsm.refl h1).st (by omega) (by simp), fun a k z1 z2 z3 z4 => xpl_oa z3, rfl, rfl⟩) ⟨(xpl_oa (by decide)).trans T1.1, (xpl_oa (by decide)).trans T1.2⟩ ((xpl_oa (by decide)).trans l1) (fun i' hi' => ⟨?_, (xpl_oa (by decide)).trans (n1 i' hi').2⟩)
        · rw [show ((k + 1 : Nat) : Int) = (k : Int) + 1 by omega] at go
          exact go
        · have tk : (B.map (·.1)).take (k + 1) = (B.map (·.1)).take k ++ [(B[k]).1] := by
            rw [List.take_succ, List.getElem?_map, List.getElem?_eq_getElem hk]; rfl
          rw [tk, nbW_app]
          by_cases y : i' = j
          · subst y
            rw [xpl_hit, if_pos j2]; omega
          · rw [xpl_ok (by omega), if_neg (by omega), Nat.add_zero]; exact (n1 i' hi').1
  -- cleared
  have clear : ∀ (m k : Nat) (h1 : XH), k + m = B.length → SW h h1 c → MatC h1 c (0, -1) → xpl h1 53 35 = B.length → (∀ j : Nat, j < k → xpl h1 87 j = 0 ∧ xpl h1 88 j = 0) → xwp G m_M_seekNear (d + 2) 39 [xR 53, xI (i : Nat), xI x, xI (row.length : Nat), xI c, xI (wd : Nat), xI (k : Nat), xZ, xZ, xZ] [] h1 Q X := by
    intro m
    induction m with
    | zero =>
      intro k h1 ek K T1 l1 n1
      refine v_M_seekNear_39 K.1 ⟨fun _ => ?_, fun y => absurd (by omega) y⟩
      exact needs B.length 0 h1 (by omega) K T1 l1 (fun j hj => n1 j (by omega))
    | succ m ih =>
      intro k h1 ek K T1 l1 n1
      refine v_M_seekNear_39 K.1 ⟨fun y => by omega, fun _ => ⟨by omega, by omega, fun F2 => ?_⟩⟩
      have go := ih (k + 1) _ (by omega) (K.trans ⟨F2, ((xsm.refl h1).st (by omega) (by simp)).st (by omega) (by simp), fun a k z1 z2 z3 z4 => by rw [xpl_oa z4, xpl_oa z3], rfl, rfl⟩) ⟨by rw [xpl_oa (by decide), xpl_oa (by decide)]; exact T1.1, by rw [xpl_oa (by decide), xpl_oa (by decide)]; exact T1.2⟩ (by rw [xpl_oa (by decide), xpl_oa (by decide)]; exact l1) (fun j hj => ?_)
      · rw [show ((k + 1 : Nat) : Int) = (k : Int) + 1 by omega] at go
        exact go
      · rw [xpl_st, xpl_st, xpl_st, xpl_st]
        by_cases y : j = k
        · subst y; simp
        · obtain ⟨a, b⟩ := n1 j (by omega)
          rw [if_neg (by omega), if_neg (by omega), if_neg (by omega), if_neg (by omega)]
          exact ⟨a, b⟩
  obtain ⟨e19, g12, gr, -, s7, s8, s9, -⟩ := rows h (SW.rfl F)
  have g7 := gr 7 (by decide) (by decide)
  have g8 := gr 8 (by decide) (by decide)
  have g9 := gr 9 (by decide) (by decide)
  refine v_M_seekNear_0 F ?_
  rw [e19, g7.1, g8.1, g9.1, s7, s8, s9]
  refine ⟨g12, g9.2.1, by omega, by rw [g9.2.2]; omega, g8.2.1, by rw [g8.2.2]; omega, ⟨by omega, by omega⟩, ⟨by omega, by omega⟩, g7.2.1, by rw [g7.2.2]; omega, fun F1 => ?_⟩
  rw [show pt.1 7 + (pt.2.length : Int) - 1 = (wd : Nat) by omega]
  exact clear B.length 0 _ (by omega) ⟨F1, (xsm.refl h).st (by decide) (by simp), fun a k z1 z2 z3 z4 => by rw [xpl_st, if_neg (by omega)], rfl, rfl⟩ ⟨(xpl_oa (by decide)).trans T.1, (xpl_oa (by decide)).trans T.2⟩ (xpl_hit _ _ _ _) (fun j hj => absurd hj (Nat.not_lt_zero j))

end
