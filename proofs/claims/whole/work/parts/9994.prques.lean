/-! ===== prques ===== -/
section
/-! the model reads a question: parts, questions -/
theorem PIC.beg {h h' : XH} {q : Int} {D : DR} (C : PIC h q D D.1.length) (lt : ∀ ns ∈ D.2, ∀ m ∈ ns, m < D.1.length) (k1 : ∀ c k : Int, q + 1 ≤ c → c ≤ q + 9 → k ≠ D.1.length → xpl h' c k = xpl h c k) (k2 : ∀ c k : Int, c = q + 10 ∨ c = q + 11 → xpl h' c k = xpl h c k) (k3 : xpl h' q 0 = D.1.length + 1) (k4 : xpl h' q 10 = xpl h q 10) : PIC h' q D (D.1.length + 1) := by
  obtain ⟨c1, c2, c3, c4⟩ := C
  refine ⟨k3, fun i t z => ?_, fun qi ns m z1 z2 => ?_, fun c k hc z1 z2 => ?_⟩
  · have li := (List.getElem?_eq_some_iff.mp z).1
    exact (c2 i t z).keep (w := xpl h q 10) (fun c x y => k1 c i x y (by omega)) (fun c k x y => k2 c k x) (Int.le_refl _) (by rw [k4]; exact Int.le_refl _)
  · have lm := lt ns (List.mem_of_getElem? z1) m z2
    rw [k1 _ _ (by omega) (by omega) (by omega)]
    exact c3 qi ns m z1 z2
  · rw [k1 _ _ (by omega) (by omega) (by omega)]
    exact c4 c k hc (by omega) z2
theorem seD_at {D : DR} {p : Nat} {k v : Int} (lt : p < D.1.length) {i : Nat} {t : PT} (z9 : (seD D p k v).1[i]? = some t) : ∃ t0, D.1[i]? = some t0 ∧ ((i = p ∧ t = upP t0 k v) ∨ (i ≠ p ∧ t = t0)) := by
  have z : (D.1.set p (upP ((D.1[p]?).getD (mkP 0 0 0 0 0 [])) k v))[i]? = some t := z9
  clear z9
  rw [List.getElem?_set] at z
  by_cases y : p = i
  · rw [if_pos y] at z
    subst y
    rw [if_pos lt, List.getElem?_eq_getElem lt] at z
    exact ⟨D.1[p], List.getElem?_eq_getElem lt, Or.inl ⟨rfl, (Option.some.inj z).symm⟩⟩
  · rw [if_neg y] at z
    exact ⟨t, z, Or.inr ⟨fun w => y w.symm, rfl⟩⟩
theorem seD_to {D : DR} {p : Nat} {k v : Int} {i : Nat} {t : PT} (z : D.1[i]? = some t) : ∃ t', (seD D p k v).1[i]? = some t' ∧ (t' = t ∨ t' = upP t k v) := by
  have li := (List.getElem?_eq_some_iff.mp z).1
  show ∃ t', (D.1.set p (upP ((D.1[p]?).getD (mkP 0 0 0 0 0 [])) k v))[i]? = some t' ∧ _
  rw [List.getElem?_set]
  by_cases y : p = i
  · subst y
    rw [if_pos rfl, if_pos li, z]
    exact ⟨_, rfl, Or.inr rfl⟩
  · rw [if_neg y]
    exact ⟨t, z, Or.inl rfl⟩
theorem PIC.se6 {h h' : XH} {q n v : Int} {D : DR} {p : Nat} (C : PIC h q D n) (lt : p < D.1.length) (q0 : 54 ≤ q) (o : ∀ c k : Int, c ≠ 53 → (c ≠ q + 3 ∨ k ≠ p) → xpl h' c k = xpl h c k) (hv : xpl h' (q + 3) p = v) : PIC h' q (seD D p 6 v) n := by
  obtain ⟨c1, c2, c3, c4⟩ := C
  have ln : (seD D p 6 v).1.length = D.1.length := List.length_set
  refine ⟨(o _ _ (by omega) (Or.inl (by omega))).trans c1, fun i t z => ?_, fun qi ns m z1 z2 => ?_, fun c k hc z1 z2 => (o _ _ (by omega) (Or.inl (by omega))).trans (c4 c k hc z1 z2)⟩
  · obtain ⟨t0, z0, zz⟩ := seD_at lt z
    rcases zz with ⟨ei, et⟩ | ⟨ei, et⟩
    · obtain ⟨⟨a1, a2, a3, a4, a5⟩, b, c, f0, f1, kd⟩ := c2 i t0 z0
      rw [et]
      subst ei
      have e6 : xpl h' (q + 6) i = xpl h (q + 6) i := o _ _ (by omega) (Or.inl (by omega))
      have w10 : xpl h' q 10 = xpl h q 10 := o _ _ (by omega) (Or.inl (by omega))
      refine ⟨⟨(o _ _ (by omega) (Or.inl (by omega))).trans a1, hv, (o _ _ (by omega) (Or.inl (by omega))).trans a3, (o _ _ (by omega) (Or.inl (by omega))).trans a4, (o _ _ (by omega) (Or.inl (by omega))).trans a5⟩, fun z => ?_, fun z => ?_, by rw [e6]; exact f0, by rw [e6, w10]; exact f1, kd⟩
      · obtain ⟨b1, b2, b3⟩ := b z
        refine ⟨(o _ _ (by omega) (Or.inl (by omega))).trans b1, (o _ _ (by omega) (Or.inl (by omega))).trans b2, fun j v hv => ?_⟩
        rw [e6, o _ _ (by omega) (Or.inl (by omega)), o _ _ (by omega) (Or.inl (by omega))]
        exact b3 j v hv
      · obtain ⟨x1, x2, x3, x4⟩ := c z
        rw [e6, o (q + 10) _ (by omega) (Or.inl (by omega)), o (q + 10) _ (by omega) (Or.inl (by omega))]
        exact ⟨(o _ _ (by omega) (Or.inl (by omega))).trans x1, (o _ _ (by omega) (Or.inl (by omega))).trans x2, x3, x4⟩
    · rw [et]
      have w10 : xpl h' q 10 = xpl h q 10 := o _ _ (by omega) (Or.inl (by omega))
      exact (c2 i t0 z0).keep (w := xpl h q 10) (fun c x y => o _ _ (by omega) (Or.inr (by omega))) (fun c k x y => o _ _ (by omega) (Or.inl (by omega))) (Int.le_refl _) (by rw [w10]; exact Int.le_refl _)
  · rw [o (q + 1) m (by omega) (Or.inl (by omega)), ln]
    obtain ⟨r1, r2⟩ := c3 qi ns m z1 z2
    refine ⟨r1, ?_⟩
    rcases r2 with r2 | ⟨oo, to, y1, y2, y3, y4, y5⟩
    · exact Or.inl r2
    · obtain ⟨t', x1, x2⟩ := seD_to (p := p) (k := 6) (v := v) y1
      rcases x2 with x2 | x2
      · exact Or.inr ⟨oo, t', x1, by rw [x2]; exact y2, by rw [x2]; exact y3, y4, y5⟩
      · exact Or.inr ⟨oo, t', x1, by rw [x2]; exact y2, by rw [x2]; exact y3, y4, y5⟩
theorem cpb_at {s : Int} (h : cpb s = true) : (s = 0 ∨ 8 ≤ s) ∧ ccb s = true := by
  have a := of_decide_eq_true (by unfold cpb at h; exact h)
  exact ⟨a, decide_eq_true (by omega)⟩
theorem fld_2 {r : RS} (e : (bcF r).1.2.2 = 2) : fldV r = (arF r.2.1 r.2.2.1).1 := by unfold fldV; rw [if_pos e]
theorem fld_n {r : RS} (e : (bcF r).1.2.2 ≠ 2) : fldV r = (bcF r).1.2.2 := by unfold fldV; rw [if_neg e]
theorem bcF_c {r : RS} (h : cpb r.1.1 = true) : bcF r = ((r.1.1, 0, 2), r.2) := by unfold bcF; rw [if_pos h]
theorem bcF_n {r : RS} (h : cpb r.1.1 = false) : bcF r = r := by unfold bcF; rw [h]; rfl
theorem part_all {G : XG} {h0 : XH} {q : Int} {bs : List Int} {RES : Int × RS} {L : Nat} (g : GR h0 q bs) (hC : CORS G h0 q bs RES L) : PARS G h0 q bs RES L := by
  intro d h Q X r t N C cp sp oL hend hF hT hD
  obtain ⟨P, T, e25, I, eR, O, w1, w0⟩ := N
  have t4 := T.1
  have pt := I.1.1
  have C0 := g.2.1
  obtain ⟨⟨qb0, qb1, qb2⟩, -⟩ := C0
  have C0 := g.2.1
  have C9 := C
  obtain ⟨c1, c2, c3, c4⟩ := C
  obtain ⟨cp1, cp2⟩ := cpb_at cp
  refine part_pre (d := d + 3 * L) g P T c1 (by omega) (fun h1 u P1 T1 hu B1 => ?_)
  -- the reader behind a sign
  obtain ⟨su, hu1, hu2, hu3, hu4, hu5, hu6, hu7⟩ : ∃ su : Int × Int × Int, ccb su.1 = true ∧ (bcF (su, r.2)).1.2.2 = 2 ∧ (bcF (su, r.2)).1.2.1 = xpl h1 (q + 2) r.2.1.1.length ∧ RDI u (su, r.2) ∧ RD bs u (su, r.2) = RES ∧ (tK bs u ≠ 300 → tK bs u ≠ 40 → tK bs u ≠ 34 → RES.1 = tP bs u) ∧ t ≤ u := by
    rcases hu with ⟨eu, n43, n45, e2⟩ | ⟨eu, kk, e2⟩
    · subst eu
      refine ⟨r.1, cp2, ?_, ?_, I, eR, fun n3 n40 n34 => ?_, Nat.le_refl _⟩
      · rw [bcF_c (r := (r.1, r.2)) cp]
      · rw [bcF_c (r := (r.1, r.2)) cp, e2]
        exact (c4 _ _ (Or.inl rfl) (Int.le_refl _) (by omega)).symm
      · rw [← eR]
        obtain ⟨⟨s1, s2⟩, s3⟩ := sp
        refine RD_stop n3 (fun y => by omega) (fun y => absurd y n34) (fun y z => s1 z y) (fun y z => s2 z y) (fun y z => s3 z.1 z.2 y) (fun y => by omega) (fun y => absurd y n40) (fun y => ?_) (fun y z => ?_)
        · unfold tkC
          by_cases z : 8 ≤ r.1.1
          · rw [if_pos z]
            have he := hend z
            by_cases x : r.2.2.1 = []
            · rw [x]; rfl
            · rw [if_neg x] at he; exact absurd y he
          · rw [if_neg z]
        · have he := hend z.1
          rw [if_pos z.2] at he
          exact he y
    · subst eu
      have s1 : tkK bs t r = some ((1, tK bs t, 2), r.2) := by
        unfold tkK
        rw [if_neg (by omega), if_pos kk]
        unfold tkS
        rw [if_pos cp]; rfl
      have k4 : tK bs t < 400 := by omega
      have eR1 := (RD_some t4 k4 s1).symm.trans eR
      have nb : cpb (1 : Int) = false := rfl
      refine ⟨(1, tK bs t, 2), rfl, ?_, ?_, I.tkK k4 s1, eR1, fun n3 n40 n34 => ?_, Nat.le_succ _⟩
      · rw [bcF_n (r := ((1, tK bs t, 2), r.2)) nb]
      · rw [bcF_n (r := ((1, tK bs t, 2), r.2)) nb]; exact e2.symm
      · rw [← eR1]
        have s1 : (((1, tK bs t, 2), r.2) : RS).1.1 = 1 := rfl
        refine RD_stop n3 (fun _ => rfl) (fun y => absurd y n34) (fun _ => by omega) (fun _ => by omega) (fun _ => by omega) (fun _ => by omega) (fun y => absurd y n40) (fun y => ?_) (fun _ => by omega)
        unfold tkC
        rw [if_neg (by omega)]
  refine part_120 g P1 T1 (by omega) (fun h2 v P2 T2 hv => ?_)
  obtain ⟨b1, b2, b3, b4, b5, b6, b7, b8, b9, b10⟩ := B1
  -- the reader behind a field's name
  obtain ⟨s5, m1, m2, m3, m4, m5, m6, m7, m8⟩ : ∃ s5 : Int × Int × Int, ccb s5.1 = true ∧ RDI v (s5, r.2) ∧ RD bs v (s5, r.2) = RES ∧ PeR h2 q r.2.1.1.length (bcF (s5, r.2)).1.2.1 (fldV (s5, r.2)) (inoV (s5, r.2)) (xpl h2 q 10) ∧ ((bcF (s5, r.2)).1.2.2 = 2 → tK bs v = 300 → nmF (runL bs (tP bs v) (tA bs (v + 1))) ≠ 2 → tK bs (v + 1) ≠ 58) ∧ (tK bs v ≠ 300 → tK bs v ≠ 40 → tK bs v ≠ 34 → RES.1 = tP bs v) ∧ t ≤ v ∧ (PIC h2 q r.2.1 (r.2.1.1.length + 1) ∧ xpl h2 q 10 = xpl h q 10 ∧ xpl h2 53 25 = r.2.2.1.length) := by
    have z0 : ∀ c, (c = q + 5 ∨ c = q + 7 ∨ c = q + 8 ∨ c = q + 9) → xpl h c r.2.1.1.length = 0 := fun c x => c4 c _ (Or.inr x) (Int.le_refl _) (by omega)
    rcases hv with ⟨ev, eh, nf⟩ | ⟨ev, ⟨k3, n2, k58⟩, o2, f2, e2⟩
    · subst ev
      subst eh
      refine ⟨su, hu1, hu4, hu5, ⟨⟨b6, hu3.symm, b7, ?_, (b10 _ (by omega)).trans (z0 _ (by omega))⟩, b9.trans b4.symm, (b10 _ (by omega)).trans (z0 _ (by omega)), (b10 _ (by omega)).trans (z0 _ (by omega)), (b10 _ (by omega)).trans (z0 _ (by omega))⟩, fun _ k3 n2 k58 => nf ⟨k3, n2, k58⟩, hu6, hu7, C9.beg I.2.2.2.2.1 b1 b2 b3 b4, b4, b5.trans e25⟩
      rw [fld_2 hu2]; exact b8
    · subst ev
      have u4 := T1.1
      have u5 := (tK_300 k3).2
      have ku : tK bs u < 400 := by omega
      have k1 : tK bs (u + 1) < 400 := by omega
      have u6 := ((@tK_T bs (u + 1)).2.1 (by omega)).2
      have t58 : tT bs (u + 1) = 58 := by rw [((@tK_T bs (u + 1)).2.1 (by omega)).1]; exact k58
      have s1 := tk_fld (r := (su, r.2)) k3 hu1 ⟨hu2, n2, t58⟩
      have s2 : tkK bs (u + 1) ((3, (bcF (su, r.2)).1.2.1, nmF (runL bs (tP bs u) (tA bs (u + 1)))), r.2) = some ((2, (bcF (su, r.2)).1.2.1, nmF (runL bs (tP bs u) (tA bs (u + 1)))), r.2) := by unfold tkK; rw [k58]; rfl
      have I1 := hu4.tkK ku s1
      have I2 := I1.tkK k1 s2
      have eR1 := (RD_some u4 ku s1).symm.trans hu5
      have eR2 := (RD_some (by omega) k1 s2).symm.trans eR1
      have nb : cpb (2 : Int) = false := rfl
      have eb := bcF_n (r := ((2, (bcF (su, r.2)).1.2.1, nmF (runL bs (tP bs u) (tA bs (u + 1)))), r.2)) nb
      have w10 : xpl h2 q 10 = xpl h1 q 10 := o2 _ _ (by omega) (Or.inl (by omega))
      refine ⟨(2, (bcF (su, r.2)).1.2.1, nmF (runL bs (tP bs u) (tA bs (u + 1)))), rfl, I2, eR2, ⟨⟨(o2 _ _ (by omega) (Or.inl (by omega))).trans b6, ?_, (o2 _ _ (by omega) (Or.inl (by omega))).trans b7, ?_, (o2 _ _ (by omega) (Or.inl (by omega))).trans ((b10 _ (by omega)).trans (z0 _ (by omega)))⟩, (o2 _ _ (by omega) (Or.inl (by omega))).trans (b9.trans (b4.symm.trans w10.symm)), (o2 _ _ (by omega) (Or.inl (by omega))).trans ((b10 _ (by omega)).trans (z0 _ (by omega))), (o2 _ _ (by omega) (Or.inl (by omega))).trans ((b10 _ (by omega)).trans (z0 _ (by omega))), (o2 _ _ (by omega) (Or.inl (by omega))).trans ((b10 _ (by omega)).trans (z0 _ (by omega)))⟩, fun y => ?_, fun n3 n40 n34 => ?_, by omega, C9.beg I.2.2.2.2.1 (fun c k x y z => (o2 c k (by omega) (Or.inr z)).trans (b1 c k x y z)) (fun c k x => (o2 c k (by omega) (Or.inl (by omega))).trans (b2 c k x)) ((o2 _ _ (by omega) (Or.inl (by omega))).trans b3) (w10.trans b4), w10.trans b4, e2.trans (b5.trans e25)⟩
      · rw [o2 _ _ (by omega) (Or.inl (by omega)), eb]; exact hu3.symm
      · rw [fld_n (by rw [eb]; exact n2), eb]; exact f2
      · rw [eb] at y; exact absurd y n2
      · rw [← eR2]
        have s1 : (((2, (bcF (su, r.2)).1.2.1, nmF (runL bs (tP bs u) (tA bs (u + 1)))), r.2) : RS).1.1 = 2 := rfl
        refine RD_stop n3 (fun _ => rfl) (fun y => absurd y n34) (fun _ => by omega) (fun _ => by omega) (fun _ => by omega) (fun _ => by omega) (fun y => absurd y n40) (fun y => ?_) (fun _ => by omega)
        unfold tkC
        rw [if_neg (by omega)]
  obtain ⟨C5, w5, e5⟩ := m8
  refine hC d h2 _ X (s5, r.2) v ⟨P2, T2, e5, m2, m3, O, by rw [w5]; omega, by rw [w5]; exact w0⟩ C5 m1 m4 oL m5 m6 (fun h' Fa => ?_) (fun h3 r3 t3 N3 C3 lt3 op3 la3 ln3 st3 st3b sc3 => ?_) (fun h' Do => ?_)
  · exact v_M_isPart_263 Fa.1.1 ⟨fun _ => hF h' Fa, fun y => absurd rfl y⟩
  · obtain ⟨P3, T3, f25, I3, eR3, O3, x1, x0⟩ := N3
    have lt3 : v < t3 := lt3
    have op3 : r3.2.2.1 = r.2.2.1 := op3
    have la3 : r3.2.2.2.1 = r.2.1.1.length := la3
    obtain ⟨ln3, sb3⟩ := ln3
    have ln3 : r.2.1.1.length < r3.2.1.1.length := ln3
    have sb3 : STB r r3 := sb3
    refine v_M_isPart_263 P3.1 ⟨fun y => absurd y (by decide), fun _ => ?_⟩
    refine s_M_eat g P3 T3 (fun n94 => ?_) (fun k94 F4 => ?_)
    · refine v_M_isPart_272 P3.1 ⟨fun _ => ?_, fun y => absurd rfl y⟩
      exact hT h3 r3 t3 ⟨P3, T3, f25, I3, eR3, O3, x1, x0⟩ C3 (by omega) op3 st3 sb3 ⟨sc3, fun _ _ => n94⟩
    · have s4 : tkK bs t3 r3 = some (stF r3 7) := by
        unfold tkK
        rw [k94]
        show (if 8 ≤ r3.1.1 ∧ r3.1.1 ≠ 11 then some (stF r3 7) else none) = _
        rw [if_pos ⟨st3, by omega⟩]
      have I4 := I3.tkK (by omega) s4
      have eR4 := (RD_some T3.1 (by omega) s4).symm.trans eR3
      have Y3 : PY h0 h3 q := P3.2
      have P4 : PX h0 (xst h3 53 24 ((t3 : Int) + 1)) q := ⟨F4, Y3.s53 C0 (Or.inl rfl)⟩
      have T4 : TK (xst h3 53 24 ((t3 : Int) + 1)) bs (t3 + 1) := T3.succ (by omega) (xpl_hit _ _ _ _)
      obtain ⟨h4, eh4⟩ : ∃ h4, h4 = xst h3 53 24 ((t3 : Int) + 1) := ⟨_, rfl⟩
      rw [← eh4] at F4 P4 T4 ⊢
      have o4 : ∀ c k : Int, c ≠ 53 → xpl h4 c k = xpl h3 c k := fun c k x => by rw [eh4, xpl_oa x]
      have e20 := g.e20 P4
      obtain ⟨⟨c12, -, -, c3', -, -, -, -, -, -, -, -⟩, cr⟩ := (P4.qc C0).rows
      refine v_M_isPart_272 F4 ⟨fun y => absurd y (by decide), fun _ => ?_⟩
      rw [e20, c3']
      refine ⟨c12, ?_⟩
      refine s_M_isNumber g P4 T4 (by omega) (by omega) (by omega) (by omega) (fun n1 h5 P5 e5 => ?_) (fun n1 k5 h5 P5 T5 v5 o5 b5 => ?_)
      · refine v_M_isPart_287 P5.1 ⟨fun _ => ?_, fun y => absurd rfl y⟩
        refine hF h5 ⟨P5, t3 + 1, ⟨T4.1, T4.2.1, e5⟩, ?_⟩
        rw [← eR4]
        exact RD_num n1 (Or.inr rfl)
      · refine v_M_isPart_287 P5.1 ⟨fun y => absurd y (by decide), fun _ => ?_⟩
        have s5 : tkK bs (t3 + 1) (stF r3 7) = some (stF (sdF r3 6 (nmV bs (t3 + 1))) 11) := by
          rw [tk_num k5 n1 (Or.inr rfl)]; rfl
        have I5 := I4.tkK (by omega) s5
        have eR5 := (RD_some T4.1 (by omega) s5).symm.trans eR4
        have o53 : ∀ c k : Int, c ≠ 53 → (c ≠ q + 3 ∨ k ≠ (r.2.1.1.length : Nat)) → xpl h5 c k = xpl h3 c k := fun c k x y => (o5 c k x y).trans (o4 c k x)
        have C6 := C3.se6 (h' := h5) (v := nmV bs (t3 + 1)) ln3 (by omega) o53 v5
        have ln6 : (seD r3.2.1 r.2.1.1.length 6 (nmV bs (t3 + 1))).1.length = r3.2.1.1.length := List.length_set
        have eD : (stF (sdF r3 6 (nmV bs (t3 + 1))) 11).2.1 = seD r3.2.1 r.2.1.1.length 6 (nmV bs (t3 + 1)) := by
          show seD r3.2.1 r3.2.2.2.1 6 (nmV bs (t3 + 1)) = _
          rw [la3]
        have w6 : xpl h5 q 10 = xpl h3 q 10 := o53 _ _ (by omega) (Or.inl (by omega))
        refine hT h5 (stF (sdF r3 6 (nmV bs (t3 + 1))) 11) (t3 + 1 + 1) ⟨P5, T5, ?_, I5, eR5, fun m hm => ?_, by rw [w6]; omega, by rw [w6]; exact x0⟩ (by rw [eD, ln6]; exact C6) (by omega) op3 (by show (8 : Int) ≤ 11; decide) (fun m t0 z => ?_) ⟨⟨fun y => absurd y (by show ¬ (11 : Int) = 8; decide), fun y => absurd y (by show ¬ (11 : Int) = 9; decide)⟩, fun _ y => absurd rfl y⟩
        · rw [b5, eh4, xpl_ok (by decide)]; exact f25
        · obtain ⟨t1, y1, y2⟩ := O3 m hm
          rw [eD]
          obtain ⟨t', z1, z2⟩ := seD_to (p := r.2.1.1.length) (k := 6) (v := nmV bs (t3 + 1)) y1
          refine ⟨t', z1, ?_⟩
          rcases z2 with z2 | z2 <;> rw [z2] <;> exact y2
        · obtain ⟨t1, y1, y2⟩ := sb3 m t0 z
          rw [eD]
          obtain ⟨t', z1, z2⟩ := seD_to (p := r.2.1.1.length) (k := 6) (v := nmV bs (t3 + 1)) y1
          refine ⟨t', z1, ?_⟩
          rcases z2 with z2 | z2 <;> rw [z2] <;> exact y2
  · obtain ⟨P3, e, Te, k41, re, n0, n1⟩ := Do
    refine v_M_isPart_263 P3.1 ⟨fun y => absurd y (by decide), fun _ => ?_⟩
    refine s_M_eat g P3 Te (fun n94 => ?_) (fun k94 F4 => by omega)
    refine v_M_isPart_272 P3.1 ⟨fun _ => ?_, fun y => absurd rfl y⟩
    exact hD h' ⟨P3, e, Te, k41, re, n0, n1⟩
/-- nothing more goes on -/
theorem part_doom {G : XG} {d : Nat} {h : XH} {Q : XV → XH → Prop} {X : Nat → XH → Prop} {h0 : XH} {q ins f : Int} {bs : List Int} {RES : Int × RS} (g : GR h0 q bs) (Do : DOO h0 h q bs RES) (hF : ∀ h', FAI h0 h' q bs RES → Q (xI 0) h') : xwp G m_M_isPart (d + 10) 0 [xR 53, xI ins, xI f, xZ, xZ, xZ] [] h Q X := by
  obtain ⟨P, e, T, k41, re, n0, n1⟩ := Do
  refine part_pre (p := (xpl h q 0).toNat) g P T (by omega) (by omega) (fun h1 u P1 T1 hu B1 => ?_)
  have eu : u = e := by omega
  subst eu
  refine part_120 g P1 T1 (by omega) (fun h2 v P2 T2 hv => ?_)
  rcases hv with ⟨ev, eh, nf⟩ | ⟨-, ⟨k3, -⟩, -⟩
  · subst ev
    refine v_M_isCore_0 P2.1 ?_
    refine p_M_is g P2 T2 ?_
    rw [decide_eq_false (by omega)]
    refine v_M_isCore_6 P2.1 ⟨fun _ => ?_, fun y => absurd rfl y⟩
    refine s_M_eat g P2 T2 (fun n34 => ?_) (fun k34 _ => by omega)
    refine v_M_isCore_91 P2.1 ⟨fun _ => ?_, fun y => absurd rfl y⟩
    refine p_M_is g P2 T2 ?_
    rw [decide_eq_false (by omega)]
    refine v_M_isCore_167 P2.1 ⟨fun _ => ?_, fun y => absurd rfl y⟩
    refine v_M_isPart_263 P2.1 ⟨fun _ => ?_, fun y => absurd rfl y⟩
    exact hF h2 ⟨P2, v, T2, re⟩
  · omega

end
