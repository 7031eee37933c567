/-! ===== first ===== -/
section
/-! the model's parts: the parts of the question itself, what is denied, the first fit, how many but for one -/
theorem p_M_topParts {G : XG} {d : Nat} {h : XH} {Q : XV → XH → Prop} {X : Nat → XH → Prop} {q : Int} {D : DR} {ns : List Nat} (F : xFix h) (A : MQR h q D) (asc : ns.Pairwise (· < ·)) (gt : ∀ m ∈ ns, m < D.1.length) (mem : ∀ m : Nat, m < D.1.length → (m ∈ ns ↔ xpl h (q + 1) m = -1)) (hq : Q (xI ns.length) h) : xwp G m_M_topParts (d + 1) 0 [xR 53, xZ, xZ] [] h Q X := by
  obtain ⟨e19, C, ⟨np, -⟩, l40, -⟩ := A
  have g1 := C.2.2.1 1 (by decide) (by decide)
  have loop : ∀ (n p : Nat) (r : List Nat) (s : Int), p + n = D.1.length → r.Pairwise (· < ·) → (∀ m ∈ r, p ≤ m ∧ m < D.1.length) → (∀ m : Nat, p ≤ m → m < D.1.length → (m ∈ r ↔ xpl h (q + 1) m = -1)) → 0 ≤ s → s ≤ p → s + r.length = ns.length → xwp G m_M_topParts (d + 1) 4 [xR 53, xI s, xI (p : Nat)] [] h Q X := by
    intro n
    induction n with
    | zero =>
      intro p r s ep ra rg rm s0 s1 e
      have : r = [] := by
        cases r with
        | nil => rfl
        | cons a r =>
          have := rg a (List.mem_cons_self)
          omega
      subst this
      have e : s + ((0 : Nat) : Int) = ns.length := e
      refine v_M_topParts_4 F ?_
      rw [e19, np]
      refine ⟨C.2.1, fun _ => ?_, fun y => absurd (by omega) y⟩
      rw [show s = (ns.length : Int) by omega]; exact hq
    | succ n ih =>
      intro p r s ep ra rg rm s0 s1 e
      have hp : p < D.1.length := by omega
      refine v_M_topParts_4 F ?_
      rw [e19, np, g1.1]
      refine ⟨C.2.1, fun y => by omega, fun _ => ⟨g1.2.1, by omega, by rw [g1.2.2]; omega, fun y => ⟨⟨by omega, by omega⟩, ?_⟩, fun y => ?_⟩⟩
      · obtain ⟨r', er, ra', rg'⟩ := asc_head ra (fun m hm => (rg m hm).1) ((rm p (Nat.le_refl _) hp).mpr y)
        subst er
        rw [List.length_cons] at e
        have go := ih (p + 1) r' (s + 1) (by omega) ra' (fun m hm => ⟨rg' m hm, (rg m (List.mem_cons_of_mem _ hm)).2⟩) (fun m m1 m2 => by
          rw [← rm m (by omega) m2, List.mem_cons]
          constructor
          · exact fun w => Or.inr w
          · rintro (w | w)
            · omega
            · exact w) (by omega) (by omega) (by omega)
        rw [show ((p + 1 : Nat) : Int) = (p : Int) + 1 by omega] at go
        exact go
      · have np2 : p ∉ r := fun w => y ((rm p (Nat.le_refl _) hp).mp w)
        have go := ih (p + 1) r (s + 0) (by omega) ra (fun m hm => ⟨by
          have := (rg m hm).1
          have : m ≠ p := fun w => np2 (w ▸ hm)
          omega, (rg m hm).2⟩) (fun m m1 m2 => rm m (by omega) m2) (by omega) (by omega) (by omega)
        rw [show ((p + 1 : Nat) : Int) = (p : Int) + 1 by omega] at go
        exact go
  exact v_M_topParts_0 F (loop D.1.length 0 ns 0 (by omega) asc (fun m hm => ⟨Nat.zero_le _, gt m hm⟩) (fun m _ m2 => mem m m2) (Int.le_refl _) (Int.le_refl _) (by omega))
/-- a part's number among all -/
def tpF (ns : List Nat) (k : Nat) : Int := match ns[k]? with
  | some m => m
  | none => -1
theorem p_M_topPart {G : XG} {d : Nat} {h : XH} {Q : XV → XH → Prop} {X : Nat → XH → Prop} {q : Int} {D : DR} {ns : List Nat} {k : Nat} (F : xFix h) (A : MQR h q D) (k40 : k ≤ 1000) (asc : ns.Pairwise (· < ·)) (gt : ∀ m ∈ ns, m < D.1.length) (mem : ∀ m : Nat, m < D.1.length → (m ∈ ns ↔ xpl h (q + 1) m = -1)) (hq : Q (xI (tpF ns k)) h) : xwp G m_M_topPart (d + 1) 0 [xR 53, xI (k : Nat), xZ, xZ] [] h Q X := by
  obtain ⟨e19, C, ⟨np, -⟩, l40, -⟩ := A
  have g1 := C.2.2.1 1 (by decide) (by decide)
  have loop : ∀ (n p : Nat) (r : List Nat) (j : Nat), p + n = D.1.length → r.Pairwise (· < ·) → (∀ m ∈ r, p ≤ m ∧ m < D.1.length) → (∀ m : Nat, p ≤ m → m < D.1.length → (m ∈ r ↔ xpl h (q + 1) m = -1)) → j ≤ 1000 → tpF r j = tpF ns k → xwp G m_M_topPart (d + 1) 4 [xR 53, xZ, xI (j : Nat), xI (p : Nat)] [] h Q X := by
    intro n
    induction n with
    | zero =>
      intro p r j ep ra rg rm j0 e
      have : r = [] := by
        cases r with
        | nil => rfl
        | cons a r =>
          have := rg a (List.mem_cons_self)
          omega
      subst this
      have e : (-1 : Int) = tpF ns k := e
      refine v_M_topPart_4 F ?_
      rw [e19, np]
      refine ⟨C.2.1, fun _ => ?_, fun y => absurd (by omega) y⟩
      rw [e]; exact hq
    | succ n ih =>
      intro p r j ep ra rg rm j0 e
      have hp : p < D.1.length := by omega
      refine v_M_topPart_4 F ?_
      rw [e19, np, g1.1]
      refine ⟨C.2.1, fun y => by omega, fun _ => ⟨g1.2.1, by omega, by rw [g1.2.2]; omega, fun y => ?_, fun y => ?_⟩⟩
      · obtain ⟨r', er, ra', rg'⟩ := asc_head ra (fun m hm => (rg m hm).1) ((rm p (Nat.le_refl _) hp).mpr y)
        subst er
        refine ⟨fun z => ?_, fun z => ⟨⟨by omega, by omega⟩, ?_⟩⟩
        · have j00 : j = 0 := by omega
          subst j00
          have e : (p : Int) = tpF ns k := e
          rw [e]; exact hq
        · have e2 : tpF r' (j - 1) = tpF ns k := by
            rw [← e]
            unfold tpF
            rw [show (p :: r')[j]? = r'[j - 1]? by rw [show j = (j - 1) + 1 by omega, List.getElem?_cons_succ]; rfl]
          have go := ih (p + 1) r' (j - 1) (by omega) ra' (fun m hm => ⟨rg' m hm, (rg m (List.mem_cons_of_mem _ hm)).2⟩) (fun m m1 m2 => by
            rw [← rm m (by omega) m2, List.mem_cons]
            constructor
            · exact fun w => Or.inr w
            · rintro (w | w)
              · omega
              · exact w) (by omega) e2
          rw [show ((p + 1 : Nat) : Int) = (p : Int) + 1 by omega, show ((j - 1 : Nat) : Int) = (j : Int) + (-1) by omega] at go
          exact go
      · have np2 : p ∉ r := fun w => y ((rm p (Nat.le_refl _) hp).mp w)
        have go := ih (p + 1) r j (by omega) ra (fun m hm => ⟨by
          have := (rg m hm).1
          have : m ≠ p := fun w => np2 (w ▸ hm)
          omega, (rg m hm).2⟩) (fun m m1 m2 => rm m (by omega) m2) j0 e
        rw [show ((p + 1 : Nat) : Int) = (p : Int) + 1 by omega] at go
        exact go
  exact v_M_topPart_0 F (loop D.1.length 0 ns k (by omega) asc (fun m hm => ⟨Nat.zero_le _, gt m hm⟩) (fun m _ m2 => mem m m2) k40 rfl)
theorem p_M_isDenied {G : XG} {d : Nat} {h : XH} {Q : XV → XH → Prop} {X : Nat → XH → Prop} {q : Int} {D : DR} {i : Nat} {t : PT} (F : xFix h) (A : MQR h q D) (J : DJ D) (E : DEN D) (hi : D.1[i]? = some t) (hq : Q (xI (b2i (decide (t.1 3 = 1)))) h) : xwp G m_M_isDenied (d + 1) 0 [xR 53, xI (i : Nat), xZ] [] h Q X := by
  obtain ⟨e19, C, P, l40, -⟩ := A
  have g1 := C.2.2.1 1 (by decide) (by decide)
  have g2 := C.2.2.1 2 (by decide) (by decide)
  have loop : ∀ (n m : Nat) (u : PT), m ≤ n → D.1[m]? = some u → decide (u.1 3 = 1) = decide (t.1 3 = 1) → xwp G m_M_isDenied (d + 1) 2 [xR 53, xZ, xI (m : Nat)] [] h Q X := by
    intro n
    induction n with
    | zero =>
      intro m u hm hu e
      have m0 : m = 0 := by omega
      subst m0
      have lt := (List.getElem?_eq_some_iff.mp hu).1
      obtain ⟨qi, ns, n1, n2⟩ := J.1 0 lt
      obtain ⟨-, r⟩ := P.2.2.1 qi ns 0 n1 n2
      obtain ⟨d1, d2⟩ := E.2.2 qi ns 0 u n1 n2 hu
      have sg := (P.2.1 0 u hu).1.1
      rw [← e] at hq
      refine v_M_isDenied_2 F ⟨fun y => absurd y (by omega), fun _ => ?_⟩
      rw [e19, g2.1, g1.1, sg]
      refine ⟨C.2.1, g2.2.1, by omega, by rw [g2.2.2]; omega, fun y => ?_, fun y => ⟨g1.2.1, by rw [g1.2.2]; omega, ?_⟩⟩
      · rcases r with ⟨r1, r2⟩ | ⟨o, to, r1, r2, r3, r4, r5⟩
        · rw [decide_eq_true ((d1 r1).mpr y)] at hq; exact hq
        · omega
      · rcases r with ⟨r1, r2⟩ | ⟨o, to, r1, r2, r3, r4, r5⟩
        · rw [r2]
          rw [decide_eq_false (fun x => y ((d1 r1).mp x))] at hq
          exact v_M_isDenied_2 F ⟨fun _ => hq, fun x => absurd rfl x⟩
        · omega
    | succ n ih =>
      intro m u hm hu e
      have lt := (List.getElem?_eq_some_iff.mp hu).1
      obtain ⟨qi, ns, n1, n2⟩ := J.1 m lt
      obtain ⟨-, r⟩ := P.2.2.1 qi ns m n1 n2
      obtain ⟨d1, d2⟩ := E.2.2 qi ns m u n1 n2 hu
      have sg := (P.2.1 m u hu).1.1
      have hq2 := hq
      rw [← e] at hq
      refine v_M_isDenied_2 F ⟨fun y => absurd y (by omega), fun _ => ?_⟩
      rw [e19, g2.1, g1.1, sg]
      refine ⟨C.2.1, g2.2.1, by omega, by rw [g2.2.2]; omega, fun y => ?_, fun y => ⟨g1.2.1, by rw [g1.2.2]; omega, ?_⟩⟩
      · rcases r with ⟨r1, r2⟩ | ⟨o, to, r1, r2, r3, r4, r5⟩
        · rw [decide_eq_true ((d1 r1).mpr y)] at hq; exact hq
        · rw [decide_eq_true ((d2 o to r1 (by have := J.2.2.1 o to r1 r2; omega) (by omega)).mpr (Or.inl y))] at hq; exact hq
      · rcases r with ⟨r1, r2⟩ | ⟨o, to, r1, r2, r3, r4, r5⟩
        · rw [r2]
          rw [decide_eq_false (fun x => y ((d1 r1).mp x))] at hq
          exact v_M_isDenied_2 F ⟨fun _ => hq, fun x => absurd rfl x⟩
        · rw [r5]
          have w := d2 o to r1 (by have := J.2.2.1 o to r1 r2; omega) (by omega)
          refine ih o to (by omega) r1 ?_
          rw [← e]
          by_cases x : to.1 3 = 1
          · rw [decide_eq_true x, decide_eq_true (w.mpr (Or.inr x))]
          · rw [decide_eq_false x, decide_eq_false (fun v => by rcases w.mp v with v | v; exact y v; exact x v)]
  exact v_M_isDenied_0 F (loop i i t (Nat.le_refl _) hi rfl)
/-- the least of those that are -/
def isL (P : Int → Prop) (r : Int) : Prop := (r = -1 ∧ ∀ v, ¬ P v) ∨ (P r ∧ r ≠ -1 ∧ ∀ v, P v → r ≤ v)
theorem isL_one {P : Int → Prop} {r s : Int} (a : isL P r) (b : isL P s) : r = s := by
  rcases a with ⟨a1, a2⟩ | ⟨a1, a2, a3⟩ <;> rcases b with ⟨b1, b2⟩ | ⟨b1, b2, b3⟩
  · omega
  · exact absurd b1 (a2 s)
  · exact absurd a1 (b2 r)
  · have := a3 s b1
    have := b3 r a1
    omega
theorem isL_cong {P P' : Int → Prop} {r : Int} (a : isL P r) (e : ∀ v, P v ↔ P' v) : isL P' r := by
  rcases a with ⟨a1, a2⟩ | ⟨a1, a2, a3⟩
  · exact Or.inl ⟨a1, fun v h => a2 v ((e v).mpr h)⟩
  · exact Or.inr ⟨(e r).mp a1, a2, fun v h => a3 v ((e v).mpr h)⟩
theorem isL_add {P : Int → Prop} {r v : Int} (a : isL P r) (hv : v ≠ -1) : isL (fun x => P x ∨ x = v) (if r = -1 then v else if v < r then v else r) := by
  rcases a with ⟨a1, a2⟩ | ⟨a1, a2, a3⟩
  · rw [if_pos a1]
    exact Or.inr ⟨Or.inr rfl, hv, fun x h => by
      rcases h with h | h
      · exact absurd h (a2 x)
      · omega⟩
  · rw [if_neg a2]
    by_cases z : v < r
    · rw [if_pos z]
      exact Or.inr ⟨Or.inr rfl, hv, fun x h => by
        rcases h with h | h
        · have := a3 x h; omega
        · omega⟩
    · rw [if_neg z]
      exact Or.inr ⟨Or.inl a1, a2, fun x h => by
        rcases h with h | h
        · exact a3 x h
        · omega⟩
/-- a place at which the m-th part fits first -/
def fiP (D : DR) (x : Txt) (fl : Int) (m : Nat) (v : Int) : Prop := v ≠ -1 ∧ ∃ t, D.1[m]? = some t ∧ t.1 3 = 0 ∧ (fitF t fl (rwT x fl)).2 = v
theorem foN_isL {D : DR} {x : Txt} {fl : Int} : ∀ (ns : List Nat) (l : Int) (P : Int → Prop), isL P l → isL (fun v => P v ∨ ∃ m ∈ ns, fiP D x fl m v) (foN D x fl ns l)
  | [], l, P, h => isL_cong h (fun v => ⟨fun y => Or.inl y, fun y => by
      rcases y with y | ⟨m, hm, -⟩
      · exact y
      · cases hm⟩)
  | n :: r, l, P, h => by
    show isL _ (foN D x fl r (match D.1[n]? with | some t => foF1 l t x fl | none => l))
    cases z : D.1[n]? with
    | none =>
      refine isL_cong (foN_isL r l P h) (fun v => ⟨fun y => ?_, fun y => ?_⟩)
      · rcases y with y | ⟨m, hm, y⟩
        · exact Or.inl y
        · exact Or.inr ⟨m, List.mem_cons_of_mem _ hm, y⟩
      · rcases y with y | ⟨m, hm, y⟩
        · exact Or.inl y
        · rcases List.mem_cons.mp hm with w | w
          · obtain ⟨-, t, t1, -⟩ := y
            rw [w, z] at t1; cases t1
          · exact Or.inr ⟨m, w, y⟩
    | some t =>
      show isL _ (foN D x fl r (foF1 l t x fl))
      obtain ⟨w, hw⟩ : ∃ w, w = (fitF t fl (rwT x fl)).2 := ⟨_, rfl⟩
      by_cases c : t.1 3 = 0 ∧ w ≠ -1
      · have e : foF1 l t x fl = if l = -1 then w else if w < l then w else l := by
          unfold foF1
          rw [if_pos c.1, ← hw, if_neg c.2]
        rw [e]
        refine isL_cong (foN_isL r _ _ (isL_add h c.2)) (fun v => ⟨fun y => ?_, fun y => ?_⟩)
        · rcases y with (y | y) | ⟨m, hm, y⟩
          · exact Or.inl y
          · exact Or.inr ⟨n, List.mem_cons_self, by rw [y]; exact c.2, t, z, c.1, by rw [y]; exact hw.symm⟩
          · exact Or.inr ⟨m, List.mem_cons_of_mem _ hm, y⟩
        · rcases y with y | ⟨m, hm, y⟩
          · exact Or.inl (Or.inl y)
          · rcases List.mem_cons.mp hm with w' | w'
            · obtain ⟨-, t', t1, -, t3⟩ := y
              rw [w', z] at t1
              cases t1
              exact Or.inl (Or.inr (by rw [hw]; exact t3.symm))
            · exact Or.inr ⟨m, w', y⟩
      · have e : foF1 l t x fl = l := by
          unfold foF1
          rw [← hw]
          by_cases y : t.1 3 = 0
          · rw [if_pos y, if_pos (by
              by_cases y2 : w = -1
              · exact y2
              · exact absurd ⟨y, y2⟩ c)]
          · rw [if_neg y]
        rw [e]
        refine isL_cong (foN_isL r l P h) (fun v => ⟨fun y => ?_, fun y => ?_⟩)
        · rcases y with y | ⟨m, hm, y⟩
          · exact Or.inl y
          · exact Or.inr ⟨m, List.mem_cons_of_mem _ hm, y⟩
        · rcases y with y | ⟨m, hm, y⟩
          · exact Or.inl y
          · rcases List.mem_cons.mp hm with w' | w'
            · obtain ⟨v0, t', t1, t2, t3⟩ := y
              rw [w', z] at t1
              cases t1
              exact absurd ⟨t2, by rw [hw, t3]; exact v0⟩ c
            · exact Or.inr ⟨m, w', y⟩
theorem foQ_isL {D : DR} {x : Txt} {fl : Int} : ∀ (L : List (List Nat)) (l : Int) (P : Int → Prop), isL P l → isL (fun v => P v ∨ ∃ ns ∈ L, ∃ m ∈ ns, fiP D x fl m v) (foQ D x fl L l)
  | [], l, P, h => isL_cong h (fun v => ⟨fun y => Or.inl y, fun y => by
      rcases y with y | ⟨m, hm, -⟩
      · exact y
      · cases hm⟩)
  | ns :: r, l, P, h => by
    show isL _ (foQ D x fl r (foN D x fl ns l))
    refine isL_cong (foQ_isL r _ _ (foN_isL ns l P h)) (fun v => ⟨fun y => ?_, fun y => ?_⟩)
    · rcases y with (y | y) | ⟨ms, h1, y⟩
      · exact Or.inl y
      · exact Or.inr ⟨ns, List.mem_cons_self, y⟩
      · exact Or.inr ⟨ms, List.mem_cons_of_mem _ h1, y⟩
    · rcases y with y | ⟨ms, h1, y⟩
      · exact Or.inl (Or.inl y)
      · rcases List.mem_cons.mp h1 with w | w
        · rw [w] at y; exact Or.inl (Or.inr y)
        · exact Or.inr ⟨ms, w, y⟩
theorem foQ_all {D : DR} {x : Txt} {fl : Int} (J : DJ D) {r : Int} (h : isL (fun v => ∃ m, m < D.1.length ∧ fiP D x fl m v) r) : foQ D x fl D.2 (-1) = r := by
  refine isL_one (foQ_isL D.2 (-1) (fun _ => False) (Or.inl ⟨rfl, fun _ y => y⟩)) (isL_cong h (fun v => ⟨fun y => ?_, fun y => ?_⟩))
  · obtain ⟨m, m1, m2⟩ := y
    obtain ⟨qi, ns, n1, n2⟩ := J.1 m m1
    exact Or.inr ⟨ns, List.mem_of_getElem? n1, m, n2, m2⟩
  · rcases y with y | ⟨ns, n1, m, n2, y⟩
    · exact absurd y (fun w => w)
    · exact ⟨m, (J.2.1 ns n1).2 m n2, y⟩
theorem first_at4 {G : XG} {d : Nat} {h : XH} {Q : XV → XH → Prop} {X : Nat → XH → Prop} {q fl : Int} {D : DR} {f : List (Txt × Bool)} {k : Nat} {x : Txt × Bool} (F : xFix h) (A2 : MQR h q D) (J : DJ D) (E : DEN D) (f60 : f.length ≤ 60) (R1 : RK h D f) (hf : fl = 0 ∨ fl = 1) (hx : f[k]? = some x) (fin : Q (xI (foQ D x.1 fl D.2 (-1))) h) : xwp G m_M_first (d + 5) 4 [xR 53, xI (k : Nat), xI fl, xZ, xZ, xZ] [] h Q X := by
  refine v_M_first_4 F ?_
  have hk := (List.getElem?_eq_some_iff.mp hx).1
  have Rf : RKf h D f fl D.1.length := by
    rcases hf with e | e
    · rw [e]; exact R1.1
    · rw [e]; exact R1.2
  have A3 := A2
  obtain ⟨e19, C, ⟨np, -⟩, l40, -⟩ := A2
  have loop : ∀ (n p : Nat) (l : Int), p + n = D.1.length → isL (fun v => ∃ m, m < p ∧ fiP D x.1 fl m v) l → xwp G m_M_first (d + 5) 9 [xR 53, xI (k : Nat), xI fl, xI l, xI (p : Nat), xZ] [] h Q X := by
    intro n
    induction n with
    | zero =>
      intro p l ep L
      refine v_M_first_9 F ?_
      rw [e19, np]
      refine ⟨C.2.1, fun _ => ?_, fun y => absurd (by omega) y⟩
      rw [show p = D.1.length by omega] at L
      rw [foQ_all J L] at fin
      exact fin
    | succ n ih =>
      intro p l ep L
      have hp : p < D.1.length := by omega
      obtain ⟨t, ht⟩ : ∃ t, D.1[p]? = some t := ⟨_, List.getElem?_eq_getElem hp⟩
      obtain ⟨-, e82⟩ := (Rf.2 p t hp ht).2 k x hk hx
      have nxt : ∀ l2, isL (fun v => ∃ m, m < p + 1 ∧ fiP D x.1 fl m v) l2 → xwp G m_M_first (d + 5) 9 [xR 53, xI (k : Nat), xI fl, xI l2, xI ((p : Int) + 1), xZ] [] h Q X := fun l2 L2 => by
        have go := ih (p + 1) l2 (by omega) L2
        rw [show ((p + 1 : Nat) : Int) = (p : Int) + 1 by omega] at go
        exact go
      have same : (t.1 3 ≠ 0 ∨ (fitF t fl (rwT x.1 fl)).2 = -1) → isL (fun v => ∃ m, m < p + 1 ∧ fiP D x.1 fl m v) l := fun y => isL_cong L (fun v => ⟨fun ⟨m, m1, m2⟩ => ⟨m, by omega, m2⟩, fun ⟨m, m1, m2⟩ => by
        by_cases w : m = p
        · exfalso
          subst w
          obtain ⟨v0, t', t1, t2, t3⟩ := m2
          rw [ht] at t1
          cases t1
          rcases y with y | y
          · exact y t2
          · exact v0 (by rw [← t3]; exact y)
        · exact ⟨m, by omega, m2⟩⟩)
      have more : t.1 3 = 0 → (fitF t fl (rwT x.1 fl)).2 ≠ -1 → isL (fun v => ∃ m, m < p + 1 ∧ fiP D x.1 fl m v) (if l = -1 then (fitF t fl (rwT x.1 fl)).2 else if (fitF t fl (rwT x.1 fl)).2 < l then (fitF t fl (rwT x.1 fl)).2 else l) := fun y1 y2 => isL_cong (isL_add L y2) (fun v => ⟨fun y => by
        rcases y with ⟨m, m1, m2⟩ | y
        · exact ⟨m, by omega, m2⟩
        · exact ⟨p, by omega, by rw [y]; exact y2, t, ht, y1, y.symm⟩, fun ⟨m, m1, m2⟩ => by
        by_cases w : m = p
        · subst w
          obtain ⟨v0, t', t1, t2, t3⟩ := m2
          rw [ht] at t1
          cases t1
          exact Or.inr t3.symm
        · exact Or.inl ⟨m, by omega, m2⟩⟩)
      have d3 := (E.1 p t ht).2
      refine v_M_first_9 F ?_
      rw [e19, np, e82]
      refine ⟨C.2.1, fun y => by omega, fun _ => ⟨⟨by omega, by omega⟩, ⟨by omega, by omega⟩, ⟨by omega, by omega⟩, ⟨by omega, by omega⟩, by omega, by omega, fun y => nxt l (same (Or.inr y)), fun y => ?_⟩⟩
      refine p_M_isDenied F A3 J E ht ?_
      refine v_M_first_48 F ⟨fun w => ?_, fun w => ⟨⟨by omega, by omega⟩, nxt l (same (Or.inl ?_))⟩⟩
      · have w := of_decide_eq_false (bz0 w)
        have mm := more (by omega) y
        refine ⟨fun v => ⟨⟨by omega, by omega⟩, ?_⟩, fun v => ⟨fun u => ⟨⟨by omega, by omega⟩, ?_⟩, fun u => ⟨⟨by omega, by omega⟩, ?_⟩⟩⟩
        · rw [if_pos v] at mm; exact nxt _ mm
        · rw [if_neg v, if_neg (by omega)] at mm; exact nxt _ mm
        · rw [if_neg v, if_pos (by omega)] at mm; exact nxt _ mm
      · have w := of_decide_eq_true (bz1 w)
        omega
  exact loop D.1.length 0 (-1) (by omega) (Or.inl ⟨rfl, fun v ⟨m, m1, _⟩ => absurd m1 (Nat.not_lt_zero m)⟩)
theorem s_M_first {G : XG} {d : Nat} {h : XH} {Q : XV → XH → Prop} {X : Nat → XH → Prop} {q m fl : Int} {D : DR} {T : List (Txt × Bool)} {z : List Int} {k : Nat} {x : Txt × Bool} (F : xFix h) (A : MQS h q D T z m) (E : DEN D) (hf : fl = 0 ∨ fl = 1) (hx : (T.take z.sum.toNat)[k]? = some x)
    (hq : ∀ h', RW h h' → MQS h' q D T z m → Q (xI (foQ D x.1 fl D.2 (-1))) h') : xwp G m_M_first (d + 5) 0 [xR 53, xI (k : Nat), xI fl, xZ, xZ, xZ] [] h Q X := by
  obtain ⟨A1, O, R, P, I⟩ := A
  obtain ⟨W, fz⟩ := R.rkw P
  refine v_M_first_0 F ?_
  refine s_M_reckon F A1 R P O.2.2.1 I (fun h1 K1 R1 e26 => ?_)
  exact first_at4 K1.1 (K1.mqr A1) O.1 E W.1 R1 hf hx (hq h1 K1 ⟨K1.mqr A1, O, K1.msr R, P, fun _ => R1⟩)
/-- what is reckoned already is not reckoned again -/
theorem s_M_first0 {G : XG} {d : Nat} {h : XH} {Q : XV → XH → Prop} {X : Nat → XH → Prop} {q m fl : Int} {D : DR} {T : List (Txt × Bool)} {z : List Int} {k : Nat} {x : Txt × Bool} (F : xFix h) (A : MQS h q D T z m) (z26 : xpl h 53 26 ≠ 0) (E : DEN D) (hf : fl = 0 ∨ fl = 1) (hx : (T.take z.sum.toNat)[k]? = some x)
    (hq : Q (xI (foQ D x.1 fl D.2 (-1))) h) : xwp G m_M_first (d + 5) 0 [xR 53, xI (k : Nat), xI fl, xZ, xZ, xZ] [] h Q X := by
  obtain ⟨A1, O, R, P, I⟩ := A
  obtain ⟨W, fz⟩ := R.rkw P
  refine v_M_first_0 F ?_
  refine v_M_reckon_0 F ⟨fun y => absurd y z26, fun _ => ?_⟩
  exact first_at4 F A1 O.1 E W.1 (I z26) hf hx hq
/-- how many are found but for one part -/
def mbF (D : DR) (f : List (Txt × Bool)) (but : Int) (ns : List Nat) : List (Txt × Bool) → Int
  | [] => 0
  | x :: r => (if (!x.2 && fnF (IF D f x.1) (SF D) but ns false) = true then 1 else 0) + mbF D f but ns r
theorem s_M_manyBut {G : XG} {d : Nat} {h : XH} {Q : XV → XH → Prop} {X : Nat → XH → Prop} {q m but : Int} {D : DR} {T : List (Txt × Bool)} {z : List Int} {ns : List Nat} (F : xFix h) (A : MQS h q D T z m) (hns : D.2[0]? = some ns)
    (hq : ∀ h', RW h h' → MQS h' q D T z m → Q (xI (mbF D (T.take z.sum.toNat) but ns (T.take z.sum.toNat))) h') : xwp G m_M_manyBut (d + 5) 0 [xR 53, xI but, xZ, xZ] [] h Q X := by
  obtain ⟨A1, O, R, P, I⟩ := A
  obtain ⟨W, fz⟩ := R.rkw P
  refine v_M_manyBut_0 F ?_
  refine s_M_reckon F A1 R P O.2.2.1 I (fun h1 K1 R1 e26 => ?_)
  refine v_M_manyBut_4 K1.1 ?_
  obtain ⟨f, hfe⟩ : ∃ f, f = T.take z.sum.toNat := ⟨_, rfl⟩
  rw [← hfe] at W fz R1 hq
  have f60 := W.1
  have loop : ∀ (n k : Nat) (c : Int) (h2 : XH), k + n = f.length → RW h h2 → RK h2 D f → 0 ≤ c → c ≤ k → c + mbF D f but ns (f.drop k) = mbF D f but ns f → xwp G m_M_manyBut (d + 5) 8 [xR 53, xI but, xI c, xI (k : Nat)] [] h2 Q X := by
    intro n
    induction n with
    | zero =>
      intro k c h2 en K2 R2 c0 c1 e
      refine v_M_manyBut_8 K2.1 ?_
      refine p_M_inSegments K2.1 (K2.msr R) ?_
      refine v_M_manyBut_13 K2.1 ⟨fun _ => ?_, fun y => absurd (by omega) y⟩
      rw [List.drop_eq_nil_of_le (by omega)] at e
      have e : c + 0 = _ := e
      have fin := hq h2 K2 ⟨K2.mqr A1, O, K2.msr R, P, fun _ => hfe ▸ R2⟩
      rw [← e, Int.add_zero] at fin
      exact fin
    | succ n ih =>
      intro k c h2 en K2 R2 c0 c1 e
      have hk : k < f.length := by omega
      have hx := List.getElem?_eq_getElem hk
      rw [List.drop_eq_getElem_cons hk] at e
      have e : c + ((if (!(f[k]).2 && fnF (IF D f (f[k]).1) (SF D) but ns false) = true then 1 else 0) + mbF D f but ns (f.drop (k + 1))) = mbF D f but ns f := e
      refine v_M_manyBut_8 K2.1 ?_
      refine p_M_inSegments K2.1 (K2.msr R) ?_
      refine v_M_manyBut_13 K2.1 ⟨fun y => by omega, fun _ => ?_⟩
      refine s_M_look K2.1 (K2.mqr A1) O (W.rw K2) R2 hx hns (fun h3 L3 J3 => ?_)
      have K3 := K2.trans L3.rw
      refine v_M_manyBut_23 K3.1 ⟨fun y => ⟨⟨by omega, by omega⟩, ?_⟩, fun y => ⟨⟨by omega, by omega⟩, ⟨by omega, by omega⟩, ?_⟩⟩
      · rw [bz0 y, if_neg (by decide)] at e
        have go := ih (k + 1) (c + 0) h3 (by omega) K3 (R2.lw L3) (by omega) (by omega) (by omega)
        rw [show ((k + 1 : Nat) : Int) = (k : Int) + 1 by omega] at go
        exact go
      · rw [bz1 y, if_pos rfl] at e
        have go := ih (k + 1) (c + 1) h3 (by omega) K3 (R2.lw L3) (by omega) (by omega) (by omega)
        rw [show ((k + 1 : Nat) : Int) = (k : Int) + 1 by omega] at go
        exact go
  exact loop f.length 0 0 h1 (by omega) K1 R1 (Int.le_refl _) (Int.le_refl _) (by rw [List.drop_zero, Int.zero_add])
theorem mbF_cw {D : DR} {f : List (Txt × Bool)} {but wo : Int} {ns : List Nat} (O : DOK D) (hns : D.2[0]? = some ns) (hw : ∀ (i m : Nat), ns[i]? = some m → ((i : Int) = wo ↔ (m : Int) = but)) : ∀ l : List (Txt × Bool), mbF D f but ns l = cwF D f wo ns l
  | [] => rfl
  | x :: r => by
    have ih := mbF_cw (f := f) O hns hw r
    have nl : ∀ m ∈ ns, m < D.1.length := (O.1.2.1 ns (List.mem_of_getElem? hns)).2
    have e : qfin (cwN D (inI D f x.1) wo ns 0 q000) = fnF (IF D f x.1) (SF D) but ns false := by
      refine cwN_fn ns 0 q000 false rfl rfl (fun m hm => ?_) (fun i m hi => by rw [Nat.zero_add]; exact hw i m hi)
      have y := List.getElem?_eq_getElem (nl m hm)
      refine ⟨_, y, ?_, ?_⟩
      · unfold IF inI
        rw [y]
        exact congrArg Prod.fst (jdP_v (q := 0) (fun h5 => by
          have := O.2.1 0 ns m _ hns hm y h5
          exact ⟨this.1, this.2⟩))
      · unfold SF; rw [y]
    show (if (!x.2 && fnF (IF D f x.1) (SF D) but ns false) = true then 1 else 0) + mbF D f but ns r = (if x.2 = false ∧ qfin (cwN D (inI D f x.1) wo ns 0 q000) = true then 1 else 0) + cwF D f wo ns r
    rw [ih, e]
    congr 1
    cases x.2 <;> simp

end
