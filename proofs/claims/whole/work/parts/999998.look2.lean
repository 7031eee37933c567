/-! ===== look2 ===== -/
section
/-! the model judges a text, whole -/
def IF (D : DR) (f : List (Txt × Bool)) (x : Txt) (m : Nat) : Bool := match D.1[m]? with
  | some t => (JPv D f x t).1
  | none => false
def VF (D : DR) (f : List (Txt × Bool)) (x : Txt) (m : Nat) : Int := match D.1[m]? with
  | some t => (JPv D f x t).2
  | none => 0
def SF (D : DR) (m : Nat) : Int := match D.1[m]? with
  | some t => t.1 1
  | none => 0
/-- parts from p on are judged -/
def LK (h : XH) (D : DR) (f : List (Txt × Bool)) (x : Txt) (p : Nat) : Prop := ∀ (i : Nat) t, p ≤ i → D.1[i]? = some t → xpl h 85 i = b2i (JPv D f x t).1 ∧ xpl h 86 i = (JPv D f x t).2
/-- what holds of a draft that was asked -/
def DOK (D : DR) : Prop := DJ D ∧ DJO D ∧ (∀ (i : Nat) t, D.1[i]? = some t → PTok t) ∧ 0 < D.2.length
/-- the members of a question's list -/
theorem DOK.list {h : XH} {q n : Int} {D : DR} (O : DOK D) (C : PIC h q D n) {qi : Nat} {ns : List Nat} (z : D.2[qi]? = some ns) : ns.Pairwise (· < ·) ∧ (∀ m ∈ ns, m < D.1.length) ∧ (qi = 0 → ∀ m : Nat, m < D.1.length → (m ∈ ns ↔ xpl h (q + 1) m = -1)) ∧ ∀ (o : Nat) to, D.1[o]? = some to → to.1 5 = 3 → to.1 10 = qi → (∀ m ∈ ns, o < m) ∧ ∀ m : Nat, m < D.1.length → (m ∈ ns ↔ xpl h (q + 1) m = o) := by
  have J := O.1
  have mm := fun m hm => C.mem J z (m := m) hm
  obtain ⟨j1, j2, j3, j4⟩ := J
  obtain ⟨a, b⟩ := j2 ns (List.mem_of_getElem? z)
  refine ⟨a, b, fun q0 m hm => ?_, fun o to ho k5 k10 => ?_⟩
  · rw [mm m hm]
    constructor
    · rintro (y | ⟨o, to, y1, y2, y3, -⟩)
      · exact y.2
      · have := j3 o to y1 y2
        omega
    · exact fun y => Or.inl ⟨q0, y⟩
  · have q1 := (j3 o to ho k5).1
    have back : ∀ m : Nat, m < D.1.length → (m ∈ ns ↔ xpl h (q + 1) m = o) := fun m hm => by
      rw [mm m hm]
      constructor
      · rintro (y | ⟨o', to', y1, y2, y3, y4⟩)
        · omega
        · have := j4 o' o to' to y1 ho y2 k5 (by omega)
          rw [y4, this]
      · exact fun y => Or.inr ⟨o, to, ho, k5, k10, y⟩
    refine ⟨fun m hm => ?_, back⟩
    have y := (back m (b m hm)).mp hm
    obtain ⟨-, -, c3, -⟩ := C
    obtain ⟨-, r⟩ := c3 qi ns m z hm
    rcases r with r | ⟨o', to', -, -, -, r4, r5⟩
    · omega
    · omega
theorem JPv_rng {D : DR} {f : List (Txt × Bool)} {x : Txt} {t : PT} (hf : f.length ≤ 60) (h0 : (rwT x 0).length ≤ 200) (h1 : (rwT x 1).length ≤ 200) (ok : ∀ (i : Nat) t, D.1[i]? = some t → PTok t) (k : PTok t) : 0 ≤ (JPv D f x t).2 ∧ (JPv D f x t).2 ≤ 1000000 := by
  have k6 := k.2.2.2.2.1
  have w0 : 0 ≤ (if t.1 5 = 3 then qwif (JQ D f x (t.1 10).toNat) else uwF f t x) := by
    split
    · refine (qwif_rng ?_).1
      unfold JQ
      cases z : (jdL D f x (t.1 10).toNat (D.2.drop (t.1 10).toNat))[0]? with
      | none => exact (by decide : (0 : Int) ≤ 0)
      | some j => exact jdL_nn hf h0 h1 ok _ _ j (List.mem_of_getElem? z)
    · exact (uwF_rng hf h0 h1).1
  have w1 := Int.mul_nonneg w0 k6.1
  unfold JPv
  show 0 ≤ (if t.1 1 = 45 then (0 : Int) else _) ∧ (if t.1 1 = 45 then (0 : Int) else _) ≤ 1000000
  split
  · omega
  · omega
/-- what isn't in a text weighs nothing there -/
theorem inF_0 {f : List (Txt × Bool)} {t : PT} {x : Txt} (h : inF t x = false) : uwF f t x = 0 := by
  unfold inF at h
  rw [Bool.or_eq_false_iff] at h
  have a := of_decide_eq_false h.1
  have b := of_decide_eq_false h.2
  have c0 := fitF_rng t 0 (rwT x 0)
  have c1 := fitF_rng t 1 (rwT x 1)
  have e0 : (fitF t 0 (rwT x 0)).1 = 0 := by omega
  have e1 : (fitF t 1 (rwT x 1)).1 = 0 := by omega
  unfold uwF fwF
  rw [e0, e1]
  simp only [Int.mul_zero, Int.zero_tdiv, Int.add_zero]
  decide
theorem qwif_0 {j : JS} (h : qfin j = false) : qwif j = 0 := by
  unfold qwif
  rw [h, if_neg (by decide)]
theorem s_M_look {G : XG} {d : Nat} {h : XH} {Q : XV → XH → Prop} {X : Nat → XH → Prop} {q but : Int} {D : DR} {f : List (Txt × Bool)} {k : Nat} {x : Txt × Bool} {ns : List Nat} (F : xFix h) (A : MQR h q D) (O : DOK D) (W : RKw h f) (R : RK h D f) (hx : f[k]? = some x) (h0 : D.2[0]? = some ns)
    (hq : ∀ h', LW h h' → LK h' D f x.1 0 → Q (xI (b2i (!x.2 && fnF (IF D f x.1) (SF D) but ns false))) h') : xwp G m_M_look (d + 3) 0 [xR 53, xI (k : Nat), xI but, xZ, xZ, xZ] [] h Q X := by
  have hnx := F.nx
  have l40 := A.2.2.2.1
  have lk := (List.getElem?_eq_some_iff.mp hx).1
  have f60 := W.1
  obtain ⟨⟨r0, r1⟩, mt, -⟩ := W.2 k x hx
  have l3 := mt.2.1.2.2
  have wl0 : (rwT x.1 0).length ≤ 200 := by rw [show rwT x.1 0 = x.1.2.2.2.1 from rfl]; omega
  have wl1 : (rwT x.1 1).length ≤ 200 := by rw [show rwT x.1 1 = x.1.2.2.2.2 from rfl]; omega
  have q0 := A.2.1.1
  have far : ∀ h1, LW h h1 → ∀ a : Int, a < xnx h → a ≠ 85 → a ≠ 86 → ∀ k : Int, xpl h1 a k = xpl h a k := fun h1 K a a1 a2 a3 k => K.pl a1 a2 a3 k
  -- a question's list at a later heap
  have lst : ∀ h1, LW h h1 → ∀ (qi : Nat) ms, D.2[qi]? = some ms → ms.Pairwise (· < ·) ∧ (∀ m ∈ ms, m < D.1.length) ∧ (qi = 0 → ∀ m : Nat, m < D.1.length → (m ∈ ms ↔ xpl h1 (q + 1) m = -1)) ∧ ∀ (o : Nat) to, D.1[o]? = some to → to.1 5 = 3 → to.1 10 = qi → (∀ m ∈ ms, o < m) ∧ ∀ m : Nat, m < D.1.length → (m ∈ ms ↔ xpl h1 (q + 1) m = o) := fun h1 K qi ms hm => O.list (K.rw.mqr A).2.2.1 hm
  have sgn : ∀ h1, LW h h1 → ∀ m : Nat, m < D.1.length → xpl h1 (q + 2) m = SF D m := fun h1 K m hm => by
    obtain ⟨-, -, ⟨-, pr, -, -⟩, -, -⟩ := K.rw.mqr A
    have y := List.getElem?_eq_getElem hm
    unfold SF
    rw [y]; exact (pr m _ y).1.1
  have got : ∀ h1 p, LK h1 D f x.1 p → ∀ m : Nat, p ≤ m → m < D.1.length → xpl h1 85 m = b2i (IF D f x.1 m) ∧ xpl h1 86 m = VF D f x.1 m ∧ 0 ≤ VF D f x.1 m ∧ VF D f x.1 m ≤ 1000000 := fun h1 p L m hm1 hm2 => by
    have y := List.getElem?_eq_getElem hm2
    obtain ⟨a, b⟩ := L m _ hm1 y
    have r := JPv_rng (D := D) (f := f) (x := x.1) f60 wl0 wl1 O.2.2.1 (O.2.2.1 m _ y)
    unfold IF VF
    rw [y]; exact ⟨a, b, r⟩
  -- a question's judgement is that of its parts
  have jq : ∀ (qi : Nat) ms, D.2[qi]? = some ms → (∀ m ∈ ms, m < D.1.length) → qfin (JQ D f x.1 qi) = fnF (IF D f x.1) (SF D) (-1) ms false ∧ (JQ D f x.1 qi).2.2.2 = suW (VF D f x.1) ms := fun qi ms hm hl => by
    rw [JQ_eq O.2.1 hm]
    constructor
    · refine JN_fn ms q000 false rfl rfl (fun m hmm => ?_)
      have y := List.getElem?_eq_getElem (hl m hmm)
      refine ⟨_, y, ?_, ?_⟩
      · unfold IF; rw [y]
      · unfold SF; rw [y]
    · rw [JN_su (V := VF D f x.1) ms q000 (fun m hmm => ?_)]
      · show (0 : Int) + _ = _
        rw [Int.zero_add]
      · have y := List.getElem?_eq_getElem (hl m hmm)
        refine ⟨_, y, ?_⟩
        unfold VF; rw [y]
  have loop : ∀ (p : Nat) (h1 : XH), p ≤ D.1.length → LW h h1 → LK h1 D f x.1 p → xwp G m_M_look (d + 3) 10 [xR 53, xI (k : Nat), xI but, xI ((p : Int) - 1), xZ, xZ] [] h1 Q X := by
    intro p
    induction p with
    | zero =>
      intro h1 hp K L
      obtain ⟨n1, n2, n3, -⟩ := lst h1 K 0 ns h0
      have e55 := far h1 K 55 (by omega) (by decide) (by decide) k
      refine v_M_look_10 K.1 ⟨fun _ => ?_, fun y => absurd (by omega) y⟩
      rw [e55, far h1 K 60 (by omega) (by decide) (by decide), mt.1.2.2.2]
      refine ⟨by omega, by omega, by omega, by omega, fun y => ?_, fun y => ?_⟩
      · refine p_M_finds (I := IF D f x.1) (S := SF D) K.1 (K.rw.mqr A) (Int.le_refl _) (by omega) n1 (fun m hm => ⟨by omega, n2 m hm⟩) (n3 rfl) (fun m hm => (got h1 0 L m (Nat.zero_le _) (n2 m hm)).1) (fun m hm => sgn h1 K m (n2 m hm)) ?_
        have fin := hq h1 K L
        rw [bz0 y] at fin
        have fin : Q (xI (b2i (fnF (IF D f x.1) (SF D) but ns false))) h1 := fin
        refine v_M_look_200 K.1 ⟨fun z => ?_, fun z => ?_⟩
        · rw [bz0 z] at fin; exact fin
        · rw [bz1 z] at fin; exact fin
      · have fin := hq h1 K L
        rw [bz1 y] at fin
        exact fin
    | succ p ih =>
      intro h1 hp K L
      have hpl : p < D.1.length := by omega
      obtain ⟨t, ht⟩ : ∃ t, D.1[p]? = some t := ⟨_, List.getElem?_eq_getElem hpl⟩
      obtain ⟨ok0, ok1, ok2, ok5, ok6, ok7, ok9, ok10, okl⟩ := O.2.2.1 p t ht
      obtain ⟨e19, C, ⟨np, pr, -, -⟩, -, -⟩ := K.rw.mqr A
      obtain ⟨⟨s2, s3, s4, s5, s9⟩, -⟩ := pr p t ht
      have g2 := C.2.2.1 2 (by decide) (by decide)
      have g3 := C.2.2.1 3 (by decide) (by decide)
      have g5 := C.2.2.1 5 (by decide) (by decide)
      -- the last store, with what the part weighs before it is doubled
      have w121 : ∀ h2 (w : Int), LW h h2 → LK h2 D f x.1 (p + 1) → xpl h2 85 p = b2i (JPv D f x.1 t).1 → 0 ≤ w → w ≤ 1000000 → ((JPv D f x.1 t).1 = true → w = (if t.1 5 = 3 then qwif (JQ D f x.1 (t.1 10).toNat) else uwF f t x.1)) → xwp G m_M_look (d + 3) 121 [xR 53, xI (k : Nat), xI but, xI (p : Nat), xZ, xZ] [xI w] h2 Q X := fun h2 w K2 L2 e85 w0 w1 hw => by
        obtain ⟨e19, C, ⟨np, pr, -, -⟩, -, -⟩ := K2.rw.mqr A
        obtain ⟨⟨s2, s3, s4, s5, s9⟩, -⟩ := pr p t ht
        have g2 := C.2.2.1 2 (by decide) (by decide)
        have g3 := C.2.2.1 3 (by decide) (by decide)
        have nxt : ∀ v : Int, v = (JPv D f x.1 t).2 → xFix (xst h2 86 p v) → xwp G m_M_look (d + 3) 10 [xR 53, xI (k : Nat), xI but, xI ((p : Int) + (-1)), xZ, xZ] [] (xst h2 86 p v) Q X := fun v hv F3 => by
          have go := ih (xst h2 86 p v) (by omega) (K2.trans ⟨F3, (xsm.refl h2).st (by omega) (Or.inl (Or.inr rfl)), rfl, rfl⟩) (fun i u hi hu => ?_)
          · rw [show (p : Int) + (-1) = (p : Int) - 1 by omega]; exact go
          · by_cases y : i = p
            · subst y
              rw [ht] at hu
              cases hu
              exact ⟨(xpl_oa (by decide)).trans e85, by rw [xpl_hit]; exact hv⟩
            · obtain ⟨a, b⟩ := L2 i u (by omega) hu
              exact ⟨(xpl_oa (by decide)).trans a, (xpl_ok (by omega)).trans b⟩
        refine v_M_look_121 K2.1 ?_
        rw [e85, e19, g2.1, g3.1, s2, s3]
        refine ⟨by omega, by omega, fun y => nxt 0 ?_, fun y => ⟨C.2.1, g2.2.1, by rw [g2.2.2]; omega, fun z => nxt 0 ?_, fun z => ⟨g3.2.1, by rw [g3.2.2]; omega, ?_, nxt _ ?_⟩⟩⟩
        · have fa := bz0 y
          unfold JPv at fa ⊢
          have fa : (if t.1 5 = 3 then qfin (JQ D f x.1 (t.1 10).toNat) else inF t x.1) = false := fa
          show (0 : Int) = if t.1 1 = 45 then 0 else min ((if t.1 5 = 3 then qwif (JQ D f x.1 (t.1 10).toNat) else uwF f t x.1) * t.1 6) 1000000
          have : (if t.1 5 = 3 then qwif (JQ D f x.1 (t.1 10).toNat) else uwF f t x.1) = 0 := by
            by_cases z3 : t.1 5 = 3
            · rw [if_pos z3] at fa ⊢; exact qwif_0 fa
            · rw [if_neg z3] at fa ⊢; exact inF_0 fa
          rw [this, Int.zero_mul]
          split
          · rfl
          · decide
        · unfold JPv
          show (0 : Int) = if t.1 1 = 45 then 0 else _
          rw [if_pos z]
        · have a := Int.mul_nonneg w0 ok6.1
          have b := Int.mul_le_mul_of_nonneg_right w1 ok6.1
          exact ⟨by omega, by omega⟩
        · rw [hw (bz1 y)]
          unfold JPv
          show _ = if t.1 1 = 45 then (0 : Int) else min ((if t.1 5 = 3 then qwif (JQ D f x.1 (t.1 10).toNat) else uwF f t x.1) * t.1 6) 1000000
          rw [if_neg z]
          omega
      -- behind the first store
      have st85 : ∀ v : Int, v = b2i (JPv D f x.1 t).1 → ∀ F2 : xFix (xst h1 85 p v), LW h (xst h1 85 p v) ∧ LK (xst h1 85 p v) D f x.1 (p + 1) ∧ xpl (xst h1 85 p v) 85 p = b2i (JPv D f x.1 t).1 := fun v hv F2 => by
        refine ⟨K.trans ⟨F2, (xsm.refl h1).st (by omega) (Or.inl (Or.inl rfl)), rfl, rfl⟩, fun i u hi hu => ?_, by rw [xpl_hit]; exact hv⟩
        obtain ⟨a, b⟩ := L i u hi hu
        exact ⟨(xpl_ok (by omega)).trans a, (xpl_oa (by decide)).trans b⟩
      rw [show ((p + 1 : Nat) : Int) - 1 = (p : Int) by omega]
      refine v_M_look_10 K.1 ?_
      rw [e19, g5.1, s5]
      refine ⟨fun y => absurd y (by omega), fun _ => ⟨C.2.1, g5.2.1, by rw [g5.2.2]; omega, fun y => ?_, fun y => ?_⟩⟩
      · have k3 : t.1 5 = 3 := by
          by_cases z : t.1 5 = 3
          · exact z
          · rw [if_neg z] at y
            split at y <;> omega
        obtain ⟨n1, n2⟩ := O.1.2.2.1 p t ht k3
        obtain ⟨ms, hms⟩ : ∃ ms, D.2[(t.1 10).toNat]? = some ms := ⟨_, List.getElem?_eq_getElem (by omega)⟩
        obtain ⟨m1, m2, -, m4⟩ := lst h1 K _ ms hms
        obtain ⟨m5, m6⟩ := m4 p t ht k3 (by omega)
        obtain ⟨v1, v2⟩ := jq _ ms hms m2
        refine v_M_look_32 K.1 ⟨fun z => absurd z (by decide), fun _ => ?_⟩
        refine p_M_finds (I := IF D f x.1) (S := SF D) K.1 (K.rw.mqr A) (by omega) (by omega) m1 (fun m hm => ⟨by have := m5 m hm; omega, m2 m hm⟩) m6 (fun m hm => (got h1 (p + 1) L m (m5 m hm) (m2 m hm)).1) (fun m hm => sgn h1 K m (m2 m hm)) ?_
        refine v_M_look_50 K.1 ?_
        rw [← v1]
        have e1 : (JPv D f x.1 t).1 = qfin (JQ D f x.1 (t.1 10).toNat) := by unfold JPv; show (if t.1 5 = 3 then _ else _) = _; rw [if_pos k3]
        refine v_M_look_86 K.1 ⟨ft_85 K.1, by decide, by omega, by rw [fl_85 K.1]; omega, b2i_rng _, fun z => absurd z (by decide), fun _ F2 => ?_⟩
        obtain ⟨K2, L2, e85⟩ := st85 _ (by rw [e1]) F2
        obtain ⟨h2, hh2⟩ : ∃ h2, h2 = xst h1 85 p (b2i (qfin (JQ D f x.1 (t.1 10).toNat))) := ⟨_, rfl⟩
        rw [← hh2] at K2 L2 e85 ⊢
        obtain ⟨m1, m2, -, m4⟩ := lst h2 K2 _ ms hms
        obtain ⟨m5, m6⟩ := m4 p t ht k3 (by omega)
        refine p_M_sum (V := VF D f x.1) K2.1 (K2.rw.mqr A) (by omega) (by omega) m1 (fun m hm => ⟨by have := m5 m hm; omega, m2 m hm⟩) m6 (fun m hm => (got h2 (p + 1) L2 m (m5 m hm) (m2 m hm)).2) ?_
        refine v_M_look_97 K2.1 ?_
        have nn : 0 ≤ suW (VF D f x.1) ms := by
          rw [← v2]
          unfold JQ
          cases z : (jdL D f x.1 (t.1 10).toNat (D.2.drop (t.1 10).toNat))[0]? with
          | none => exact (by decide : (0 : Int) ≤ 0)
          | some j => exact jdL_nn f60 wl0 wl1 O.2.2.1 _ _ j (List.mem_of_getElem? z)
        refine w121 h2 _ K2 L2 e85 (by omega) (by omega) (fun y2 => ?_)
        rw [e1] at y2
        rw [if_pos k3]
        unfold qwif
        rw [if_pos y2, v2]
        omega
      · have k3 : t.1 5 ≠ 3 := fun z => by rw [if_pos z] at y; exact y rfl
        obtain ⟨e81a, -⟩ := (((R.lw K).1.2 p t hpl ht).2 k x lk hx)
        obtain ⟨e81b, -⟩ := (((R.lw K).2.2 p t hpl ht).2 k x lk hx)
        have fa := fitF_rng t 0 (rwT x.1 0)
        have fb := fitF_rng t 1 (rwT x.1 1)
        have e1 : (JPv D f x.1 t).1 = inF t x.1 := by unfold JPv; show (if t.1 5 = 3 then _ else _) = _; rw [if_neg k3]
        have rest : ∀ v : Int, v = b2i (inF t x.1) → xwp G m_M_look (d + 3) 86 [xR 53, xI (k : Nat), xI but, xI (p : Nat), xI 0, xZ] [xI v, xI (p : Nat), xR 85] h1 Q X := fun v hv => by
          refine v_M_look_86 K.1 ⟨ft_85 K.1, by decide, by omega, by rw [fl_85 K.1]; omega, by rw [hv]; exact b2i_rng _, fun _ F2 => ?_, fun z => absurd rfl z⟩
          obtain ⟨K2, L2, e85⟩ := st85 v (by rw [e1]; exact hv) F2
          obtain ⟨h2, hh2⟩ : ∃ h2, h2 = xst h1 85 p v := ⟨_, rfl⟩
          rw [← hh2] at K2 L2 e85 ⊢
          refine p_M_weightIn (q := q) K2.1 (W.rw K2.rw) (R.lw K2) ht l40 hx (Or.inl rfl) ?_
          refine v_M_look_110 K2.1 ?_
          refine p_M_weightIn (q := q) K2.1 (W.rw K2.rw) (R.lw K2) ht l40 hx (Or.inr rfl) ?_
          rw [if_pos rfl, if_neg (by decide)]
          have u := uwF_rng (f := f) (t := t) (x := x.1) f60 wl0 wl1
          have hoa := hoF_rng t 0 f
          have hob := hoF_rng t 1 f
          have ra := rrF_nn (n := f.length) hoa.1 hoa.2 (by omega)
          have rb := rrF_nn (n := f.length) hob.1 hob.2 (by omega)
          have wa := fwF_nn (r := rrF f.length (hoF t 0 f)) (c := (fitF t 0 (rwT x.1 0)).1) (l := (rwT x.1 0).length) (m := mlF f 0) ra.1 ra.2 (by omega) (by omega)
          have wb := fwF_nn (r := rrF f.length (hoF t 1 f)) (c := (fitF t 1 (rwT x.1 1)).1) (l := (rwT x.1 1).length) (m := mlF f 1) rb.1 rb.2 (by omega) (by omega)
          refine v_M_look_117 K2.1 ⟨⟨by omega, by omega⟩, ?_⟩
          refine w121 h2 _ K2 L2 e85 (by omega) (by omega) (fun _ => ?_)
          rw [if_neg k3]
          unfold uwF
          omega
        refine v_M_look_32 K.1 ⟨fun _ => ?_, fun z => absurd rfl z⟩
        rw [show (2 * ((60 * (p : Int)) + (k : Nat))) + 0 = 2 * (60 * (p : Int) + (k : Nat)) + 0 from rfl, e81a, e81b]
        refine ⟨⟨by omega, by omega⟩, ⟨by omega, by omega⟩, ⟨by omega, by omega⟩, by omega, by omega, ⟨by omega, by omega⟩, fun z => rest 0 ?_, fun z => rest 1 ?_⟩
        · unfold inF
          rw [decide_eq_false (by omega), decide_eq_false (by omega)]; rfl
        · unfold inF
          by_cases z0 : 0 < (fitF t 0 (rwT x.1 0)).1
          · rw [decide_eq_true z0]; rfl
          · rw [decide_eq_false z0, decide_eq_true (by omega)]; rfl
  obtain ⟨e19, C, ⟨np, -⟩, -, -⟩ := A
  refine v_M_look_0 F ?_
  rw [e19, np]
  exact ⟨C.2.1, ⟨by omega, by omega⟩, loop D.1.length h (Nat.le_refl _) (LW.rfl F) (fun i t hi ht => absurd (List.getElem?_eq_some_iff.mp ht).1 (by omega))⟩

end
