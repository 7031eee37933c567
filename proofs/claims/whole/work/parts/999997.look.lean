/-! ===== look ===== -/
section
/-! the model judges a text -/
/-- what judging writes -/
def LW (h h' : XH) : Prop := xFix h' ∧ xsm (fun a => a = 85 ∨ a = 86) h h' ∧ xnx h' = xnx h ∧ xsl h' = xsl h
theorem LW.rfl {h : XH} (F : xFix h) : LW h h := ⟨F, xsm.refl h, _root_.rfl, _root_.rfl⟩
theorem LW.trans {a b e : XH} (x : LW a b) (y : LW b e) : LW a e := ⟨y.1, x.2.1.trans y.2.1, y.2.2.1.trans x.2.2.1, y.2.2.2.trans x.2.2.2⟩
theorem LW.pl {h h' : XH} (K : LW h h') {a : Int} (a1 : a < xnx h) (h5 : a ≠ 85) (h6 : a ≠ 86) (k : Int) : xpl h' a k = xpl h a k := K.2.1.pl a1 (by omega) k
theorem LW.rw {h h' : XH} (K : LW h h') : RW h h' := ⟨K.1, K.2.1.mono (fun a _ w => by omega), fun k _ _ => K.pl (by have := K.1.nx; have := K.2.2.1; omega) (by decide) (by decide) k, K.2.2.1, K.2.2.2⟩
theorem RK.lw {h h' : XH} {D : DR} {f : List (Txt × Bool)} (R : RK h D f) (K : LW h h') : RK h' D f := by
  have n := K.1.nx
  have n2 := K.2.2.1
  exact ⟨R.1.of (K.pl (by omega) (by decide) (by decide) _) (fun a k w _ => K.pl (by omega) (by omega) (by omega) k) (Or.inl rfl), R.2.of (K.pl (by omega) (by decide) (by decide) _) (fun a k w _ => K.pl (by omega) (by omega) (by omega) k) (Or.inr rfl)⟩
theorem mlF_pos (f : List (Txt × Bool)) (fl : Int) : 1 ≤ mlF f fl := by
  unfold mlF
  split <;> omega
theorem p_M_weightIn {G : XG} {d : Nat} {h : XH} {Q : XV → XH → Prop} {X : Nat → XH → Prop} {q fl : Int} {D : DR} {f : List (Txt × Bool)} {i k : Nat} {t : PT} {x : Txt × Bool} (F : xFix h) (W : RKw h f) (R : RK h D f) (hi : D.1[i]? = some t) (l40 : D.1.length ≤ 40) (hx : f[k]? = some x) (hf : fl = 0 ∨ fl = 1)
    (hq : Q (xI (if fl = 0 then 2 * fwF (rrF f.length (hoF t fl f)) (fitF t fl (rwT x.1 fl)).1 (rwT x.1 fl).length (mlF f fl) else fwF (rrF f.length (hoF t fl f)) (fitF t fl (rwT x.1 fl)).1 (rwT x.1 fl).length (mlF f fl))) h) : xwp G m_M_weightIn (d + 2) 0 [xR 53, xI (i : Nat), xI (k : Nat), xI fl, xZ, xZ] [] h Q X := by
  have Rf : RKf h D f fl D.1.length := by
    rcases hf with e | e
    · rw [e]; exact R.1
    · rw [e]; exact R.2
  have li := (List.getElem?_eq_some_iff.mp hi).1
  have lk := (List.getElem?_eq_some_iff.mp hx).1
  have f60 := W.1
  obtain ⟨⟨r0, r1⟩, mt, -⟩ := W.2 k x hx
  have sz := (mt.wd hf).1
  have l3 := mt.2.1.2.2
  have wl : (rwT x.1 fl).length ≤ 200 := by
    rcases hf with e | e
    · rw [e, show rwT x.1 0 = x.1.2.2.2.1 from rfl]; omega
    · rw [e, show rwT x.1 1 = x.1.2.2.2.2 from rfl]; omega
  obtain ⟨e84, all⟩ := Rf
  obtain ⟨e83, ft⟩ := all i t li hi
  obtain ⟨e81, -⟩ := ft k x lk hx
  have m1 := mlF_pos f fl
  have ho := hoF_rng t fl f
  have rr := rrF_nn (n := f.length) ho.1 ho.2 (by omega)
  have fg := fitF_rng t fl (rwT x.1 fl)
  have nm := fw_num (r := rrF f.length (hoF t fl f)) (c := (fitF t fl (rwT x.1 fl)).1) (by omega) rr.2 (by omega) (by omega)
  have fw := fwF_nn (r := rrF f.length (hoF t fl f)) (c := (fitF t fl (rwT x.1 fl)).1) (l := (rwT x.1 fl).length) (m := mlF f fl) rr.1 rr.2 (by omega) (by omega)
  have dv := xtdiv_le (a := 9 * ((rwT x.1 fl).length : Int)) (b := mlF f fl) (by omega) m1
  unfold fwF at hq fw
  rw [show max 1 (mlF f fl) = mlF f fl by omega] at hq fw
  rw [show max 1 (10 * (fitF t fl (rwT x.1 fl)).1 + 3 + (9 * ((rwT x.1 fl).length : Int)).tdiv (mlF f fl)) = 10 * (fitF t fl (rwT x.1 fl)).1 + 3 + (9 * ((rwT x.1 fl).length : Int)).tdiv (mlF f fl) by omega] at hq fw
  refine v_M_weightIn_0 F ?_
  rw [e81, e83, sz, e84]
  refine ⟨⟨by omega, by omega⟩, ⟨by omega, by omega⟩, ⟨by omega, by omega⟩, ⟨by omega, by omega⟩, by omega, by omega, ⟨by omega, by omega⟩, by omega, by omega, ⟨by omega, by omega⟩, ⟨by omega, by omega⟩, ⟨by omega, by omega⟩, by omega, by omega, ⟨by omega, by omega⟩, ⟨by omega, by omega⟩, by omega, by omega, ⟨by omega, by omega⟩, by omega, by omega, by omega, ⟨by omega, by omega⟩, by omega, fun y => ⟨⟨by omega, by omega⟩, ?_⟩, fun y => ?_⟩
  · rw [if_pos y] at hq; exact hq
  · rw [if_neg y] at hq; exact hq
theorem xior_b0 (a : Bool) : xior (b2i a) 0 = b2i a := by cases a <;> decide
theorem xior_b1 (a : Bool) : xior (b2i a) 1 = b2i true := by cases a <;> decide
theorem p_M_finds {G : XG} {d : Nat} {h : XH} {Q : XV → XH → Prop} {X : Nat → XH → Prop} {q ins but : Int} {D : DR} {ns : List Nat} {I : Nat → Bool} {S : Nat → Int} (F : xFix h) (A : MQR h q D) (i0 : -1 ≤ ins) (i1 : ins < D.1.length) (asc : ns.Pairwise (· < ·)) (gt : ∀ m ∈ ns, ins < m ∧ m < D.1.length) (mem : ∀ m : Nat, m < D.1.length → (m ∈ ns ↔ xpl h (q + 1) m = ins)) (hI : ∀ m ∈ ns, xpl h 85 m = b2i (I m)) (hS : ∀ m ∈ ns, xpl h (q + 2) m = S m)
    (hq : Q (xI (b2i (fnF I S but ns false))) h) : xwp G m_M_finds (d + 1) 0 [xR 53, xI ins, xI but, xZ, xZ, xZ, xZ] [] h Q X := by
  obtain ⟨e19, C, ⟨np, -⟩, l40, -⟩ := A
  have g1 := C.2.2.1 1 (by decide) (by decide)
  have g2 := C.2.2.1 2 (by decide) (by decide)
  have loop : ∀ (n p : Nat) (r : List Nat) (t du : Bool), p + n = D.1.length → r.Pairwise (· < ·) → (∀ m ∈ r, p ≤ m ∧ m < D.1.length) → (∀ m : Nat, p ≤ m → m < D.1.length → (m ∈ r ↔ xpl h (q + 1) m = ins)) → (∀ m ∈ r, m ∈ ns) → fnF I S but r (du || t) = fnF I S but ns false → xwp G m_M_finds (d + 1) 10 [xR 53, xI ins, xI but, xI (b2i t), xI (b2i du), xI (p : Nat), xZ] [] h Q X := by
    intro n
    induction n with
    | zero =>
      intro p r t du ep ra rg rm rs e
      have : r = [] := by
        cases r with
        | nil => rfl
        | cons a r =>
          have := rg a (List.mem_cons_self)
          omega
      subst this
      have e : (du || t) = _ := e
      rw [← e] at hq
      refine v_M_finds_10 F ?_
      rw [e19, np]
      refine ⟨C.2.1, fun _ => ⟨fun y => ⟨fun z => ?_, fun z => ?_⟩, fun y => ?_⟩, fun y => absurd (by omega) y⟩
      · rw [bz0 y, bz0 z] at hq; exact hq
      · rw [bz0 y, bz1 z] at hq; exact hq
      · rw [bz1 y] at hq; exact hq
    | succ n ih =>
      intro p r t du ep ra rg rm rs e
      have hp : p < D.1.length := by omega
      refine v_M_finds_10 F ?_
      rw [e19, np, g1.1, g2.1]
      refine ⟨C.2.1, fun y => by omega, fun _ => ⟨g1.2.1, by omega, by rw [g1.2.2]; omega, fun y => ?_, fun y => ?_⟩⟩
      · obtain ⟨r', er, ra', rg'⟩ := asc_head ra (fun m hm => (rg m hm).1) ((rm p (Nat.le_refl _) hp).mpr y)
        subst er
        have rgn : ∀ m ∈ r', p + 1 ≤ m ∧ m < D.1.length := fun m hm => ⟨rg' m hm, (rg m (List.mem_cons_of_mem _ hm)).2⟩
        have rmn : ∀ m : Nat, p + 1 ≤ m → m < D.1.length → (m ∈ r' ↔ xpl h (q + 1) m = ins) := fun m m1 m2 => by
          rw [← rm m (by omega) m2, List.mem_cons]
          constructor
          · exact fun w => Or.inr w
          · rintro (w | w)
            · omega
            · exact w
        have rsn : ∀ m ∈ r', m ∈ ns := fun m hm => rs m (List.mem_cons_of_mem _ hm)
        have pin := rs p (List.mem_cons_self)
        have iv := hI p pin
        have sv := hS p pin
        have e : (if (p : Int) = but then fnF I S but r' (du || t) else if S p = 45 then (if I p = true then false else fnF I S but r' (du || t)) else if S p = 43 then (if I p = true then fnF I S but r' true else false) else fnF I S but r' (du || t || I p)) = fnF I S but ns false := e
        have nxt : ∀ t2 du2, fnF I S but r' (du2 || t2) = fnF I S but ns false → xwp G m_M_finds (d + 1) 10 [xR 53, xI ins, xI but, xI (b2i t2), xI (b2i du2), xI ((p : Int) + 1), xZ] [] h Q X := fun t2 du2 e2 => by
          have go := ih (p + 1) r' t2 du2 (by omega) ra' rgn rmn rsn e2
          rw [show ((p + 1 : Nat) : Int) = (p : Int) + 1 by omega] at go
          exact go
        rw [sv, iv]
        refine ⟨fun z0 => ?_, fun z0 => ⟨g2.2.1, by rw [g2.2.2]; omega, fun z1 => ⟨by omega, fun z2 => ?_, fun z2 => ?_⟩, fun z1 => ⟨fun z2 => ⟨by omega, fun z3 => ?_, fun z3 => ?_⟩, fun z2 => ?_⟩⟩⟩
        · rw [if_pos z0] at e
          exact nxt t du e
        · rw [if_neg z0, if_pos z1, bz0 z2, if_neg (by decide)] at e
          refine v_M_finds_96 F ⟨fun w => by omega, fun _ => ?_⟩
          refine v_M_finds_110 F ⟨fun w => ⟨⟨by omega, by omega⟩, ?_⟩, fun w => absurd z1 w⟩
          rw [xior_b0, xior_b0]
          exact nxt t du e
        · rw [if_neg z0, if_pos z1, bz1 z2, if_pos rfl] at e
          rw [← e] at hq; exact hq
        · rw [if_neg z0, if_neg z1, if_pos z2, bz0 z3, if_neg (by decide)] at e
          rw [← e] at hq; exact hq
        · rw [if_neg z0, if_neg z1, if_pos z2, bz1 z3, if_pos rfl] at e
          refine v_M_finds_96 F ⟨fun w => ?_, fun w => absurd z2 w⟩
          refine v_M_finds_110 F ⟨fun w => absurd w z1, fun w => ?_⟩
          rw [iv]
          refine ⟨by omega, by omega, fun v => absurd v z3, fun v => ?_⟩
          rw [xior_b1, xior_b1]
          exact nxt true true e
        · rw [if_neg z0, if_neg z1, if_neg z2] at e
          refine v_M_finds_96 F ⟨fun w => absurd w z2, fun w => ?_⟩
          refine v_M_finds_110 F ⟨fun w => absurd w z1, fun w => ?_⟩
          rw [iv]
          refine ⟨by omega, by omega, fun v => ?_, fun v => ?_⟩
          · rw [bz0 v, Bool.or_false] at e
            rw [xior_b0, xior_b0]
            exact nxt t du e
          · rw [bz1 v] at e
            rw [xior_b1, xior_b0]
            refine nxt true du ?_
            rw [Bool.or_true] at e ⊢
            exact e
      · have np2 : p ∉ r := fun w => y ((rm p (Nat.le_refl _) hp).mp w)
        have go := ih (p + 1) r t du (by omega) ra (fun m hm => ⟨by
          have := (rg m hm).1
          have : m ≠ p := fun w => np2 (w ▸ hm)
          omega, (rg m hm).2⟩) (fun m m1 m2 => rm m (by omega) m2) rs e
        rw [show ((p + 1 : Nat) : Int) = (p : Int) + 1 by omega] at go
        exact go
  refine v_M_finds_0 F ⟨⟨by omega, by omega⟩, ?_⟩
  have go := loop (D.1.length - (ins + 1).toNat) (ins + 1).toNat ns false false (by omega) asc (fun m hm => ⟨by have := gt m hm; omega, (gt m hm).2⟩) (fun m _ m2 => mem m m2) (fun m hm => hm) rfl
  rw [show (((ins + 1).toNat : Nat) : Int) = ins + 1 by omega] at go
  exact go
theorem p_M_sum {G : XG} {d : Nat} {h : XH} {Q : XV → XH → Prop} {X : Nat → XH → Prop} {q ins : Int} {D : DR} {ns : List Nat} {V : Nat → Int} (F : xFix h) (A : MQR h q D) (i0 : -1 ≤ ins) (i1 : ins < D.1.length) (asc : ns.Pairwise (· < ·)) (gt : ∀ m ∈ ns, ins < m ∧ m < D.1.length) (mem : ∀ m : Nat, m < D.1.length → (m ∈ ns ↔ xpl h (q + 1) m = ins)) (hV : ∀ m ∈ ns, xpl h 86 m = V m ∧ 0 ≤ V m ∧ V m ≤ 1000000)
    (hq : Q (xI (min 1000000 (suW V ns))) h) : xwp G m_M_sum (d + 2) 0 [xR 53, xI ins, xZ, xZ] [] h Q X := by
  obtain ⟨e19, C, ⟨np, -⟩, l40, -⟩ := A
  have g1 := C.2.2.1 1 (by decide) (by decide)
  have loop : ∀ (n p : Nat) (r : List Nat) (s : Int), p + n = D.1.length → r.Pairwise (· < ·) → (∀ m ∈ r, p ≤ m ∧ m < D.1.length) → (∀ m : Nat, p ≤ m → m < D.1.length → (m ∈ r ↔ xpl h (q + 1) m = ins)) → (∀ m ∈ r, m ∈ ns) → 0 ≤ s → s ≤ 1000000 * p → s + suW V r = suW V ns → xwp G m_M_sum (d + 2) 6 [xR 53, xI ins, xI s, xI (p : Nat)] [] h Q X := by
    intro n
    induction n with
    | zero =>
      intro p r s ep ra rg rm rs s0 s1 e
      have : r = [] := by
        cases r with
        | nil => rfl
        | cons a r =>
          have := rg a (List.mem_cons_self)
          omega
      subst this
      have e : s + 0 = _ := e
      rw [← e, Int.add_zero] at hq
      refine v_M_sum_6 F ?_
      rw [e19, np]
      exact ⟨C.2.1, fun _ => hq, fun y => absurd (by omega) y⟩
    | succ n ih =>
      intro p r s ep ra rg rm rs s0 s1 e
      have hp : p < D.1.length := by omega
      refine v_M_sum_6 F ?_
      rw [e19, np, g1.1]
      refine ⟨C.2.1, fun y => by omega, fun _ => ⟨g1.2.1, by omega, by rw [g1.2.2]; omega, fun y => ?_, fun y => ?_⟩⟩
      · obtain ⟨r', er, ra', rg'⟩ := asc_head ra (fun m hm => (rg m hm).1) ((rm p (Nat.le_refl _) hp).mpr y)
        subst er
        obtain ⟨v1, v2, v3⟩ := hV p (rs p (List.mem_cons_self))
        have e : s + (V p + suW V r') = suW V ns := e
        rw [v1]
        refine ⟨by omega, ⟨by omega, by omega⟩, ?_⟩
        have go := ih (p + 1) r' (s + V p) (by omega) ra' (fun m hm => ⟨rg' m hm, (rg m (List.mem_cons_of_mem _ hm)).2⟩) (fun m m1 m2 => by
          rw [← rm m (by omega) m2, List.mem_cons]
          constructor
          · exact fun w => Or.inr w
          · rintro (w | w)
            · omega
            · exact w) (fun m hm => rs m (List.mem_cons_of_mem _ hm)) (by omega) (by omega) (by omega)
        rw [show ((p + 1 : Nat) : Int) = (p : Int) + 1 by omega] at go
        exact go
      · have np2 : p ∉ r := fun w => y ((rm p (Nat.le_refl _) hp).mp w)
        have go := ih (p + 1) r (s + 0) (by omega) ra (fun m hm => ⟨by
          have := (rg m hm).1
          have : m ≠ p := fun w => np2 (w ▸ hm)
          omega, (rg m hm).2⟩) (fun m m1 m2 => rm m (by omega) m2) rs (by omega) (by omega) (by omega)
        rw [show ((p + 1 : Nat) : Int) = (p : Int) + 1 by omega] at go
        exact go
  refine v_M_sum_0 F ⟨⟨by omega, by omega⟩, ?_⟩
  have go := loop (D.1.length - (ins + 1).toNat) (ins + 1).toNat ns 0 (by omega) asc (fun m hm => ⟨by have := gt m hm; omega, (gt m hm).2⟩) (fun m _ m2 => mem m m2) (fun m hm => hm) (Int.le_refl _) (by omega) (Int.zero_add _)
  rw [show (((ins + 1).toNat : Nat) : Int) = ins + 1 by omega] at go
  exact go

end
