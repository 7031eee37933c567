/-! ===== mst ===== -/
section
/-! the model's state whole: with the question -/
def MQX (h : XH) (s : CS) : Prop := (xpl h 53 18 = 0 ∧ (dC s).2.length = 0) ∨ (xpl h 53 18 = 1 ∧ ∃ q, MQR h q (dC s) ∧ DOK (dC s) ∧ DEN (dC s) ∧ (xpl h 53 26 ≠ 0 → RK h (dC s) (fC s)) ∧ 93 ≤ q ∧ ∀ i, 1 ≤ i → i ≤ 11 → xpl h (q + i) (-1) = -20)
def MIR (h : XH) (s : CS) : Prop := MTS h s ∧ MQX h s
/-- what a call about the question writes -/
def RQ (h h' : XH) : Prop := xsm (fun a => a = 53 ∨ (81 ≤ a ∧ a ≤ 90)) h h' ∧ (∀ k, k ≠ 0 → k ≠ 26 → k ≠ 35 → xpl h' 53 k = xpl h 53 k) ∧ xnx h' = xnx h ∧ xsl h' = xsl h
/-- a call about the question: answer and number -/
def MAQ (Q : XV → XH → Prop) (mk : Int → XV) (h : XH) (s : CS) (l : List Int) (R : Int × Int) : Prop := ∀ h', xFix h' → RQ h h' → MIR h' s → xpl h' 53 0 = thr l R.1 → Q (mk R.2) h'
theorem RQ.rfl (h : XH) : RQ h h := ⟨xsm.refl h, fun _ _ _ _ => _root_.rfl, _root_.rfl, _root_.rfl⟩
theorem RQ.th {h h' : XH} (K : RQ h h') (v : Int) : RQ h (xst h' 53 0 v) := ⟨K.1.st (by decide) (Or.inl (Or.inl _root_.rfl)), fun k k0 k1 k2 => (xpl_ok k0).trans (K.2.1 k k0 k1 k2), K.2.2⟩
theorem RQ.rw {h h1 h2 : XH} (K : RQ h h1) (L : RW h1 h2) : RQ h h2 := ⟨K.1.trans L.2.1, fun k k0 k1 k2 => (L.2.2.1 k k1 k2).trans (K.2.1 k k0 k1 k2), L.2.2.2.1.trans K.2.2.1, L.2.2.2.2.trans K.2.2.2⟩
theorem RK.th {h : XH} {D : DR} {f : List (Txt × Bool)} {v : Int} (R : RK h D f) : RK (xst h 53 0 v) D f := R.of2 (fun a k w => xpl_oa (by omega))
theorem MQR.th {h : XH} {q v : Int} {D : DR} (A : MQR h q D) : MQR (xst h 53 0 v) q D := by
  have b := A.2.1.1
  exact A.of (C := fun c => c = 53) ((xsm.refl (C := fun c => c = 53) h).st (a := 53) (k := 0) (v := v) (by decide) (Or.inl rfl)) (xpl_ok (by decide)) (fun c x y => by omega)
theorem MQX.th {h : XH} {s : CS} {v : Int} (I : MQX h s) : MQX (xst h 53 0 v) s := by
  rcases I with ⟨a, b⟩ | ⟨a, q, c, d, e, f, g, i⟩
  · exact Or.inl ⟨(xpl_ok (by decide)).trans a, b⟩
  · refine Or.inr ⟨(xpl_ok (by decide)).trans a, q, c.th, d, e, fun y => ?_, g, fun j j1 j2 => (xpl_oa (by omega)).trans (i j j1 j2)⟩
    rw [xpl_ok (by decide)] at y
    exact (f y).th
theorem MIR.th {h : XH} {s : CS} {v : Int} (I : MIR h s) : MIR (xst h 53 0 v) s := ⟨I.1.th, I.2.th⟩
theorem CWF.txp {s : CS} (W : CWF s) : ∀ x ∈ fbF (fC s) (bC s), TxP x.1 := by
  have key : ∀ t : Txt, TxW t → TxP t := fun t w => ⟨fun x hx => (w.2.2.2.2.1 x hx).elim Or.inl (fun y => Or.inr y.1), fun x hx => (w.2.2.2.2.2 x hx).elim Or.inl (fun y => Or.inr y.1)⟩
  intro x hx
  have hx : x ∈ fC s ++ (bC s).map (fun t => (t, false)) := hx
  rcases List.mem_append.mp hx with y | y
  · exact key _ (W.2.2.2.2.2 x y)
  · obtain ⟨t, t1, t2⟩ := List.mem_map.mp y
    rw [← t2]; exact key _ (W.2.2.2.2.1 t t1)
theorem CWF.tk {s : CS} (W : CWF s) : (fbF (fC s) (bC s)).take (zC s).sum.toNat = fC s := by
  have e := W.1.1.1
  rw [e, Int.toNat_natCast]
  exact fb_take _ _
theorem nP_eq {s : CS} {ns : List Nat} (h : (dC s).2[0]? = some ns) : nP s = ns.length := by unfold nP; rw [h]; rfl
/-- the question, behind a write of what is thrown -/
theorem MIR.qu {h : XH} {s : CS} (I : MIR h s) (W : CWF s) (y : ¬ xpl h 53 18 = 0) (v : Int) : ∃ (q : Int) (ns : List Nat), ¬ (dC s).2.length = 0 ∧ MQS (xst h 53 0 v) q (dC s) (fbF (fC s) (bC s)) (zC s) (mC s) ∧ (dC s).2[0]? = some ns ∧ nP s = ns.length ∧ DEN (dC s) ∧ ∀ h', RW (xst h 53 0 v) h' → MQS h' q (dC s) (fbF (fC s) (bC s)) (zC s) (mC s) → RQ h h' ∧ MIR h' s ∧ xpl h' 53 0 = v := by
  obtain ⟨⟨T1, T2, T3⟩, I2⟩ := I
  rcases I2 with ⟨a, -⟩ | ⟨a, q, c, d, e, f, g, i⟩
  · exact absurd a y
  · have d2 := d.2.2.2
    obtain ⟨ns, hns⟩ : ∃ ns, (dC s).2[0]? = some ns := ⟨_, List.getElem?_eq_getElem d2⟩
    refine ⟨q, ns, by omega, ⟨c.th, d, T2.th, W.txp, fun z => ?_⟩, hns, nP_eq hns, e, fun h' K A => ?_⟩
    · rw [xpl_ok (by decide)] at z
      rw [W.tk]
      exact (f z).th
    · have n1 : xnx h' = xnx h := K.2.2.2.1
      have nx := K.1.nx
      have cn := c.2.1.1.2.1
      obtain ⟨A1, A2, A3, A4, A5⟩ := A
      rw [W.tk] at A5
      have p : ∀ k, k ≠ 0 → k ≠ 26 → k ≠ 35 → xpl h' 53 k = xpl h 53 k := fun k k0 k1 k2 => (K.2.2.1 k k1 k2).trans (xpl_ok k0)
      refine ⟨((RQ.rfl h).th v).rw K, ⟨⟨T1.keep (p 2 (by decide) (by decide) (by decide)) (fun k => (K.oth (by decide) (by decide) k).trans (xpl_oa (by decide))), A3, (p 14 (by decide) (by decide) (by decide)).trans T3⟩, Or.inr ⟨(p 18 (by decide) (by decide) (by decide)).trans a, q, A1, A2, e, A5, g, fun j j1 j2 => ?_⟩⟩, (K.2.2.1 0 (by decide) (by decide)).trans (xpl_hit _ _ _ _)⟩
      have nh : xnx (xst h 53 0 v) = xnx h := rfl
      exact (K.2.1.pl (by omega) (by omega) (-1)).trans ((xpl_oa (by omega)).trans (i j j1 j2))
theorem MIR.nq {h : XH} {s : CS} (I : MIR h s) (y : xpl h 53 18 = 0) : (dC s).2.length = 0 := by
  rcases I.2 with ⟨a, b⟩ | ⟨a, -⟩
  · exact b
  · omega
/-- no question: 1 is thrown -/
theorem MAQ.no {Q : XV → XH → Prop} {mk : Int → XV} {h : XH} {s : CS} {l : List Int} {R : Int × Int} (q : MAQ Q mk h s l R) (I : MIR h s) {v : Int} (ev : v = thr l R.1) (F : xFix (xst h 53 0 v)) : Q (mk R.2) (xst h 53 0 v) :=
  q _ F ((RQ.rfl h).th v) I.th (by rw [← ev]; exact xpl_hit _ _ _ _)
theorem MAQ.no2 {Q : XV → XH → Prop} {mk : Int → XV} {h : XH} {s : CS} {l : List Int} {R : Int × Int} (q : MAQ Q mk h s l R) (I : MIR h s) {v w : Int} (ev : v = thr l R.1) (F : xFix (xst (xst h 53 0 w) 53 0 v)) : Q (mk R.2) (xst (xst h 53 0 w) 53 0 v) :=
  q _ F (((RQ.rfl h).th w).th v) I.th.th (by rw [← ev]; exact xpl_hit _ _ _ _)
/-- the parts of the question itself -/
theorem MQS.top {h : XH} {q m : Int} {D : DR} {T : List (Txt × Bool)} {z : List Int} {ns : List Nat} (A : MQS h q D T z m) (hns : D.2[0]? = some ns) : ns.Pairwise (· < ·) ∧ (∀ m ∈ ns, m < D.1.length) ∧ ∀ m : Nat, m < D.1.length → (m ∈ ns ↔ xpl h (q + 1) m = -1) := by
  obtain ⟨a, b, c, -⟩ := A.2.1.list A.1.2.2.1 hns
  exact ⟨a, b, c rfl⟩

end
