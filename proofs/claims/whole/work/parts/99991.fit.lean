/-! ===== fit ===== -/
section
/-! the model looks at a place -/
theorem p_M_cellOf {G : XG} {d : Nat} {h : XH} {Q : XV → XH → Prop} {X : Nat → XH → Prop} {x y z : Int} (F : xFix h) (x0 : 0 ≤ x) (x1 : x ≤ 40) (y0 : 0 ≤ y) (y1 : y ≤ 60) (z0 : 0 ≤ z) (z1 : z ≤ 1) (hq : Q (xI (2 * (60 * x + y) + z)) h) : xwp G m_M_cellOf (d + 1) 0 [xR 53, xI x, xI y, xI z] [] h Q X := v_M_cellOf_0 F ⟨⟨by omega, by omega⟩, ⟨by omega, by omega⟩, ⟨by omega, by omega⟩, ⟨by omega, by omega⟩, hq⟩
/-- a part's fits in a field of a text -/
def MatC (h : XH) (c : Int) (t : MR) : Prop := xpl h 81 c = t.1 ∧ xpl h 82 c = t.2
theorem s_M_note {G : XG} {d : Nat} {h : XH} {Q : XV → XH → Prop} {X : Nat → XH → Prop} {c p : Int} {t : MR} (F : xFix h) (T : MatC h c t) (c0 : 0 ≤ c) (c1 : c < 4920) (t0 : 0 ≤ t.1) (t1 : t.1 ≤ 100000)
    (hq : ∀ h', xFix h' → xsm (fun a => a = 81 ∨ a = 82) h h' → MatC h' c (htF t p) → (∀ a k : Int, (a ≠ 81 ∧ a ≠ 82) ∨ k ≠ c → xpl h' a k = xpl h a k) → xnx h' = xnx h → xsl h' = xsl h → Q xN h') : xwp G m_M_note (d + 1) 0 [xR 53, xI c, xI p] [] h Q X := by
  obtain ⟨e1, e2⟩ := T
  refine v_M_note_0 F ⟨c0, c1, fun q1 F1 => ?_, fun q1 => ?_⟩
  · have z : xpl (xst h 82 c p) 81 c = t.1 := (xpl_oa (by decide)).trans e1
    refine v_M_note_16 F1 ⟨c0, c1, by rw [z]; exact ⟨by omega, by omega⟩, ?_⟩
    rw [z]
    intro F2
    refine hq _ F2 (((xsm.refl h).st c0 (Or.inl (Or.inr rfl))).st c0 (Or.inl (Or.inl rfl))) ⟨xpl_hit _ _ _ _, ?_⟩ (fun a k x => ?_) rfl rfl
    · rw [xpl_oa (by decide), xpl_hit]
      show p = if t.1 = 0 then p else t.2
      rw [if_pos (e1.symm.trans q1)]
    · rw [xpl_st, if_neg (by omega), xpl_st, if_neg (by omega)]
  · refine v_M_note_16 F ⟨c0, c1, by rw [e1]; exact ⟨by omega, by omega⟩, ?_⟩
    rw [e1]
    intro F2
    refine hq _ F2 ((xsm.refl h).st c0 (Or.inl (Or.inl rfl))) ⟨xpl_hit _ _ _ _, ?_⟩ (fun a k x => ?_) rfl rfl
    · rw [xpl_oa (by decide), e2]
      show t.2 = if t.1 = 0 then p else t.2
      rw [if_neg (fun y => q1 (e1.trans y))]
    · rw [xpl_st, if_neg (by omega)]
/-- whether a part fits at a place -/
def dfF (pt : PT) (row : List Int) (k : Nat) : Bool := if pt.1 5 = 0 then decide (rwA row k = fwL pt.2) else if pt.1 5 = 1 then bgw (rwA row k) (pt.1 8) (pt.1 9) else phA row pt.2 k
theorem bgL_fw : ∀ (l : List Int) (i : Nat), (bgL i l = [] → fwL l = 0) ∧ ∀ v r, bgL i l = v :: r → fwL l = v.1
  | [], i => ⟨fun _ => rfl, fun v r h => by cases h⟩
  | w :: l, i => by
    have ih := bgL_fw l (i + 1)
    by_cases z : w = 0
    · have e : bgL i (w :: l) = bgL (i + 1) l := by show (if w = 0 then _ else _) = _; rw [if_pos z]
      have e2 : fwL (w :: l) = fwL l := by show (if w = 0 then _ else _) = _; rw [if_pos z]
      rw [e, e2]; exact ih
    · have e : bgL i (w :: l) = (w, (i : Int)) :: bgL (i + 1) l := by show (if w = 0 then _ else _) = _; rw [if_neg z]
      have e2 : fwL (w :: l) = w := by show (if w = 0 then _ else _) = _; rw [if_neg z]
      rw [e, e2]
      refine ⟨fun y => (by cases y), fun v r y => ?_⟩
      rw [← (List.cons.inj y).1]
theorem bgL_ph (row : List Int) : ∀ (l : List Int) (i k : Nat), phA row l (k + i) = true ↔ ∀ v ∈ bgL i l, 0 ≤ v.2 ∧ row[k + v.2.toNat]? = some v.1
  | [], i, k => ⟨fun _ v hv => (by cases hv), fun _ => rfl⟩
  | w :: l, i, k => by
    have ih := bgL_ph row l (i + 1) k
    have ep : phA row (w :: l) (k + i) = ((decide (w = 0) || decide (row[k + i]? = some w)) && phA row l (k + i + 1)) := rfl
    rw [ep, Bool.and_eq_true, Bool.or_eq_true, show k + i + 1 = k + (i + 1) by omega, ih]
    by_cases z : w = 0
    · have e : bgL i (w :: l) = bgL (i + 1) l := by show (if w = 0 then _ else _) = _; rw [if_pos z]
      rw [e]
      exact ⟨fun y => y.2, fun y => ⟨Or.inl (decide_eq_true z), y⟩⟩
    · have e : bgL i (w :: l) = (w, (i : Int)) :: bgL (i + 1) l := by show (if w = 0 then _ else _) = _; rw [if_neg z]
      rw [e]
      constructor
      · rintro ⟨y1, y2⟩ v hv
        rcases List.mem_cons.mp hv with x | x
        · rw [x]
          rcases y1 with y1 | y1
          · exact absurd (of_decide_eq_true y1) z
          · refine ⟨by show (0 : Int) ≤ (i : Int); omega, ?_⟩
            show row[k + ((i : Int)).toNat]? = some w
            rw [Int.toNat_natCast]
            exact of_decide_eq_true y1
        · exact y2 v x
      · intro y
        obtain ⟨-, y1⟩ := y _ (List.mem_cons_self)
        have y1 : row[k + ((i : Int)).toNat]? = some w := y1
        rw [Int.toNat_natCast] at y1
        exact ⟨Or.inr (decide_eq_true y1), fun v hv => y v (List.mem_cons_of_mem _ hv)⟩
/-- a field's words in the model's store -/
def WoR (h : XH) (x : Int) (row : List Int) : Prop := (0 ≤ x ∧ x + row.length ≤ 12000) ∧ ∀ k : Nat, k < row.length → xpl h 62 (x + k) = rwA row k ∧ (rwA row k = -1 ∨ 0 < rwA row k)
/-- the question that is asked -/
def MQR (h : XH) (q : Int) (D : DR) : Prop := xpl h 53 19 = q ∧ QC h q ∧ PIC h q D D.1.length ∧ D.1.length ≤ 40 ∧ xpl h q 10 ≤ 41
theorem bgw_st {w v n : Int} (w9 : w = -1 ∨ 0 < w) (S : StOK v n) : bgw w v n = true ↔ v ≤ w ∧ w < stE v n := by
  rcases w9 with w0 | w0
  · subst w0
    unfold bgw stE
    rw [Bool.and_eq_true, Bool.and_eq_true, decide_eq_true_iff, decide_eq_true_iff, decide_eq_true_iff]
    by_cases z : n ≤ 12
    · obtain ⟨s, s0, e⟩ := S z
      have pp := p37_pos (12 - n)
      have vn : 0 ≤ v := by rw [e]; exact Int.mul_nonneg s0 (by omega)
      exact ⟨fun y => absurd y.1.1 (by decide), fun y => by omega⟩
    · rw [if_neg z]
      exact ⟨fun y => absurd y.1.2 z, fun y => by omega⟩
  unfold bgw stE
  rw [Bool.and_eq_true, Bool.and_eq_true, decide_eq_true_iff, decide_eq_true_iff, decide_eq_true_iff]
  by_cases z : n ≤ 12
  · rw [if_pos z]
    obtain ⟨s, s0, e⟩ := S z
    have pp := p37_pos (12 - n)
    obtain ⟨p, hp⟩ : ∃ p, p = p37 (12 - n) := ⟨_, rfl⟩
    rw [← hp] at pp e ⊢
    have t1 : v.tdiv p = s := by rw [e]; exact Int.mul_tdiv_cancel _ (by omega)
    have t2 : w.tdiv p = w / p := Int.tdiv_eq_ediv_of_nonneg (by omega)
    rw [t1, t2, e]
    constructor
    · rintro ⟨-, y⟩
      have m := Int.mul_ediv_add_emod w p
      have a := Int.emod_nonneg w (show p ≠ 0 by omega)
      have b := Int.emod_lt_of_pos w pp
      rw [y, Int.mul_comm] at m
      exact ⟨by omega, by omega⟩
    · rintro ⟨y1, y2⟩
      refine ⟨⟨w0, z⟩, ?_⟩
      have a : s ≤ w / p := (Int.le_ediv_iff_mul_le pp).mpr y1
      have b : w / p < s + 1 := (Int.ediv_lt_iff_lt_mul pp).mpr (by rw [Int.add_mul, Int.one_mul]; exact y2)
      omega
  · rw [if_neg z]
    exact ⟨fun y => absurd y.1.2 z, fun y => by omega⟩

end
