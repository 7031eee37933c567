/-! ===== seek2 ===== -/
section
/-! the model looks along a field of a text: whole -/
/-- a text with words in its fields -/
def TxP (t : Txt) : Prop := (∀ w ∈ t.2.2.2.1, w = -1 ∨ 0 < w) ∧ ∀ w ∈ t.2.2.2.2, w = -1 ∨ 0 < w
theorem MTx.wor {h : XH} {r : Int} {t : Txt × Bool} (R : MTx h r t) (P : TxP t.1) (h0 : 0 ≤ r) (h1 : r < 60) {f : Int} (hf : f = 0 ∨ f = 1) : WoR h (bsT t f r) (rwT t.1 f) := by
  obtain ⟨w1, w2⟩ := R.wd hf
  have l3 := R.2.1.2.2
  have ps : ∀ w ∈ rwT t.1 f, w = -1 ∨ 0 < w := by
    rcases hf with e | e
    · rw [e]; exact P.1
    · rw [e]; exact P.2
  have ln : 200 * r ≤ bsT t f r ∧ bsT t f r + (rwT t.1 f).length ≤ 200 * r + 200 := by
    rcases hf with e | e
    · rw [e, show rwT t.1 0 = t.1.2.2.2.1 from rfl, show bsT t 0 r = 200 * r + 0 from rfl]; omega
    · rw [e, show rwT t.1 1 = t.1.2.2.2.2 from rfl, show bsT t 1 r = 200 * r + (t.1.2.2.2.1.length : Int) from rfl]; omega
  refine ⟨⟨by omega, by omega⟩, fun k hk => ?_⟩
  have a := w2 k hk
  have e : rwA (rwT t.1 f) k = xpl h 62 (bsT t f r + k) := by unfold rwA; rw [a]; rfl
  exact ⟨e.symm, by rw [e]; exact ps _ (List.mem_of_getElem? a)⟩
theorem s_M_seek {G : XG} {d : Nat} {h : XH} {Q : XV → XH → Prop} {X : Nat → XH → Prop} {q t f : Int} {D : DR} {i : Nat} {pt : PT} {tx : Txt × Bool} (F : xFix h) (A : MQR h q D) (hi : D.1[i]? = some pt) (ok : PTok pt) (t0 : 0 ≤ t) (t1 : t < 60) (hf : f = 0 ∨ f = 1) (r0 : 0 ≤ xpl h 55 t) (r1 : xpl h 55 t < 60) (R : MTx h (xpl h 55 t) tx) (P : TxP tx.1)
    (hq : ∀ h', SW h h' (2 * (60 * (i : Int) + t) + f) → MatC h' (2 * (60 * (i : Int) + t) + f) (fitF pt f (rwT tx.1 f)) → Q xN h') : xwp G m_M_seek (d + 3) 0 [xR 53, xI (i : Nat), xI t, xI f, xZ, xZ, xZ, xZ] [] h Q X := by
  have li := (List.getElem?_eq_some_iff.mp hi).1
  have a40 := A.2.2.2.1
  have ok2 := ok
  obtain ⟨-, -, o2, o5, -, o7, -, -, -⟩ := ok
  obtain ⟨c, hc⟩ : ∃ c, c = 2 * (60 * (i : Int) + t) + f := ⟨_, rfl⟩
  rw [← hc] at hq
  have cr : 0 ≤ c ∧ c < 4920 := by omega
  refine v_M_seek_0 F ?_
  refine p_M_cellOf F (by omega) (by omega) t0 (by omega) (by omega) (by omega) ?_
  rw [← hc]
  have K0 : ∀ F1 : xFix (xst (xst h 81 c 0) 82 c (-1)), SK h (xst (xst h 81 c 0) 82 c (-1)) c := fun F1 => ⟨F1, ((xsm.refl (C := fun a => a = 81 ∨ a = 82) h).st (a := 81) (k := c) (v := 0) cr.1 (Or.inl (Or.inl rfl))).st (a := 82) (k := c) (v := -1) cr.1 (Or.inl (Or.inr rfl)), fun a k z => by rw [xpl_st, if_neg (by omega), xpl_st, if_neg (by omega)], rfl, rfl⟩
  have M0 : MatC (xst (xst h 81 c 0) 82 c (-1)) c (0, -1) := ⟨(xpl_oa (by decide)).trans (xpl_hit _ _ _ _), xpl_hit _ _ _ _⟩
  have q0 := A.2.1.1
  have e19 := A.1
  have C := A.2.1
  obtain ⟨-, pr, -, -⟩ := A.2.2.1
  obtain ⟨⟨-, -, r4, r5, r9⟩, ra, rb, -, -, kd⟩ := pr i pt hi
  have g4 := C.2.2.1 4 (by decide) (by decide)
  have g5 := C.2.2.1 5 (by decide) (by decide)
  have g7 := C.2.2.1 7 (by decide) (by decide)
  have g9 := C.2.2.1 9 (by decide) (by decide)
  have wl : (rwT tx.1 f).length ≤ 200 := by
    have := R.2.1.2.2
    rcases hf with e | e
    · rw [e, show rwT tx.1 0 = tx.1.2.2.2.1 from rfl]; omega
    · rw [e, show rwT tx.1 1 = tx.1.2.2.2.2 from rfl]; omega
  have none : lkF pt f = false → ∀ F1 : xFix (xst (xst h 81 c 0) 82 c (-1)), Q xN (xst (xst h 81 c 0) 82 c (-1)) := fun y F1 => by
    refine hq _ (K0 F1).sw ?_
    unfold fitF
    rw [y, if_neg (by decide)]; exact M0
  refine v_M_seek_7 F ?_
  rw [e19, g4.1, g5.1, xpl_oa (by omega), xpl_oa (by omega), xpl_oa (by omega), xpl_oa (by omega), r4, r5]
  refine ⟨cr.1, cr.2, C.2.1, g4.2.1, by omega, by rw [g4.2.2]; omega, ⟨by omega, by omega⟩, fun y => none ?_, fun y => ⟨g5.2.1, by rw [g5.2.2]; omega, fun z => none ?_, fun z => ⟨t0, t1, fun F1 => ?_⟩⟩⟩
  · unfold lkF
    rw [decide_eq_false (p := pt.1 2 = 2) (by omega), decide_eq_false (p := pt.1 2 = f) (by omega), Bool.or_false, Bool.and_false]
  · have : pt.1 5 = 3 := by
      by_cases z3 : pt.1 5 = 3
      · exact z3
      · rw [if_neg z3] at z
        by_cases z1 : pt.1 5 = 1
        · rw [if_pos z1] at z; omega
        · rw [if_neg z1] at z; omega
    unfold lkF
    rw [decide_eq_false (p := pt.1 5 ≠ 3) (by omega), Bool.false_and]
  · have k3 : pt.1 5 ≠ 3 := fun y => by rw [if_pos y] at z; exact z rfl
    have lk : lkF pt f = true := by
      unfold lkF
      rw [decide_eq_true k3, Bool.true_and, Bool.or_eq_true, decide_eq_true_iff, decide_eq_true_iff]
      omega
    have K1 := K0 F1
    obtain ⟨h1, hh1⟩ : ∃ h1, h1 = xst (xst h 81 c 0) 82 c (-1) := ⟨_, rfl⟩
    rw [← hh1] at F1 K1 M0 ⊢
    have o : ∀ a k : Int, a ≠ 81 → a ≠ 82 → xpl h1 a k = xpl h a k := fun a k y1 y2 => K1.2.2.1 a k (Or.inl ⟨y1, y2⟩)
    have R1 : MTx h1 (xpl h 55 t) tx := R.keep (fun a k y1 y2 => o a k (by omega) (by omega))
    refine p_M_base F1 R1 r0 r1 ?_
    have W1 := R1.wor P r0 r1 hf
    have sz := (R1.wd hf).1
    have A1 := K1.mqr A
    have fin : ∀ h', SW h1 h' c → MatC h' c (lookF pt (rwT tx.1 f) (0, -1)) → Q xN h' := fun h' S M => by
      refine hq h' (K1.sw.trans S) ?_
      unfold fitF
      rw [if_pos lk]; exact M
    have pl : (pt.1 5 = 2 → pt.1 7 = 0) → xwp G m_M_seek (d + 3) 126 [xR 53, xI (i : Nat), xZ, xZ, xI c, xI (bsT tx f (xpl h 55 t)), xI ((rwT tx.1 f).length : Nat), xI 0] [] h1 Q X := fun nn => by
      refine seek_plain F1 A1 hi ok2 W1 k3 cr.1 cr.2 M0 (fun h' S M => fin h' S.sw ?_)
      rw [lookF_pl ok2 k3 nn]; exact M
    refine v_M_seek_65 F1 ?_
    rw [o 55 t (by decide) (by decide), sz, o 53 19 (by decide) (by decide), e19, o q 9 (by omega) (by omega), g9.1, o q 7 (by omega) (by omega), g7.1, o (q + 9) i (by omega) (by omega), o (q + 7) i (by omega) (by omega), r9]
    have tg : ∀ a : Int, a < xnx h → xtg h1 a = xtg h a := fun a y => K1.2.1.tg y
    have ln : ∀ a : Int, a < xnx h → xln h1 a = xln h a := fun a y => K1.2.1.ln y
    refine ⟨t0, t1, ⟨by omega, by omega⟩, ⟨by omega, by omega⟩, by omega, by omega, (tg _ (by omega)).trans C.2.1, (tg _ (by omega)).trans g9.2.1, by omega, by rw [ln _ (by omega), g9.2.2]; omega, fun y => pl (by omega), fun y => ⟨(tg _ (by omega)).trans g7.2.1, by rw [ln _ (by omega), g7.2.2]; omega, fun z => pl (fun k2 => ?_), fun z => ?_⟩⟩
    · have := (ra (by omega)).1
      have bl := bgL_len pt.2 0
      omega
    · have k2 : pt.1 5 = 2 := by
        by_cases z1 : pt.1 5 = 1
        · have := (rb z1).1
          omega
        · have := (ra z1).1
          have bl := bgL_len pt.2 0
          omega
      refine s_M_seekNear F1 A1 hi ok2 W1 k2 (by omega) cr.1 cr.2 M0 (fun h' S M => ?_)
      refine v_M_seek_120 S.1 ?_
      refine fin h' S ?_
      unfold lookF
      rw [if_neg (by omega), if_neg (by omega), if_pos k2, if_neg (by omega)]
      exact M

end
