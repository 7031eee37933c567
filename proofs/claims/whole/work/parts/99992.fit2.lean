/-! ===== fit2 ===== -/
section
/-! the model looks at a place: whether a part fits -/
theorem bgL_rng : ∀ (l : List Int) (i : Nat) (v : Int × Int), v ∈ bgL i l → (i : Int) ≤ v.2 ∧ v.2 < (i : Int) + l.length
  | [], i, v, h => by cases h
  | w :: l, i, v, h => by
    have ih := bgL_rng l (i + 1) v
    rw [List.length_cons]
    by_cases z : w = 0
    · have e : bgL i (w :: l) = bgL (i + 1) l := by show (if w = 0 then _ else _) = _; rw [if_pos z]
      rw [e] at h
      have := ih h
      omega
    · have e : bgL i (w :: l) = (w, (i : Int)) :: bgL (i + 1) l := by show (if w = 0 then _ else _) = _; rw [if_neg z]
      rw [e] at h
      rcases List.mem_cons.mp h with x | x
      · rw [x]
        show (i : Int) ≤ (i : Int) ∧ (i : Int) < _
        omega
      · have := ih x
        omega
theorem p_M_doesFit {G : XG} {d : Nat} {h : XH} {Q : XV → XH → Prop} {X : Nat → XH → Prop} {q x : Int} {D : DR} {i k : Nat} {pt : PT} {row : List Int} (F : xFix h) (A : MQR h q D) (hi : D.1[i]? = some pt) (ok : PTok pt) (W : WoR h x row) (hk : k < row.length) (k3 : pt.1 5 ≠ 3) (hq : Q (xI (b2i (dfF pt row k))) h) : xwp G m_M_doesFit (d + 1) 0 [xR 53, xI (i : Nat), xI x, xI (row.length : Nat), xI (k : Nat), xZ, xZ, xZ, xZ, xZ] [] h Q X := by
  obtain ⟨e19, C, ⟨-, pr, -, -⟩, l40, w41⟩ := A
  have li := (List.getElem?_eq_some_iff.mp hi).1
  obtain ⟨⟨-, -, -, r5, -⟩, ra, rb, f0, f1, kd⟩ := pr i pt hi
  obtain ⟨⟨W0, W1⟩, W2⟩ := W
  obtain ⟨wk, wp⟩ := W2 k hk
  obtain ⟨⟨c12, c1, c2, c3, c4, c5, c6, c7, c8, c9, c11, c13⟩, cr⟩ := C.rows
  obtain ⟨⟨b0, b1, b2⟩, -, -, ⟨-, t10, l10⟩, -, t11, l11⟩ := C
  have g5 := cr 5 (by decide) (by decide)
  have g6 := cr 6 (by decide) (by decide)
  have g7 := cr 7 (by decide) (by decide)
  refine v_M_doesFit_0 F ?_
  rw [e19, c5, c6, c7, c11, r5]
  refine ⟨c12, g6.1, by omega, by omega, ⟨by omega, by omega⟩, by omega, by omega, g5.1, by omega, fun q1 => ?_, fun q1 => ?_⟩
  · have p1 : pt.1 5 = 1 := by
      rw [if_neg k3] at q1
      by_cases z : pt.1 5 = 1
      · exact z
      · rw [if_neg z] at q1; omega
    obtain ⟨-, -, s1, s2, s3⟩ := rb p1
    have ne : neW pt = 2 := by unfold neW; rw [if_pos p1]
    have e : dfF pt row k = bgw (rwA row k) (pt.1 8) (pt.1 9) := by unfold dfF; rw [if_neg (by omega), if_pos p1]
    have bg := bgw_st (w := rwA row k) (v := pt.1 8) (n := pt.1 9) wp s3
    rw [wk, s1, s2]
    refine ⟨t10, f0, by omega, fun q2 => ?_, fun q2 => ⟨⟨by omega, by omega⟩, by omega, fun q3 => ?_, fun q3 => ?_⟩⟩
    · have : dfF pt row k = false := by
        rw [e]
        cases z : bgw (rwA row k) (pt.1 8) (pt.1 9) with
        | false => rfl
        | true => have := (bg.mp z).1; omega
      rw [this] at hq; exact hq
    · have : dfF pt row k = false := by
        rw [e]
        cases z : bgw (rwA row k) (pt.1 8) (pt.1 9) with
        | false => rfl
        | true => have := (bg.mp z).2; omega
      rw [this] at hq; exact hq
    · have : dfF pt row k = true := by rw [e]; exact bg.mpr ⟨by omega, by omega⟩
      rw [this] at hq; exact hq
  · have p1 : pt.1 5 ≠ 1 := fun z => by
      rw [if_neg k3, if_pos z] at q1
      exact q1 rfl
    obtain ⟨s1, s2, s3⟩ := ra p1
    have ne : neW pt = (bgL 0 pt.2).length := by unfold neW; rw [if_neg p1]
    have bl := bgL_len pt.2 0
    have fw := bgL_fw pt.2 0
    rw [s1]
    refine ⟨g7.1, by omega, fun q2 => ?_, fun q2 => ?_⟩
    · have k2 : pt.1 5 = 2 := by omega
      have e : dfF pt row k = phA row pt.2 (k + 0) := by unfold dfF; rw [if_neg (by omega), if_neg p1]; rfl
      have ph := bgL_ph row pt.2 0 k
      rw [← e] at ph
      have g11 := t11
      have loop : ∀ (m j : Nat), j + m = (bgL 0 pt.2).length → (∀ (i' : Nat) (v : Int × Int), i' < j → (bgL 0 pt.2)[i']? = some v → 0 ≤ v.2 ∧ row[k + v.2.toNat]? = some v.1) → xwp G m_M_doesFit (d + 1) 127 [xR 53, xI (i : Nat), xI x, xI (row.length : Nat), xI (k : Nat), xI (xpl h (q + 6) i), xZ, xZ, xI (xpl h (q + 6) i + j), xZ] [] h Q X := by
        intro m
        induction m with
        | zero =>
          intro j ej hj
          refine v_M_doesFit_127 F ?_
          rw [e19, c7, c11, c13, s1]
          refine ⟨c12, g7.1, by omega, by omega, ⟨by omega, by omega⟩, fun _ => ?_, fun y => by omega⟩
          have : dfF pt row k = true := by
            refine ph.mpr (fun v hv => ?_)
            obtain ⟨n, hn⟩ := List.mem_iff_getElem?.mp hv
            have := (List.getElem?_eq_some_iff.mp hn).1
            exact hj n v (by omega) hn
          rw [this] at hq; exact hq
        | succ m ih =>
          intro j ej hj
          obtain ⟨v, hv⟩ : ∃ v, (bgL 0 pt.2)[j]? = some v := ⟨_, List.getElem?_eq_getElem (by omega)⟩
          obtain ⟨v1, v2⟩ := s3 j v hv
          have vm := List.mem_of_getElem? hv
          have vr : 0 ≤ v.2 ∧ v.2 < pt.2.length := by
            have := bgL_rng pt.2 0 v vm
            omega
          have fail : ¬ (0 ≤ v.2 ∧ row[k + v.2.toNat]? = some v.1) → Q (xI 0) h := fun y => by
            have : dfF pt row k = false := by
              cases z : dfF pt row k with
              | false => rfl
              | true => exact absurd ((ph.mp z) v vm) y
            rw [this] at hq; exact hq
          have pl40 := ok.2.2.2.2.2.2.2.2
          refine v_M_doesFit_127 F ?_
          rw [e19, c7, c11, c13, s1, v1, v2]
          refine ⟨c12, g7.1, by omega, by omega, ⟨by omega, by omega⟩, fun y => by omega, fun _ => ⟨t11, by omega, by omega, ⟨by omega, by omega⟩, fun q3 => ?_, fun q3 => ?_⟩⟩
          · refine fail (fun y => ?_)
            have := (List.getElem?_eq_some_iff.mp y.2).1
            omega
          · have e62 : x + ((k : Int) + v.2) = x + ((k + v.2.toNat : Nat) : Int) := by omega
            obtain ⟨w1, w2⟩ := W2 (k + v.2.toNat) (by omega)
            rw [e62, w1]
            refine ⟨⟨by omega, by omega⟩, by omega, by omega, t10, by omega, fun q4 => ?_, fun q4 => ?_⟩
            · have go := ih (j + 1) (by omega) (fun i' v' hi' hv' => by
                by_cases z : i' = j
                · subst z
                  rw [hv] at hv'
                  cases hv'
                  refine ⟨vr.1, ?_⟩
                  rw [← q4]
                  unfold rwA
                  rw [List.getElem?_eq_getElem (by omega)]; rfl
                · exact hj i' v' (by omega) hv')
              rw [show xpl h (q + 6) i + ((j + 1 : Nat) : Int) = xpl h (q + 6) i + j + 1 by omega] at go
              exact go
            · refine fail (fun y => q4 ?_)
              unfold rwA
              rw [y.2]; rfl
      have go := loop (bgL 0 pt.2).length 0 (by omega) (fun i' v h0 _ => absurd h0 (Nat.not_lt_zero i'))
      rw [show xpl h (q + 6) i + ((0 : Nat) : Int) = xpl h (q + 6) i by omega] at go
      exact go
    · have k0 : pt.1 5 = 0 := by omega
      have e : dfF pt row k = decide (rwA row k = fwL pt.2) := by unfold dfF; rw [if_pos k0]
      rw [e] at hq
      refine ⟨fun q3 => ?_, fun q3 => ?_⟩
      · cases z : bgL 0 pt.2 with
        | nil => rw [z] at q3; exact absurd q3 (by decide)
        | cons v r =>
          have fv := fw.2 v r z
          obtain ⟨v1, -⟩ := s3 0 v (by rw [z]; rfl)
          rw [show xpl h (q + 6) i + ((0 : Nat) : Int) = xpl h (q + 6) i by omega] at v1
          rw [wk, v1]
          refine ⟨t10, f0, by omega, fun q4 => ?_, fun q4 => ?_⟩
          · rw [decide_eq_true (by rw [fv]; exact q4)] at hq; exact hq
          · rw [decide_eq_false (by rw [fv]; exact q4)] at hq; exact hq
      · have z : bgL 0 pt.2 = [] := List.eq_nil_of_length_eq_zero (by omega)
        rw [decide_eq_false (by rw [fw.1 z]; omega)] at hq
        exact hq

end
