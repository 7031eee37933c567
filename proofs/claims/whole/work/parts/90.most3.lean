/-! ===== most3 ===== -/
section
/-- the place of the text of a key, if it is in a segment -/
def sgX (T : List (Txt × Bool)) (z : List Int) (k : Int) : Int := if z.sum ≤ sidx T k then -1 else sidx T k
theorem p_M_whereInSegments {G : XG} {d : Nat} {h : XH} {Q : XV → XH → Prop} {X : Nat → XH → Prop} {k m : Int} {T : List (Txt × Bool)} {z : List Int} (F : xFix h) (R : MSR h T z m) (hq : Q (xI (sgX T z k)) h) : xwp G m_M_whereInSegments (d + 3) 0 [xR 53, xI k, xZ] [] h Q X := by
  refine v_M_whereInSegments_0 F ?_
  refine p_M_whereIs F R ?_
  refine v_M_whereInSegments_5 F ?_
  refine p_M_inSegments F R ?_
  unfold sgX at hq
  refine v_M_whereInSegments_11 F ?_
  refine ⟨fun q1 => ?_, fun q1 => ?_⟩
  · rw [if_pos q1] at hq; exact hq
  · rw [if_neg q1] at hq; exact hq
theorem p_M_isText {G : XG} {d : Nat} {h : XH} {Q : XV → XH → Prop} {X : Nat → XH → Prop} {s t m : Int} {T : List (Txt × Bool)} {z : List Int} (F : xFix h) (R : MSR h T z m) (hq : Q (xI (b2i (decide (0 ≤ s ∧ s < z.length ∧ 0 ≤ t ∧ t < szA z s)))) h) : xwp G m_M_isText (d + 3) 0 [xR 53, xI s, xI t] [] h Q X := by
  have zl := R.2.1.2.2.2.1
  have z5 := R.2.1.2.2.1
  have no : ¬ (0 ≤ s ∧ s < z.length ∧ 0 ≤ t ∧ t < szA z s) → Q (xI 0) h := fun y => by
    rw [decide_eq_false y] at hq; exact hq
  refine v_M_isText_0 F ?_
  refine ⟨?_, ?_⟩
  · exact ⟨by omega, by omega⟩
  · refine ⟨fun q1 => ?_, fun q1 => ?_⟩
    · exact no (by omega)
    · refine ⟨fun q2 => ?_, fun q2 => ?_⟩
      · exact no (by omega)
      · have h1 : s < z.length := by omega
        have r1 := stA_rng2 R.2.2.2.1 (s + 1)
        have r2 := stA_rng2 R.2.2.2.1 s
        rw [stA_succ (by omega) h1] at r1
        have zs := R.2.2.2.2.1
        have tl := R.2.1.2.1
        refine p_M_manyIn F R (by omega) h1 ?_
        have yes : 0 ≤ t → t < szA z s → Q (xI 1) h := fun a b => by
          rw [decide_eq_true ⟨by omega, h1, a, b⟩] at hq; exact hq
        refine v_M_isText_15 F ?_
        refine ⟨?_, ?_⟩
        · exact ⟨by omega, by omega⟩
        · refine ⟨fun q1 => ?_, fun q1 => ?_⟩
          · exact no (by omega)
          · refine ⟨fun q2 => ?_, fun q2 => ?_⟩
            · exact no (by omega)
            · exact yes (by omega) (by omega)
theorem p_M_at {G : XG} {d : Nat} {h : XH} {Q : XV → XH → Prop} {X : Nat → XH → Prop} {s t m : Int} {T : List (Txt × Bool)} {z : List Int} (F : xFix h) (R : MSR h T z m) (h0 : 0 ≤ s) (h1 : s < z.length) (h2 : 0 ≤ t) (h3 : t < szA z s) (hq : Q (xI (xpl h 55 (stA z s + t))) h) : xwp G m_M_at (d + 2) 0 [xR 53, xI s, xI t] [] h Q X := by
  have r1 := stA_rng2 R.2.2.2.1 (s + 1)
  have r2 := stA_rng2 R.2.2.2.1 s
  rw [stA_succ h0 h1] at r1
  have zs := R.2.2.2.2.1
  have tl := R.2.1.2.1
  refine v_M_at_0 F ?_
  refine p_M_startOf F R h0 (by omega) ?_
  refine v_M_at_9 F ?_
  refine ⟨?_, ?_⟩
  · first | omega | exact ⟨by omega, by omega⟩
  · refine ⟨?_, ?_⟩
    · first | omega | exact ⟨by omega, by omega⟩
    · refine ⟨?_, ?_⟩
      · first | omega | exact ⟨by omega, by omega⟩
      · exact hq
/-- where the words of a field begin, how many they are -/
def bsT (t : Txt × Bool) (f r : Int) : Int := 200 * r + if f = 1 then (t.1.2.2.2.1.length : Int) else 0
theorem p_M_base {G : XG} {d : Nat} {h : XH} {Q : XV → XH → Prop} {X : Nat → XH → Prop} {f r : Int} {t : Txt × Bool} (F : xFix h) (R : MTx h r t) (h0 : 0 ≤ r) (h1 : r < 60) (hq : Q (xI (bsT t f r)) h) : xwp G m_M_base (d + 1) 0 [xR 53, xI r, xI f] [] h Q X := by
  have l1 := R.2.1.1
  have l3 := R.2.1.2.2
  unfold bsT at hq
  refine v_M_base_0 F ?_
  refine ⟨?_, ?_⟩
  · first | omega | exact ⟨by omega, by omega⟩
  · refine ⟨fun q1 => ?_, fun q1 => ?_⟩
    · refine ⟨?_, ?_⟩
      · first | omega | exact ⟨by omega, by omega⟩
      · refine ⟨?_, ?_⟩
        · first | omega | exact ⟨by omega, by omega⟩
        · refine ⟨?_, ?_⟩
          · first | omega | exact ⟨by omega, by omega⟩
          · rw [if_pos q1] at hq
            rw [l1]; exact hq
    · rw [if_neg q1] at hq; exact hq
theorem xshr_div {v k : Int} (h0 : 0 ≤ v) (h1 : v ≤ 2147483647) (k0 : 0 ≤ k) (k1 : k ≤ 30) : xshr v k = v / 2 ^ k.toNat := by
  unfold xshr
  obtain ⟨n, rfl⟩ : ∃ n : Nat, v = n := ⟨v.toNat, by omega⟩
  have e : Int32.ofInt (n : Int) = nI n := Int32.ofInt_eq_ofNat
  have e2 : ∀ i : Fin 31, (Int32.ofInt (i.val : Int) &&& 31 : Int32) = nI i.val := by decide +kernel
  have e5 : ∀ i : Fin 31, ((nI i.val).toBitVec.smod 32).toNat = i.val := by decide +kernel
  have e3 := e2 ⟨k.toNat, by omega⟩
  rw [show (((⟨k.toNat, by omega⟩ : Fin 31).val : Nat) : Int) = k by show (k.toNat : Int) = k; omega] at e3
  have e4 : n / 2 ^ k.toNat ≤ n := Nat.div_le_self _ _
  rw [e, e3, pk_shrN (n := n) (by omega) _ k.toNat (e5 ⟨k.toNat, by omega⟩), nI_toInt (by omega)]
  rw [Int.natCast_ediv, Int.natCast_pow]; rfl
theorem xshr_next {v k : Int} (h0 : 0 ≤ v) (h1 : v ≤ 2147483647) (k0 : 0 ≤ k) (k1 : k < 30) : xshr v (k + 1) = xshr v k / 2 := by
  rw [xshr_div h0 h1 k0 (by omega), xshr_div h0 h1 (by omega) (by omega), show (k + 1).toNat = k.toNat + 1 by omega, Int.pow_succ, Int.ediv_ediv_of_nonneg (Int.pow_nonneg (by decide))]
theorem lgK_ge (x : Int) (n : Nat) (k : Int) : k ≤ lgK x n k := (lgK_rng x n k).1
theorem p_M_logarithm {G : XG} {d : Nat} {h : XH} {Q : XV → XH → Prop} {X : Nat → XH → Prop} {x : Int} (F : xFix h) (h0 : 0 ≤ x) (h1 : x ≤ 100000) (hq : Q (xI (lgF x)) h) : xwp G m_M_logarithm (d + 1) 0 [xI x, xZ] [] h Q X := by
  have k1 := lgK_rng x 30 0
  have k2 := xshl_pos (k := lgK x 30 0) (by omega) (by omega)
  have k3 := xtdiv_le (a := 16 * x) (by omega) k2
  have big : xshr x 30 ≤ 1 := by
    rw [xshr_div h0 (by omega) (by decide) (by decide)]
    have : (x : Int) / 2 ^ (30 : Int).toNat = x / 1073741824 := rfl
    omega
  unfold lgF at hq
  have loop : ∀ (n : Nat) (k : Int), 0 ≤ k → k + n = 30 → lgK x n k = lgK x 30 0 → xwp G m_M_logarithm (d + 1) 2 [xI x, xI k] [] h Q X := by
    intro n
    induction n with
    | zero =>
      intro k e0 e1 hv
      have hv2 : k = lgK x 30 0 := hv
      have e2 : k = 30 := by omega
      rw [← hv2] at hq k2 k3
      refine v_M_logarithm_2 F ?_
      refine ⟨fun q1 => ?_, fun q1 => ?_⟩
      · refine ⟨?_, ?_⟩
        · first | exact k2 | exact ⟨by omega, by omega⟩
        · refine ⟨?_, ?_⟩
          · first | exact k2 | exact ⟨by omega, by omega⟩
          · refine ⟨?_, ?_⟩
            · first | exact k2 | exact ⟨by omega, by omega⟩
            · refine ⟨?_, ?_⟩
              · first | exact k2 | exact ⟨by omega, by omega⟩
              · refine ⟨?_, ?_⟩
                · first | exact k2 | exact ⟨by omega, by omega⟩
                · exact hq
      · refine ⟨?_, ?_⟩
        · first | exact k2 | exact ⟨by omega, by omega⟩
        · rw [e2] at q1; exact absurd big q1
    | succ n ih =>
      intro k e0 e1 hv
      have hv2 : (if xshr x (k + 1) ≤ 0 then k else lgK x n (k + 1)) = lgK x 30 0 := hv
      have hx := xshr_next h0 (by omega) e0 (by omega)
      by_cases z : xshr x (k + 1) ≤ 0
      · rw [if_pos z] at hv2
        rw [← hv2] at hq k2 k3
        refine v_M_logarithm_2 F ?_
        refine ⟨fun q1 => ?_, fun q1 => ?_⟩
        · refine ⟨?_, ?_⟩
          · first | exact k2 | exact ⟨by omega, by omega⟩
          · refine ⟨?_, ?_⟩
            · first | exact k2 | exact ⟨by omega, by omega⟩
            · refine ⟨?_, ?_⟩
              · first | exact k2 | exact ⟨by omega, by omega⟩
              · refine ⟨?_, ?_⟩
                · first | exact k2 | exact ⟨by omega, by omega⟩
                · refine ⟨?_, ?_⟩
                  · first | exact k2 | exact ⟨by omega, by omega⟩
                  · exact hq
        · refine ⟨?_, ?_⟩
          · first | exact k2 | exact ⟨by omega, by omega⟩
          · omega
      · rw [if_neg z] at hv2
        refine v_M_logarithm_2 F ?_
        refine ⟨fun q1 => ?_, fun q1 => ?_⟩
        · refine ⟨?_, ?_⟩
          · first | omega | exact ⟨by omega, by omega⟩
          · refine ⟨?_, ?_⟩
            · first | omega | exact ⟨by omega, by omega⟩
            · refine ⟨?_, ?_⟩
              · first | omega | exact ⟨by omega, by omega⟩
              · refine ⟨?_, ?_⟩
                · first | omega | exact ⟨by omega, by omega⟩
                · refine ⟨?_, ?_⟩
                  · first | omega | exact ⟨by omega, by omega⟩
                  · omega
        · refine ⟨?_, ?_⟩
          · first | omega | exact ⟨by omega, by omega⟩
          · exact ih (k + 1) (by omega) (by omega) hv2
  refine v_M_logarithm_0 F ?_
  exact loop 30 0 (Int.le_refl _) rfl rfl
theorem p_M_rarityOf {G : XG} {d : Nat} {h : XH} {Q : XV → XH → Prop} {X : Nat → XH → Prop} {f m : Int} {T : List (Txt × Bool)} {z : List Int} (F : xFix h) (R : MSR h T z m) (h0 : 0 ≤ f) (h1 : f ≤ 1000) (hq : Q (xI (rrF z.sum f)) h) : xwp G m_M_rarityOf (d + 3) 0 [xR 53, xI f] [] h Q X := by
  have zs := R.2.2.2.2.1
  have tl := R.2.1.2.1
  have s0 := stA_rng2 R.2.2.2.1 0
  have a := rr_arg (n := z.sum) (m := f) (by omega) h0
  rw [show max 1 (f + 1) = f + 1 by omega] at a
  unfold rrF at hq
  rw [show max 1 (f + 1) = f + 1 by omega] at hq
  refine v_M_rarityOf_0 F ?_
  refine p_M_inSegments F R ?_
  refine v_M_rarityOf_6 F ?_
  refine ⟨?_, ?_⟩
  · first | exact ⟨by omega, by omega⟩ | omega
  · refine ⟨?_, ?_⟩
    · first | exact ⟨by omega, by omega⟩ | omega
    · refine ⟨?_, ?_⟩
      · first | exact ⟨by omega, by omega⟩ | omega
      · refine ⟨?_, ?_⟩
        · first | exact ⟨by omega, by omega⟩ | omega
        · refine p_M_logarithm F a.1 (by omega) ?_
          refine v_M_rarityOf_16 F ?_
          exact hq
theorem MTx.wd {h : XH} {r : Int} {t : Txt × Bool} (R : MTx h r t) {f : Int} (hf : f = 0 ∨ f = 1) : xpl h 61 (2 * r + f) = (rwT t.1 f).length ∧ ∀ j : Nat, j < (rwT t.1 f).length → (rwT t.1 f)[j]? = some (xpl h 62 (bsT t f r + j)) := by
  obtain ⟨-, ⟨b1, b2, b3⟩, c1, c2⟩ := R
  rcases hf with e | e
  · rw [e, show rwT t.1 0 = t.1.2.2.2.1 from rfl, show bsT t 0 r = 200 * r + 0 from rfl]
    refine ⟨by rw [Int.add_zero]; exact b1, fun j hj => ?_⟩
    rw [Int.add_zero]; exact c1 j hj
  · rw [e, show rwT t.1 1 = t.1.2.2.2.2 from rfl, show bsT t 1 r = 200 * r + (t.1.2.2.2.1.length : Int) from rfl]
    exact ⟨b2, fun j hj => c2 j hj⟩
theorem count_succ {ws : List Int} {j : Nat} {w v : Int} (e : ws[j]? = some v) : ((ws.take (j + 1)).count w : Int) = (ws.take j).count w + (if v = w then 1 else 0) := by
  rw [List.take_succ, e, List.count_append]
  by_cases z : v = w
  · rw [if_pos z, z]; simp
  · rw [if_neg z]; simp [z]
theorem p_M_times {G : XG} {d : Nat} {h : XH} {Q : XV → XH → Prop} {X : Nat → XH → Prop} {f r w : Int} {t : Txt × Bool} (F : xFix h) (R : MTx h r t) (h0 : 0 ≤ r) (h1 : r < 60) (hf : f = 0 ∨ f = 1) (hq : Q (xI (cntW (rwT t.1 f) w)) h) : xwp G m_M_times (d + 2) 0 [xR 53, xI r, xI f, xL w, xZ, xZ, xZ, xZ] [] h Q X := by
  obtain ⟨w1, w2⟩ := R.wd hf
  have l1 := R.2.1.1
  have l3 := R.2.1.2.2
  have ln : (rwT t.1 f).length ≤ 200 ∧ 200 * r ≤ bsT t f r ∧ bsT t f r + (rwT t.1 f).length ≤ 200 * r + 200 := by
    rcases hf with e | e
    · rw [e, show rwT t.1 0 = t.1.2.2.2.1 from rfl, show bsT t 0 r = 200 * r + 0 from rfl]; omega
    · rw [e, show rwT t.1 1 = t.1.2.2.2.2 from rfl, show bsT t 1 r = 200 * r + (t.1.2.2.2.1.length : Int) from rfl]; omega
  generalize hb : bsT t f r = B at w2 ln
  have loop : ∀ (n j : Nat), j + n = (rwT t.1 f).length → xwp G m_M_times (d + 2) 14 [xR 53, xI r, xI f, xL w, xZ, xI (((rwT t.1 f).take j).count w : Int), xI B, xI j] [] h Q X := by
    intro n
    induction n with
    | zero =>
      intro j ej
      unfold cntW at hq
      refine v_M_times_14 F ?_
      refine ⟨?_, ?_⟩
      · first | omega | exact ⟨by omega, by omega⟩
      · refine ⟨?_, ?_⟩
        · first | omega | exact ⟨by omega, by omega⟩
        · refine ⟨?_, ?_⟩
          · first | omega | exact ⟨by omega, by omega⟩
          · refine ⟨?_, ?_⟩
            · first | omega | exact ⟨by omega, by omega⟩
            · refine ⟨fun q1 => ?_, fun q1 => ?_⟩
              · rw [show j = (rwT t.1 f).length by omega, List.take_length]; exact hq
              · refine ⟨?_, ?_⟩
                · first | omega | exact ⟨by omega, by omega⟩
                · refine ⟨?_, ?_⟩
                  · first | omega | exact ⟨by omega, by omega⟩
                  · refine ⟨?_, ?_⟩
                    · first | omega | exact ⟨by omega, by omega⟩
                    · refine ⟨fun q2 => ?_, fun q2 => ?_⟩
                      · refine ⟨?_, ?_⟩
                        · first | omega | exact ⟨by omega, by omega⟩
                        · omega
                      · omega
    | succ n ih =>
      intro j ej
      have next := ih (j + 1) (by omega)
      have e := w2 j (by omega)
      rw [count_succ e, show ((j + 1 : Nat) : Int) = (j : Int) + 1 by omega] at next
      have cl : ((rwT t.1 f).take j).count w ≤ j := Nat.le_trans List.count_le_length (by rw [List.length_take]; omega)
      refine v_M_times_14 F ?_
      refine ⟨?_, ?_⟩
      · first | omega | exact ⟨by omega, by omega⟩
      · refine ⟨?_, ?_⟩
        · first | omega | exact ⟨by omega, by omega⟩
        · refine ⟨?_, ?_⟩
          · first | omega | exact ⟨by omega, by omega⟩
          · refine ⟨?_, ?_⟩
            · first | omega | exact ⟨by omega, by omega⟩
            · refine ⟨fun q1 => ?_, fun q1 => ?_⟩
              · omega
              · refine ⟨?_, ?_⟩
                · first | omega | exact ⟨by omega, by omega⟩
                · refine ⟨?_, ?_⟩
                  · first | omega | exact ⟨by omega, by omega⟩
                  · refine ⟨?_, ?_⟩
                    · first | omega | exact ⟨by omega, by omega⟩
                    · refine ⟨fun q2 => ?_, fun q2 => ?_⟩
                      · refine ⟨?_, ?_⟩
                        · first | omega | exact ⟨by omega, by omega⟩
                        · rw [if_pos q2] at next; exact next
                      · rw [if_neg q2] at next; exact next
  refine v_M_times_0 F ?_
  refine p_M_base F R h0 h1 ?_
  rw [hb]
  refine v_M_times_9 F ?_
  exact loop (rwT t.1 f).length 0 (by omega)
theorem twF_succ {fl w : Int} {T : List (Txt × Bool)} {t : Txt × Bool} : ∀ {j : Nat}, T[j]? = some t → twF fl w (T.take (j + 1)) = twF fl w (T.take j) + (if cntW (rwT t.1 fl) w ≤ 0 then 0 else 1) := by
  induction T with
  | nil => intro j e; cases j <;> cases e
  | cons x T ih =>
    intro j e
    cases j with
    | zero =>
      cases e
      show (if cntW (rwT t.1 fl) w ≤ 0 then (0 : Int) else 1) + 0 = 0 + _
      omega
    | succ j =>
      have := ih (j := j) e
      show (if cntW (rwT x.1 fl) w ≤ 0 then (0 : Int) else 1) + twF fl w (T.take (j + 1)) = (if cntW (rwT x.1 fl) w ≤ 0 then (0 : Int) else 1) + twF fl w (T.take j) + _
      omega
theorem p_M_manyWith {G : XG} {d : Nat} {h : XH} {Q : XV → XH → Prop} {X : Nat → XH → Prop} {f m : Int} {T : List (Txt × Bool)} {z : List Int} (F : xFix h) (R : MSR h T z m) (hf : f = 0 ∨ f = 1) (hq : Q (xI (twF f (xpl h 53 14) (T.take z.sum.toNat))) h) : xwp G m_M_manyWith (d + 3) 0 [xR 53, xI f, xZ, xZ] [] h Q X := by
  have zs := R.2.2.2.2.1
  have tl := R.2.1.2.1
  have s0 := stA_rng2 R.2.2.2.1 0
  generalize hw : xpl h 53 14 = w at hq
  have loop : ∀ (n j : Nat), j + n = z.sum.toNat → xwp G m_M_manyWith (d + 3) 4 [xR 53, xI f, xI (twF f w (T.take j)), xI j] [] h Q X := by
    intro n
    induction n with
    | zero =>
      intro j ej
      refine v_M_manyWith_4 F ?_
      refine p_M_inSegments F R ?_
      refine v_M_manyWith_9 F ?_
      refine ⟨fun q1 => ?_, fun q1 => ?_⟩
      · rw [show j = z.sum.toNat by omega]; exact hq
      · refine ⟨?_, ?_⟩
        · first | omega | assumption | exact ⟨by omega, by omega⟩ | (simp only [*]; done) | grind
        · refine ⟨?_, ?_⟩
          · first | omega | assumption | exact ⟨by omega, by omega⟩ | (simp only [*]; done) | grind
          · omega
    | succ n ih =>
      intro j ej
      have rw9 := R.1.1 j (by omega) (by omega)
      obtain ⟨t, t1, t2⟩ := R.tx (x := j) (by omega) (by omega)
      rw [show ((j : Int)).toNat = j by omega] at t1
      have next := ih (j + 1) (by omega)
      rw [twF_succ t1, show ((j + 1 : Nat) : Int) = (j : Int) + 1 by omega] at next
      have tw := twF_rng f w (T.take j)
      rw [List.length_take] at tw
      refine v_M_manyWith_4 F ?_
      refine p_M_inSegments F R ?_
      refine v_M_manyWith_9 F ?_
      refine ⟨fun q1 => ?_, fun q1 => ?_⟩
      · omega
      · refine ⟨?_, ?_⟩
        · omega
        · refine ⟨?_, ?_⟩
          · omega
          · rw [hw]
            refine p_M_times F t2 rw9.1 rw9.2 hf ?_
            refine v_M_manyWith_28 F ?_
            refine ⟨fun q1 => ?_, fun q1 => ?_⟩
            · refine ⟨?_, ?_⟩
              · first | omega | exact ⟨by omega, by omega⟩
              · rw [if_pos q1] at next; exact next
            · refine ⟨?_, ?_⟩
              · first | omega | exact ⟨by omega, by omega⟩
              · refine ⟨?_, ?_⟩
                · first | omega | exact ⟨by omega, by omega⟩
                · rw [if_neg q1] at next; exact next
  refine v_M_manyWith_0 F ?_
  exact loop z.sum.toNat 0 (by omega)

end
