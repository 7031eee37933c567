/-! ===== ans ===== -/
section
/-! the model's answer: the order of what is found -/
/-- the model with a question that was asked -/
def MQS (h : XH) (q : Int) (D : DR) (T : List (Txt × Bool)) (z : List Int) (m : Int) : Prop := MQR h q D ∧ DOK D ∧ MSR h T z m ∧ (∀ x ∈ T, TxP x.1) ∧ (xpl h 53 26 ≠ 0 → RK h D (T.take z.sum.toNat))
theorem MQS.rw {h h' : XH} {q m : Int} {D : DR} {T : List (Txt × Bool)} {z : List Int} (A : MQS h q D T z m) (K : RW h h') (R : xpl h' 53 26 ≠ 0 → RK h' D (T.take z.sum.toNat)) : MQS h' q D T z m := ⟨K.mqr A.1, A.2.1, K.msr A.2.2.1, A.2.2.2.1, R⟩
theorem p_M_isAhead {G : XG} {d : Nat} {h : XH} {Q : XV → XH → Prop} {X : Nat → XH → Prop} {f : List (Txt × Bool)} {wt : Nat → Int} {k o : Nat} {w1 w2 : Int} (F : xFix h) (W : RKw h f) (hk : k < f.length) (ho : o < f.length) (e1 : w1 = wt k) (e2 : w2 = wt o) (hq : Q (xI (b2i (ahF f wt k o))) h) : xwp G m_M_isAhead (d + 1) 0 [xR 53, xI w1, xI (xpl h 55 k), xI w2, xI (xpl h 55 o)] [] h Q X := by
  subst e1
  subst e2
  have a1 := List.getElem?_eq_getElem hk
  have b1 := List.getElem?_eq_getElem ho
  obtain ⟨⟨r0, r1⟩, ma, -⟩ := W.2 k _ a1
  obtain ⟨⟨s0, s1⟩, mb, -⟩ := W.2 o _ b1
  unfold ahF at hq
  rw [a1, b1] at hq
  have hq : Q (xI (b2i (if wt k = wt o then (if (f[k]).1.2.2.1 = (f[o]).1.2.2.1 then decide ((f[k]).1.1 < (f[o]).1.1) else decide ((f[o]).1.2.2.1 < (f[k]).1.2.2.1)) else decide (wt o < wt k)))) h := hq
  refine v_M_isAhead_0 F ?_
  rw [ma.1.1, ma.1.2.2.1, mb.1.1, mb.1.2.2.1]
  refine ⟨fun y1 => ⟨by omega, by omega, by omega, by omega, fun y2 => ⟨fun y3 => ?_, fun y3 => ?_⟩, fun y2 => ⟨fun y3 => ?_, fun y3 => ?_⟩⟩, fun y1 => ⟨fun y3 => ?_, fun y3 => ?_⟩⟩
  · rw [if_pos y1, if_pos y2, decide_eq_false (by omega)] at hq; exact hq
  · rw [if_pos y1, if_pos y2, decide_eq_true (by omega)] at hq; exact hq
  · rw [if_pos y1, if_neg y2, decide_eq_false (by omega)] at hq; exact hq
  · rw [if_pos y1, if_neg y2, decide_eq_true (by omega)] at hq; exact hq
  · rw [if_neg y1, decide_eq_false (by omega)] at hq; exact hq
  · rw [if_neg y1, decide_eq_true (by omega)] at hq; exact hq
/-- the first n found, in order -/
def FdM (h : XH) (D : DR) (f : List (Txt × Bool)) (O : List Nat) : Prop := ∀ (i o : Nat), O[i]? = some o → xpl h 89 i = o ∧ xpl h 90 i = wtF D f o
theorem RK.of2 {h h' : XH} {D : DR} {f : List (Txt × Bool)} (R : RK h D f) (e : ∀ a k : Int, a = 81 ∨ a = 82 ∨ a = 83 ∨ a = 84 → xpl h' a k = xpl h a k) : RK h' D f := ⟨R.1.of (e 84 _ (by decide)) (fun a k w _ => e a k (by omega)) (Or.inl rfl), R.2.of (e 84 _ (by decide)) (fun a k w _ => e a k (by omega)) (Or.inr rfl)⟩
theorem js0_q (D : DR) (f : List (Txt × Bool)) (x : Txt) : js0 D f x = JQ D f x 0 := rfl
/-- a question's judgement is that of its parts -/
theorem JQ_fn {D : DR} {f : List (Txt × Bool)} {x : Txt} {qi : Nat} {ms : List Nat} (O : DOK D) (hm : D.2[qi]? = some ms) (hl : ∀ m ∈ ms, m < D.1.length) : qfin (JQ D f x qi) = fnF (IF D f x) (SF D) (-1) ms false ∧ (JQ D f x qi).2.2.2 = suW (VF D f x) ms := by
  rw [JQ_eq O.2.1 hm]
  constructor
  · refine JN_fn ms q000 false rfl rfl (fun m hmm => ?_)
    have y := List.getElem?_eq_getElem (hl m hmm)
    refine ⟨_, y, ?_, ?_⟩
    · unfold IF; rw [y]
    · unfold SF; rw [y]
  · rw [JN_su (V := VF D f x) ms q000 (fun m hmm => ?_)]
    · show (0 : Int) + _ = _
      rw [Int.zero_add]
    · have y := List.getElem?_eq_getElem (hl m hmm)
      refine ⟨_, y, ?_⟩
      unfold VF; rw [y]
theorem LK.get {h : XH} {D : DR} {f : List (Txt × Bool)} {x : Txt × Bool} (L : LK h D f x.1 0) (O : DOK D) (f60 : f.length ≤ 60) (l3 : x.1.2.2.2.1.length + x.1.2.2.2.2.length ≤ 200) {m : Nat} (hm : m < D.1.length) : xpl h 86 m = VF D f x.1 m ∧ 0 ≤ VF D f x.1 m ∧ VF D f x.1 m ≤ 1000000 := by
  have y := List.getElem?_eq_getElem hm
  obtain ⟨a, b⟩ := L m _ (Nat.zero_le _) y
  have r := JPv_rng (D := D) (f := f) (x := x.1) f60 (by show x.1.2.2.2.1.length ≤ 200; omega) (by show x.1.2.2.2.2.length ≤ 200; omega) O.2.2.1 (O.2.2.1 m _ y)
  unfold VF
  rw [y]; exact ⟨b, r⟩
theorem s_M_answer {G : XG} {d : Nat} {h : XH} {Q : XV → XH → Prop} {X : Nat → XH → Prop} {q m : Int} {D : DR} {T : List (Txt × Bool)} {z : List Int} (F : xFix h) (A : MQS h q D T z m)
    (hq : ∀ h', RW h h' → MQS h' q D T z m → FdM h' D (T.take z.sum.toNat) (orF D (T.take z.sum.toNat) (T.take z.sum.toNat).length) → xpl h' 53 26 ≠ 0 → Q (xI (orF D (T.take z.sum.toNat) (T.take z.sum.toNat).length).length) h') : xwp G m_M_answer (d + 5) 0 [xR 53, xZ, xZ, xZ, xZ] [] h Q X := by
  obtain ⟨A1, O, R, P, I⟩ := A
  obtain ⟨W, fz⟩ := R.rkw P
  refine v_M_answer_0 F ?_
  refine s_M_reckon F A1 R P O.2.2.1 I (fun h1 K1 R1 e26 => ?_)
  refine v_M_answer_4 K1.1 ?_
  obtain ⟨f, hfe⟩ : ∃ f, f = T.take z.sum.toNat := ⟨_, rfl⟩
  rw [← hfe] at W fz R1 hq
  have f60 := W.1
  obtain ⟨ns, hns⟩ : ∃ ns, D.2[0]? = some ns := ⟨_, List.getElem?_eq_getElem O.2.2.2⟩
  have nl : ∀ m ∈ ns, m < D.1.length := (O.1.2.1 ns (List.mem_of_getElem? hns)).2
  have loop : ∀ (n k : Nat) (h2 : XH), k + n = f.length → RW h h2 → RK h2 D f → xpl h2 53 26 ≠ 0 → FdM h2 D f (orF D f k) → xwp G m_M_answer (d + 5) 8 [xR 53, xI (orF D f k).length, xI (k : Nat), xZ, xZ] [] h2 Q X := by
    intro n
    induction n with
    | zero =>
      intro k h2 en K2 R2 z26 D2
      refine v_M_answer_8 K2.1 ?_
      refine p_M_inSegments K2.1 (K2.msr R) ?_
      refine v_M_answer_13 K2.1 ⟨fun _ => ?_, fun y => absurd (by omega) y⟩
      have : k = f.length := by omega
      subst this
      exact hq h2 K2 ⟨K2.mqr A1, O, K2.msr R, P, fun _ => hfe ▸ R2⟩ D2 z26
    | succ n ih =>
      intro k h2 en K2 R2 z26 D2
      have hk : k < f.length := by omega
      have hx := List.getElem?_eq_getElem hk
      obtain ⟨x, hxe⟩ : ∃ x, x = f[k] := ⟨_, rfl⟩
      rw [← hxe] at hx
      have ol := orF_len D f k
      obtain ⟨⟨r0, r1⟩, mt, -⟩ := W.2 k x hx
      have l3 := mt.2.1.2.2
      have js : qfin (js0 D f x.1) = fnF (IF D f x.1) (SF D) (-1) ns false := by rw [js0_q]; exact (JQ_fn O hns nl).1
      have jw : (js0 D f x.1).2.2.2 = suW (VF D f x.1) ns := by rw [js0_q]; exact (JQ_fn O hns nl).2
      have oe : orF D f (k + 1) = if x.2 = false ∧ qfin (js0 D f x.1) = true then insO (ahF f (wtF D f)) (orF D f k) k else orF D f k := by
        show (match f[k]? with | some x => if x.2 = false ∧ qfin (js0 D f x.1) = true then insO (ahF f (wtF D f)) (orF D f k) k else orF D f k | none => orF D f k) = _
        rw [hx]
      refine v_M_answer_8 K2.1 ?_
      refine p_M_inSegments K2.1 (K2.msr R) ?_
      refine v_M_answer_13 K2.1 ⟨fun y => by omega, fun _ => ?_⟩
      refine s_M_look K2.1 (K2.mqr A1) O (W.rw K2) R2 hx hns (fun h3 L3 J3 => ?_)
      have K3 := K2.trans L3.rw
      have n3 := L3.2.2.1
      have nx2 := K2.1.nx
      have R3 := R2.lw L3
      have z3 : xpl h3 53 26 ≠ 0 := by rw [L3.pl (by omega) (by decide) (by decide)]; exact z26
      have D3 : FdM h3 D f (orF D f k) := fun i o hi => by
        rw [L3.pl (by omega) (by decide) (by decide), L3.pl (by omega) (by decide) (by decide)]; exact D2 i o hi
      rw [← js]
      refine v_M_answer_22 K3.1 ⟨fun y => ⟨⟨by omega, by omega⟩, ?_⟩, fun y => ?_⟩
      · have b := bz0 y
        have : ¬ (x.2 = false ∧ qfin (js0 D f x.1) = true) := fun w => by rw [w.1, w.2] at b; cases b
        rw [if_neg this] at oe
        have go := ih (k + 1) h3 (by omega) K3 R3 z3 (by rw [oe]; exact D3)
        rw [oe, show ((k + 1 : Nat) : Int) = (k : Int) + 1 by omega] at go
        exact go
      · have b := bz1 y
        rw [Bool.and_eq_true, Bool.not_eq_true'] at b
        rw [if_pos b] at oe
        have wk : wtF D f k = min 1000000 (suW (VF D f x.1) ns) := by
          unfold wtF
          rw [hx]
          show qwif (js0 D f x.1) = _
          unfold qwif
          rw [if_pos b.2, jw]
          omega
        obtain ⟨n1, n2, n4, -⟩ := O.list (K3.mqr A1).2.2.1 hns
        refine p_M_sum (V := VF D f x.1) K3.1 (K3.mqr A1) (Int.le_refl _) (by omega) n1 (fun m hm => ⟨by omega, n2 m hm⟩) (n4 rfl) (fun m hm => J3.get O f60 l3 (n2 m hm)) ?_
        rw [← wk]
        refine v_M_answer_33 K3.1 ?_
        obtain ⟨KK, hKK⟩ : ∃ KK, KK = insK (ahF f (wtF D f)) (orF D f k) k (orF D f k).length := ⟨_, rfl⟩
        have ins : ∀ (j : Nat) (h4 : XH), j ≤ (orF D f k).length → insK (ahF f (wtF D f)) (orF D f k) k j = KK → RW h h4 → RK h4 D f → xpl h4 53 26 ≠ 0 → (∀ (i o : Nat), i < j → (orF D f k)[i]? = some o → xpl h4 89 i = o ∧ xpl h4 90 i = wtF D f o) → (∀ (i o : Nat), j ≤ i → (orF D f k)[i]? = some o → xpl h4 89 ((i : Int) + 1) = o ∧ xpl h4 90 ((i : Int) + 1) = wtF D f o) → xwp G m_M_answer (d + 5) 37 [xR 53, xI (orF D f k).length, xI (k : Nat), xI (wtF D f k), xI (j : Nat)] [] h4 Q X := by
          intro j
          have put : ∀ (j : Nat) (h4 : XH), j ≤ (orF D f k).length → j = KK → RW h h4 → RK h4 D f → xpl h4 53 26 ≠ 0 → (∀ (i o : Nat), i < j → (orF D f k)[i]? = some o → xpl h4 89 i = o ∧ xpl h4 90 i = wtF D f o) → (∀ (i o : Nat), j ≤ i → (orF D f k)[i]? = some o → xpl h4 89 ((i : Int) + 1) = o ∧ xpl h4 90 ((i : Int) + 1) = wtF D f o) → xwp G m_M_answer (d + 5) 117 [xR 53, xI (orF D f k).length, xI (k : Nat), xI (wtF D f k), xI (j : Nat)] [] h4 Q X := fun j h4 hj hjk K4 R4 z4 lo hi => by
            refine v_M_answer_117 K4.1 ⟨by omega, by omega, ⟨by omega, by omega⟩, ⟨by omega, by omega⟩, fun F5 => ?_⟩
            have K5 : RW h (xst (xst h4 89 j k) 90 j (wtF D f k)) := K4.trans ⟨F5, ((xsm.refl h4).st (by omega) (Or.inl (Or.inr (by omega)))).st (by omega) (Or.inl (Or.inr (by omega))), fun i _ _ => by rw [xpl_oa (by decide), xpl_oa (by decide)], rfl, rfl⟩
            have go := ih (k + 1) _ (by omega) K5 (R4.of2 (fun a i w => by rw [xpl_oa (by omega), xpl_oa (by omega)])) (by rw [xpl_oa (by decide), xpl_oa (by decide)]; exact z4) (fun i o hi2 => ?_)
            · rw [oe, insO_len, show (((orF D f k).length + 1 : Nat) : Int) = ((orF D f k).length : Int) + 1 by omega, show ((k + 1 : Nat) : Int) = (k : Int) + 1 by omega] at go
              exact go
            · rw [oe, insO_at hKK, ← hjk] at hi2
              by_cases y1 : i < j
              · rw [if_pos y1] at hi2
                obtain ⟨a, b⟩ := lo i o y1 hi2
                exact ⟨by rw [xpl_oa (by decide), xpl_ok (by omega)]; exact a, by rw [xpl_ok (by omega), xpl_oa (by decide)]; exact b⟩
              · rw [if_neg y1] at hi2
                by_cases y2 : i = j
                · rw [if_pos y2] at hi2
                  cases hi2
                  rw [y2]
                  exact ⟨by rw [xpl_oa (by decide), xpl_hit], by rw [xpl_hit]⟩
                · rw [if_neg y2] at hi2
                  obtain ⟨a, b⟩ := hi (i - 1) o (by omega) hi2
                  rw [show ((i - 1 : Nat) : Int) + 1 = (i : Int) by omega] at a b
                  exact ⟨by rw [xpl_oa (by decide), xpl_ok (by omega)]; exact a, by rw [xpl_ok (by omega), xpl_oa (by decide)]; exact b⟩
          induction j with
          | zero =>
            intro h4 hj hjk K4 R4 z4 lo hi
            have hjk : 0 = KK := hjk
            exact v_M_answer_37 K4.1 ⟨fun _ => put 0 h4 hj hjk K4 R4 z4 lo hi, fun y => absurd (by omega) y⟩
          | succ j ihj =>
            intro h4 hj hjk K4 R4 z4 lo hi
            obtain ⟨o, ho⟩ : ∃ o, (orF D f k)[j]? = some o := ⟨_, List.getElem?_eq_getElem (by omega)⟩
            have om := orF_mem D f k o (List.mem_of_getElem? ho)
            obtain ⟨o1, o2⟩ := lo j o (by omega) ho
            have hjk : (if ahF f (wtF D f) k (((orF D f k)[j]?).getD 0) = true then insK (ahF f (wtF D f)) (orF D f k) k j else j + 1) = KK := hjk
            rw [ho] at hjk
            have hjk : (if ahF f (wtF D f) k o = true then insK (ahF f (wtF D f)) (orF D f k) k j else j + 1) = KK := hjk
            refine v_M_answer_37 K4.1 ⟨fun y => absurd y (by omega), fun _ => ?_⟩
            rw [show ((j + 1 : Nat) : Int) - 1 = (j : Int) by omega, o1, o2]
            refine ⟨by omega, by omega, by omega, by omega, by omega, ?_⟩
            refine p_M_isAhead (wt := wtF D f) K4.1 (W.rw K4) hk (by omega) rfl rfl ?_
            refine v_M_answer_76 K4.1 ⟨fun y => ?_, fun y => ?_⟩
            · rw [bz0 y, if_neg (by decide)] at hjk
              exact put (j + 1) h4 hj hjk K4 R4 z4 lo hi
            · rw [bz1 y, if_pos rfl] at hjk
              rw [show ((j + 1 : Nat) : Int) - 1 = (j : Int) by omega, o1, o2, show ((j + 1 : Nat) : Int) + (-1) = (j : Int) by omega]
              refine ⟨⟨by omega, by omega⟩, by omega, by omega, by omega, fun F5 => ?_⟩
              refine ihj _ (by omega) hjk (K4.trans ⟨F5, ((xsm.refl h4).st (by omega) (Or.inl (Or.inr (by omega)))).st (by omega) (Or.inl (Or.inr (by omega))), fun i _ _ => by rw [xpl_oa (by decide), xpl_oa (by decide)], rfl, rfl⟩) (R4.of2 (fun a i w => by rw [xpl_oa (by omega), xpl_oa (by omega)])) (by rw [xpl_oa (by decide), xpl_oa (by decide)]; exact z4) (fun i o' i1 i2 => ?_) (fun i o' i1 i2 => ?_)
              · obtain ⟨a, b⟩ := lo i o' (by omega) i2
                exact ⟨by rw [xpl_oa (by decide), xpl_ok (by omega)]; exact a, by rw [xpl_ok (by omega), xpl_oa (by decide)]; exact b⟩
              · by_cases y2 : i = j
                · subst y2
                  rw [ho] at i2
                  cases i2
                  rw [show ((i + 1 : Nat) : Int) = (i : Int) + 1 by omega]
                  exact ⟨by rw [xpl_oa (by decide), xpl_hit], by rw [xpl_hit]⟩
                · obtain ⟨a, b⟩ := hi i o' (by omega) i2
                  exact ⟨by rw [xpl_oa (by decide), xpl_ok (by omega)]; exact a, by rw [xpl_ok (by omega), xpl_oa (by decide)]; exact b⟩
        exact ins (orF D f k).length h3 (Nat.le_refl _) hKK.symm K3 R3 z3 (fun i o _ hi => D3 i o hi) (fun i o i1 hi => absurd (List.getElem?_eq_some_iff.mp hi).1 (by omega))
  exact loop f.length 0 h1 (by omega) K1 R1 e26 (fun i o hi => by cases hi)

end
