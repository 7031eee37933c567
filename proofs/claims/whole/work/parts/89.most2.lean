/-! ===== most2 ===== -/
section
/-- the texts alone -/
def MSA (h : XH) (T : List (Txt × Bool)) : Prop :=
  ((∀ i : Int, 0 ≤ i → i < 60 → 0 ≤ xpl h 55 i ∧ xpl h 55 i < 60) ∧ ∀ i j : Int, 0 ≤ i → i < 60 → 0 ≤ j → j < 60 → xpl h 55 i = xpl h 55 j → i = j) ∧
  (xpl h 53 4 = T.length ∧ T.length ≤ 60) ∧ ∀ (i : Nat) t, T[i]? = some t → MTx h (xpl h 55 i) t
theorem MSR.a {h : XH} {T : List (Txt × Bool)} {z : List Int} {m : Int} (R : MSR h T z m) : MSA h T := ⟨R.1, ⟨R.2.1.1, R.2.1.2.1⟩, R.2.2.2.2.2⟩
theorem MTx.keep {h h' : XH} {r : Int} {t : Txt × Bool} (R : MTx h r t) (e : ∀ c k, 57 ≤ c → c ≤ 62 → xpl h' c k = xpl h c k) : MTx h' r t := by
  obtain ⟨⟨a1, a2, a3, a4⟩, ⟨b1, b2, b3⟩, c1, c2⟩ := R
  exact ⟨⟨(e 57 _ (by decide) (by decide)).trans a1, (e 58 _ (by decide) (by decide)).trans a2, (e 59 _ (by decide) (by decide)).trans a3, (e 60 _ (by decide) (by decide)).trans a4⟩, ⟨(e 61 _ (by decide) (by decide)).trans b1, (e 61 _ (by decide) (by decide)).trans b2, b3⟩, fun j hj => by rw [e 62 _ (by decide) (by decide)]; exact c1 j hj, fun j hj => by rw [e 62 _ (by decide) (by decide)]; exact c2 j hj⟩
/-- with the same segments -/
theorem MSA.msr {h h' : XH} {T T' : List (Txt × Bool)} {z : List Int} {m : Int} (A : MSA h' T') (R : MSR h T z m) (e5 : xpl h' 53 5 = xpl h 53 5) (e6 : xpl h' 53 6 = xpl h 53 6) (e56 : ∀ k, xpl h' 56 k = xpl h 56 k) (hz : z.sum ≤ T'.length) : MSR h' T' z m := by
  obtain ⟨r1, ⟨r2, r3, r4, r5, r6⟩, r7, r8, -, -⟩ := R
  exact ⟨A.1, ⟨A.2.1.1, A.2.1.2, e5.trans r4, r5, e6.trans r6⟩, fun i hi => (e56 i).trans (r7 i hi), r8, hz, A.2.2⟩
theorem s_M_drop {G : XG} {d : Nat} {h : XH} {Q : XV → XH → Prop} {X : Nat → XH → Prop} {x : Int} {T : List (Txt × Bool)} (F : xFix h) (R : MSA h T) (h0 : 0 ≤ x) (h1 : x < T.length)
    (hq : ∀ h', xFix h' → xsm (fun c => c = 53 ∨ c = 55) h h' → (∀ k, k ≠ 4 → xpl h' 53 k = xpl h 53 k) → MSA h' (T.eraseIdx x.toNat) → xnx h' = xnx h → xsl h' = xsl h → Q xN h') : xwp G m_M_drop (d + 2) 0 [xR 53, xI x, xZ] [] h Q X := by
  obtain ⟨⟨p1, p2⟩, ⟨n1, n2⟩, tx⟩ := R
  refine v_M_drop_0 F ?_
  refine ⟨?_, ?_⟩
  · first | exact ⟨by omega, by omega⟩ | omega
  · refine ⟨?_, ?_⟩
    · first | exact ⟨by omega, by omega⟩ | omega
    · refine ⟨?_, ?_⟩
      · first | exact ⟨by omega, by omega⟩ | omega
      · refine ⟨?_, ?_⟩
        · first | exact ⟨by omega, by omega⟩ | omega
        · refine ⟨?_, ?_⟩
          · first | exact ⟨by omega, by omega⟩ | omega
          · refine ⟨?_, ?_⟩
            · first | exact ⟨by omega, by omega⟩ | omega
            · intro F9
              rw [n1] at F9 ⊢
              obtain ⟨H, hH⟩ : ∃ H, H = xst (xup (xst h 53 4 ((T.length : Int) - 1)) 55 (xcpf (xpl (xst h 53 4 ((T.length : Int) - 1)) 55) (xpl (xst h 53 4 ((T.length : Int) - 1)) 55) (x + 1) x (((T.length : Int) - 1) - x))) 55 ((T.length : Int) - 1) (xpl h 55 x) := ⟨_, rfl⟩
              rw [← hH] at F9 ⊢
              have k55 : ∀ j, xpl (xst h 53 4 ((T.length : Int) - 1)) 55 j = xpl h 55 j := fun j => xpl_oa (by decide)
              have row : ∀ j : Int, xpl H 55 j = if j = (T.length : Int) - 1 then xpl h 55 x else if x ≤ j ∧ j < (T.length : Int) - 1 then xpl h 55 (j + 1) else xpl h 55 j := fun j => by
                rw [hH, xpl_st]
                by_cases z : j = (T.length : Int) - 1
                · rw [if_pos ⟨rfl, z⟩, if_pos z]
                · rw [if_neg (fun y => z y.2), if_neg z, xpl_up1]
                  unfold xcpf
                  by_cases z2 : x ≤ j ∧ j < (T.length : Int) - 1
                  · rw [if_pos z2, if_pos (by omega), k55]
                    exact congrArg (xpl h 55) (by omega)
                  · rw [if_neg z2, if_neg (by omega), k55]
              have oth : ∀ c k, c ≠ 53 → c ≠ 55 → xpl H c k = xpl h c k := fun c k c1 c2 => by rw [hH, xpl_oa c2, xpl_up2 c2, xpl_oa c1]
              have S : xsm (fun c => c = 53 ∨ c = 55) h H := by
                rw [hH]
                refine ((xsm.st (xsm.refl h) (by decide) (Or.inl (Or.inl rfl))).up ?_ (Or.inl (Or.inr rfl))).st (by omega) (Or.inl (Or.inr rfl))
                unfold xcpf
                rw [if_neg (by omega)]
              refine hq H F9 S (fun k hk => by rw [hH, xpl_oa (by decide), xpl_up2 (by decide), xpl_ok hk]) ⟨⟨fun i i0 i1 => ?_, fun i j i0 i1 j0 j1 e => ?_⟩, ⟨?_, ?_⟩, fun i t ht => ?_⟩ (by rw [hH]; rfl) (by rw [hH]; rfl)
              · rw [row]
                split
                · exact p1 x (by omega) (by omega)
                · split
                  · exact p1 (i + 1) (by omega) (by omega)
                  · exact p1 i i0 i1
              · have sg : ∀ i : Int, 0 ≤ i → i < 60 → ∃ s, 0 ≤ s ∧ s < 60 ∧ xpl H 55 i = xpl h 55 s ∧ ((i = (T.length : Int) - 1 ∧ s = x) ∨ (i ≠ (T.length : Int) - 1 ∧ (x ≤ i ∧ i < (T.length : Int) - 1) ∧ s = i + 1) ∨ (i ≠ (T.length : Int) - 1 ∧ ¬ (x ≤ i ∧ i < (T.length : Int) - 1) ∧ s = i)) := fun i i0 i1 => by
                  rw [row]
                  by_cases z : i = (T.length : Int) - 1
                  · rw [if_pos z]; exact ⟨x, by omega, by omega, rfl, Or.inl ⟨z, rfl⟩⟩
                  · rw [if_neg z]
                    by_cases z2 : x ≤ i ∧ i < (T.length : Int) - 1
                    · rw [if_pos z2]; exact ⟨i + 1, by omega, by omega, rfl, Or.inr (Or.inl ⟨z, z2, rfl⟩)⟩
                    · rw [if_neg z2]; exact ⟨i, i0, i1, rfl, Or.inr (Or.inr ⟨z, z2, rfl⟩)⟩
                obtain ⟨s, s0, s1, s2, s3⟩ := sg i i0 i1
                obtain ⟨u, u0, u1, u2, u3⟩ := sg j j0 j1
                rw [s2, u2] at e
                have := p2 s u s0 s1 u0 u1 e
                omega
              · rw [List.length_eraseIdx, if_pos (by omega), hH, xpl_oa (by decide), xpl_up2 (by decide), xpl_hit]
                omega
              · rw [List.length_eraseIdx, if_pos (by omega)]; omega
              · have hl := (List.getElem?_eq_some_iff.mp ht).1
                rw [List.length_eraseIdx, if_pos (by omega)] at hl
                rw [List.getElem?_eraseIdx] at ht
                rw [row, if_neg (by omega)]
                by_cases z : i < x.toNat
                · rw [if_pos z] at ht
                  rw [if_neg (by omega)]
                  exact (tx i t ht).keep (fun c k c1 c2 => oth c k (by omega) (by omega))
                · rw [if_neg z] at ht
                  rw [if_pos ⟨by omega, by omega⟩]
                  exact (tx (i + 1) t ht).keep (fun c k c1 c2 => oth c k (by omega) (by omega))
/-- a text is marked -/
theorem MSA.mark {h : XH} {x : Int} {T : List (Txt × Bool)} (R : MSA h T) (h0 : 0 ≤ x) (h1 : x < T.length) : MSA (xst h 60 (xpl h 55 x) 1) (T.modify x.toNat (fun t => (t.1, true))) := by
  obtain ⟨⟨p1, p2⟩, ⟨n1, n2⟩, tx⟩ := R
  have k55 : ∀ j, xpl (xst h 60 (xpl h 55 x) 1) 55 j = xpl h 55 j := fun j => xpl_oa (by decide)
  refine ⟨⟨fun i i0 i1 => by rw [k55]; exact p1 i i0 i1, fun i j i0 i1 j0 j1 e => by rw [k55, k55] at e; exact p2 i j i0 i1 j0 j1 e⟩, ⟨by rw [xpl_oa (by decide), List.length_modify]; exact n1, by rw [List.length_modify]; exact n2⟩, fun i t ht => ?_⟩
  rw [List.getElem?_modify] at ht
  cases y : T[i]? with
  | none => rw [y] at ht; cases ht
  | some t0 =>
    rw [y] at ht
    have ht : (if x.toNat = i then ((t0.1, true) : Txt × Bool) else t0) = t := Option.some.inj ht
    have hl := (List.getElem?_eq_some_iff.mp y).1
    obtain ⟨⟨a1, a2, a3, a4⟩, b, c⟩ := tx i t0 y
    have ot : ∀ c k, c ≠ 60 → xpl (xst h 60 (xpl h 55 x) 1) c k = xpl h c k := fun c k hc => xpl_oa hc
    rw [k55]
    have c' : (∀ j : Nat, j < t0.1.2.2.2.1.length → t0.1.2.2.2.1[j]? = some (xpl (xst h 60 (xpl h 55 x) 1) 62 (200 * xpl h 55 i + j))) ∧ ∀ j : Nat, j < t0.1.2.2.2.2.length → t0.1.2.2.2.2[j]? = some (xpl (xst h 60 (xpl h 55 x) 1) 62 (200 * xpl h 55 i + t0.1.2.2.2.1.length + j)) := ⟨fun j hj => by rw [ot 62 _ (by decide)]; exact c.1 j hj, fun j hj => by rw [ot 62 _ (by decide)]; exact c.2 j hj⟩
    by_cases z : x.toNat = i
    · rw [if_pos z] at ht
      rw [← ht]
      refine ⟨⟨(ot 57 _ (by decide)).trans a1, (ot 58 _ (by decide)).trans a2, (ot 59 _ (by decide)).trans a3, ?_⟩, ⟨(ot 61 _ (by decide)).trans b.1, (ot 61 _ (by decide)).trans b.2.1, b.2.2⟩, c'⟩
      rw [show x = (i : Int) by omega, xpl_hit]; rfl
    · rw [if_neg z] at ht
      rw [← ht]
      refine ⟨⟨(ot 57 _ (by decide)).trans a1, (ot 58 _ (by decide)).trans a2, (ot 59 _ (by decide)).trans a3, ?_⟩, ⟨(ot 61 _ (by decide)).trans b.1, (ot 61 _ (by decide)).trans b.2.1, b.2.2⟩, c'⟩
      rw [xpl_ok (fun e => z ?_)]
      · exact a4
      · have := p2 i x (by omega) (by omega) h0 (by omega) e
        omega
theorem s_M_out {G : XG} {d : Nat} {h : XH} {Q : XV → XH → Prop} {X : Nat → XH → Prop} {x m : Int} {T : List (Txt × Bool)} {z : List Int} (F : xFix h) (R : MSR h T z m) (h0 : 0 ≤ x) (h1 : x < T.length)
    (hq : ∀ h', xFix h' → xsm (fun c => c = 53 ∨ c = 55 ∨ c = 60) h h' → xpl h' 53 26 = 0 → (∀ k, k ≠ 4 → k ≠ 26 → xpl h' 53 k = xpl h 53 k) → MSR h' (if z.sum ≤ x then T.eraseIdx x.toNat else T.modify x.toNat (fun t => (t.1, true))) z m → xnx h' = xnx h → xsl h' = xsl h → Q (xI (if z.sum ≤ x then 1 else 0)) h') : xwp G m_M_out (d + 3) 0 [xR 53, xI x, xZ] [] h Q X := by
  have zs := R.2.2.2.2.1
  have tl := R.2.1.2.1
  have rw9 := R.1.1 x h0 (by omega)
  refine v_M_out_0 F ?_
  intro F9
  obtain ⟨h1', hh1⟩ : ∃ h1', h1' = xst h 53 26 0 := ⟨_, rfl⟩
  rw [← hh1] at F9 ⊢
  have ot : ∀ c k, c ≠ 53 → xpl h1' c k = xpl h c k := fun c k hc => by rw [hh1, xpl_oa hc]
  have o53 : ∀ k, k ≠ 26 → xpl h1' 53 k = xpl h 53 k := fun k hk => by rw [hh1, xpl_ok hk]
  have A1 : MSA h1' T := by
    obtain ⟨⟨p1, p2⟩, ⟨n1, n2⟩, tx⟩ := R.a
    exact ⟨⟨fun i i0 i1 => by rw [ot 55 _ (by decide)]; exact p1 i i0 i1, fun i j i0 i1 j0 j1 e => by rw [ot 55 _ (by decide), ot 55 _ (by decide)] at e; exact p2 i j i0 i1 j0 j1 e⟩, ⟨(o53 4 (by decide)).trans n1, n2⟩, fun i t ht => by rw [ot 55 _ (by decide)]; exact (tx i t ht).keep (fun c k c1 c2 => ot c k (by omega))⟩
  have R1 : MSR h1' T z m := A1.msr R (o53 5 (by decide)) (o53 6 (by decide)) (fun k => ot 56 k (by decide)) zs
  have S1 : xsm (fun c => c = 53 ∨ c = 55 ∨ c = 60) h h1' := by rw [hh1]; exact (xsm.refl h).st (by decide) (Or.inl (Or.inl rfl))
  have n1 : xnx h1' = xnx h := by rw [hh1]; rfl
  have l1 : xsl h1' = xsl h := by rw [hh1]; rfl
  refine p_M_inSegments F9 R1 ?_
  refine v_M_out_10 F9 ?_
  refine ⟨fun q1 => ?_, fun q1 => ?_⟩
  · have e9 : (if z.sum ≤ x then (1 : Int) else 0) = 0 := if_neg (by omega)
    rw [e9] at hq
    refine v_M_out_18 F9 ?_
    refine ⟨fun q1 => ?_, fun q1 => ?_⟩
    · refine ⟨?_, ?_⟩
      · first | omega | (rw [ot 55 _ (by decide)]; omega)
      · refine ⟨?_, ?_⟩
        · first | omega | (rw [ot 55 _ (by decide)]; omega)
        · refine ⟨?_, ?_⟩
          · first | omega | (rw [ot 55 _ (by decide)]; omega)
          · refine ⟨?_, ?_⟩
            · first | omega | (rw [ot 55 _ (by decide)]; omega)
            · intro F9
              have A2 := A1.mark h0 h1
              refine hq _ F9 (S1.st (k := xpl h1' 55 x) (by rw [ot 55 _ (by decide)]; exact rw9.1) (Or.inl (Or.inr (Or.inr rfl)))) (by rw [xpl_oa (by decide), hh1, xpl_hit]) (fun k k4 k26 => by rw [xpl_oa (by decide)]; exact o53 k k26) ?_ n1 l1
              rw [if_neg (by omega)]
              exact A2.msr R1 (xpl_oa (by decide)) (xpl_oa (by decide)) (fun k => xpl_oa (by decide)) (by rw [List.length_modify]; exact zs)
    · exact absurd rfl q1
  · have e9 : (if z.sum ≤ x then (1 : Int) else 0) = 1 := if_pos (by omega)
    rw [e9] at hq
    refine v_M_out_18 F9 ?_
    refine ⟨fun q1 => ?_, fun q1 => ?_⟩
    · refine ⟨?_, ?_⟩
      · first | omega | (rw [ot 55 _ (by decide)]; omega)
      · refine ⟨?_, ?_⟩
        · first | omega | (rw [ot 55 _ (by decide)]; omega)
        · refine ⟨?_, ?_⟩
          · first | omega | (rw [ot 55 _ (by decide)]; omega)
          · refine ⟨?_, ?_⟩
            · first | omega | (rw [ot 55 _ (by decide)]; omega)
            · intro F9
              exact absurd q1 (by decide)
    · refine s_M_drop F9 A1 h0 h1 (fun h2 F2 S2 k2 A2 n2 l2 => ?_)
      have hnx := F9.nx
      refine v_M_out_28 F2 ?_
      refine ⟨?_, ?_⟩
      · exact ⟨by decide, by decide⟩
      · refine hq h2 F2 (S1.then S2 (fun c _ w => by omega)) ((k2 26 (by decide)).trans (by rw [hh1, xpl_hit])) (fun k k4 k26 => (k2 k k4).trans (o53 k k26)) ?_ (n2.trans n1) (l2.trans l1)
        rw [if_pos (by omega)]
        exact A2.msr R1 (k2 5 (by decide)) (k2 6 (by decide)) (fun k => S2.pl (by omega) (by omega) k) (by rw [List.length_eraseIdx, if_pos (by omega)]; omega)

end
