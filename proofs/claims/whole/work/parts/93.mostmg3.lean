/-! ===== mostmg3 ===== -/
section
theorem s_M_merge {G : XG} {d : Nat} {h : XH} {Q : XV → XH → Prop} {X : Nat → XH → Prop} {a c : Nat} {m : Int} {T : List (Txt × Bool)} {z : List Int} (F : xFix h) (R : MSR h T z m) (c1 : 1 ≤ c) (hc : a + c ≤ z.length) (m0 : 0 ≤ m) (m1 : m ≤ 900000)
    (hq : ∀ h', xFix h' → xsm (fun c => c = 53 ∨ c = 55 ∨ c = 56) h h' → (∀ k, k ≠ 4 → k ≠ 5 → k ≠ 6 → xpl h' 53 k = xpl h 53 k) → MSR h' (mgT z a c T) (mgZ z a c T) (m + 1) → xnx h' = xnx h → xsl h' = xsl h → Q (xI (mgG z a c T)) h') : xwp G m_M_merge (d + 3) 0 [xR 53, xI a, xI ((a : Int) + c - 1), xZ, xZ, xZ, xZ] [] h Q X := by
  have zs := R.2.2.2.2.1
  have z1 := R.2.2.2.1
  have tl := R.2.1.2.1
  have z5 := R.2.1.2.2.1
  have zl := R.2.1.2.2.2.1
  have m6 := R.2.1.2.2.2.2
  have hnx := F.nx
  have E : ENR h z := ⟨zl, R.2.2.1⟩
  have ea := stA_nat z a
  have eb : stA z ((a : Int) + c) = (z.take (a + c)).sum := by
    have := stA_nat z (a + c)
    rwa [show ((a + c : Nat) : Int) = (a : Int) + c by omega] at this
  have more := take_more z a c
  have nn : 0 ≤ ((z.drop a).take c).sum := sum_nn (fun y hy => by have := z1 y (List.mem_of_mem_drop (List.mem_of_mem_take hy)); omega)
  have ra := stA_rng2 z1 a
  have rb := stA_rng2 z1 ((a : Int) + c)
  obtain ⟨lo, hlo⟩ : ∃ lo : Nat, lo = (stA z a).toNat := ⟨_, rfl⟩
  obtain ⟨N, hN⟩ : ∃ N : Nat, N = (stA z ((a : Int) + c) - stA z a).toNat := ⟨_, rfl⟩
  have hle := goneF_le T lo N
  have hln := goneF_len T lo N
  have hsg : (segF T lo N).length = N := by unfold segF; rw [List.length_take, List.length_drop]; omega
  unfold mgT mgG mgZ at hq
  rw [← hlo, ← hN] at hq
  obtain ⟨Dn, hDn⟩ : ∃ Dn : Nat, Dn = goneF T lo N := ⟨_, rfl⟩
  rw [← hDn] at hq hle hln
  obtain ⟨size, hsz⟩ : ∃ size : Int, size = (stA z ((a : Int) + c) - stA z a) - Dn := ⟨_, rfl⟩
  rw [← hsz] at hq
  obtain ⟨Z, hZ⟩ : ∃ Z, Z = rplS z a c size := ⟨_, rfl⟩
  rw [← hZ] at hq
  have e4 : xpl h 56 ((a : Int) + c - 1) = (lo : Int) + N := by
    have := E.2 (a + c - 1) (by omega)
    rw [show ((a + c - 1 : Nat) : Int) = (a : Int) + c - 1 by omega, show (a : Int) + c - 1 + 1 = (a : Int) + c by omega] at this
    omega
  have mlen : (mgF T lo N).length = T.length - Dn := by
    unfold mgF
    rw [List.length_append, List.length_append, List.length_take, List.length_drop]
    omega
  have spl := sum_split z (a + c)
  have Zs : Z.sum = z.sum - Dn := by
    rw [hZ]
    unfold rplS
    rw [List.sum_append, List.sum_append]
    split
    · simp only [List.sum_cons, List.sum_nil]; omega
    · simp only [List.sum_nil]; omega
  have Z1 : ∀ x ∈ Z, 1 ≤ x := fun x hx => by
    rw [hZ] at hx
    unfold rplS at hx
    rcases List.mem_append.mp hx with hx | hx
    · rcases List.mem_append.mp hx with hx | hx
      · exact z1 x (List.mem_of_mem_take hx)
      · split at hx
        · rw [List.mem_singleton] at hx; omega
        · cases hx
    · exact z1 x (List.mem_of_mem_drop hx)
  have Zn : ∀ x : Nat, stA Z x = (Z.take x).sum := fun x => stA_nat Z x
  have low : ∀ i : Nat, i < a → stA Z ((i : Int) + 1) = stA z ((i : Int) + 1) := fun i hi => by
    have e1 := stA_nat z (i + 1)
    have e2 := Zn (i + 1)
    rw [hZ, rpl_lo (by omega) (by omega)] at e2
    rw [show (((i + 1 : Nat)) : Int) = (i : Int) + 1 by omega] at e1 e2
    rw [hZ, e1, e2]
  have fin : ∀ h1 h', xFix h' → MSA h1 (mgF T lo N) → xsm (fun c => c = 53 ∨ c = 55 ∨ c = 56) h h' → (∀ c k, c ≠ 53 → c ≠ 56 → 53 ≤ c → c ≤ 62 → xpl h' c k = xpl h1 c k) → xpl h' 53 4 = xpl h1 53 4 → xpl h' 53 5 = Z.length → Z.length ≤ 60 → xpl h' 53 6 = m + 1 → (∀ i : Nat, i < Z.length → xpl h' 56 i = stA Z ((i : Int) + 1)) → MSR h' (mgF T lo N) Z (m + 1) := fun h1 h' F' A1 S' oth e4' e5' zl' e6' en => by
    obtain ⟨⟨p1, p2⟩, ⟨n1, n2⟩, tx⟩ := A1
    have r55 : ∀ k, xpl h' 55 k = xpl h1 55 k := fun k => oth 55 k (by decide) (by decide) (by decide) (by decide)
    exact ⟨⟨fun i i0 i1 => by rw [r55]; exact p1 i i0 i1, fun i j i0 i1 j0 j1 e => by rw [r55, r55] at e; exact p2 i j i0 i1 j0 j1 e⟩, ⟨e4'.trans n1, n2, e5', zl', e6'⟩, en, Z1, by omega, fun i t ht => by
      rw [r55]; exact (tx i t ht).keep (fun c k c1 c2 => oth c k (by omega) (by omega) (by omega) (by omega))⟩
  refine v_M_merge_0 F ?_
  refine ⟨?_, ?_⟩
  · first | omega | exact ⟨by rw [e4]; omega, by rw [e4]; omega⟩
  · refine ⟨?_, ?_⟩
    · first | omega | exact ⟨by rw [e4]; omega, by rw [e4]; omega⟩
    · refine ⟨?_, ?_⟩
      · first | omega | exact ⟨by rw [e4]; omega, by rw [e4]; omega⟩
      · rw [e4]
        refine s_M_mergeA (D := Dn) (lo := lo) (RT := mgF T lo N) E (by omega) (by omega) (by omega) (fun h1 F1 S1 k1 A1 n1 l1 => ?_) N T 0 h F (xsm.refl h) (fun k _ => rfl) R.a rfl rfl (by omega) (Int.le_refl _) (by omega) rfl (by rw [← hDn]; omega)
        have E1 : ENR h1 z := ⟨E.1, fun i hi => by rw [S1.pl (by omega) (by omega)]; exact E.2 i hi⟩
        have e41 : xpl h1 56 ((a : Int) + c - 1) = (lo : Int) + N := by rw [S1.pl (by omega) (by omega)]; exact e4
        refine v_M_merge_12 F1 ?_
        refine p_M_startOfE F1 E1 (by omega) (by omega) ?_
        refine v_M_merge_19 F1 ?_
        refine ⟨fun q1 => ?_, fun q1 => ?_⟩
        · refine ⟨?_, ?_⟩
          · first | omega | exact ⟨by rw [e41]; omega, by rw [e41]; omega⟩
          · refine ⟨?_, ?_⟩
            · first | omega | exact ⟨by rw [e41]; omega, by rw [e41]; omega⟩
            · refine ⟨?_, ?_⟩
              · first | omega | exact ⟨by rw [e41]; omega, by rw [e41]; omega⟩
              · rw [e41]
                refine p_M_startOfE F1 E1 (by omega) (by omega) ?_
                have h15 : xpl h1 53 5 = z.length := (k1 5 (by decide)).trans z5
                have h16 : xpl h1 53 6 = m := (k1 6 (by decide)).trans m6
                refine v_M_merge_75 F1 ?_
                refine ⟨fun q1 => ?_, fun q1 => ?_⟩
                · refine ⟨?_, ?_⟩
                  · first | omega | exact ⟨by omega, by omega⟩
                  · have s0 : ¬ 0 < size := by omega
                    have Zl : (Z.length : Int) = z.length - c := by
                      rw [hZ]; unfold rplS
                      rw [if_neg s0, List.append_nil, List.length_append, List.length_take, List.length_drop]; omega
                    have hs : ∀ k : Nat, a + c ≤ k → k < z.length → stA Z ((k : Int) - c + 1) = stA z ((k : Int) + 1) - Dn ∧ 0 ≤ stA z ((k : Int) + 1) ∧ stA z ((k : Int) + 1) ≤ 60 := fun k kk kz => by
                      have r := stA_rng2 z1 ((k : Int) + 1)
                      have e1 := stA_nat z (k + 1)
                      have e2 := Zn (k - c + 1)
                      have e3 := rpl_hi0 (z := z) (first := a) (count := c) (size := size) (by omega) s0 (k - c + 1 - a)
                      rw [show a + (k - c + 1 - a) = k - c + 1 by omega, show a + c + (k - c + 1 - a) = k + 1 by omega, ← hZ] at e3
                      rw [show (((k - c + 1 : Nat)) : Int) = (k : Int) - c + 1 by omega] at e2
                      rw [show (((k + 1 : Nat)) : Int) = (k : Int) + 1 by omega] at e1
                      omega
                    have go := s_M_mergeB (h := h1) (G := G) (d := d) (Q := Q) (X := X) (D := Dn) (m := m) (c := c) (z := z) (Z := Z) (k0 := a + c) h15 zl h16 m0 m1 (by omega) (by omega) (by omega) (by omega) Zl hs (by omega) (fun h' F' S' k' e5' e6' en n' l' => by
                      have SS := (S1.mono (D := fun c => c = 53 ∨ c = 55 ∨ c = 56) (fun c _ w => by omega)).then S' (fun c _ w => by omega)
                      have hnx1 := F1.nx
                      exact hq h' F' SS (fun k k4 k5 k6 => (k' k k5 k6).trans (k1 k k4)) (fin h1 h' F' A1 SS (fun c k y1 y2 y3 y4 => S'.pl (by omega) (by omega) k) (k' 4 (by decide) (by decide)) e5' (by omega) e6' en) (n'.trans n1) (l'.trans l1)) (z.length - (a + c)) (a + c) h1 (by omega) (Nat.le_refl _) F1 (xsm.refl h1) (fun _ => rfl) rfl rfl (fun i hi => by rw [low i (by omega)]; exact E1.2 i (by omega)) (fun i i0 i1 => E1.2 i i1)
                    rw [show ((a + c : Nat) : Int) - c = a by omega, show ((a + c : Nat) : Int) = (a : Int) + c - 1 + 1 by omega] at go
                    exact go
                · refine ⟨?_, ?_⟩
                  · first | omega | exact ⟨by omega, by omega⟩
                  · refine ⟨?_, ?_⟩
                    · first | omega | exact ⟨by omega, by omega⟩
                    · refine ⟨?_, ?_⟩
                      · first | omega | exact ⟨by omega, by omega⟩
                      · intro F9
                        have s0 : 0 < size := by omega
                        have Zl : (Z.length : Int) = z.length - ((c : Int) - 1) := by
                          rw [hZ]; unfold rplS
                          rw [if_pos s0, List.length_append, List.length_append, List.length_take, List.length_drop, List.length_singleton]; omega
                        have hs : ∀ k : Nat, a + c ≤ k → k < z.length → stA Z ((k : Int) - ((c : Int) - 1) + 1) = stA z ((k : Int) + 1) - Dn ∧ 0 ≤ stA z ((k : Int) + 1) ∧ stA z ((k : Int) + 1) ≤ 60 := fun k kk kz => by
                          have r := stA_rng2 z1 ((k : Int) + 1)
                          have e1 := stA_nat z (k + 1)
                          have e2 := Zn (k - c + 2)
                          have e3 := rpl_hi1 (z := z) (first := a) (count := c) (size := size) (by omega) s0 (k + 1 - (a + c))
                          rw [show a + 1 + (k + 1 - (a + c)) = k - c + 2 by omega, show a + c + (k + 1 - (a + c)) = k + 1 by omega, ← hZ] at e3
                          rw [show (((k - c + 2 : Nat)) : Int) = (k : Int) - ((c : Int) - 1) + 1 by omega] at e2
                          rw [show (((k + 1 : Nat)) : Int) = (k : Int) + 1 by omega] at e1
                          omega
                        have mid : stA Z ((a : Int) + 1) = (lo : Int) + N - Dn := by
                          have e2 := Zn (a + 1)
                          have e3 := rpl_hi1 (z := z) (first := a) (count := c) (size := size) (by omega) s0 0
                          rw [show a + 1 + 0 = a + 1 from rfl, show a + c + 0 = a + c from rfl, ← hZ] at e3
                          rw [show (((a + 1 : Nat)) : Int) = (a : Int) + 1 by omega] at e2
                          omega
                        have go := s_M_mergeB (h := h1) (G := G) (d := d) (Q := Q) (X := X) (D := Dn) (m := m) (c := (c : Int) - 1) (z := z) (Z := Z) (k0 := a + c) h15 zl h16 m0 m1 (by omega) (by omega) (by omega) (by omega) Zl hs (by omega) (fun h' F' S' k' e5' e6' en n' l' => by
                          have SS := (S1.mono (D := fun c => c = 53 ∨ c = 55 ∨ c = 56) (fun c _ w => by omega)).then S' (fun c _ w => by omega)
                          have hnx1 := F1.nx
                          exact hq h' F' SS (fun k k4 k5 k6 => (k' k k5 k6).trans (k1 k k4)) (fin h1 h' F' A1 SS (fun c k y1 y2 y3 y4 => S'.pl (by omega) (by omega) k) (k' 4 (by decide) (by decide)) e5' (by omega) e6' en) (n'.trans n1) (l'.trans l1)) (z.length - (a + c)) (a + c) _ (by omega) (Nat.le_refl _) F9 ((xsm.refl h1).st (by omega) (Or.inl (Or.inr rfl))) (fun _ => xpl_oa (by decide)) rfl rfl (fun i hi => by
                            by_cases w : i = a
                            · rw [w, xpl_hit, mid]
                            · rw [xpl_ok (by omega), low i (by omega)]; exact E1.2 i (by omega)) (fun i i0 i1 => by rw [xpl_ok (by omega)]; exact E1.2 i i1)
                        rw [show ((a + c : Nat) : Int) - ((c : Int) - 1) = (a : Int) + 1 by omega, show ((a + c : Nat) : Int) = (a : Int) + c - 1 + 1 by omega] at go
                        exact go
        · refine ⟨?_, ?_⟩
          · first | omega | exact ⟨by rw [e41]; omega, by rw [e41]; omega⟩
          · refine ⟨?_, ?_⟩
            · first | omega | exact ⟨by rw [e41]; omega, by rw [e41]; omega⟩
            · refine ⟨?_, ?_⟩
              · first | omega | exact ⟨by rw [e41]; omega, by rw [e41]; omega⟩
              · refine ⟨?_, ?_⟩
                · first | omega | exact ⟨by rw [e41]; omega, by rw [e41]; omega⟩
                · refine ⟨fun q2 => ?_, fun q2 => ?_⟩
                  · omega
                  · omega

end
