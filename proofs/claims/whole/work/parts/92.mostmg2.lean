/-! ===== mostmg2 ===== -/
section
/-- the ends move down -/
theorem s_M_mergeB {G : XG} {d : Nat} {h : XH} {Q : XV → XH → Prop} {X : Nat → XH → Prop} {D m c : Int} {z Z : List Int} {k0 : Nat} (h5 : xpl h 53 5 = z.length) (hz : z.length ≤ 60) (hm : xpl h 53 6 = m) (hm0 : 0 ≤ m) (hm1 : m ≤ 900000) (D0 : 0 ≤ D) (c0 : 0 ≤ c) (ck : c ≤ k0) (hk0 : k0 ≤ z.length) (hZl : (Z.length : Int) = z.length - c)
    (hs : ∀ k : Nat, k0 ≤ k → k < z.length → stA Z ((k : Int) - c + 1) = stA z ((k : Int) + 1) - D ∧ 0 ≤ stA z ((k : Int) + 1) ∧ stA z ((k : Int) + 1) ≤ 60) (hD : D ≤ 60)
    (hq : ∀ h', xFix h' → xsm (fun c => c = 53 ∨ c = 56) h h' → (∀ k, k ≠ 5 → k ≠ 6 → xpl h' 53 k = xpl h 53 k) → xpl h' 53 5 = Z.length → xpl h' 53 6 = m + 1 → (∀ i : Nat, i < Z.length → xpl h' 56 i = stA Z ((i : Int) + 1)) → xnx h' = xnx h → xsl h' = xsl h → Q (xI D) h') :
    ∀ (n k : Nat) (h2 : XH), k + n = z.length → k0 ≤ k → xFix h2 → xsm (fun c => c = 53 ∨ c = 56) h h2 → (∀ j, xpl h2 53 j = xpl h 53 j) → xnx h2 = xnx h → xsl h2 = xsl h → (∀ i : Nat, (i : Int) < (k : Int) - c → xpl h2 56 i = stA Z ((i : Int) + 1)) → (∀ i : Nat, k ≤ i → i < z.length → xpl h2 56 i = stA z ((i : Int) + 1)) → xwp G m_M_merge (d + 3) 95 [xR 53, xZ, xZ, xI D, xZ, xI ((k : Int) - c), xI k] [] h2 Q X := by
  intro n
  induction n with
  | zero =>
    intro k h2 ek kk F2 S2 k2 n2 l2 lo hi
    refine v_M_merge_95 F2 ?_
    refine ⟨fun q1 => ?_, fun q1 => ?_⟩
    · refine ⟨?_, ?_⟩
      · first | exact ⟨by rw [k2]; omega, by rw [k2]; omega⟩ | (rw [k2] at q1; omega) | omega
      · intro F9
        refine hq _ F9 ((S2.st (by decide) (Or.inl (Or.inl rfl))).st (by decide) (Or.inl (Or.inl rfl))) (fun j j5 j6 => by rw [xpl_ok j6, xpl_ok j5]; exact k2 j) (by rw [xpl_ok (by decide), xpl_hit]; omega) (by rw [xpl_hit, k2, hm]) (fun i hi => by rw [xpl_oa (by decide), xpl_oa (by decide)]; exact lo i (by omega)) n2 l2
    · refine ⟨?_, ?_⟩
      · first | exact ⟨by rw [k2]; omega, by rw [k2]; omega⟩ | (rw [k2] at q1; omega) | omega
      · refine ⟨?_, ?_⟩
        · first | exact ⟨by rw [k2]; omega, by rw [k2]; omega⟩ | (rw [k2] at q1; omega) | omega
        · refine ⟨?_, ?_⟩
          · first | exact ⟨by rw [k2]; omega, by rw [k2]; omega⟩ | (rw [k2] at q1; omega) | omega
          · refine ⟨?_, ?_⟩
            · first | exact ⟨by rw [k2]; omega, by rw [k2]; omega⟩ | (rw [k2] at q1; omega) | omega
            · refine ⟨?_, ?_⟩
              · first | exact ⟨by rw [k2]; omega, by rw [k2]; omega⟩ | (rw [k2] at q1; omega) | omega
              · intro F9
                rw [k2] at q1; omega
  | succ n ih =>
    intro k h2 ek kk F2 S2 k2 n2 l2 lo hi
    have e := hi k (Nat.le_refl _) (by omega)
    obtain ⟨s1, s2, s3⟩ := hs k kk (by omega)
    refine v_M_merge_95 F2 ?_
    refine ⟨fun q1 => ?_, fun q1 => ?_⟩
    · refine ⟨?_, ?_⟩
      · first | exact ⟨by rw [e]; omega, by rw [e]; omega⟩ | (rw [k2] at q1; omega) | omega
      · intro F9
        rw [k2] at q1; omega
    · refine ⟨?_, ?_⟩
      · first | exact ⟨by rw [e]; omega, by rw [e]; omega⟩ | (rw [k2] at q1; omega) | omega
      · refine ⟨?_, ?_⟩
        · first | exact ⟨by rw [e]; omega, by rw [e]; omega⟩ | (rw [k2] at q1; omega) | omega
        · refine ⟨?_, ?_⟩
          · first | exact ⟨by rw [e]; omega, by rw [e]; omega⟩ | (rw [k2] at q1; omega) | omega
          · refine ⟨?_, ?_⟩
            · first | exact ⟨by rw [e]; omega, by rw [e]; omega⟩ | (rw [k2] at q1; omega) | omega
            · refine ⟨?_, ?_⟩
              · first | exact ⟨by rw [e]; omega, by rw [e]; omega⟩ | (rw [k2] at q1; omega) | omega
              · intro F9
                rw [e] at F9 ⊢
                have next := ih (k + 1) _ (by omega) (by omega) F9 (S2.st (by omega) (Or.inl (Or.inr rfl))) (fun j => by rw [xpl_oa (by decide)]; exact k2 j) n2 l2 (fun i hi2 => by
                  rw [xpl_st]
                  by_cases z : (i : Int) = (k : Int) - c
                  · rw [if_pos ⟨rfl, z⟩, z, s1]
                  · rw [if_neg (fun y => z y.2)]; exact lo i (by omega)) (fun i i0 i1 => by
                  rw [xpl_ok (by omega)]; exact hi i (by omega) i1)
                rw [show (((k + 1 : Nat) : Int)) - c = (k : Int) - c + 1 by omega, show ((k + 1 : Nat) : Int) = (k : Int) + 1 by omega] at next
                exact next

end
