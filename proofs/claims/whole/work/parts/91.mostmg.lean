/-! ===== mostmg ===== -/
section
theorem rpl_lo {z : List Int} {first count : Nat} {size : Int} (hf : first ≤ z.length) {i : Nat} (hi : i ≤ first) : ((rplS z first count size).take i).sum = (z.take i).sum := by
  unfold rplS
  rw [List.append_assoc, List.take_append_of_le_length (by rw [List.length_take]; omega), List.take_take, Nat.min_eq_left hi]
theorem take_more (z : List Int) (m j : Nat) : (z.take (m + j)).sum = (z.take m).sum + ((z.drop m).take j).sum := by
  rw [List.take_add, List.sum_append]
theorem rpl_hi0 {z : List Int} {first count : Nat} {size : Int} (hf : first ≤ z.length) (hs : ¬ 0 < size) (j : Nat) : ((rplS z first count size).take (first + j)).sum = (z.take first).sum + ((z.take (first + count + j)).sum - (z.take (first + count)).sum) := by
  unfold rplS
  have l1 : (z.take first).length = first := by rw [List.length_take]; omega
  rw [if_neg hs, List.append_nil, List.take_append, List.sum_append, List.take_of_length_le (by omega), l1, show first + j - first = j by omega]
  have := take_more z (first + count) j
  omega
theorem rpl_hi1 {z : List Int} {first count : Nat} {size : Int} (hf : first ≤ z.length) (hs : 0 < size) (j : Nat) : ((rplS z first count size).take (first + 1 + j)).sum = (z.take first).sum + size + ((z.take (first + count + j)).sum - (z.take (first + count)).sum) := by
  unfold rplS
  have l1 : (z.take first ++ [size]).length = first + 1 := by rw [List.length_append, List.length_take]; simp; omega
  rw [if_pos hs, List.take_append, List.sum_append, List.take_of_length_le (by omega), l1, show first + 1 + j - (first + 1) = j by omega, List.sum_append]
  have := take_more z (first + count) j
  simp only [List.sum_cons, List.sum_nil]
  omega
theorem mgF_zero (T : List (Txt × Bool)) (lo : Nat) : mgF T lo 0 = T := by
  unfold mgF segF
  rw [List.take_zero, List.filter_nil, List.nil_append, Nat.add_zero, List.take_append_drop]
theorem goneF_zero (T : List (Txt × Bool)) (lo : Nat) : goneF T lo 0 = 0 := rfl
/-- the segments' ends alone -/
def ENR (h : XH) (z : List Int) : Prop := z.length ≤ 60 ∧ ∀ i : Nat, i < z.length → xpl h 56 i = stA z ((i : Int) + 1)
theorem p_M_startOfE {G : XG} {d : Nat} {h : XH} {Q : XV → XH → Prop} {X : Nat → XH → Prop} {k : Int} {z : List Int} (F : xFix h) (R : ENR h z) (h0 : 0 ≤ k) (h1 : k ≤ z.length) (hq : Q (xI (stA z k)) h) : xwp G m_M_startOf (d + 1) 0 [xR 53, xI k] [] h Q X := by
  have zl := R.1
  refine v_M_startOf_0 F ?_
  refine ⟨fun q1 => ?_, fun q1 => ?_⟩
  · rw [q1] at hq
    have e : stA z 0 = 0 := rfl
    rw [e] at hq; exact hq
  · refine ⟨?_, ?_⟩
    · first | omega | exact ⟨by omega, by omega⟩
    · refine ⟨?_, ?_⟩
      · first | omega | exact ⟨by omega, by omega⟩
      · refine ⟨?_, ?_⟩
        · first | omega | exact ⟨by omega, by omega⟩
        · have e := R.2 (k - 1).toNat (by omega)
          rw [show (((k - 1).toNat : Nat) : Int) = k - 1 by omega, show k - 1 + 1 = k by omega] at e
          rw [e]; exact hq
/-- the marked texts of a run of segments go, from behind -/
theorem s_M_mergeA {G : XG} {d : Nat} {h : XH} {Q : XV → XH → Prop} {X : Nat → XH → Prop} {first last D : Int} {z : List Int} {lo : Nat} {RT : List (Txt × Bool)} (E : ENR h z) (h0 : 0 ≤ first) (h1 : first ≤ z.length) (hlo : stA z first = lo)
    (hq : ∀ h', xFix h' → xsm (fun c => c = 53 ∨ c = 55) h h' → (∀ k, k ≠ 4 → xpl h' 53 k = xpl h 53 k) → MSA h' RT → xnx h' = xnx h → xsl h' = xsl h → xwp G m_M_merge (d + 3) 12 [xR 53, xI first, xI last, xI D, xI ((lo : Int) - 1), xZ, xZ] [] h' Q X) :
    ∀ (n : Nat) (T2 : List (Txt × Bool)) (g : Int) (h2 : XH), xFix h2 → xsm (fun c => c = 53 ∨ c = 55) h h2 → (∀ k, k ≠ 4 → xpl h2 53 k = xpl h 53 k) → MSA h2 T2 → xnx h2 = xnx h → xsl h2 = xsl h → lo + n ≤ T2.length → 0 ≤ g → g + n ≤ 60 → mgF T2 lo n = RT → g + goneF T2 lo n = D → xwp G m_M_merge (d + 3) 12 [xR 53, xI first, xI last, xI g, xI ((lo : Int) + n - 1), xZ, xZ] [] h2 Q X := by
  intro n
  induction n with
  | zero =>
    intro T2 g h2 F2 S2 k2 A2 n2 l2 hl g0 g1 hR hD
    rw [mgF_zero] at hR
    rw [goneF_zero] at hD
    rw [show g = D by omega, show (lo : Int) + (0 : Nat) - 1 = (lo : Int) - 1 by omega]
    rw [hR] at A2
    exact hq h2 F2 S2 k2 A2 n2 l2
  | succ n ih =>
    intro T2 g h2 F2 S2 k2 A2 n2 l2 hl g0 g1 hR hD
    have tl := A2.2.1.2
    have E2 : ENR h2 z := ⟨E.1, fun i hi => by
      have := F2.nx
      rw [S2.pl (by omega) (by omega)]; exact E.2 i hi⟩
    have hl2 : lo + n < T2.length := by omega
    have e := A2.2.2 (lo + n) _ (List.getElem?_eq_getElem hl2)
    obtain ⟨t, ht⟩ : ∃ t, T2[lo + n]? = some t := ⟨_, List.getElem?_eq_getElem hl2⟩
    have e := A2.2.2 (lo + n) t ht
    have rw9 := A2.1.1 ((lo + n : Nat) : Int) (by omega) (by omega)
    rw [show (lo : Int) + ((n + 1 : Nat) : Int) - 1 = ((lo + n : Nat) : Int) by omega]
    refine v_M_merge_12 F2 ?_
    refine p_M_startOfE F2 E2 h0 h1 ?_
    rw [hlo]
    refine v_M_merge_19 F2 ?_
    refine ⟨fun q1 => ?_, fun q1 => ?_⟩
    · refine ⟨?_, ?_⟩
      · first | omega | exact ⟨by omega, by omega⟩
      · refine ⟨?_, ?_⟩
        · first | omega | exact ⟨by omega, by omega⟩
        · refine ⟨?_, ?_⟩
          · first | omega | exact ⟨by omega, by omega⟩
          · omega
    · refine ⟨?_, ?_⟩
      · first | omega | exact ⟨by omega, by omega⟩
      · refine ⟨?_, ?_⟩
        · first | omega | exact ⟨by omega, by omega⟩
        · refine ⟨?_, ?_⟩
          · first | omega | exact ⟨by omega, by omega⟩
          · refine ⟨?_, ?_⟩
            · first | omega | exact ⟨by omega, by omega⟩
            · refine ⟨fun q2 => ?_, fun q2 => ?_⟩
              · rw [e.1.2.2.2] at q2
                have tb := bz0 q2
                have next := ih T2 g h2 F2 S2 k2 A2 n2 l2 (by omega) g0 (by omega) (by rw [← mgF_keep ht tb]; exact hR) (by rw [← goneF_keep ht tb]; exact hD)
                rw [show (lo : Int) + n - 1 = ((lo + n : Nat) : Int) + (-1) by omega] at next
                exact next
              · rw [e.1.2.2.2] at q2
                have tb := bz1 q2
                refine s_M_drop F2 A2 (by omega) (by omega) (fun h3 F3 S3 k3 A3 n3 l3 => ?_)
                rw [show (((lo + n : Nat) : Int)).toNat = lo + n by omega] at A3
                have gg := goneF_gone ht tb
                have hnx := F2.nx
                have next := ih (T2.eraseIdx (lo + n)) (g + 1) h3 F3 (S2.then S3 (fun c _ w => by omega)) (fun k hk => (k3 k hk).trans (k2 k hk)) A3 (n3.trans n2) (l3.trans l2) (by rw [List.length_eraseIdx, if_pos (by omega)]; omega) (by omega) (by omega) (by rw [← mgF_gone ht tb]; exact hR) (by omega)
                rw [show (lo : Int) + n - 1 = ((lo + n : Nat) : Int) + (-1) by omega] at next
                refine v_M_merge_46 F3 ?_
                refine ⟨?_, ?_⟩
                · exact ⟨by omega, by omega⟩
                · refine ⟨?_, ?_⟩
                  · exact ⟨by omega, by omega⟩
                  · exact next

end
