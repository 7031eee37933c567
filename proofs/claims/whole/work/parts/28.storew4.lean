/-! ===== storew4 ===== -/
section
/-- the texts, marked ones from place s to place e gone -/
def segF (f : List (Txt × Bool)) (s n : Nat) : List (Txt × Bool) := (f.drop s).take n
def mgF (f : List (Txt × Bool)) (s n : Nat) : List (Txt × Bool) := f.take s ++ ((segF f s n).filter (fun t => !t.2) ++ f.drop (s + n))
def goneF (f : List (Txt × Bool)) (s n : Nat) : Nat := ((segF f s n).filter (fun t => t.2)).length
theorem segF_succ {f : List (Txt × Bool)} {s n : Nat} {t : Txt × Bool} (h : f[s + n]? = some t) : segF f s (n + 1) = segF f s n ++ [t] := by
  unfold segF
  rw [List.take_succ, List.getElem?_drop, h]; rfl
theorem drop_at {f : List (Txt × Bool)} {k : Nat} {t : Txt × Bool} (h : f[k]? = some t) : f.drop k = t :: f.drop (k + 1) := by
  obtain ⟨a, b⟩ := List.getElem?_eq_some_iff.mp h
  rw [List.drop_eq_getElem_cons a, b]
theorem mgF_keep {f : List (Txt × Bool)} {s n : Nat} {t : Txt × Bool} (h : f[s + n]? = some t) (ht : t.2 = false) : mgF f s (n + 1) = mgF f s n := by
  unfold mgF
  rw [segF_succ h, List.filter_append, show s + (n + 1) = s + n + 1 by omega, drop_at h]
  simp [ht]
theorem goneF_keep {f : List (Txt × Bool)} {s n : Nat} {t : Txt × Bool} (h : f[s + n]? = some t) (ht : t.2 = false) : goneF f s (n + 1) = goneF f s n := by
  unfold goneF
  rw [segF_succ h, List.filter_append]
  simp [ht]
theorem erase_parts {f : List (Txt × Bool)} {s n : Nat} (hl : s + n < f.length) : (f.eraseIdx (s + n)).take s = f.take s ∧ segF (f.eraseIdx (s + n)) s n = segF f s n ∧ (f.eraseIdx (s + n)).drop (s + n) = f.drop (s + n + 1) := by
  have e : f.eraseIdx (s + n) = f.take (s + n) ++ f.drop (s + n + 1) := List.eraseIdx_eq_take_drop_succ f (s + n)
  have l1 : (f.take (s + n)).length = s + n := by rw [List.length_take]; omega
  refine ⟨?_, ?_, ?_⟩
  · rw [e, List.take_append_of_le_length (by omega), List.take_take, Nat.min_eq_left (by omega)]
  · unfold segF
    rw [e, List.drop_append_of_le_length (by omega), List.take_append_of_le_length (by rw [List.length_drop]; omega), List.drop_take, List.take_take]
    congr 1
    omega
  · rw [e, List.drop_append, List.drop_of_length_le (by omega), l1, Nat.sub_self, List.drop_zero, List.nil_append]
theorem mgF_gone {f : List (Txt × Bool)} {s n : Nat} {t : Txt × Bool} (h : f[s + n]? = some t) (ht : t.2 = true) : mgF f s (n + 1) = mgF (f.eraseIdx (s + n)) s n := by
  have hl := (List.getElem?_eq_some_iff.mp h).1
  obtain ⟨e1, e2, e3⟩ := erase_parts (f := f) (s := s) (n := n) hl
  unfold mgF
  rw [e1, e2, e3, segF_succ h, List.filter_append]
  simp [ht]
  rfl
theorem goneF_gone {f : List (Txt × Bool)} {s n : Nat} {t : Txt × Bool} (h : f[s + n]? = some t) (ht : t.2 = true) : goneF f s (n + 1) = goneF (f.eraseIdx (s + n)) s n + 1 := by
  have hl := (List.getElem?_eq_some_iff.mp h).1
  obtain ⟨e1, e2, e3⟩ := erase_parts (f := f) (s := s) (n := n) hl
  unfold goneF
  rw [e2, segF_succ h, List.filter_append]
  simp [ht]
theorem goneF_le (f : List (Txt × Bool)) (s n : Nat) : goneF f s n ≤ n := by
  unfold goneF segF
  refine Nat.le_trans (List.length_filter_le _ _) ?_
  rw [List.length_take]; omega
/-- the store after a merge of some segments -/
def mgZ (z : List Int) (first count : Nat) (f : List (Txt × Bool)) : List Int := rplS z first count ((stA z (first + count) - stA z first) - goneF f (stA z first).toNat (stA z (first + count) - stA z first).toNat)
def mgT (z : List Int) (first count : Nat) (f : List (Txt × Bool)) : List (Txt × Bool) := mgF f (stA z first).toNat (stA z (first + count) - stA z first).toNat
def mgG (z : List Int) (first count : Nat) (f : List (Txt × Bool)) : Nat := goneF f (stA z first).toNat (stA z (first + count) - stA z first).toNat
theorem stA_mono {z : List Int} (h : ∀ x ∈ z, 0 ≤ x ∧ x ≤ 60) (a c : Nat) : stA z a ≤ stA z (a + c) := by
  unfold stA
  rw [show ((a : Int)).toNat = a by omega, show ((a : Int) + c).toNat = a + c by omega]
  induction c with
  | zero => exact Int.le_refl _
  | succ c ih =>
    by_cases hk : a + c < z.length
    · have e := take_succ_sum z (a + c) hk
      have := h (z[a + c]) (List.getElem_mem hk)
      rw [List.getElem?_eq_getElem hk, Option.getD_some] at e
      rw [show a + (c + 1) = a + c + 1 by omega, e]
      omega
    · rw [List.take_of_length_le (l := z) (i := a + (c + 1)) (by omega)]
      rw [List.take_of_length_le (l := z) (i := a + c) (by omega)] at ih
      exact ih
theorem stA_all {z : List Int} {k : Nat} (h : z.length ≤ k) : stA z k = z.sum := by
  unfold stA
  rw [List.take_of_length_le (by omega)]
theorem StoreR.zmem {h : XH} {bp fp : List Int} {b : List Txt} {f : List (Txt × Bool)} {z : List Int} {m : Int} (R : StoreR h bp fp b f z m) : ∀ x ∈ z, 0 ≤ x ∧ x ≤ 60 := by
  have := szL_mem R.ok
  rwa [R.ez] at this
theorem s_Store_mergeFrom {G : XG} {d : Nat} {h : XH} {Q : XV → XH → Prop} {X : Nat → XH → Prop} {first count : Nat} {bp fp : List Int} {b : List Txt} {f : List (Txt × Bool)} {z : List Int} {m : Int} (F : xFix h) (R : StoreR h bp fp b f z m) (h1 : 1 ≤ count) (h2 : first + count ≤ z.length) (hsum : z.sum = f.length) (hm : 0 ≤ m) (hm2 : m ≤ 1000000)
    (hq : ∀ h' fp', xFix h' → xsm (STW h) h h' → xnx h' = xnx h → xsl h' = xsl h → StoreR h' bp fp' b (mgT z first count f) (mgZ z first count f) (m + 1) → Q (xI (mgG z first count f)) h') : xwp G m_Store_mergeFrom (d + 5) 0 [xR 5, xI first, xI count, xZ, xZ, xZ, xZ] [] h Q X := by
  have hnx := F.nx
  have hzm := R.zmem
  have hz := R.ez
  have g1 := stA_rng R.ok first
  have g2 := stA_rng R.ok ((first : Int) + count)
  rw [hz] at g1 g2
  have g3 := stA_mono hzm first count
  have g4 := stA_mono hzm (first + count) (z.length - (first + count))
  rw [show ((first + count : Nat) : Int) = (first : Int) + count by omega] at g4
  rw [show (first : Int) + count + ((z.length - (first + count) : Nat) : Int) = (z.length : Int) by omega, stA_all (Nat.le_refl _), hsum] at g4
  obtain ⟨lo, hlo⟩ : ∃ lo : Nat, lo = (stA z first).toNat := ⟨_, rfl⟩
  obtain ⟨N, hN⟩ : ∃ N : Nat, N = (stA z (first + count) - stA z first).toNat := ⟨_, rfl⟩
  have hlo2 : stA z first = lo := by omega
  have hbe : stA z (first + count) = lo + N := by omega
  have hf60 := R.1.2.2.2.2.2
  have hz60 := R.2.2.2.2.1
  unfold mgT mgZ mgG at hq
  rw [← hlo, ← hN, show stA z (first + count) - stA z first = N by omega] at hq
  have loop : ∀ (n : Nat) (f2 : List (Txt × Bool)) (fp2 : List Int) (h2 : XH) (g : Nat), lo + n ≤ f2.length → xFix h2 → xsm (ALC h 7) h h2 → xnx h2 = xnx h → xsl h2 = xsl h → StoreR h2 bp fp2 b f2 z m → mgF f2 lo n = mgF f lo N → g + goneF f2 lo n = goneF f lo N → xwp G m_Store_mergeFrom (d + 5) 24 [xR 5, xI first, xI count, xI lo, xI (lo + N), xI g, xI (lo + n - 1)] [] h2 Q X := by
    intro n
    induction n with
    | zero =>
      intro f2 fp2 h2' g hl F2 e2 n2 m2 R2 k1 k2
      have hg0 : goneF f2 lo 0 = 0 := rfl
      have hgN := goneF_le f lo N
      have hf2 : mgF f2 lo 0 = f2 := by unfold mgF segF; simp
      refine v_Store_mergeFrom_24 F2 ?_
      refine ⟨fun q1 => ?_, fun q1 => ?_⟩
      · refine ⟨?_, ?_⟩
        · first | exact R2.ok | exact ⟨by omega, by omega⟩
        · refine ⟨?_, ?_⟩
          · first | exact R2.ok | exact ⟨by omega, by omega⟩
          · have := s_Store_replaceSizes (G := G) (d := d + 2) (Q := fun v9 h9 => xwp G m_Store_mergeFrom (d + 5) 74 [xR 5, xZ, xZ, xZ, xZ, xI g, xZ] (xpush v9 []) h9 Q X) (X := X) (first := first) (count := count) (size := ((lo : Int) + N - lo) - g) F2 R2.ok h1 (by have := R2.2.2.2.2.1.1; omega) (by omega) (by omega) (fun h3 F3 e3 n3 m3 z1 z2 z3 z4 => ?_)
            · exact this
            · rw [R2.ez] at z1 z2
              have m5 : xpl h3 5 5 = m := by rw [z4 5 (by decide)]; exact R2.2.2.2.2.2
              refine v_Store_mergeFrom_74 F3 ?_
              refine ⟨?_, ?_⟩
              · exact ⟨by omega, by omega⟩
              · intro F9
                have hsz : ((lo : Int) + N - lo) - g = (N : Int) - goneF f lo N := by omega
                rw [hsz] at z1 z2
                have hgg : (g : Int) = goneF f lo N := by omega
                rw [hgg]
                have e3' : xsm (fun c => c = 5 ∨ c = 8) h2' (xst h3 5 5 (xpl h3 5 5 + 1)) := e3.st (by decide) (Or.inl (Or.inl rfl))
                refine hq _ fp2 F9 (((e2.mono (D := STW h) fun c _ w => Or.inr (Or.inr (Or.inr (Or.inl w)))).then e3 (fun c _ w => by rcases w with w | w; exact Or.inl w; exact Or.inr (Or.inl w))).st (by decide) (Or.inl (Or.inl rfl))) (by show xnx h3 = _; omega) (by show xsl h3 = _; omega) ?_
                have hfr : f2 = mgF f lo N := by rw [← hf2]; exact k1
                rw [← hfr]
                obtain ⟨⟨a1, a2, a3, a4, a5, a6⟩, t1, t2, t3, ⟨y1, y2, y3, y4⟩, y5⟩ := R2
                have fr : ∀ c, c = 5 ∨ c = 8 → xtg h2' c ≠ 13 ∧ xtg h2' c ≠ 110 ∧ xtg h2' c ≠ 9 ∧ xtg h2' c ≠ 101 := fun c hc => by
                  rcases hc with rfl | rfl
                  · rw [ft_5 F2]; decide
                  · rw [ft_8 F2]; decide
                have tx : ∀ p t, TxtR h2' p t → TxtR (xst h3 5 5 (xpl h3 5 5 + 1)) p t ∧ xpl (xst h3 5 5 (xpl h3 5 5 + 1)) p 5 = xpl h2' p 5 := fun p t r => by
                  have hp := e3'.pl r.1.2.1 (fun w => (fr p w).2.2.1 r.1.2.2)
                  exact ⟨r.frame e3' (fun k _ _ => hp k) (fun r9 r1 _ _ w => (fr r9 w).2.2.2 r1), hp 5⟩
                refine ⟨⟨a1.frame F2 e3' ?_, a2.frame F2 e3' ?_, a3, a4, a5, a6⟩, fun i p t w1 w2 => ?_, fun i p t w1 w2 => ?_, t3, ⟨?_, ?_, fun i hi => ?_, fun i i0 i1 => ?_⟩, ?_⟩
                · intro c hc w
                  rcases hc with hc | ⟨hc, -⟩
                  · subst hc; exact absurd w (by decide)
                  · exact (fr c w).2.1 hc
                · intro c hc w
                  rcases hc with hc | ⟨hc, -⟩
                  · subst hc; exact absurd w (by decide)
                  · exact (fr c w).2.1 hc
                · obtain ⟨v1, v2⟩ := t1 i p t w1 w2
                  obtain ⟨v3, v4⟩ := tx p t v1
                  exact ⟨v3, v4.trans v2⟩
                · obtain ⟨v1, v2⟩ := t2 i p t w1 w2
                  obtain ⟨v3, v4⟩ := tx p t.1 v1
                  exact ⟨v3, v4.trans v2⟩
                · rw [xpl_ok (by decide)]; exact z1
                · have : (rplS z first count ((N : Int) - goneF f lo N)).length ≤ z.length := by
                    unfold rplS
                    rw [List.length_append, List.length_append, List.length_take, List.length_drop]
                    split <;> simp <;> omega
                  omega
                · rw [xpl_oa (by decide)]; exact z2 i hi
                · rw [xpl_oa (by decide)]; exact z3 i i0 i1
                · rw [xpl_hit, m5]
      · refine ⟨?_, ?_⟩
        · first | exact R2.ok | exact ⟨by omega, by omega⟩
        · refine ⟨fun q2 => ?_, fun q2 => ?_⟩
          · refine ⟨?_, ?_⟩
            · first | exact R2.ok | exact ⟨by omega, by omega⟩
            · omega
          · omega
    | succ n ih =>
      intro f2 fp2 h2' g hl F2 e2 n2 m2 R2 k1 k2
      have hgl := goneF_le f lo N
      have hf2 := R2.1.2.2.2.2.2
      have hat : f2[lo + n]? = some (f2[lo + n]'(by omega)) := List.getElem?_eq_getElem (by omega)
      obtain ⟨t, ht⟩ : ∃ t, t = f2[lo + n]'(by omega) := ⟨_, rfl⟩
      rw [← ht] at hat
      have hpl : lo + n < fp2.length := by have := R2.1.2.2.2.1; omega
      have hpat : fp2[lo + n]? = some (fp2[lo + n]'hpl) := List.getElem?_eq_getElem hpl
      have hplace : (lo : Int) + ((n + 1 : Nat) : Int) - 1 = ((lo + n : Nat) : Int) := by omega
      rw [hplace]
      have s7 := R2.1.2.1.sz
      have hfat : fat h2' ((lo + n : Nat) : Int) = fp2[lo + n]'hpl := by
        unfold fat
        rw [if_pos ⟨by omega, by omega⟩]
        have := R2.1.2.1.at hpl
        rw [hpat] at this
        exact (Option.some.inj this).symm
      have hmk := (R2.2.2.1 _ _ _ hpat hat).2
      refine v_Store_mergeFrom_24 F2 ?_
      refine ⟨fun q1 => ?_, fun q1 => ?_⟩
      · refine ⟨?_, ?_⟩
        · first | exact R2.ok | exact ⟨by omega, by omega⟩
        · refine ⟨?_, ?_⟩
          · first | exact R2.ok | exact ⟨by omega, by omega⟩
          · omega
      · refine ⟨?_, ?_⟩
        · first | exact R2.ok | exact ⟨by omega, by omega⟩
        · refine ⟨fun q2 => ?_, fun q2 => ?_⟩
          · refine ⟨?_, ?_⟩
            · first | exact R2.ok | exact ⟨by omega, by omega⟩
            · rw [hfat, hmk] at q2
              have htf : t.2 = false := by
                cases w : t.2
                · rfl
                · rw [w] at q2; exact absurd q2 (by decide)
              have := ih f2 fp2 h2' g (by omega) F2 e2 n2 m2 R2 (by rw [← mgF_keep hat htf]; exact k1) (by rw [← goneF_keep hat htf]; exact k2)
              rw [show ((lo + n : Nat) : Int) + (-1) = (lo : Int) + n - 1 by omega]
              exact this
          · rw [hfat, hmk] at q2
            have htt : t.2 = true := by
              cases w : t.2
              · rw [w] at q2; exact absurd rfl q2
              · rfl
            refine s_AL_remove F2 R2.1.2.1 (by omega) (by omega) (fun h3 F3 e3 n3 m3 R3 => ?_)
            rw [show (((lo + n : Nat) : Int)).toNat = lo + n by omega] at R3
            have R3' := R2.rem7 F2 (lo + n) e3 R3
            have hg := goneF_gone hat htt
            refine v_Store_mergeFrom_51 F3 ?_
            refine ⟨?_, ?_⟩
            · exact ⟨by omega, by omega⟩
            · refine ⟨?_, ?_⟩
              · exact ⟨by omega, by omega⟩
              · have := ih (f2.eraseIdx (lo + n)) (fp2.eraseIdx (lo + n)) h3 (g + 1) (by rw [List.length_eraseIdx, if_pos (by omega)]; omega) F3 (e2.then e3 (fun c hc w => w.back e2 hc)) (by omega) (by omega) R3' (by rw [← mgF_gone hat htt]; exact k1) (by omega)
                rw [show ((lo + n : Nat) : Int) + (-1) = (lo : Int) + n - 1 by omega]
                exact this
  refine v_Store_mergeFrom_0 F ?_
  refine ⟨?_, ?_⟩
  · first | exact R.ok | exact ⟨by omega, by omega⟩
  · refine ⟨?_, ?_⟩
    · first | exact R.ok | exact ⟨by omega, by omega⟩
    · rw [hz, hlo2, hbe]
      exact loop N f fp h 0 (by omega) F (xsm.refl h) rfl rfl R rfl (by omega)

end
