/-! ===== voc3 ===== -/
section
def SortV (V : List VE) : Prop := ∀ (i j : Nat) a b, i < j → V[i]? = some a → V[j]? = some b → a.1 < b.1
/-- the first place whose word isn't less -/
def lbV (V : List VE) (w : Int) : Nat := (V.takeWhile (fun e => decide (e.1 < w))).length
theorem lbV_of {V : List VE} {w : Int} {k : Nat} (hk : k ≤ V.length) (h1 : ∀ (i : Nat) e, V[i]? = some e → i < k → e.1 < w) (h2 : ∀ (i : Nat) e, V[i]? = some e → k ≤ i → ¬ e.1 < w) : lbV V w = k := by
  induction V generalizing k with
  | nil => simp at hk; subst hk; rfl
  | cons a V ih =>
    unfold lbV
    cases k with
    | zero =>
      have := h2 0 a (by simp) (by omega)
      rw [List.takeWhile_cons_of_neg (by simpa using this)]; rfl
    | succ k =>
      have := h1 0 a (by simp) (by omega)
      rw [List.takeWhile_cons_of_pos (by simpa using this), List.length_cons]
      have := ih (k := k) (by simpa using hk) (fun i e he hi => h1 (i + 1) e (by simpa using he) (by omega)) (fun i e he hi => h2 (i + 1) e (by simpa using he) (by omega))
      unfold lbV at this
      rw [this]
theorem s_Voc_placeFor {G : XG} {d : Nat} {h : XH} {Q : XV → XH → Prop} {X : Nat → XH → Prop} {w : Int} {V : List VE} (F : xFix h) (R : VocR h V) (S : SortV V) (hl : V.length ≤ 20000)
    (hq : ∀ k : Nat, k = lbV V w → k ≤ V.length → (∀ (i : Nat) e, V[i]? = some e → i < k → e.1 < w) → (∀ (i : Nat) e, V[i]? = some e → k ≤ i → ¬ e.1 < w) → Q (xI k) h) : xwp G m_Vocabulary_placeFor (d + 2) 0 [xR 12, xL w, xZ, xZ, xZ, xZ, xZ] [] h Q X := by
  obtain ⟨p0, hsz, hV⟩ := R
  obtain ⟨-, -, c1, c2, c3, ⟨d1, d2⟩, e, f⟩ := id p0
  have hat : ∀ (i : Nat), i < V.length → ∃ en, V[i]? = some en ∧ vwa h i = en.1 := fun i hi => by
    obtain ⟨en, he⟩ : ∃ en, V[i]? = some en := ⟨_, List.getElem?_eq_getElem hi⟩
    refine ⟨en, he, ?_⟩
    unfold vwa
    rw [if_pos (by omega)]
    exact (hV i en he).1
  have fin : ∀ k : Nat, k ≤ V.length → (∀ (i : Nat) e, V[i]? = some e → i < k → e.1 < w) → (∀ (i : Nat) e, V[i]? = some e → k ≤ i → ¬ e.1 < w) → Q (xI k) h := fun k h1 h2 h3 => hq k (lbV_of h1 h2 h3).symm h1 h2 h3
  have loop : ∀ (n lo hi s : Nat), s + n = 32 → lo ≤ hi → hi ≤ V.length → (hi - lo) * 2 ^ s ≤ V.length → (∀ (i : Nat) e, V[i]? = some e → i < lo → e.1 < w) → (∀ (i : Nat) e, V[i]? = some e → hi ≤ i → ¬ e.1 < w) → xwp G m_Vocabulary_placeFor (d + 2) 11 [xR 12, xL w, xZ, xI lo, xI hi, xI s, xZ] [] h Q X := by
    intro n
    induction n with
    | zero =>
      intro lo hi s s1 l1 l2 l3 h1 h2
      have hs : s = 32 := s1
      subst hs
      have : lo = hi := by
        have : (hi - lo) * 2 ^ 32 ≤ 20000 := Nat.le_trans l3 hl
        omega
      subst this
      refine v_Vocabulary_placeFor_11 F p0 c1.1 c2.1 c3.1 e.1 e.2 f.1 f.2 ?_
      refine ⟨fun q1 => ?_, fun q1 => ?_⟩
      · exact fin lo l2 h1 h2
      · refine ⟨fun q2 => ?_, fun q2 => ?_⟩
        · exact fin lo l2 h1 h2
        · refine ⟨?_, ?_⟩
          · exact ⟨by omega, by omega⟩
          · refine ⟨fun q3 => ?_, fun q3 => ?_⟩
            · omega
            · refine ⟨?_, ?_⟩
              · exact ⟨by omega, by omega⟩
              · omega
    | succ n ih =>
      intro lo hi s s1 l1 l2 l3 h1 h2
      have g := xtdiv_rng (a := (lo : Int) + hi) (b := 2) (by omega) (by decide)
      obtain ⟨md, hmd⟩ : ∃ md : Nat, md = ((lo : Int) + hi).tdiv 2 := ⟨(((lo : Int) + hi).tdiv 2).toNat, by omega⟩
      rw [← hmd] at g
      refine v_Vocabulary_placeFor_11 F p0 c1.1 c2.1 c3.1 e.1 e.2 f.1 f.2 ?_
      refine ⟨fun q1 => ?_, fun q1 => ?_⟩
      · omega
      · refine ⟨fun q2 => ?_, fun q2 => ?_⟩
        · have : lo = hi := by omega
          subst this
          exact fin lo l2 h1 h2
        · refine ⟨?_, ?_⟩
          · first | exact ⟨by omega, by omega⟩ | (rw [← hmd]; exact ⟨by omega, by omega⟩)
          · refine ⟨fun q3 => ?_, fun q3 => ?_⟩
            · rw [← hmd] at q3 ⊢
              obtain ⟨en, he1, he2⟩ := hat md (by omega)
              rw [he2] at q3
              refine ih lo md (s + 1) (by omega) (by omega) (by omega) ?_ h1 (fun i e' he hi2 => ?_)
              · have : (md - lo) * 2 ^ (s + 1) ≤ (hi - lo) * 2 ^ s := by
                  rw [Nat.pow_succ, Nat.mul_comm (2 ^ s) 2, ← Nat.mul_assoc]
                  exact Nat.mul_le_mul_right _ (by omega)
                omega
              · by_cases z : md = i
                · subst z
                  rw [he1] at he
                  cases he
                  omega
                · have := S md i en e' (by omega) he1 he
                  omega
            · refine ⟨?_, ?_⟩
              · first | exact ⟨by omega, by omega⟩ | (rw [← hmd]; exact ⟨by omega, by omega⟩)
              · rw [← hmd] at q3 ⊢
                obtain ⟨en, he1, he2⟩ := hat md (by omega)
                rw [he2] at q3
                refine ih (md + 1) hi (s + 1) (by omega) (by omega) (by omega) ?_ (fun i e' he hi2 => ?_) h2
                · have : (hi - (md + 1)) * 2 ^ (s + 1) ≤ (hi - lo) * 2 ^ s := by
                    rw [Nat.pow_succ, Nat.mul_comm (2 ^ s) 2, ← Nat.mul_assoc]
                    exact Nat.mul_le_mul_right _ (by omega)
                  omega
                · by_cases z : md = i
                  · subst z
                    rw [he1] at he
                    cases he
                    omega
                  · have := S i md e' en (by omega) he he1
                    omega
  refine v_Vocabulary_placeFor_0 F ?_
  rw [hsz]
  exact loop 32 0 V.length 0 (by decide) (by omega) (Nat.le_refl _) (by simp) (fun i e he hi => absurd hi (Nat.not_lt_zero i)) (fun i e he hi => by have := (List.getElem?_eq_some_iff.mp he).1; omega)
def insV (V : List VE) (w t : Int) : List VE := V.take (lbV V w) ++ (w, 1, t) :: V.drop (lbV V w)
def noteV (V : List VE) (w t : Int) : List VE := match V[lbV V w]? with
  | some e => if e.1 = w then (if e.2.2 = t then V else V.set (lbV V w) (w, e.2.1 + 1, t)) else insV V w t
  | none => insV V w t
theorem lbV_le (V : List VE) (w : Int) : lbV V w ≤ V.length := (List.takeWhile_sublist _).length_le
theorem insV_at {V : List VE} {w t : Int} {k : Nat} (hk : k = lbV V w) (i : Nat) : (insV V w t)[i]? = if i < k then V[i]? else if i = k then some (w, 1, t) else V[i - 1]? := by
  have hl := lbV_le V w
  unfold insV
  rw [← hk] at *
  have h1 : (V.take k).length = k := by rw [List.length_take]; omega
  by_cases z : i < k
  · rw [if_pos z, List.getElem?_append_left (by omega), List.getElem?_take, if_pos z]
  · rw [if_neg z, List.getElem?_append_right (by omega), h1]
    by_cases y : i = k
    · subst y
      rw [if_pos rfl, Nat.sub_self]; rfl
    · rw [if_neg y, show i - k = (i - k - 1) + 1 by omega, List.getElem?_cons_succ, List.getElem?_drop]
      congr 1
      omega
theorem insV_len (V : List VE) (w t : Int) : (insV V w t).length = V.length + 1 := by
  have := lbV_le V w
  unfold insV
  rw [List.length_append, List.length_cons, List.length_take, List.length_drop]; omega
theorem noteV_len (V : List VE) (w t : Int) : V.length ≤ (noteV V w t).length ∧ (noteV V w t).length ≤ V.length + 1 := by
  unfold noteV
  split
  · split
    · split
      · omega
      · rw [List.length_set]; omega
    · rw [insV_len]; omega
  · rw [insV_len]; omega
theorem SortV.lb {V : List VE} (S : SortV V) (w : Int) : (∀ (i : Nat) e, V[i]? = some e → i < lbV V w → e.1 < w) ∧ (∀ (i : Nat) e, V[i]? = some e → lbV V w ≤ i → ¬ e.1 < w) := by
  induction V with
  | nil => exact ⟨fun i e he => by simp at he, fun i e he => by simp at he⟩
  | cons a V ih =>
    have S2 : SortV V := fun i j x y hij hx hy => S (i + 1) (j + 1) x y (by omega) (by simpa using hx) (by simpa using hy)
    obtain ⟨i1, i2⟩ := ih S2
    by_cases ha : a.1 < w
    · have e : lbV (a :: V) w = lbV V w + 1 := by unfold lbV; rw [List.takeWhile_cons_of_pos (by simpa using ha)]; rfl
      rw [e]
      refine ⟨fun i x hx hi => ?_, fun i x hx hi => ?_⟩
      · cases i with
        | zero => simp at hx; subst hx; exact ha
        | succ i => exact i1 i x (by simpa using hx) (by omega)
      · cases i with
        | zero => omega
        | succ i => exact i2 i x (by simpa using hx) (by omega)
    · have e : lbV (a :: V) w = 0 := by unfold lbV; rw [List.takeWhile_cons_of_neg (by simpa using ha)]; rfl
      rw [e]
      refine ⟨fun i x hx hi => absurd hi (Nat.not_lt_zero i), fun i x hx hi => ?_⟩
      cases i with
      | zero => simp at hx; subst hx; exact ha
      | succ i =>
        have := S 0 (i + 1) a x (by omega) (by simp) hx
        omega
theorem SortV.note {V : List VE} (S : SortV V) (w t : Int) : SortV (noteV V w t) := by
  obtain ⟨b1, b2⟩ := S.lb w
  have hins : (∀ e, V[lbV V w]? = some e → e.1 ≠ w) → SortV (insV V w t) := by
    intro hne i j x y hij hx hy
    rw [insV_at rfl] at hx hy
    have b3 : ∀ (i : Nat) e, V[i]? = some e → lbV V w ≤ i → w < e.1 := fun i e he hi => by
      have h1 := b2 i e he hi
      by_cases z : i = lbV V w
      · subst z; have := hne e he; omega
      · obtain ⟨e0, he0⟩ : ∃ e0, V[lbV V w]? = some e0 := ⟨_, List.getElem?_eq_getElem (by have := (List.getElem?_eq_some_iff.mp he).1; omega)⟩
        have h2 := b2 _ e0 he0 (Nat.le_refl _)
        have h3 := hne e0 he0
        have h4 := S _ _ e0 e (by omega) he0 he
        omega
    by_cases z1 : i < lbV V w
    · rw [if_pos z1] at hx
      by_cases z2 : j < lbV V w
      · rw [if_pos z2] at hy; exact S i j x y hij hx hy
      · rw [if_neg z2] at hy
        by_cases z3 : j = lbV V w
        · rw [if_pos z3] at hy; cases hy; exact b1 i x hx z1
        · rw [if_neg z3] at hy
          have := b1 i x hx z1
          have := b3 _ y hy (by omega)
          omega
    · rw [if_neg z1] at hx
      rw [if_neg (by omega), if_neg (by omega)] at hy
      have h4 := b3 _ y hy (by omega)
      by_cases z2 : i = lbV V w
      · rw [if_pos z2] at hx; cases hx; exact h4
      · rw [if_neg z2] at hx; exact S _ _ x y (by omega) hx hy
  unfold noteV
  split
  · rename_i e0 he0
    split
    · rename_i hw
      split
      · exact S
      · intro i j x y hij hx hy
        rw [List.getElem?_set] at hx hy
        have fst : ∀ (i : Nat) x, (if lbV V w = i then if lbV V w < V.length then some ((w, e0.2.1 + 1, t) : VE) else none else V[i]?) = some x → ∃ x', V[i]? = some x' ∧ x'.1 = x.1 := fun i x hx => by
          split at hx
          · rename_i z
            subst z
            split at hx
            · cases hx; exact ⟨e0, he0, hw⟩
            · cases hx
          · exact ⟨x, hx, rfl⟩
        obtain ⟨x', hx1, hx2⟩ := fst i x hx
        obtain ⟨y', hy1, hy2⟩ := fst j y hy
        rw [← hx2, ← hy2]
        exact S i j x' y' hij hx1 hy1
    · rename_i hw
      exact hins (fun e he => by rw [he0] at he; cases he; exact hw)
  · rename_i hn
    exact hins (fun e he => by rw [hn] at he; cases he)
/-- counts stay small -/
def CntV (V : List VE) (n : Int) : Prop := ∀ e ∈ V, 1 ≤ e.2.1 ∧ e.2.1 ≤ n
theorem CntV.note {V : List VE} {n : Int} (C : CntV V n) (h : 0 ≤ n) (w t : Int) : CntV (noteV V w t) (n + 1) := by
  have hins : CntV (insV V w t) (n + 1) := by
    intro e he
    unfold insV at he
    rcases List.mem_append.mp he with he | he
    · have := C e (List.mem_of_mem_take he); omega
    · rcases List.mem_cons.mp he with rfl | he
      · show 1 ≤ (1 : Int) ∧ (1 : Int) ≤ n + 1; omega
      · have := C e (List.mem_of_mem_drop he); omega
  unfold noteV
  split
  · rename_i e0 he0
    have h0 := C e0 (List.mem_of_getElem? he0)
    split
    · split
      · intro e he; have := C e he; omega
      · intro e he
        rcases List.mem_or_eq_of_mem_set he with he | rfl
        · have := C e he; omega
        · show 1 ≤ e0.2.1 + 1 ∧ e0.2.1 + 1 ≤ n + 1; omega
    · exact hins
  · exact hins
theorem s_Voc_note {G : XG} {d : Nat} {h : XH} {Q : XV → XH → Prop} {X : Nat → XH → Prop} {w t : Int} {V : List VE} {n : Int} (F : xFix h) (R : VocR h V) (S : SortV V) (C : CntV V n) (hn : 0 ≤ n) (hn2 : n ≤ 1000000) (hl : V.length ≤ 16000) (hr : VOroom h)
    (hq : ∀ h', xFix h' → xsm (VOW h) h h' → VOB h h' → VocR h' (noteV V w t) → Q xN h') : xwp G m_Vocabulary_note (d + 4) 0 [xR 12, xL w, xZ, xI t, xZ] [] h Q X := by
  have R0 := R
  obtain ⟨p0, hsz, hV⟩ := R
  obtain ⟨n1, n2, n3, n4, n5, n6⟩ := p0.ne
  obtain ⟨w1, w2, w3⟩ := p0.w0
  obtain ⟨-, -, c1, c2, c3, ⟨d1, d2⟩, e, f⟩ := id p0
  have insert : ∀ k : Nat, k = lbV V w → k ≤ V.length → noteV V w t = insV V w t → xwp G m_Vocabulary_makeRoomAt (d + 3) 0 [xR 12, xI k] [] h (fun v9 h9 => xwp G m_Vocabulary_note (d + 4) 33 [xR 12, xL w, xZ, xI t, xI k] (xpush v9 []) h9 Q X) X := by
    intro k hk hkl hno
    refine s_Voc_makeRoomAt F R0 (by omega) (by omega) hl hr (fun h1 F1 e1 b1 v1 z1 y1 => ?_)
    obtain ⟨m1, m2, m3, m4, m5, m6⟩ := v1.ne
    obtain ⟨u1, u2, u3⟩ := v1.w0
    obtain ⟨-, -, g1, g2, g3, ⟨k1, k2⟩, l, r⟩ := id v1
    have ve : ∀ a, VOW h1 a → VOW h a ∨ xnx h ≤ a := fun a w => by
      by_cases z : a < xnx h
      · exact Or.inl (w.back e1 z)
      · exact Or.inr (by omega)
    refine v_Vocabulary_note_33 F1 v1 g1.1 g2.1 g3.1 l.1 l.2 r.1 r.2 (by omega) (by omega) ?_
    intro F9
    obtain ⟨H, hH⟩ : ∃ H, H = xst (xst (xst h1 (xpl h1 12 0) k w) (xpl h1 12 1) k 1) (xpl h1 12 2) k t := ⟨_, rfl⟩
    have eH : xsm (VOW h) h H := by rw [hH]; exact (((e1.st (by omega) (ve _ u1)).st (by omega) (ve _ u2)).st (by omega) (ve _ u3))
    rw [← hH] at F9 ⊢
    have H12 : ∀ j, xpl H 12 j = xpl h1 12 j := fun j => by rw [hH, xpl_oa m6.symm, xpl_oa m5.symm, xpl_oa m4.symm]
    have H0 : ∀ j, xpl H (xpl h1 12 0) j = if j = k then w else xpl h1 (xpl h1 12 0) j := fun j => by
      rw [hH, xpl_oa m2, xpl_oa m1, xpl_st]
      by_cases z : j = k
      · rw [if_pos ⟨rfl, z⟩, if_pos z]
      · rw [if_neg (fun y => z y.2), if_neg z]
    have H1 : ∀ j, xpl H (xpl h1 12 1) j = if j = k then 1 else xpl h1 (xpl h1 12 1) j := fun j => by
      rw [hH, xpl_oa m3, xpl_st, xpl_oa m1.symm]
      by_cases z : j = k
      · rw [if_pos ⟨rfl, z⟩, if_pos z]
      · rw [if_neg (fun y => z y.2), if_neg z]
    have H2 : ∀ j, xpl H (xpl h1 12 2) j = if j = k then t else xpl h1 (xpl h1 12 2) j := fun j => by
      rw [hH, xpl_st, xpl_oa m3.symm, xpl_oa m2.symm]
      by_cases z : j = k
      · rw [if_pos ⟨rfl, z⟩, if_pos z]
      · rw [if_neg (fun y => z y.2), if_neg z]
    have hvl : vlen H = vlen h1 := by unfold vlen; rw [H12]; rw [hH]; rfl
    have vH : vok H := v1.keep (by rw [hH]; exact Int.le_refl _) (fun j _ => H12 j) (fun j hj => by
      rcases hj with rfl | rfl | rfl
      · exact ⟨by rw [hH]; rfl, by rw [hH]; rfl, by rw [H0, if_neg (by omega)]⟩
      · exact ⟨by rw [hH]; rfl, by rw [hH]; rfl, by rw [H1, if_neg (by omega)]⟩
      · exact ⟨by rw [hH]; rfl, by rw [hH]; rfl, by rw [H2, if_neg (by omega)]⟩) (by rw [H12]; exact l)
    refine hq H F9 eH ?_ ⟨vH, ?_, fun i en hi => ?_⟩
    · obtain ⟨b1, b2, b3⟩ := b1
      refine ⟨?_, ?_, ?_⟩
      · rw [hvl, hH]; exact b1
      · rw [hvl, hH]; exact b2
      · rw [hvl]; exact b3
    · rw [H12, z1, hno, insV_len]; rfl
    · rw [hno, insV_at hk] at hi
      rw [H12, H12, H12, H0, H1, H2]
      by_cases z : i < k
      · rw [if_pos z] at hi
        have := y1 i en hi
        unfold ins9 at this
        rw [if_pos (by omega)] at this
        rw [if_neg (by omega), if_neg (by omega), if_neg (by omega)]
        exact this
      · rw [if_neg z] at hi
        by_cases y : i = k
        · rw [if_pos y] at hi
          cases hi
          rw [if_pos (by omega), if_pos (by omega), if_pos (by omega)]
          exact ⟨rfl, rfl, rfl⟩
        · rw [if_neg y] at hi
          have := y1 (i - 1) en hi
          unfold ins9 at this
          rw [if_neg (by omega), show ((i - 1 : Nat) : Int) + 1 = i by omega] at this
          rw [if_neg (by omega), if_neg (by omega), if_neg (by omega)]
          exact this
  refine v_Vocabulary_note_0 F ?_
  refine s_Voc_placeFor F R0 S (by omega) (fun k hk hkl h1 h2 => ?_)
  have hvk : ∀ en, V[k]? = some en → vwa h k = en.1 := fun en he => by
    unfold vwa
    rw [if_pos (by have := (List.getElem?_eq_some_iff.mp he).1; omega)]
    exact (hV k en he).1
  refine v_Vocabulary_note_5 F p0 c1.1 c2.1 c3.1 e.1 e.2 f.1 f.2 (by omega) (by omega) ?_
  refine ⟨fun q1 => ?_, fun q1 => ?_⟩
  · refine insert k hk hkl ?_
    unfold noteV
    rw [← hk, List.getElem?_eq_none (by omega)]
  · refine ⟨fun q2 => ?_, fun q2 => ?_⟩
    · refine ⟨fun q3 => ?_, fun q3 => ?_⟩
      · have hkl2 : k < V.length := by omega
        have he : V[k]? = some V[k] := List.getElem?_eq_getElem hkl2
        rw [hvk _ he] at q2
        obtain ⟨v1, v2, v3⟩ := hV k _ he
        rw [v3] at q3
        have hno : noteV V w t = V := by
          unfold noteV
          rw [← hk, he]
          show (if _ then _ else _) = _
          rw [if_pos q2, if_pos q3]
        exact hq h F (xsm.refl h) (VOB.refl h) (by rw [hno]; exact R0)
      · refine ⟨?_, ?_⟩
        · have hkl2 : k < V.length := by omega
          have he : V[k]? = some V[k] := List.getElem?_eq_getElem hkl2
          have := C _ (List.getElem_mem hkl2)
          rw [(hV k _ he).2.1]
          exact ⟨by omega, by omega⟩
        · intro F9
          have hkl2 : k < V.length := by omega
          have he : V[k]? = some V[k] := List.getElem?_eq_getElem hkl2
          rw [hvk _ he] at q2
          obtain ⟨v1, v2, v3⟩ := hV k _ he
          rw [v3] at q3
          rw [v2] at F9 ⊢
          have hno : noteV V w t = V.set k (w, V[k].2.1 + 1, t) := by
            unfold noteV
            rw [← hk, he]
            show (if _ then _ else _) = _
            rw [if_pos q2, if_neg q3]
          obtain ⟨H, hH⟩ : ∃ H, H = xst (xst h (xpl h 12 1) k (V[k].2.1 + 1)) (xpl h 12 2) k t := ⟨_, rfl⟩
          have eH : xsm (VOW h) h H := by rw [hH]; exact ((xsm.refl h).st (by omega) (Or.inl w2)).st (by omega) (Or.inl w3)
          rw [← hH] at F9 ⊢
          have H12 : ∀ j, xpl H 12 j = xpl h 12 j := fun j => by rw [hH, xpl_oa n6.symm, xpl_oa n5.symm]
          have H0 : ∀ j, xpl H (xpl h 12 0) j = xpl h (xpl h 12 0) j := fun j => by rw [hH, xpl_oa n2, xpl_oa n1]
          have H1 : ∀ j, xpl H (xpl h 12 1) j = if j = k then V[k].2.1 + 1 else xpl h (xpl h 12 1) j := fun j => by
            rw [hH, xpl_oa n3, xpl_st]
            by_cases z : j = k
            · rw [if_pos ⟨rfl, z⟩, if_pos z]
            · rw [if_neg (fun y => z y.2), if_neg z]
          have H2 : ∀ j, xpl H (xpl h 12 2) j = if j = k then t else xpl h (xpl h 12 2) j := fun j => by
            rw [hH, xpl_st, xpl_oa n3.symm]
            by_cases z : j = k
            · rw [if_pos ⟨rfl, z⟩, if_pos z]
            · rw [if_neg (fun y => z y.2), if_neg z]
          have hvl : vlen H = vlen h := by unfold vlen; rw [H12]; rw [hH]; rfl
          have vH : vok H := p0.keep (by rw [hH]; exact Int.le_refl _) (fun j _ => H12 j) (fun j hj => by
            rcases hj with rfl | rfl | rfl
            · exact ⟨by rw [hH]; rfl, by rw [hH]; rfl, by rw [H0]⟩
            · exact ⟨by rw [hH]; rfl, by rw [hH]; rfl, by rw [H1, if_neg (by omega)]⟩
            · exact ⟨by rw [hH]; rfl, by rw [hH]; rfl, by rw [H2, if_neg (by omega)]⟩) (by rw [H12]; exact e)
          refine hq H F9 eH ⟨by rw [hvl, hH]; exact Int.le_refl _, by rw [hvl, hH]; exact Int.le_refl _, by rw [hvl]; exact Int.le_refl _⟩ ⟨vH, by rw [H12, hsz, hno, List.length_set], fun i en hi => ?_⟩
          rw [hno, List.getElem?_set] at hi
          rw [H12, H12, H12, H0, H1, H2]
          by_cases z : k = i
          · subst z
            rw [if_pos rfl, if_pos hkl2] at hi
            cases hi
            rw [if_pos rfl, if_pos rfl]
            exact ⟨v1.trans q2, rfl, rfl⟩
          · rw [if_neg z] at hi
            rw [if_neg (by omega), if_neg (by omega)]
            exact hV i en hi
    · have hkl2 : k < V.length := by omega
      have he : V[k]? = some V[k] := List.getElem?_eq_getElem hkl2
      rw [hvk _ he] at q2
      refine insert k hk hkl ?_
      unfold noteV
      rw [← hk, he]
      show (if _ then _ else _) = _
      rw [if_neg q2]
/-- the words of a row noted -/
def noteRowV (V : List VE) (ws : List Int) (t : Int) : List VE := ws.foldl (fun V w => if w = -1 then V else noteV V w t) V
theorem noteRowV_len (ws : List Int) (t : Int) : ∀ V : List VE, (noteRowV V ws t).length ≤ V.length + ws.length := by
  induction ws with
  | nil => intro V; exact Nat.le_refl _
  | cons w ws ih =>
    intro V
    have h1 := ih (if w = -1 then V else noteV V w t)
    have h2 := noteV_len V w t
    show (noteRowV _ ws t).length ≤ _
    rw [List.length_cons]
    split at h1 <;> rename_i z <;> simp only [z, if_true, if_false] <;> omega
theorem s_Voc_noteRow {G : XG} {d : Nat} {h : XH} {Q : XV → XH → Prop} {X : Nat → XH → Prop} {r t : Int} {ws : List Int} {V : List VE} {n : Int} (F : xFix h) (R : VocR h V) (S : SortV V) (C : CntV V n) (hn : 0 ≤ n) (hn2 : n + ws.length ≤ 1000000) (hl : V.length + ws.length ≤ 16000) (hr : VOroom h) (hrow : RowOK h r ws)
    (hq : ∀ h', xFix h' → xsm (VOW h) h h' → VOB h h' → VocR h' (noteRowV V ws t) → SortV (noteRowV V ws t) → CntV (noteRowV V ws t) (n + ws.length) → Q xN h') : xwp G m_Vocabulary_noteRow (d + 5) 0 [xR 12, xR r, xI t, xZ] [] h Q X := by
  have hwl := hrow.2.2.2.2
  have loop : ∀ (m : Nat) (i : Nat) (V2 : List VE) (h2 : XH) (n2 : Int), i + m = ws.length → xFix h2 → xsm (VOW h) h h2 → VOB h h2 → VocR h2 V2 → SortV V2 → CntV V2 n2 → 0 ≤ n2 → n2 + m ≤ n + ws.length → V2.length + m ≤ 16000 → noteRowV V2 (ws.drop i) t = noteRowV V ws t → xwp G m_Vocabulary_noteRow (d + 5) 2 [xR 12, xR r, xI t, xI i] [] h2 Q X := by
    intro m
    induction m with
    | zero =>
      intro i V2 h2 n2 i1 F2 e2 b2 R2 S2 C2 k0 k1 k2 hv
      have hrow2 := hrow.frame e2 (by
        intro a1 a2 _ w
        rcases w with w | ⟨w, w2⟩ | ⟨w, -⟩ | ⟨w, -⟩
        · rw [w, ft_12 F] at a1
          cases a1
        · rw [a2] at w2
          cases w2
        · rw [a1] at w
          cases w
        · rw [a1] at w
          cases w)
      have hi : i = ws.length := i1
      have hlen := hrow2.2.2.2.1.2.1
      rw [hi, List.drop_length] at hv
      have hv' : V2 = noteRowV V ws t := hv
      subst hv'
      have q := hq h2 F2 e2 b2 R2 S2 (fun e he => by have := C2 e he; omega)
      refine v_Vocabulary_noteRow_2 F2 ?_
      refine ⟨?_, ?_⟩
      · first | exact hrow2.2.2.2.1.1 | omega
      · refine ⟨fun q1 => ?_, fun q1 => ?_⟩
        · exact q
        · refine ⟨?_, ?_⟩
          · first | exact hrow2.2.2.2.1.1 | omega
          · refine ⟨fun q2 => ?_, fun q2 => ?_⟩
            · omega
            · omega
    | succ m ih =>
      intro i V2 h2 n2 i1 F2 e2 b2 R2 S2 C2 k0 k1 k2 hv
      have hrow2 := hrow.frame e2 (by
        intro a1 a2 _ w
        rcases w with w | ⟨w, w2⟩ | ⟨w, -⟩ | ⟨w, -⟩
        · rw [w, ft_12 F] at a1
          cases a1
        · rw [a2] at w2
          cases w2
        · rw [a1] at w
          cases w
        · rw [a1] at w
          cases w)
      have hlen := hrow2.2.2.2.1.2.1
      have hat := hrow2.2.2.2.1.2.2 i (by omega)
      have hdr : ws.drop i = xpl h2 r i :: ws.drop (i + 1) := by
        obtain ⟨a1, a2⟩ := List.getElem?_eq_some_iff.mp hat
        rw [List.drop_eq_getElem_cons a1, a2]
      rw [hdr] at hv
      have hv2 : noteRowV (if xpl h2 r i = -1 then V2 else noteV V2 (xpl h2 r i) t) (ws.drop (i + 1)) t = noteRowV V ws t := hv
      refine v_Vocabulary_noteRow_2 F2 ?_
      refine ⟨?_, ?_⟩
      · first | exact hrow2.2.2.2.1.1 | omega
      · refine ⟨fun q1 => ?_, fun q1 => ?_⟩
        · omega
        · refine ⟨?_, ?_⟩
          · first | exact hrow2.2.2.2.1.1 | omega
          · refine ⟨fun q2 => ?_, fun q2 => ?_⟩
            · rw [if_pos q2] at hv2
              refine v_Vocabulary_noteRow_26 F2 ?_
              refine ⟨?_, ?_⟩
              · exact ⟨by omega, by omega⟩
              · exact ih (i + 1) V2 h2 n2 (by omega) F2 e2 b2 R2 S2 C2 k0 (by omega) (by omega) hv2
            · rw [if_neg q2] at hv2
              have hln := noteV_len V2 (xpl h2 r i) t
              refine s_Voc_note F2 R2 S2 C2 k0 (by omega) (by omega) (hr.of b2) (fun h3 F3 e3 b3 R3 => ?_)
              refine v_Vocabulary_noteRow_26 F3 ?_
              refine ⟨?_, ?_⟩
              · exact ⟨by omega, by omega⟩
              · exact ih (i + 1) _ h3 (n2 + 1) (by omega) F3 (e2.then e3 (fun c hc w => w.back e2 hc)) (b2.trans b3) R3 (S2.note _ _) (C2.note k0 _ _) (by omega) (by omega) (by omega) hv2
  refine v_Vocabulary_noteRow_0 F ?_
  exact loop ws.length 0 V h n (by omega) F (xsm.refl h) (VOB.refl h) R S C hn (by omega) hl rfl

end
