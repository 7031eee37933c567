/-! ===== nepure3 ===== -/
section
/-! near words: numbers of words in a phrase -/
theorem ixB_iff : ∀ (l : List (Int × Int)) (w : Int) (k j : Nat), ixB l w k = ((k + j : Nat) : Int) ↔ ∃ v, l[j]? = some v ∧ v.1 = w ∧ ∀ (i : Nat) (u : Int × Int), i < j → l[i]? = some u → u.1 ≠ w
  | [], w, k, j => by
    constructor
    · intro h
      have h : (-1 : Int) = ((k + j : Nat) : Int) := h
      omega
    · rintro ⟨v, h, -⟩
      cases h
  | a :: l, w, k, j => by
    have e : ixB (a :: l) w k = if a.1 = w then (k : Int) else ixB l w (k + 1) := rfl
    rw [e]
    by_cases z : a.1 = w
    · rw [if_pos z]
      constructor
      · intro h
        have : j = 0 := by omega
        subst this
        exact ⟨a, rfl, z, fun i u hi => absurd hi (Nat.not_lt_zero i)⟩
      · rintro ⟨v, -, -, h⟩
        have : j = 0 := by
          by_cases y : j = 0
          · exact y
          · exact absurd z (h 0 a (by omega) rfl)
        omega
    · rw [if_neg z]
      cases j with
      | zero =>
        have rg := ixB_rng l w (k + 1)
        constructor
        · intro h; omega
        · rintro ⟨v, h1, h2, -⟩
          have h1 : some a = some v := h1
          cases h1
          exact absurd h2 z
      | succ j =>
        have ih := ixB_iff l w (k + 1) j
        rw [show k + 1 + j = k + (j + 1) by omega] at ih
        rw [ih]
        constructor
        · rintro ⟨v, h1, h2, h3⟩
          refine ⟨v, h1, h2, fun i u hi hu => ?_⟩
          cases i with
          | zero =>
            have hu : some a = some u := hu
            cases hu
            exact z
          | succ i => exact h3 i u (by omega) hu
        · rintro ⟨v, h1, h2, h3⟩
          exact ⟨v, h1, h2, fun i u hi hu => h3 (i + 1) u (by omega) hu⟩
/-- the first word of a phrase has the number 0 -/
theorem ixB_0 {ws : List Int} {w : Int} (h : 1 ≤ bigF ws) : ixB (bgL 0 ws) w 0 = 0 ↔ w = fwL ws := by
  have bl := bgL_len ws 0
  have a := ixB_iff (bgL 0 ws) w 0 0
  cases z : bgL 0 ws with
  | nil => rw [z] at bl; have bl : 0 = bigF ws := bl; omega
  | cons v r =>
    have f := (bgL_fw ws 0).2 v r z
    rw [z] at a
    have a : ixB (v :: r) w 0 = 0 ↔ _ := a
    rw [a, f]
    constructor
    · rintro ⟨u, h1, h2, -⟩
      have h1 : some v = some u := h1
      cases h1
      exact h2.symm
    · intro y
      exact ⟨v, rfl, y.symm, fun i u hi => absurd hi (Nat.not_lt_zero i)⟩
/-- the words that are kept -/
theorem bgL_words : ∀ (l : List Int) (i : Nat), (bgL i l).map (·.1) = l.filter (fun w => decide (w ≠ 0))
  | [], _ => rfl
  | w :: l, i => by
    have ih := bgL_words l (i + 1)
    by_cases z : w = 0
    · have e : bgL i (w :: l) = bgL (i + 1) l := by show (if w = 0 then _ else _) = _; rw [if_pos z]
      rw [e, ih, List.filter_cons, if_neg (by rw [decide_eq_true_iff]; exact fun y => y z)]
    · have e : bgL i (w :: l) = (w, (i : Int)) :: bgL (i + 1) l := by show (if w = 0 then _ else _) = _; rw [if_neg z]
      rw [e, List.filter_cons, if_pos (decide_eq_true z), List.map_cons, ih]

end
