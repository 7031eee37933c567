/-! ===== nepure2 ===== -/
section
/-! near words: the model's windows -/
def wnM (row : List Int) (wd s : Nat) : List Int := (row.take (s + wd + 1)).drop s
def metM (ws row : List Int) (wd s : Nat) : Bool := decide (∀ w ∈ ws, w ≠ 0 → ws.count w ≤ (wnM row wd s).count w)
theorem win_le (row : List Int) {a b s s' : Nat} (h : a ≤ b) (hs : s' ≤ s) (x : Int) : ((row.take a).drop s).count x ≤ ((row.take b).drop s').count x := by
  have e1 : row.take a = (row.take b).take a := by rw [List.take_take, Nat.min_eq_left h]
  have e2 : (row.take a).drop s = ((row.take a).drop s').drop (s - s') := by rw [List.drop_drop, show s' + (s - s') = s by omega]
  have k1 : List.Sublist (row.take a) (row.take b) := by rw [e1]; exact List.take_sublist _ _
  rw [e2]
  exact Nat.le_trans (List.Sublist.count_le _ (List.drop_sublist _ _)) (List.Sublist.count_le _ (k1.drop s'))
theorem metM_of {ws row : List Int} {wd s a b : Nat} (h : ∀ w ∈ ws, w ≠ 0 → ws.count w ≤ ((row.take a).drop b).count w) (ha : a ≤ s + wd + 1 ∨ row.length ≤ s + wd + 1) (hb : s ≤ b) : metM ws row wd s = true := by
  refine decide_eq_true (fun w hw h0 => Nat.le_trans (h w hw h0) ?_)
  unfold wnM
  rcases ha with y | y
  · exact win_le row y hb w
  · rw [List.take_of_length_le y]
    have := win_le row (a := min a row.length) (b := row.length) (s := b) (s' := s) (by omega) hb w
    rw [List.take_length] at this
    have e : row.take (min a row.length) = row.take a := by
      by_cases z : a ≤ row.length
      · rw [Nat.min_eq_left z]
      · rw [Nat.min_eq_right (by omega), List.take_length, List.take_of_length_le (by omega)]
    rw [e] at this
    exact this
/-- the class's windows and the model's say the same -/
theorem exB_M {ws row : List Int} {wd k : Nat} (hk : k < row.length) : exB ws row wd k = true ↔ ∃ s, s ≤ k ∧ k ≤ s + wd ∧ metM ws row wd s = true := by
  rw [exB_iff]
  constructor
  · rintro ⟨n, n1, n2, n3, n4⟩
    have n4 := of_decide_eq_true n4
    refine ⟨n - 1 - wd, n3, by omega, metM_of (a := n) (b := n - 1 - wd) (fun w hw h0 => n4 w hw h0) (Or.inl (by omega)) (Nat.le_refl _)⟩
  · rintro ⟨s, s1, s2, s3⟩
    have s3 := of_decide_eq_true s3
    by_cases z : s + wd + 1 ≤ row.length
    · refine ⟨s + wd + 1, z, by omega, by omega, decide_eq_true (fun w hw h0 => ?_)⟩
      have := s3 w hw h0
      unfold wnM at this
      unfold wnL
      rw [show s + wd + 1 - 1 - wd = s by omega]
      exact this
    · refine ⟨row.length, Nat.le_refl _, hk, by omega, decide_eq_true (fun w hw h0 => ?_)⟩
      have := s3 w hw h0
      unfold wnM at this
      unfold wnL
      rw [List.take_of_length_le (by omega)] at this
      have l := win_le row (a := row.length) (b := row.length) (s := s) (s' := row.length - 1 - wd) (Nat.le_refl _) (by omega) w
      rw [List.take_length] at l ⊢
      exact Nat.le_trans this l
/-- the latest beginning of a window that holds all -/
def laM (ws row : List Int) (wd : Nat) : Nat → Int
  | 0 => if metM ws row wd 0 = true then 0 else -1
  | p + 1 => if metM ws row wd (p + 1) = true then ((p + 1 : Nat) : Int) else laM ws row wd p
theorem laM_iff {ws row : List Int} {wd : Nat} : ∀ p : Nat, (laM ws row wd p = -1 ∧ ∀ s, s ≤ p → metM ws row wd s = false) ∨ ∃ s : Nat, laM ws row wd p = s ∧ s ≤ p ∧ metM ws row wd s = true ∧ ∀ s', s < s' → s' ≤ p → metM ws row wd s' = false
  | 0 => by
    show ((if metM ws row wd 0 = true then (0 : Int) else -1) = -1 ∧ _) ∨ ∃ s : Nat, (if metM ws row wd 0 = true then (0 : Int) else -1) = s ∧ _
    by_cases z : metM ws row wd 0 = true
    · rw [if_pos z]
      exact Or.inr ⟨0, rfl, Nat.le_refl _, z, fun s' a b => by omega⟩
    · rw [if_neg z]
      refine Or.inl ⟨rfl, fun s hs => ?_⟩
      rw [show s = 0 by omega]
      cases x : metM ws row wd 0 with
      | false => rfl
      | true => exact absurd x z
  | p + 1 => by
    have ih := laM_iff (ws := ws) (row := row) (wd := wd) p
    show ((if metM ws row wd (p + 1) = true then ((p + 1 : Nat) : Int) else laM ws row wd p) = -1 ∧ _) ∨ ∃ s : Nat, (if metM ws row wd (p + 1) = true then ((p + 1 : Nat) : Int) else laM ws row wd p) = s ∧ _
    by_cases z : metM ws row wd (p + 1) = true
    · rw [if_pos z]
      exact Or.inr ⟨p + 1, rfl, Nat.le_refl _, z, fun s' a b => by omega⟩
    · rw [if_neg z]
      have zf : metM ws row wd (p + 1) = false := by
        cases x : metM ws row wd (p + 1) with
        | false => rfl
        | true => exact absurd x z
      rcases ih with ⟨a, b⟩ | ⟨s, a, b, c, e⟩
      · refine Or.inl ⟨a, fun s hs => ?_⟩
        by_cases y : s = p + 1
        · rw [y]; exact zf
        · exact b s (by omega)
      · refine Or.inr ⟨s, a, by omega, c, fun s' h1 h2 => ?_⟩
        by_cases y : s' = p + 1
        · rw [y]; exact zf
        · exact e s' h1 (by omega)
/-- a place fits iff the latest window reaches it -/
theorem exB_la {ws row : List Int} {wd k : Nat} (hk : k < row.length) : exB ws row wd k = true ↔ laM ws row wd k ≠ -1 ∧ (k : Int) - laM ws row wd k ≤ wd := by
  rw [exB_M hk]
  rcases laM_iff (ws := ws) (row := row) (wd := wd) k with ⟨a, b⟩ | ⟨s, a, b, c, e⟩
  · constructor
    · rintro ⟨s, s1, s2, s3⟩
      rw [b s s1] at s3; cases s3
    · rintro ⟨y, -⟩
      exact absurd a y
  · constructor
    · rintro ⟨s', s1, s2, s3⟩
      have : s' ≤ s := by
        by_cases z : s' ≤ s
        · exact z
        · have := e s' (by omega) s1
          rw [this] at s3; cases s3
      omega
    · rintro ⟨y1, y2⟩
      exact ⟨s, b, by omega, c⟩

end
