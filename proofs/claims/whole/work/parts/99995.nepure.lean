/-! ===== nepure ===== -/
section
/-! near words: a place fits iff a window with it holds all -/
def exB (ws row : List Int) (wd k : Nat) : Bool := (List.range (row.length + 1)).any (fun n => decide (k < n) && decide (n - 1 - wd ≤ k) && metL ws row wd n)
theorem exB_iff {ws row : List Int} {wd k : Nat} : exB ws row wd k = true ↔ ∃ n, n ≤ row.length ∧ k < n ∧ n - 1 - wd ≤ k ∧ metL ws row wd n = true := by
  unfold exB
  rw [List.any_eq_true]
  constructor
  · rintro ⟨n, n1, n2⟩
    rw [List.mem_range] at n1
    rw [Bool.and_eq_true, Bool.and_eq_true, decide_eq_true_iff, decide_eq_true_iff] at n2
    exact ⟨n, by omega, n2.1.1, n2.1.2, n2.2⟩
  · rintro ⟨n, n1, n2, n3, n4⟩
    refine ⟨n, List.mem_range.mpr (by omega), ?_⟩
    rw [Bool.and_eq_true, Bool.and_eq_true, decide_eq_true_iff, decide_eq_true_iff]
    exact ⟨⟨n2, n3⟩, n4⟩
theorem scF_app (P : Nat → Bool) : ∀ (a b k : Nat) (r : MR), scF P (a + b) k r = scF P b (k + a) (scF P a k r)
  | 0, b, k, r => by rw [Nat.zero_add]; rfl
  | a + 1, b, k, r => by
    rw [show a + 1 + b = (a + b) + 1 by omega]
    show scF P (a + b) (k + 1) (if P k = true then htF r k else r) = scF P b (k + (a + 1)) (scF P a (k + 1) (if P k = true then htF r k else r))
    rw [scF_app P a b (k + 1), show k + 1 + a = k + (a + 1) by omega]
theorem scF_congr {P P' : Nat → Bool} : ∀ (n k : Nat) (r : MR), (∀ i, k ≤ i → i < k + n → P i = P' i) → scF P n k r = scF P' n k r
  | 0, _, _, _ => rfl
  | n + 1, k, r, h => by
    show scF P n (k + 1) (if P k = true then htF r k else r) = scF P' n (k + 1) (if P' k = true then htF r k else r)
    rw [h k (Nat.le_refl _) (by omega)]
    exact scF_congr n (k + 1) _ (fun i a b => h i (by omega) (by omega))
theorem scF_no {P : Nat → Bool} : ∀ (n k : Nat) (r : MR), (∀ i, k ≤ i → i < k + n → P i = false) → scF P n k r = r
  | 0, _, _, _ => rfl
  | n + 1, k, r, h => by
    show scF P n (k + 1) (if P k = true then htF r k else r) = r
    rw [h k (Nat.le_refl _) (by omega), if_neg (by decide)]
    exact scF_no n (k + 1) r (fun i a b => h i (by omega) (by omega))
theorem neF_sc {ws row : List Int} {wd : Nat} {ld : Int} : ∀ (m n jd : Nat) (r : MR), n + m = row.length → jd ≤ n → (∀ k n', jd ≤ k → k < n' → n' ≤ n → n' - 1 - wd ≤ k → metL ws row wd n' = false) → neF ws row wd ld m n jd r = scF (fun k => decide (rwA row k = ld) && exB ws row wd k) (row.length - jd) jd r
  | 0, n, jd, r, e, hj, I => by
    show r = _
    rw [scF_no]
    intro i i0 i1
    have : exB ws row wd i = false := by
      cases z : exB ws row wd i with
      | false => rfl
      | true =>
        obtain ⟨n', n1, n2, n3, n4⟩ := exB_iff.mp z
        rw [I i n' i0 n2 (by omega) n3] at n4
        cases n4
    rw [this, Bool.and_false]
  | m + 1, n, jd, r, e, hj, I => by
    show (if metL ws row wd (n + 1) = true then neF ws row wd ld m (n + 1) (n + 1) (scF (fun k => decide (rwA row k = ld)) (n + 1 - max jd (n - wd)) (max jd (n - wd)) r) else neF ws row wd ld m (n + 1) jd r) = _
    by_cases z : metL ws row wd (n + 1) = true
    · rw [if_pos z, neF_sc m (n + 1) (n + 1) _ (by omega) (Nat.le_refl _) (fun k n' a b c => by omega)]
      obtain ⟨lo, hlo⟩ : ∃ lo, lo = max jd (n - wd) := ⟨_, rfl⟩
      rw [← hlo]
      have l1 : jd ≤ lo ∧ n - wd ≤ lo ∧ lo ≤ n := by omega
      rw [show row.length - jd = (lo - jd) + ((n + 1 - lo) + (row.length - (n + 1))) by omega, scF_app, scF_app, show jd + (lo - jd) = lo by omega, show lo + (n + 1 - lo) = n + 1 by omega]
      congr 1
      rw [scF_no (lo - jd) jd r (fun i i0 i1 => ?_)]
      · refine scF_congr _ _ _ (fun i i0 i1 => ?_)
        have : exB ws row wd i = true := exB_iff.mpr ⟨n + 1, by omega, by omega, by omega, z⟩
        rw [this, Bool.and_true]
      · have : exB ws row wd i = false := by
          cases y : exB ws row wd i with
          | false => rfl
          | true =>
            obtain ⟨n', n1, n2, n3, n4⟩ := exB_iff.mp y
            rw [I i n' i0 n2 (by omega) n3] at n4
            cases n4
        rw [this, Bool.and_false]
    · rw [if_neg z]
      refine neF_sc m (n + 1) jd r (by omega) (by omega) (fun k n' a b c f => ?_)
      by_cases y : n' = n + 1
      · rw [y]
        cases x : metL ws row wd (n + 1) with
        | false => rfl
        | true => exact absurd x z
      · exact I k n' a b (by omega) f
/-- the class's looking for near words -/
theorem neF_all (ws row : List Int) (wd : Nat) (ld : Int) (r : MR) : neF ws row wd ld row.length 0 0 r = scF (fun k => decide (rwA row k = ld) && exB ws row wd k) row.length 0 r := neF_sc row.length 0 0 r (by omega) (Nat.le_refl _) (fun k n' a b c => by omega)

end
