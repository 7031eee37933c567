/-! ===== nepure5 ===== -/
section
/-! near words: nothing lacks iff the window holds all -/
theorem ixB_at {B : List (Int × Int)} {x : Int} : ixB B x 0 = -1 ∨ ∃ j : Nat, j < B.length ∧ ixB B x 0 = (j : Int) ∧ ∃ v, B[j]? = some v ∧ v.1 = x := by
  rcases ixB_rng B x 0 with h | ⟨h1, h2⟩
  · exact Or.inl h
  · refine Or.inr ⟨(ixB B x 0).toNat, by omega, by omega, ?_⟩
    obtain ⟨v, a, b, -⟩ := (ixB_iff B x 0 (ixB B x 0).toNat).mp (by omega)
    exact ⟨v, a, b⟩
/-- a number's words are the same word -/
theorem nbW_eq {B : List (Int × Int)} {W : List Int} {j : Nat} {v : Int × Int} (h : B[j]? = some v) (f : ixB B v.1 0 = (j : Int)) : nbW B W j = W.count v.1 := by
  unfold nbW List.count
  refine List.countP_congr (fun x _ => ?_)
  rw [decide_eq_true_iff, beq_iff_eq]
  constructor
  · intro e
    obtain ⟨u, a, b, -⟩ := (ixB_iff B x 0 j).mp (by rw [e]; omega)
    rw [h] at a
    cases a
    exact b.symm
  · intro e
    rw [e]; exact f
theorem nbW_no {B : List (Int × Int)} {W : List Int} {j : Nat} {v : Int × Int} (h : B[j]? = some v) (f : ixB B v.1 0 ≠ (j : Int)) : nbW B W j = 0 := by
  unfold nbW
  rw [List.countP_eq_zero]
  intro x _ y
  have e := of_decide_eq_true y
  obtain ⟨u, a, b, -⟩ := (ixB_iff B x 0 j).mp (by rw [e]; omega)
  rw [h] at a
  cases a
  rw [b] at f
  exact f e
theorem laF_0 {B : List (Int × Int)} {W : List Int} : laF B W = 0 ↔ ∀ v ∈ B, (B.map (·.1)).count v.1 ≤ W.count v.1 := by
  have s := (suF_0 (f := fun j => max 0 ((nbW B (B.map (·.1)) j : Int) - nbW B W j)) B.length (fun i _ => by show 0 ≤ max 0 _; omega)).2
  have s : laF B W = 0 ↔ _ := s
  rw [s]
  constructor
  · intro h v hv
    rcases ixB_at (B := B) (x := v.1) with z | ⟨j, j1, j2, u, j3, j4⟩
    · exfalso
      obtain ⟨n, hn⟩ := List.mem_iff_getElem?.mp hv
      have no : ∀ (l : List (Int × Int)) (k : Nat), v ∈ l → ixB l v.1 k ≠ -1 := by
        intro l
        induction l with
        | nil => intro k hm; cases hm
        | cons a r ih =>
          intro k hm y
          have y : (if a.1 = v.1 then (k : Int) else ixB r v.1 (k + 1)) = -1 := y
          by_cases w : a.1 = v.1
          · rw [if_pos w] at y; omega
          · rw [if_neg w] at y
            rcases List.mem_cons.mp hm with x | x
            · rw [x] at w; exact w rfl
            · exact ih (k + 1) x y
      exact no B 0 hv z
    · have f : ixB B u.1 0 = (j : Int) := by rw [j4]; exact j2
      have e := h j j1
      have e : max 0 ((nbW B (B.map (·.1)) j : Int) - nbW B W j) = 0 := e
      rw [nbW_eq j3 f, nbW_eq j3 f, j4] at e
      omega
  · intro h j hj
    show max 0 ((nbW B (B.map (·.1)) j : Int) - nbW B W j) = 0
    have a := List.getElem?_eq_getElem hj
    by_cases f : ixB B (B[j]).1 0 = (j : Int)
    · rw [nbW_eq a f, nbW_eq a f]
      have := h _ (List.getElem_mem hj)
      omega
    · rw [nbW_no a f, nbW_no a f]; omega

end
