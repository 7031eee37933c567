/-! ===== nepure4 ===== -/
section
/-! near words: how many are lacking -/
def nbW (B : List (Int × Int)) (W : List Int) (j : Nat) : Nat := W.countP (fun x => decide (ixB B x 0 = (j : Int)))
theorem nbW_app (B : List (Int × Int)) (W : List Int) (x : Int) (j : Nat) : nbW B (W ++ [x]) j = nbW B W j + (if ixB B x 0 = (j : Int) then 1 else 0) := by
  unfold nbW
  rw [List.countP_append, List.countP_cons, List.countP_nil, Nat.zero_add]
  by_cases z : ixB B x 0 = (j : Int)
  · rw [if_pos z, if_pos (decide_eq_true z)]
  · rw [if_neg z, if_neg (by rw [decide_eq_true_iff]; exact z)]
theorem nbW_cons (B : List (Int × Int)) (W : List Int) (x : Int) (j : Nat) : nbW B (x :: W) j = nbW B W j + (if ixB B x 0 = (j : Int) then 1 else 0) := by
  unfold nbW
  rw [List.countP_cons]
  by_cases z : ixB B x 0 = (j : Int)
  · rw [if_pos z, if_pos (decide_eq_true z)]
  · rw [if_neg z, if_neg (by rw [decide_eq_true_iff]; exact z)]
/-- a sum over the first n numbers -/
def suF (f : Nat → Int) : Nat → Int
  | 0 => 0
  | n + 1 => suF f n + f n
theorem suF_eq {f g : Nat → Int} : ∀ n : Nat, (∀ i, i < n → f i = g i) → suF f n = suF g n
  | 0, _ => rfl
  | n + 1, h => by
    show suF f n + f n = suF g n + g n
    rw [suF_eq n (fun i hi => h i (by omega)), h n (by omega)]
theorem suF_one {f g : Nat → Int} {j : Nat} (h : ∀ i, i ≠ j → f i = g i) : ∀ n : Nat, j < n → suF f n = suF g n + (f j - g j)
  | 0, hj => absurd hj (Nat.not_lt_zero j)
  | n + 1, hj => by
    show suF f n + f n = suF g n + g n + (f j - g j)
    by_cases z : j = n
    · subst z
      rw [suF_eq j (fun i hi => h i (by omega))]; omega
    · have := suF_one h n (by omega)
      rw [this, h n (fun y => z y.symm)]; omega
theorem suF_0 {f : Nat → Int} : ∀ n : Nat, (∀ i, i < n → 0 ≤ f i) → (0 ≤ suF f n ∧ (suF f n = 0 ↔ ∀ i, i < n → f i = 0))
  | 0, _ => ⟨Int.le_refl _, ⟨fun _ i hi => absurd hi (Nat.not_lt_zero i), fun _ => rfl⟩⟩
  | n + 1, h => by
    obtain ⟨a, b⟩ := suF_0 n (fun i hi => h i (by omega))
    have hn := h n (by omega)
    refine ⟨by show 0 ≤ suF f n + f n; omega, ?_⟩
    show suF f n + f n = 0 ↔ _
    constructor
    · intro e i hi
      by_cases z : i = n
      · rw [z]; omega
      · exact b.mp (by omega) i (by omega)
    · intro e
      have := b.mpr (fun i hi => e i (by omega))
      have := e n (by omega)
      omega
/-- how many words are lacking in a window -/
def laF (B : List (Int × Int)) (W : List Int) : Int := suF (fun j => max 0 ((nbW B (B.map (·.1)) j : Int) - nbW B W j)) B.length
theorem laF_in {B : List (Int × Int)} {W : List Int} {x : Int} {j : Nat} (e : ixB B x 0 = (j : Int)) (hj : j < B.length) : laF B (W ++ [x]) = (if nbW B W j < nbW B (B.map (·.1)) j then laF B W - 1 else laF B W) := by
  have s := suF_one (f := fun j => max 0 ((nbW B (B.map (·.1)) j : Int) - nbW B (W ++ [x]) j)) (g := fun j => max 0 ((nbW B (B.map (·.1)) j : Int) - nbW B W j)) (j := j) (fun i hi => by
    show max 0 _ = max 0 _
    rw [nbW_app, if_neg (by rw [e]; omega), Nat.add_zero]) B.length hj
  have c := nbW_app B W x j
  rw [if_pos e] at c
  have s : laF B (W ++ [x]) = laF B W + (max 0 ((nbW B (B.map (·.1)) j : Int) - nbW B (W ++ [x]) j) - max 0 ((nbW B (B.map (·.1)) j : Int) - nbW B W j)) := s
  rw [s, c]
  by_cases z : nbW B W j < nbW B (B.map (·.1)) j
  · rw [if_pos z]; omega
  · rw [if_neg z]; omega
theorem laF_out {B : List (Int × Int)} {W : List Int} {x : Int} {j : Nat} (e : ixB B x 0 = (j : Int)) (hj : j < B.length) : laF B W = (if nbW B (x :: W) j ≤ nbW B (B.map (·.1)) j then laF B (x :: W) + 1 else laF B (x :: W)) := by
  have s := suF_one (f := fun j => max 0 ((nbW B (B.map (·.1)) j : Int) - nbW B W j)) (g := fun j => max 0 ((nbW B (B.map (·.1)) j : Int) - nbW B (x :: W) j)) (j := j) (fun i hi => by
    show max 0 _ = max 0 _
    rw [nbW_cons, if_neg (by rw [e]; omega), Nat.add_zero]) B.length hj
  have c := nbW_cons B W x j
  rw [if_pos e] at c
  have s : laF B W = laF B (x :: W) + (max 0 ((nbW B (B.map (·.1)) j : Int) - nbW B W j) - max 0 ((nbW B (B.map (·.1)) j : Int) - nbW B (x :: W) j)) := s
  rw [s, c]
  by_cases z : nbW B W j + 1 ≤ nbW B (B.map (·.1)) j
  · rw [if_pos z]; omega
  · rw [if_neg z]; omega
theorem laF_no {B : List (Int × Int)} {W : List Int} {x : Int} (e : ixB B x 0 = -1) : laF B (W ++ [x]) = laF B W ∧ laF B (x :: W) = laF B W := by
  refine ⟨suF_eq _ (fun i _ => ?_), suF_eq _ (fun i _ => ?_)⟩
  · show max 0 _ = max 0 _
    rw [nbW_app, if_neg (by rw [e]; omega), Nat.add_zero]
  · show max 0 _ = max 0 _
    rw [nbW_cons, if_neg (by rw [e]; omega), Nat.add_zero]

end
