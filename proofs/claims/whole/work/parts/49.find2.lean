/-! ===== find2 ===== -/
section
theorem lgF_nn {x : Int} (h0 : 0 ≤ x) (h1 : x ≤ 976) : x = 0 ∨ 0 ≤ lgF x := by
  have : ∀ i : Fin 977, (i.val : Int) = 0 ∨ 0 ≤ lgF (i.val : Int) := by decide +kernel
  have h2 := this ⟨x.toNat, by omega⟩
  rwa [show ((⟨x.toNat, by omega⟩ : Fin 977).val : Int) = x by show (x.toNat : Int) = x; omega] at h2
theorem rrF_nn {n m : Int} (h0 : 0 ≤ m) (h1 : m ≤ n) (h2 : n ≤ 60) : 0 ≤ rrF n m ∧ rrF n m ≤ 20000 := by
  have a := rr_arg (n := n) (m := m) (by omega) h0
  have b := rrF_rng (n := n) (m := m) (by omega) h0
  have c := xtdiv_rng (a := 16 * (n + 1)) (b := max 1 (m + 1)) (by omega) (by omega)
  refine ⟨?_, by omega⟩
  unfold rrF
  have e : max 1 (m + 1) = m + 1 := by omega
  rw [e] at a c ⊢
  rcases lgF_nn a.1 (by omega) with z | z
  · rw [z] at c; omega
  · exact z
theorem fwF_nn {r c l m : Int} (r0 : 0 ≤ r) (r1 : r ≤ 20000) (c0 : 0 ≤ c) (c1 : c ≤ 200) : 0 ≤ fwF r c l m ∧ fwF r c l m ≤ 88000000 := by
  have a := fw_num (by omega) r1 c0 c1
  have b : 0 ≤ r * 22 * c := Int.mul_nonneg (by omega) c0
  have g := xtdiv_le (a := r * 22 * c) (b := max 1 (10 * c + 3 + (9 * l).tdiv (max 1 m))) b (by omega)
  unfold fwF
  omega
theorem uwF_rng {f : List (Txt × Bool)} {t : PT} {x : Txt} (hf : f.length ≤ 60) (h0 : (rwT x 0).length ≤ 200) (h1 : (rwT x 1).length ≤ 200) : 0 ≤ uwF f t x ∧ uwF f t x ≤ 1000000 := by
  have a0 := hoF_rng t 0 f
  have a1 := hoF_rng t 1 f
  have b0 := rrF_nn (n := f.length) a0.1 a0.2 (by omega)
  have b1 := rrF_nn (n := f.length) a1.1 a1.2 (by omega)
  have c0 := fitF_rng t 0 (rwT x 0)
  have c1 := fitF_rng t 1 (rwT x 1)
  have d0 := fwF_nn (c := (fitF t 0 (rwT x 0)).1) (l := (rwT x 0).length) (m := mlF f 0) b0.1 b0.2 c0.1 (by omega)
  have d1 := fwF_nn (c := (fitF t 1 (rwT x 1)).1) (l := (rwT x 1).length) (m := mlF f 1) b1.1 b1.2 c1.1 (by omega)
  unfold uwF
  omega
theorem qwif_rng {j : JS} (h : 0 ≤ j.2.2.2) : 0 ≤ qwif j ∧ qwif j ≤ 1000000 := by unfold qwif; split <;> omega
/-- whether a part is in a text and what it weighs there; tl: what the questions behind q know -/
def jdP (f : List (Txt × Bool)) (x : Txt) (q : Nat) (tl : List JS) (len : Nat) (t : PT) : Bool × Int :=
  (if t.1 5 = 3 ∧ t.1 10 < len then qfin ((tl[(t.1 10).toNat - (q + 1)]?).getD q000) else inF t x,
   if t.1 1 = 45 then 0 else min ((if t.1 5 = 3 ∧ t.1 10 < len then qwif ((tl[(t.1 10).toNat - (q + 1)]?).getD q000) else uwF f t x) * t.1 6) 1000000)
def jdN (D : DR) (f : List (Txt × Bool)) (x : Txt) (q : Nat) (tl : List JS) : List Nat → JS → JS
  | [], j => j
  | n :: r, j => jdN D f x q tl r (match D.1[n]? with | some t => qcnt j (t.1 1) (jdP f x q tl D.2.length t).1 (jdP f x q tl D.2.length t).2 | none => j)
def jdL (D : DR) (f : List (Txt × Bool)) (x : Txt) : Nat → List (List Nat) → List JS
  | _, [] => []
  | q, ns :: r => jdN D f x q (jdL D f x (q + 1) r) ns q000 :: jdL D f x (q + 1) r
theorem jdP_rng {f : List (Txt × Bool)} {x : Txt} {q len : Nat} {tl : List JS} {t : PT} (hf : f.length ≤ 60) (h0 : (rwT x 0).length ≤ 200) (h1 : (rwT x 1).length ≤ 200) (ok : PTok t) (ht : ∀ j ∈ tl, 0 ≤ j.2.2.2) : 0 ≤ (jdP f x q tl len t).2 ∧ (jdP f x q tl len t).2 ≤ 1000000 := by
  obtain ⟨o0, o1, o2, o5, o6, -⟩ := ok
  obtain ⟨w, hw⟩ : ∃ w, w = (if t.1 5 = 3 ∧ t.1 10 < len then qwif ((tl[(t.1 10).toNat - (q + 1)]?).getD q000) else uwF f t x) := ⟨_, rfl⟩
  have e : (jdP f x q tl len t).2 = if t.1 1 = 45 then 0 else min (w * t.1 6) 1000000 := by unfold jdP; rw [hw]
  have w0 : 0 ≤ w := by
    rw [hw]
    split
    · cases z : tl[(t.1 10).toNat - (q + 1)]? with
      | none => exact (qwif_rng (j := q000) (by decide)).1
      | some j => exact (qwif_rng (j := j) (ht j (List.mem_of_getElem? z))).1
    · exact (uwF_rng hf h0 h1).1
  have w1 : 0 ≤ w * t.1 6 := Int.mul_nonneg w0 o6.1
  rw [e]
  split <;> omega
theorem qcnt_w (j : JS) (s : Int) (i : Bool) (w : Int) : (qcnt j s i w).2.2.2 = j.2.2.2 + w := by
  unfold qcnt
  split
  · rfl
  · split <;> rfl
theorem jdN_rng {D : DR} {f : List (Txt × Bool)} {x : Txt} {q : Nat} {tl : List JS} (hf : f.length ≤ 60) (h0 : (rwT x 0).length ≤ 200) (h1 : (rwT x 1).length ≤ 200) (ok : ∀ (n : Nat) t, D.1[n]? = some t → PTok t) (ht : ∀ j ∈ tl, 0 ≤ j.2.2.2) : ∀ (ns : List Nat) (j : JS), 0 ≤ j.2.2.2 → j.2.2.2 ≤ (jdN D f x q tl ns j).2.2.2 ∧ (jdN D f x q tl ns j).2.2.2 ≤ j.2.2.2 + 1000000 * ns.length := by
  intro ns
  induction ns with
  | nil => intro j hj; exact ⟨Int.le_refl _, by show j.2.2.2 ≤ j.2.2.2 + 1000000 * ((0 : Nat) : Int); omega⟩
  | cons n r ih =>
    intro j hj
    cases z : D.1[n]? with
    | none =>
      have e : jdN D f x q tl (n :: r) j = jdN D f x q tl r j := by
        show jdN D f x q tl r (match D.1[n]? with | some t => qcnt j (t.1 1) (jdP f x q tl D.2.length t).1 (jdP f x q tl D.2.length t).2 | none => j) = _
        rw [z]
      have := ih j hj
      rw [e, List.length_cons]; omega
    | some t =>
      have e : jdN D f x q tl (n :: r) j = jdN D f x q tl r (qcnt j (t.1 1) (jdP f x q tl D.2.length t).1 (jdP f x q tl D.2.length t).2) := by
        show jdN D f x q tl r (match D.1[n]? with | some t => qcnt j (t.1 1) (jdP f x q tl D.2.length t).1 (jdP f x q tl D.2.length t).2 | none => j) = _
        rw [z]
      have p := jdP_rng (q := q) (len := D.2.length) hf h0 h1 (ok n t z) ht
      have w := qcnt_w j (t.1 1) (jdP f x q tl D.2.length t).1 (jdP f x q tl D.2.length t).2
      have := ih (qcnt j (t.1 1) (jdP f x q tl D.2.length t).1 (jdP f x q tl D.2.length t).2) (by omega)
      rw [e, List.length_cons]; omega
theorem jdL_nn {D : DR} {f : List (Txt × Bool)} {x : Txt} (hf : f.length ≤ 60) (h0 : (rwT x 0).length ≤ 200) (h1 : (rwT x 1).length ≤ 200) (ok : ∀ (n : Nat) t, D.1[n]? = some t → PTok t) : ∀ (r : List (List Nat)) (q : Nat), ∀ j ∈ jdL D f x q r, 0 ≤ j.2.2.2 := by
  intro r
  induction r with
  | nil => intro q j hj; exact absurd hj (by unfold jdL; simp)
  | cons ns r ih =>
    intro q j hj
    have e : jdL D f x q (ns :: r) = jdN D f x q (jdL D f x (q + 1) r) ns q000 :: jdL D f x (q + 1) r := rfl
    rw [e] at hj
    rcases List.mem_cons.mp hj with z | z
    · have := jdN_rng (q := q) hf h0 h1 ok (ih (q + 1)) ns q000 (by decide)
      rw [z]
      have e0 : q000.2.2.2 = 0 := rfl
      omega
    · exact ih (q + 1) j z
theorem jdL_len (D : DR) (f : List (Txt × Bool)) (x : Txt) : ∀ (r : List (List Nat)) (q : Nat), (jdL D f x q r).length = r.length := by
  intro r
  induction r with
  | nil => intro q; rfl
  | cons ns r ih =>
    intro q
    have e : jdL D f x q (ns :: r) = jdN D f x q (jdL D f x (q + 1) r) ns q000 :: jdL D f x (q + 1) r := rfl
    rw [e, List.length_cons, List.length_cons, ih]

end
