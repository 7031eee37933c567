/-! ===== lkpure ===== -/
section
/-! what a text is judged, part by part -/
/-- what a question knows of a text -/
def JQ (D : DR) (f : List (Txt × Bool)) (x : Txt) (n : Nat) : JS := ((jdL D f x n (D.2.drop n))[0]?).getD q000
/-- a part, judged by the questions behind it -/
def JPv (D : DR) (f : List (Txt × Bool)) (x : Txt) (t : PT) : Bool × Int :=
  (if t.1 5 = 3 then qfin (JQ D f x (t.1 10).toNat) else inF t x,
   if t.1 1 = 45 then 0 else min ((if t.1 5 = 3 then qwif (JQ D f x (t.1 10).toNat) else uwF f t x) * t.1 6) 1000000)
theorem jdL_get (D : DR) (f : List (Txt × Bool)) (x : Txt) : ∀ (k q : Nat) (L : List (List Nat)), (jdL D f x q L)[k]? = (jdL D f x (q + k) (L.drop k))[0]?
  | 0, q, L => by rw [List.drop_zero, Nat.add_zero]
  | k + 1, q, [] => by rw [List.drop_nil]; rfl
  | k + 1, q, ns :: r => by
    show (jdN D f x q (jdL D f x (q + 1) r) ns q000 :: jdL D f x (q + 1) r)[k + 1]? = (jdL D f x (q + (k + 1)) (r.drop k))[0]?
    rw [List.getElem?_cons_succ, jdL_get D f x k (q + 1) r, show q + 1 + k = q + (k + 1) by omega]
theorem jdP_v {D : DR} {f : List (Txt × Bool)} {x : Txt} {q : Nat} {t : PT} (h : t.1 5 = 3 → (q : Int) < t.1 10 ∧ t.1 10 < D.2.length) : jdP f x q (jdL D f x (q + 1) (D.2.drop (q + 1))) D.2.length t = JPv D f x t := by
  unfold jdP JPv
  by_cases z : t.1 5 = 3
  · obtain ⟨h1, h2⟩ := h z
    have c : t.1 5 = 3 ∧ t.1 10 < D.2.length := ⟨z, h2⟩
    rw [if_pos c, if_pos c, if_pos z, if_pos z]
    have e : (jdL D f x (q + 1) (D.2.drop (q + 1)))[(t.1 10).toNat - (q + 1)]? = (jdL D f x (t.1 10).toNat (D.2.drop (t.1 10).toNat))[0]? := by
      rw [jdL_get, List.drop_drop, show q + 1 + ((t.1 10).toNat - (q + 1)) = (t.1 10).toNat by omega]
    rw [e]; rfl
  · have c : ¬ (t.1 5 = 3 ∧ t.1 10 < D.2.length) := fun y => z y.1
    rw [if_neg c, if_neg c, if_neg z, if_neg z]
/-- a question's parts, one after another -/
def JN (D : DR) (f : List (Txt × Bool)) (x : Txt) : List Nat → JS → JS
  | [], j => j
  | n :: r, j => JN D f x r (match D.1[n]? with | some t => qcnt j (t.1 1) (JPv D f x t).1 (JPv D f x t).2 | none => j)
/-- the draft's order -/
def DJO (D : DR) : Prop := ∀ (q : Nat) ns n t, D.2[q]? = some ns → n ∈ ns → D.1[n]? = some t → t.1 5 = 3 → (q : Int) < t.1 10 ∧ t.1 10 < D.2.length
theorem jdN_v {D : DR} {f : List (Txt × Bool)} {x : Txt} {q : Nat} : ∀ (ns : List Nat) (j : JS), (∀ n ∈ ns, ∀ t, D.1[n]? = some t → t.1 5 = 3 → (q : Int) < t.1 10 ∧ t.1 10 < D.2.length) → jdN D f x q (jdL D f x (q + 1) (D.2.drop (q + 1))) ns j = JN D f x ns j
  | [], j, _ => rfl
  | n :: r, j, h => by
    show jdN D f x q (jdL D f x (q + 1) (D.2.drop (q + 1))) r (match D.1[n]? with | some t => qcnt j (t.1 1) (jdP f x q (jdL D f x (q + 1) (D.2.drop (q + 1))) D.2.length t).1 (jdP f x q (jdL D f x (q + 1) (D.2.drop (q + 1))) D.2.length t).2 | none => j) = JN D f x r (match D.1[n]? with | some t => qcnt j (t.1 1) (JPv D f x t).1 (JPv D f x t).2 | none => j)
    rw [jdN_v r _ (fun m hm => h m (List.mem_cons_of_mem _ hm))]
    cases z : D.1[n]? with
    | none => rfl
    | some t =>
      show JN D f x r (qcnt j (t.1 1) (jdP f x q (jdL D f x (q + 1) (D.2.drop (q + 1))) D.2.length t).1 (jdP f x q (jdL D f x (q + 1) (D.2.drop (q + 1))) D.2.length t).2) = JN D f x r (qcnt j (t.1 1) (JPv D f x t).1 (JPv D f x t).2)
      rw [jdP_v (h n (List.mem_cons_self) t z)]
theorem JQ_eq {D : DR} {f : List (Txt × Bool)} {x : Txt} {q : Nat} {ns : List Nat} (O : DJO D) (h : D.2[q]? = some ns) : JQ D f x q = JN D f x ns q000 := by
  have hl := (List.getElem?_eq_some_iff.mp h).1
  have e : D.2.drop q = ns :: D.2.drop (q + 1) := by
    rw [List.drop_eq_getElem_cons hl]
    congr 1
    rw [List.getElem?_eq_getElem hl] at h
    exact Option.some.inj h
  unfold JQ
  rw [e]
  show jdN D f x q (jdL D f x (q + 1) (D.2.drop (q + 1))) ns q000 = _
  exact jdN_v ns q000 (fun n hn t ht h5 => O q ns n t h hn ht h5)
/-- the model's judgement of a question: its parts but for one -/
def fnF (I : Nat → Bool) (S : Nat → Int) (but : Int) : List Nat → Bool → Bool
  | [], b => b
  | m :: r, b => if (m : Int) = but then fnF I S but r b else if S m = 45 then (if I m = true then false else fnF I S but r b) else if S m = 43 then (if I m = true then fnF I S but r true else false) else fnF I S but r (b || I m)
theorem qcnt_bad {j : JS} {s w : Int} {i : Bool} (h : j.2.1 = true) : (qcnt j s i w).2.1 = true := by
  unfold qcnt
  split
  · show (j.2.1 || !i) = true
    rw [h]; rfl
  · split
    · show (j.2.1 || i) = true
      rw [h]; rfl
    · exact h
theorem JN_bad {D : DR} {f : List (Txt × Bool)} {x : Txt} : ∀ (ns : List Nat) (j : JS), j.2.1 = true → qfin (JN D f x ns j) = false
  | [], j, h => by
    show (!j.2.1 && (j.1 || j.2.2.1)) = false
    rw [h]; rfl
  | n :: r, j, h => by
    refine JN_bad r _ ?_
    cases z : D.1[n]? with
    | none => exact h
    | some t => exact qcnt_bad h
theorem cwN_bad {D : DR} {I : PT → Bool} {wo : Int} : ∀ (ns : List Nat) (k : Nat) (j : JS), j.2.1 = true → qfin (cwN D I wo ns k j) = false
  | [], k, j, h => by
    show (!j.2.1 && (j.1 || j.2.2.1)) = false
    rw [h]; rfl
  | n :: r, k, j, h => by
    refine cwN_bad r (k + 1) _ ?_
    split
    · exact h
    · cases z : D.1[n]? with
      | none => exact h
      | some t => exact qcnt_bad h
/-- one part more -/
theorem qcnt_fn {j : JS} {s w : Int} {i : Bool} (h : j.2.1 = false) : (s = 45 → (qcnt j s i w).2.1 = i ∧ ((qcnt j s i w).1 || (qcnt j s i w).2.2.1) = (j.1 || j.2.2.1)) ∧ (s = 43 → (qcnt j s i w).2.1 = !i ∧ ((qcnt j s i w).1 || (qcnt j s i w).2.2.1) = true) ∧ (s ≠ 43 → s ≠ 45 → (qcnt j s i w).2.1 = false ∧ ((qcnt j s i w).1 || (qcnt j s i w).2.2.1) = ((j.1 || j.2.2.1) || i)) := by
  refine ⟨fun y => ?_, fun y => ?_, fun y1 y2 => ?_⟩
  · unfold qcnt
    rw [if_neg (by omega), if_pos y]
    exact ⟨by show (j.2.1 || i) = i; rw [h]; rfl, rfl⟩
  · unfold qcnt
    rw [if_pos y]
    exact ⟨by show (j.2.1 || !i) = !i; rw [h]; rfl, rfl⟩
  · unfold qcnt
    rw [if_neg y1, if_neg y2]
    exact ⟨h, (Bool.or_assoc j.1 j.2.2.1 i).symm⟩
theorem JN_fn {D : DR} {f : List (Txt × Bool)} {x : Txt} {I : Nat → Bool} {S : Nat → Int} : ∀ (ns : List Nat) (j : JS) (b : Bool), j.2.1 = false → b = (j.1 || j.2.2.1) → (∀ m ∈ ns, ∃ t, D.1[m]? = some t ∧ (JPv D f x t).1 = I m ∧ S m = t.1 1) → qfin (JN D f x ns j) = fnF I S (-1) ns b
  | [], j, b, h, hb, _ => by
    show (!j.2.1 && (j.1 || j.2.2.1)) = b
    rw [h, ← hb]; rfl
  | n :: r, j, b, h, hb, hm => by
    obtain ⟨t, t1, t2, t3⟩ := hm n (List.mem_cons_self)
    have hr : ∀ m ∈ r, ∃ t, D.1[m]? = some t ∧ (JPv D f x t).1 = I m ∧ S m = t.1 1 := fun m y => hm m (List.mem_cons_of_mem _ y)
    have e : JN D f x (n :: r) j = JN D f x r (qcnt j (t.1 1) (I n) (JPv D f x t).2) := by
      show JN D f x r (match D.1[n]? with | some t => qcnt j (t.1 1) (JPv D f x t).1 (JPv D f x t).2 | none => j) = _
      rw [t1]
      show JN D f x r (qcnt j (t.1 1) (JPv D f x t).1 (JPv D f x t).2) = _
      rw [t2]
    obtain ⟨c1, c2, c3⟩ := qcnt_fn (s := t.1 1) (i := I n) (w := (JPv D f x t).2) h
    rw [e]
    show _ = if (n : Int) = -1 then fnF I S (-1) r b else if S n = 45 then (if I n = true then false else fnF I S (-1) r b) else if S n = 43 then (if I n = true then fnF I S (-1) r true else false) else fnF I S (-1) r (b || I n)
    rw [if_neg (by omega), t3]
    by_cases z1 : t.1 1 = 45
    · obtain ⟨a1, a2⟩ := c1 z1
      rw [if_pos z1]
      cases y : I n with
      | true => rw [if_pos rfl]; rw [y] at a1; exact JN_bad r _ a1
      | false => rw [if_neg (by decide)]; rw [y] at a1 a2; exact JN_fn r _ b a1 (by rw [a2]; exact hb) hr
    · rw [if_neg z1]
      by_cases z2 : t.1 1 = 43
      · obtain ⟨a1, a2⟩ := c2 z2
        rw [if_pos z2]
        cases y : I n with
        | true => rw [if_pos rfl]; rw [y] at a1 a2; exact JN_fn r _ true a1 a2.symm hr
        | false => rw [if_neg (by decide)]; rw [y] at a1; exact JN_bad r _ a1
      · obtain ⟨a1, a2⟩ := c3 z2 z1
        rw [if_neg z2]
        exact JN_fn r _ _ a1 (by rw [a2, hb]) hr
theorem cwN_fn {D : DR} {J : PT → Bool} {I : Nat → Bool} {S : Nat → Int} {wo but : Int} : ∀ (ns : List Nat) (k : Nat) (j : JS) (b : Bool), j.2.1 = false → b = (j.1 || j.2.2.1) → (∀ m ∈ ns, ∃ t, D.1[m]? = some t ∧ J t = I m ∧ S m = t.1 1) → (∀ (i m : Nat), ns[i]? = some m → (((k + i : Nat) : Int) = wo ↔ (m : Int) = but)) → qfin (cwN D J wo ns k j) = fnF I S but ns b
  | [], k, j, b, h, hb, _, _ => by
    show (!j.2.1 && (j.1 || j.2.2.1)) = b
    rw [h, ← hb]; rfl
  | n :: r, k, j, b, h, hb, hm, hw => by
    obtain ⟨t, t1, t2, t3⟩ := hm n (List.mem_cons_self)
    have hr : ∀ m ∈ r, ∃ t, D.1[m]? = some t ∧ J t = I m ∧ S m = t.1 1 := fun m y => hm m (List.mem_cons_of_mem _ y)
    have hw2 : ∀ (i m : Nat), r[i]? = some m → (((k + 1 + i : Nat) : Int) = wo ↔ (m : Int) = but) := fun i m hi => by
      have := hw (i + 1) m (by rw [List.getElem?_cons_succ]; exact hi)
      rw [show k + 1 + i = k + (i + 1) by omega]; exact this
    have w0 := hw 0 n rfl
    rw [Nat.add_zero] at w0
    show qfin (cwN D J wo r (k + 1) (if (k : Int) = wo then j else match D.1[n]? with | some t => qcnt j (t.1 1) (J t) 0 | none => j)) = if (n : Int) = but then fnF I S but r b else if S n = 45 then (if I n = true then false else fnF I S but r b) else if S n = 43 then (if I n = true then fnF I S but r true else false) else fnF I S but r (b || I n)
    by_cases z0 : (n : Int) = but
    · rw [if_pos z0, if_pos (w0.mpr z0)]
      exact cwN_fn r (k + 1) j b h hb hr hw2
    · rw [if_neg z0, if_neg (fun y => z0 (w0.mp y)), t1, t3]
      show qfin (cwN D J wo r (k + 1) (qcnt j (t.1 1) (J t) 0)) = _
      rw [t2]
      obtain ⟨c1, c2, c3⟩ := qcnt_fn (s := t.1 1) (i := I n) (w := 0) h
      by_cases z1 : t.1 1 = 45
      · obtain ⟨a1, a2⟩ := c1 z1
        rw [if_pos z1]
        cases y : I n with
        | true => rw [if_pos rfl]; rw [y] at a1; exact cwN_bad r _ _ a1
        | false => rw [if_neg (by decide)]; rw [y] at a1 a2; exact cwN_fn r _ _ b a1 (by rw [a2]; exact hb) hr hw2
      · rw [if_neg z1]
        by_cases z2 : t.1 1 = 43
        · obtain ⟨a1, a2⟩ := c2 z2
          rw [if_pos z2]
          cases y : I n with
          | true => rw [if_pos rfl]; rw [y] at a1 a2; exact cwN_fn r _ _ true a1 a2.symm hr hw2
          | false => rw [if_neg (by decide)]; rw [y] at a1; exact cwN_bad r _ _ a1
        · obtain ⟨a1, a2⟩ := c3 z2 z1
          rw [if_neg z2]
          exact cwN_fn r _ _ _ a1 (by rw [a2, hb]) hr hw2
/-- the sum of what the parts weigh -/
def suW (V : Nat → Int) : List Nat → Int
  | [] => 0
  | m :: r => V m + suW V r
theorem JN_su {D : DR} {f : List (Txt × Bool)} {x : Txt} {V : Nat → Int} : ∀ (ns : List Nat) (j : JS), (∀ m ∈ ns, ∃ t, D.1[m]? = some t ∧ (JPv D f x t).2 = V m) → (JN D f x ns j).2.2.2 = j.2.2.2 + suW V ns
  | [], j, _ => (Int.add_zero _).symm
  | n :: r, j, hm => by
    obtain ⟨t, t1, t2⟩ := hm n (List.mem_cons_self)
    have e : JN D f x (n :: r) j = JN D f x r (qcnt j (t.1 1) (JPv D f x t).1 (V n)) := by
      show JN D f x r (match D.1[n]? with | some t => qcnt j (t.1 1) (JPv D f x t).1 (JPv D f x t).2 | none => j) = _
      rw [t1]
      show JN D f x r (qcnt j (t.1 1) (JPv D f x t).1 (JPv D f x t).2) = _
      rw [t2]
    rw [e, JN_su r _ (fun m y => hm m (List.mem_cons_of_mem _ y)), qcnt_w]
    show j.2.2.2 + V n + suW V r = j.2.2.2 + (V n + suW V r)
    omega
theorem asc_head {p : Nat} {r : List Nat} (A : r.Pairwise (· < ·)) (h : ∀ m ∈ r, p ≤ m) (hp : p ∈ r) : ∃ r', r = p :: r' ∧ r'.Pairwise (· < ·) ∧ ∀ m ∈ r', p + 1 ≤ m := by
  cases r with
  | nil => cases hp
  | cons a r' =>
    obtain ⟨a1, a2⟩ := List.pairwise_cons.mp A
    have : a = p := by
      rcases List.mem_cons.mp hp with y | y
      · exact y.symm
      · have := a1 p y
        have := h a (List.mem_cons_self)
        omega
    subst this
    exact ⟨r', rfl, a2, fun m hm => a1 m hm⟩
theorem asc_len {n : Nat} : ∀ {r : List Nat}, r.Pairwise (· < ·) → (∀ m ∈ r, m < n) → r.length ≤ n := by
  have key : ∀ (r : List Nat) (p : Nat), r.Pairwise (· < ·) → (∀ m ∈ r, p ≤ m ∧ m < n) → r ≠ [] → p + r.length ≤ n := by
    intro r
    induction r with
    | nil => intro p _ _ h; exact absurd rfl h
    | cons a r ih =>
      intro p A h _
      obtain ⟨a1, a2⟩ := List.pairwise_cons.mp A
      have ha := h a (List.mem_cons_self)
      by_cases z : r = []
      · rw [z]; show p + 1 ≤ n; omega
      · have := ih (a + 1) a2 (fun m hm => ⟨a1 m hm, (h m (List.mem_cons_of_mem _ hm)).2⟩) z
        rw [List.length_cons]; omega
  intro r A h
  by_cases z : r = []
  · rw [z]; exact Nat.zero_le _
  · have := key r 0 A (fun m hm => ⟨Nat.zero_le _, h m hm⟩) z
    omega

end
