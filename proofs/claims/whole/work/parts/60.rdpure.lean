/-! ===== rdpure ===== -/
section
/-! reading a question: the states, pure -/
def mkP (n s f b k : Int) (ws : List Int) : PT := (fun j => if j = 0 then n else if j = 1 then s else if j = 2 then f else if j = 3 then b else if j = 5 then k else if j = 6 then 1 else 0, ws)
def upP (t : PT) (k v : Int) : PT := (fun j => if j = k then v else t.1 j, t.2)
/-- field, whether barred, question's number of the part whose ( is open -/
def arT : Option PT → Int × Int × Int
  | some t => (t.1 2, t.1 3, t.1 10)
  | none => (2, 0, 0)
def arF (D : DR) (op : List Nat) : Int × Int × Int := match op.getLast? with
  | none => (2, 0, 0)
  | some m => arT D.1[m]?
def apD (D : DR) (q : Nat) (t : PT) : DR := (D.1 ++ [t], D.2.set q (((D.2[q]?).getD []) ++ [D.1.length]))
def seD (D : DR) (m : Nat) (k v : Int) : DR := (D.1.set m (upP ((D.1[m]?).getD (mkP 0 0 0 0 0 [])) k v), D.2)
def adQ (D : DR) : DR := (D.1, D.2 ++ [[]])
/-- the reader: state, sign, field; the draft; the parts whose ( is open; the latest part; the phrase -/
abbrev RS : Type := (Int × Int × Int) × DR × List Nat × Nat × List Int
def npT (r : RS) (k : Int) (ws : List Int) : PT := mkP r.2.1.1.length r.1.2.1 (if r.1.2.2 = 2 then (arF r.2.1 r.2.2.1).1 else r.1.2.2) (if (arF r.2.1 r.2.2.1).2.1 = 0 ∧ r.1.2.1 ≠ 45 then 0 else 1) k ws
def apF (r : RS) (k : Int) (ws : List Int) : RS := (r.1, apD r.2.1 (arF r.2.1 r.2.2.1).2.2.toNat (npT r k ws), r.2.2.1, r.2.1.1.length, r.2.2.2.2)
def bcF (r : RS) : RS := if cpb r.1.1 = true then ((r.1.1, 0, 2), r.2) else r
def stF (r : RS) (s : Int) : RS := ((s, r.1.2), r.2)
def sdF (r : RS) (k v : Int) : RS := (r.1, seD r.2.1 r.2.2.2.1 k v, r.2.2)
def phF (r : RS) (ws : List Int) : RS := (r.1, r.2.1, r.2.2.1, r.2.2.2.1, ws)
def owF (r : RS) (f : Int) : RS := ((r.1.1, r.1.2.1, f), r.2)
def nmF (ls : List Int) : Int := if ls = [116, 105, 116, 108, 101] then 0 else if ls = [98, 111, 100, 121] then 1 else 2
def bigF : List Int → Nat
  | [] => 0
  | w :: r => (if w = 0 then 0 else 1) + bigF r
def tkR (bs : List Int) (s : Int) (r : RS) : Option RS :=
  if r.1.1 = 4 ∨ r.1.1 = 5 then some (stF (phF r (if r.2.2.2.2.length < 40 then r.2.2.2.2 ++ [ntW bs s 0] else r.2.2.2.2)) 5)
  else if r.1.1 = 6 ∨ r.1.1 = 7 then (match nuR bs s (ntA bs s) with
    | none => none
    | some v => some (if r.1.1 = 6 then stF (sdF r 7 v) 10 else stF (sdF r 6 v) 11))
  else if ccb r.1.1 = true then
    (if (bcF r).1.2.2 = 2 ∧ nmF (runL bs s (ntA bs s)) ≠ 2 ∧ lat bs (sb bs (ntA bs s)) = 58 then some (stF (owF (bcF r) (nmF (runL bs s (ntA bs s)))) 3)
     else some (stF (sdF (sdF (apF (bcF r) 0 [ntW bs s 0]) 8 (wvF (runL bs s (ntA bs s)) (runL bs s (ntA bs s)).length)) 9 (ntA bs s - s)) 8))
  else none
def tkS (r : RS) (T : Int) : Option RS := if cpb r.1.1 = true then some (stF ((r.1.1, T, 2), r.2) 1) else none
def apH (r : RS) : RS := if 2 ≤ bigF r.2.2.2.2 then apF r 2 r.2.2.2.2 else sdF (apF r 2 r.2.2.2.2) 5 0
def tkQ (r : RS) : Option RS := if r.1.1 = 5 then some (stF (apH r) 9) else if ccb r.1.1 = true then some (stF (phF (bcF r) []) 4) else none
def tkO (r : RS) : Option RS := if ccb r.1.1 = true ∧ r.2.2.1.length < 4 then
    some (stF ((bcF r).1, adQ (seD (apF (bcF r) 3 []).2.1 r.2.1.1.length 10 r.2.1.2.length), r.2.2.1 ++ [r.2.1.1.length], r.2.1.1.length, r.2.2.2.2) 0) else none
def tkC (r : RS) : Option RS := if 8 ≤ r.1.1 then (match r.2.2.1.getLast? with
    | none => none
    | some m => some (stF (r.1, r.2.1, r.2.2.1.dropLast, m, r.2.2.2.2) 10)) else none
def tkF (bs : List Int) (s : Int) (r : RS) : Option RS :=
  if ntT bs s = 0 then (if 8 ≤ r.1.1 ∧ r.2.2.1 = [] then some r else none)
  else if ntT bs s = 1 then tkR bs s r
  else if ntT bs s = 43 ∨ ntT bs s = 45 then tkS r (ntT bs s)
  else if ntT bs s = 34 then tkQ r
  else if ntT bs s = 42 then (if r.1.1 = 8 then some (stF (sdF r 5 1) 10) else none)
  else if ntT bs s = 126 then (if r.1.1 = 9 then some (stF r 6) else none)
  else if ntT bs s = 94 then (if 8 ≤ r.1.1 ∧ r.1.1 ≠ 11 then some (stF r 7) else none)
  else if ntT bs s = 58 then (if r.1.1 = 3 then some (stF r 2) else none)
  else if ntT bs s = 40 then tkO r
  else if ntT bs s = 41 then tkC r
  else none
def rdF (bs : List Int) : Nat → Int → RS → Int × RS
  | 0, p, r => if ntT bs (sb bs p) = 0 then (match tkF bs (sb bs p) r with | none => (sb bs p, r) | some r' => (-1, r')) else (sb bs p, r)
  | m + 1, p, r => match tkF bs (sb bs p) r with
    | none => (sb bs p, r)
    | some r' => if ntT bs (sb bs p) = 0 then (-1, r') else rdF bs m (ntA bs (sb bs p)) r'
def rd0 (sg ow : Int) (la : Nat) (ph : List Int) : RS := ((0, sg, ow), ([], [[]]), [], la, ph)
/-! what holds of the reader's states behind n tokens -/
def RDI (n : Nat) (r : RS) : Prop :=
  (r.2.1.1.length ≤ n ∧ r.2.1.2.length ≤ n + 1 ∧ 0 < r.2.1.2.length ∧ (∀ ns ∈ r.2.1.2, ns.length ≤ n) ∧ r.2.2.2.2.length ≤ n ∧ r.2.2.1.length ≤ 4) ∧
  ((r.1.2.1 = 0 ∨ r.1.2.1 = 43 ∨ r.1.2.1 = 45) ∧ (0 ≤ r.1.2.2 ∧ r.1.2.2 ≤ 2) ∧ (0 ≤ r.1.1 ∧ r.1.1 ≤ 11) ∧ (6 ≤ r.1.1 → r.2.2.2.1 < r.2.1.1.length)) ∧
  (∀ m ∈ r.2.2.1, ∃ t, r.2.1.1[m]? = some t ∧ 0 ≤ t.1 10 ∧ t.1 10 < r.2.1.2.length ∧ 0 ≤ t.1 2 ∧ t.1 2 ≤ 2) ∧
  (∀ (m : Nat) (t : PT), r.2.1.1[m]? = some t → 0 ≤ t.1 2 ∧ t.1 2 ≤ 2) ∧
  (∀ ns ∈ r.2.1.2, ∀ m ∈ ns, m < r.2.1.1.length) ∧ DRw r.2.1
theorem arF_rng {n : Nat} {r : RS} (I : RDI n r) : (0 ≤ (arF r.2.1 r.2.2.1).1 ∧ (arF r.2.1 r.2.2.1).1 ≤ 2) ∧ 0 ≤ (arF r.2.1 r.2.2.1).2.2 ∧ (arF r.2.1 r.2.2.1).2.2 < r.2.1.2.length := by
  obtain ⟨⟨-, -, i0, -⟩, -, i3, -⟩ := I
  cases z : r.2.2.1.getLast? with
  | none =>
    have e : arF r.2.1 r.2.2.1 = (2, 0, 0) := by unfold arF; rw [z]
    rw [e]
    exact ⟨⟨(by decide : (0 : Int) ≤ 2), (by decide : (2 : Int) ≤ 2)⟩, (by decide : (0 : Int) ≤ 0), by show (0 : Int) < _; omega⟩
  | some m =>
    obtain ⟨t, t1, t2, t3, t4, t5⟩ := i3 m (List.mem_of_getLast? z)
    have e : arF r.2.1 r.2.2.1 = (t.1 2, t.1 3, t.1 10) := by unfold arF; rw [z]; show arT _ = _; rw [t1]; rfl
    rw [e]
    exact ⟨⟨t4, t5⟩, t2, t3⟩
theorem RDI.mono {n m : Nat} {r : RS} (I : RDI n r) (h : n ≤ m) : RDI m r := by
  obtain ⟨⟨a, b, c, d, e, f⟩, g⟩ := I
  exact ⟨⟨by omega, by omega, c, fun ns hn => by have := d ns hn; omega, by omega, f⟩, g⟩
/-- a field of a part that is neither kind, field nor question's number is set -/
theorem RDI.sd {n : Nat} {r : RS} (I : RDI n r) {k v : Int} (hk : k ≠ 2 ∧ k ≠ 10) (h5 : k = 5 → v ≠ 3) : RDI n (sdF r k v) := by
  obtain ⟨⟨a, b, c, d, e, f⟩, g, i3, i4, i5, w1, w2⟩ := I
  have key : ∀ (m : Nat) t, (seD r.2.1 r.2.2.2.1 k v).1[m]? = some t → ∃ t0, r.2.1.1[m]? = some t0 ∧ t.1 2 = t0.1 2 ∧ t.1 10 = t0.1 10 ∧ (t.1 5 = 3 → t0.1 5 = 3) := by
    intro m t h0
    have h : (r.2.1.1.set r.2.2.2.1 (upP ((r.2.1.1[r.2.2.2.1]?).getD (mkP 0 0 0 0 0 [])) k v))[m]? = some t := h0
    clear h0
    rw [List.getElem?_set] at h
    by_cases e : r.2.2.2.1 = m
    · rw [if_pos e] at h
      by_cases e2 : r.2.2.2.1 < r.2.1.1.length
      · rw [if_pos e2] at h
        replace h := Option.some.inj h
        subst e
        have e3 : r.2.1.1[r.2.2.2.1]? = some r.2.1.1[r.2.2.2.1] := List.getElem?_eq_getElem e2
        refine ⟨r.2.1.1[r.2.2.2.1], e3, ?_⟩
        rw [e3] at h
        rw [← h]
        refine ⟨?_, ?_, fun y => ?_⟩
        · show (if (2 : Int) = k then v else _) = _
          rw [if_neg (fun z => hk.1 z.symm)]; rfl
        · show (if (10 : Int) = k then v else _) = _
          rw [if_neg (fun z => hk.2 z.symm)]; rfl
        · have y : (if (5 : Int) = k then v else (r.2.1.1[r.2.2.2.1]).1 5) = 3 := y
          by_cases z : (5 : Int) = k
          · rw [if_pos z] at y; exact absurd y (h5 z.symm)
          · rw [if_neg z] at y; exact y
      · rw [if_neg e2] at h; cases h
    · rw [if_neg e] at h
      exact ⟨t, h, rfl, rfl, fun y => y⟩
  have ln : (seD r.2.1 r.2.2.2.1 k v).1.length = r.2.1.1.length := List.length_set
  refine ⟨⟨by show (seD _ _ _ _).1.length ≤ n; rw [ln]; exact a, b, c, d, e, f⟩, ⟨g.1, g.2.1, g.2.2.1, fun y => by show _ < (seD _ _ _ _).1.length; rw [ln]; exact g.2.2.2 y⟩, fun m hm => ?_, fun m t h => ?_, fun ns hn m hm => by show m < (seD _ _ _ _).1.length; rw [ln]; exact i5 ns hn m hm, fun q ns m t h1 h2 h3 h4 => ?_, w2⟩
  · obtain ⟨t, t1, t2⟩ := i3 m hm
    obtain ⟨t9, h9⟩ : ∃ t9, (seD r.2.1 r.2.2.2.1 k v).1[m]? = some t9 := ⟨_, List.getElem?_eq_getElem (by rw [ln]; exact (List.getElem?_eq_some_iff.mp t1).1)⟩
    obtain ⟨t0, y1, y2, y3, -⟩ := key m t9 h9
    rw [t1] at y1
    cases y1
    exact ⟨t9, h9, by rw [y2, y3]; exact t2⟩
  · obtain ⟨t0, y1, y2, -⟩ := key m t h
    rw [y2]; exact i4 m t0 y1
  · obtain ⟨t0, y1, y2, y3, y4⟩ := key m t h3
    rw [y3]
    exact w1 q ns m t0 h1 h2 y1 (y4 h4)
theorem mem_setN {l : List (List Nat)} {q : Nat} {a : List Nat} {x : List Nat} (h : x ∈ l.set q a) : x ∈ l ∨ x = a := List.mem_or_eq_of_mem_set h
/-- a part is appended; what it holds -/
theorem RDI.apT {n : Nat} {r : RS} (I : RDI n r) {q0 : Nat} {t9 : PT} (f2 : 0 ≤ t9.1 2 ∧ t9.1 2 ≤ 2) (hk : t9.1 5 = 3 → (q0 : Int) < t9.1 10) : RDI (n + 1) (r.1, apD r.2.1 q0 t9, r.2.2.1, r.2.1.1.length, r.2.2.2.2) := by
  obtain ⟨⟨a, b, c, d, e, f⟩, g, i3, i4, i5, w1, w2⟩ := I
  have ln : (apD r.2.1 q0 t9).1.length = r.2.1.1.length + 1 := by show (r.2.1.1 ++ [t9]).length = _; rw [List.length_append]; rfl
  have ln2 : (apD r.2.1 q0 t9).2.length = r.2.1.2.length := List.length_set
  have get1 : ∀ (m : Nat) t, (apD r.2.1 q0 t9).1[m]? = some t → r.2.1.1[m]? = some t ∨ (m = r.2.1.1.length ∧ t = t9) := fun m t h => by
    have h : (r.2.1.1 ++ [t9])[m]? = some t := h
    by_cases z : m < r.2.1.1.length
    · rw [List.getElem?_append_left z] at h; exact Or.inl h
    · rw [List.getElem?_append_right (by omega)] at h
      have hm := (List.getElem?_eq_some_iff.mp h).1
      have hm : m - r.2.1.1.length < 1 := hm
      have e0 : m - r.2.1.1.length = 0 := by omega
      rw [e0] at h
      exact Or.inr ⟨by omega, (Option.some.inj h).symm⟩
  have old1 : ∀ (m : Nat) t, r.2.1.1[m]? = some t → (apD r.2.1 q0 t9).1[m]? = some t := fun m t h => by
    show (r.2.1.1 ++ [t9])[m]? = some t
    rw [List.getElem?_append_left (List.getElem?_eq_some_iff.mp h).1]; exact h
  have hg : ∀ (q : Nat) ns, (apD r.2.1 q0 t9).2[q]? = some ns → (q = q0 ∧ ∃ n0, r.2.1.2[q]? = some n0 ∧ ns = n0 ++ [r.2.1.1.length]) ∨ r.2.1.2[q]? = some ns := fun q ns h0 => by
    have h : (r.2.1.2.set q0 (((r.2.1.2[q0]?).getD []) ++ [r.2.1.1.length]))[q]? = some ns := h0
    clear h0
    rw [List.getElem?_set] at h
    by_cases z : q0 = q
    · rw [if_pos z] at h
      by_cases z2 : q0 < r.2.1.2.length
      · rw [if_pos z2] at h
        subst z
        refine Or.inl ⟨rfl, r.2.1.2[q0], List.getElem?_eq_getElem z2, ?_⟩
        rw [List.getElem?_eq_getElem z2] at h
        exact (Option.some.inj h).symm
      · rw [if_neg z2] at h; cases h
    · rw [if_neg z] at h; exact Or.inr h
  have hm5 : ∀ (q : Nat) ns m, r.2.1.2[q]? = some ns → m ∈ ns → m < r.2.1.1.length := fun q ns m h hm => i5 ns (List.mem_of_getElem? h) m hm
  refine ⟨⟨by show (apD _ _ _).1.length ≤ _; rw [ln]; omega, by show (apD _ _ _).2.length ≤ _; rw [ln2]; omega, by show 0 < (apD _ _ _).2.length; rw [ln2]; exact c, fun ns hn => ?_, Nat.le_trans e (Nat.le_succ n), f⟩, ⟨g.1, g.2.1, g.2.2.1, fun _ => by show r.2.1.1.length < (apD _ _ _).1.length; rw [ln]; omega⟩, fun m hm => ?_, fun m t h => ?_, fun ns hn m hm => ?_, fun q ns m t h1 h2 h3 h4 => ?_, fun q q' ns ns' m h1 h2 h3 h4 => ?_⟩
  · obtain ⟨q, hq⟩ := List.mem_iff_getElem?.mp hn
    rcases hg q ns hq with ⟨-, n0, z1, z2⟩ | z
    · have := d n0 (List.mem_of_getElem? z1)
      rw [z2, List.length_append]
      show n0.length + 1 ≤ n + 1
      omega
    · have := d ns (List.mem_of_getElem? z)
      omega
  · obtain ⟨t, t1, t2, t3, t4⟩ := i3 m hm
    exact ⟨t, old1 m t t1, t2, by show _ < (((apD _ _ _).2.length : Nat) : Int); rw [ln2]; exact t3, t4⟩
  · rcases get1 m t h with z | ⟨-, z⟩
    · exact i4 m t z
    · rw [z]; exact f2
  · show m < (apD _ _ _).1.length
    rw [ln]
    obtain ⟨q, hq⟩ := List.mem_iff_getElem?.mp hn
    rcases hg q ns hq with ⟨-, n0, z1, z2⟩ | z
    · rw [z2] at hm
      rcases List.mem_append.mp hm with y | y
      · have := hm5 q n0 m z1 y; omega
      · rw [List.mem_singleton] at y; omega
    · have := hm5 q ns m z hm; omega
  · rcases get1 m t h3 with z | ⟨z, zt⟩
    · have := (List.getElem?_eq_some_iff.mp z).1
      rcases hg q ns h1 with ⟨-, n0, z1, z2⟩ | z'
      · rw [z2] at h2
        rcases List.mem_append.mp h2 with y | y
        · exact w1 q n0 m t z1 y z h4
        · rw [List.mem_singleton] at y; omega
      · exact w1 q ns m t z' h2 z h4
    · rcases hg q ns h1 with ⟨y0, -⟩ | z'
      · rw [zt] at h4 ⊢
        have := hk h4
        rw [y0]; exact this
      · have := hm5 q ns m z' h2; omega
  · have back : ∀ (q : Nat) ns, (apD r.2.1 q0 t9).2[q]? = some ns → m ∈ ns → (q = q0 ∧ m = r.2.1.1.length) ∨ ∃ n0, r.2.1.2[q]? = some n0 ∧ m ∈ n0 := fun q ns h hm => by
      rcases hg q ns h with ⟨y0, n0, z1, z2⟩ | z
      · rw [z2] at hm
        rcases List.mem_append.mp hm with y | y
        · exact Or.inr ⟨n0, z1, y⟩
        · rw [List.mem_singleton] at y; exact Or.inl ⟨y0, y⟩
      · exact Or.inr ⟨ns, z, hm⟩
    rcases back q ns h1 h3 with ⟨y1, y2⟩ | ⟨n1, y1, y2⟩ <;> rcases back q' ns' h2 h4 with ⟨y3, y4⟩ | ⟨n2, y3, y4⟩
    · omega
    · have := hm5 q' n2 m y3 y4; omega
    · have := hm5 q n1 m y1 y2; omega
    · exact w2 q q' n1 n2 m y1 y3 y2 y4
theorem npT_f2 {n : Nat} {r : RS} (I : RDI n r) (k : Int) (ws : List Int) : 0 ≤ (npT r k ws).1 2 ∧ (npT r k ws).1 2 ≤ 2 := by
  have ar := arF_rng I
  show 0 ≤ (if r.1.2.2 = 2 then (arF r.2.1 r.2.2.1).1 else r.1.2.2) ∧ (if r.1.2.2 = 2 then (arF r.2.1 r.2.2.1).1 else r.1.2.2) ≤ 2
  split
  · exact ar.1
  · exact I.2.1.2.1
theorem RDI.ap {n : Nat} {r : RS} (I : RDI n r) {k : Int} {ws : List Int} (hk : k ≠ 3) : RDI (n + 1) (apF r k ws) := I.apT (npT_f2 I k ws) (fun y => absurd y hk)
theorem RDI.st {n : Nat} {r : RS} (I : RDI n r) {s : Int} (h0 : 0 ≤ s ∧ s ≤ 11) (h6 : 6 ≤ s → r.2.2.2.1 < r.2.1.1.length) : RDI n (stF r s) := ⟨I.1, ⟨I.2.1.1, I.2.1.2.1, h0, h6⟩, I.2.2⟩
theorem RDI.bc {n : Nat} {r : RS} (I : RDI n r) : RDI n (bcF r) := by
  unfold bcF
  split
  · exact ⟨I.1, ⟨Or.inl rfl, ⟨(by decide : (0 : Int) ≤ 2), (by decide : (2 : Int) ≤ 2)⟩, I.2.1.2.2⟩, I.2.2⟩
  · exact I
theorem bcF_st (r : RS) : (bcF r).1.1 = r.1.1 ∧ (bcF r).2 = r.2 := by
  unfold bcF
  split <;> exact ⟨rfl, rfl⟩
theorem RDI.op {n : Nat} {r : RS} (I : RDI n r) (ho : r.2.2.1.length < 4) : RDI (n + 1) (stF (r.1, adQ (seD (apF r 3 []).2.1 r.2.1.1.length 10 r.2.1.2.length), r.2.2.1 ++ [r.2.1.1.length], r.2.1.1.length, r.2.2.2.2) 0) := by
  have ar := arF_rng I
  have eD : seD (apF r 3 []).2.1 r.2.1.1.length 10 r.2.1.2.length = apD r.2.1 (arF r.2.1 r.2.2.1).2.2.toNat (upP (npT r 3 []) 10 r.2.1.2.length) := by
    show ((r.2.1.1 ++ [npT r 3 []]).set r.2.1.1.length (upP (((r.2.1.1 ++ [npT r 3 []])[r.2.1.1.length]?).getD _) 10 r.2.1.2.length), _) = (r.2.1.1 ++ [upP (npT r 3 []) 10 r.2.1.2.length], _)
    rw [List.getElem?_append_right (Nat.le_refl _), Nat.sub_self]
    refine Prod.ext ?_ rfl
    show (r.2.1.1 ++ [npT r 3 []]).set r.2.1.1.length _ = _
    rw [List.set_append_right _ _ (Nat.le_refl _), Nat.sub_self]; rfl
  have J := I.apT (q0 := (arF r.2.1 r.2.2.1).2.2.toNat) (t9 := upP (npT r 3 []) 10 r.2.1.2.length) (npT_f2 I 3 []) (fun _ => by show _ < (r.2.1.2.length : Int); omega)
  rw [eD]
  obtain ⟨D, hD⟩ : ∃ D, D = apD r.2.1 (arF r.2.1 r.2.2.1).2.2.toNat (upP (npT r 3 []) 10 r.2.1.2.length) := ⟨_, rfl⟩
  have new : D.1[r.2.1.1.length]? = some (upP (npT r 3 []) 10 r.2.1.2.length) := by
    rw [hD]
    show (r.2.1.1 ++ [upP (npT r 3 []) 10 r.2.1.2.length])[r.2.1.1.length]? = _
    rw [List.getElem?_append_right (Nat.le_refl _), Nat.sub_self]; rfl
  have ln2 : D.2.length = r.2.1.2.length := by rw [hD]; exact List.length_set
  rw [← hD] at J ⊢
  obtain ⟨⟨a, b, c, d, e, f⟩, g, i3, i4, i5, w1, w2⟩ := J
  have lnq : (adQ D).2.length = D.2.length + 1 := by show (D.2 ++ [[]]).length = _; rw [List.length_append]; rfl
  have get : ∀ (q : Nat) ns, (adQ D).2[q]? = some ns → D.2[q]? = some ns ∨ ns = [] := fun q ns h => by
    have h : (D.2 ++ [[]])[q]? = some ns := h
    by_cases z : q < D.2.length
    · rw [List.getElem?_append_left z] at h; exact Or.inl h
    · have := List.mem_of_getElem? h
      rw [List.getElem?_append_right (by omega)] at h
      have := List.mem_of_getElem? h
      rw [List.mem_singleton] at this
      exact Or.inr this
  refine ⟨⟨a, by show (adQ D).2.length ≤ _; rw [lnq, ln2]; have := I.1.2.1; omega, by show 0 < (adQ D).2.length; rw [lnq]; omega, fun ns hn => ?_, e, by show (r.2.2.1 ++ [r.2.1.1.length]).length ≤ 4; rw [List.length_append]; show r.2.2.1.length + 1 ≤ 4; omega⟩, ⟨g.1, g.2.1, ⟨(by decide : (0 : Int) ≤ 0), (by decide : (0 : Int) ≤ 11)⟩, fun y => absurd y (by show ¬ (6 : Int) ≤ 0; decide)⟩, fun m hm => ?_, i4, fun ns hn m hm => ?_, fun q ns m t h1 h2 h3 h4 => ?_, fun q q' ns ns' m h1 h2 h3 h4 => ?_⟩
  · rcases List.mem_append.mp hn with z | z
    · exact d ns z
    · rw [List.mem_singleton] at z; rw [z]; exact Nat.zero_le _
  · rcases List.mem_append.mp hm with z | z
    · obtain ⟨t, t1, t2, t3, t4⟩ := i3 m z
      exact ⟨t, t1, t2, by show _ < (((adQ D).2.length : Nat) : Int); rw [lnq]; have t3 : t.1 10 < (D.2.length : Int) := t3; omega, t4⟩
    · rw [List.mem_singleton] at z
      rw [z]
      refine ⟨_, new, ?_, ?_, npT_f2 I 3 []⟩
      · show (0 : Int) ≤ (r.2.1.2.length : Int); omega
      · show (r.2.1.2.length : Int) < (((adQ D).2.length : Nat) : Int); rw [lnq]; omega
  · rcases List.mem_append.mp hn with z | z
    · exact i5 ns z m hm
    · rw [List.mem_singleton] at z; rw [z] at hm; exact absurd hm List.not_mem_nil
  · rcases get q ns h1 with z | z
    · exact w1 q ns m t z h2 h3 h4
    · rw [z] at h2; exact absurd h2 List.not_mem_nil
  · rcases get q ns h1 with z | z
    · rcases get q' ns' h2 with z' | z'
      · exact w2 q q' ns ns' m z z' h3 h4
      · rw [z'] at h4; exact absurd h4 List.not_mem_nil
    · rw [z] at h3; exact absurd h3 List.not_mem_nil
theorem ccb_lo {s : Int} (h : ccb s = true) : 0 ≤ s := by have := of_decide_eq_true h; omega
theorem RDI.tk {bs : List Int} {s : Int} {n : Nat} {r r' : RS} (I : RDI n r) (hT : ntT bs s ≠ 0) (h : tkF bs s r = some r') : RDI (n + 1) r' := by
  have one : ∀ {x : RS}, RDI n x → RDI (n + 1) x := fun J => J.mono (Nat.le_succ n)
  have g := I.2.1
  unfold tkF at h
  rw [if_neg hT] at h
  by_cases c1 : ntT bs s = 1
  · rw [if_pos c1] at h
    unfold tkR at h
    by_cases d1 : r.1.1 = 4 ∨ r.1.1 = 5
    · rw [if_pos d1] at h
      cases h
      have J : RDI (n + 1) (phF r (if r.2.2.2.2.length < 40 then r.2.2.2.2 ++ [ntW bs s 0] else r.2.2.2.2)) := by
        obtain ⟨⟨a, b, c, d, e, f⟩, g2⟩ := one I
        refine ⟨⟨a, b, c, d, ?_, f⟩, g2⟩
        show (if r.2.2.2.2.length < 40 then r.2.2.2.2 ++ [ntW bs s 0] else r.2.2.2.2).length ≤ n + 1
        split
        · rw [List.length_append]; have := I.1.2.2.2.2.1; show _ + 1 ≤ _; omega
        · exact e
      exact J.st ⟨by decide, by decide⟩ (fun y => absurd y (by decide))
    · rw [if_neg d1] at h
      by_cases d2 : r.1.1 = 6 ∨ r.1.1 = 7
      · rw [if_pos d2] at h
        cases z : nuR bs s (ntA bs s) with
        | none => rw [z] at h; cases h
        | some v =>
          rw [z] at h
          have h := Option.some.inj h
          have la := g.2.2.2 (by omega)
          have ll : ∀ k, (sdF r k v).2.2.2.1 < (sdF r k v).2.1.1.length := fun k => by
            show _ < (r.2.1.1.set _ _).length
            rw [List.length_set]; exact la
          rw [← h]
          split
          · exact (one (I.sd (by decide) (fun y => absurd y (by decide)))).st ⟨by decide, by decide⟩ (fun _ => ll 7)
          · exact (one (I.sd (by decide) (fun y => absurd y (by decide)))).st ⟨by decide, by decide⟩ (fun _ => ll 6)
      · rw [if_neg d2] at h
        by_cases d3 : ccb r.1.1 = true
        · rw [if_pos d3] at h
          split at h
          · cases h
            have J := one I.bc
            have J2 : RDI (n + 1) (owF (bcF r) (nmF (runL bs s (ntA bs s)))) := ⟨J.1, ⟨J.2.1.1, by
              show 0 ≤ nmF _ ∧ nmF _ ≤ 2
              unfold nmF; split
              · exact ⟨by decide, by decide⟩
              · split <;> exact ⟨by decide, by decide⟩, J.2.1.2.2⟩, J.2.2⟩
            exact J2.st ⟨by decide, by decide⟩ (fun y => absurd y (by decide))
          · cases h
            have J := I.bc.ap (k := 0) (ws := [ntW bs s 0]) (by decide)
            have J2 := (J.sd (k := 8) (v := wvF (runL bs s (ntA bs s)) (runL bs s (ntA bs s)).length) (by decide) (fun y => absurd y (by decide))).sd (k := 9) (v := ntA bs s - s) (by decide) (fun y => absurd y (by decide))
            refine J2.st ⟨by decide, by decide⟩ (fun _ => ?_)
            show _ < (((((bcF r).2.1.1 ++ [_]).set _ _).set _ _)).length
            rw [List.length_set, List.length_set, List.length_append]
            show (bcF r).2.1.1.length < _ + 1
            omega
        · rw [if_neg d3] at h; cases h
  rw [if_neg c1] at h
  by_cases c2 : ntT bs s = 43 ∨ ntT bs s = 45
  · rw [if_pos c2] at h
    unfold tkS at h
    split at h
    · cases h
      have J := one I
      have J2 : RDI (n + 1) ((r.1.1, ntT bs s, 2), r.2) := ⟨J.1, ⟨Or.inr c2, ⟨(by decide : (0 : Int) ≤ 2), (by decide : (2 : Int) ≤ 2)⟩, J.2.1.2.2⟩, J.2.2⟩
      exact J2.st ⟨by decide, by decide⟩ (fun y => absurd y (by decide))
    · cases h
  rw [if_neg c2] at h
  by_cases c3 : ntT bs s = 34
  · rw [if_pos c3] at h
    unfold tkQ at h
    split at h
    · cases h
      have J := I.ap (k := 2) (ws := r.2.2.2.2) (by decide)
      have l0 : ∀ k v, (sdF (apF r 2 r.2.2.2.2) k v).2.2.2.1 < (sdF (apF r 2 r.2.2.2.2) k v).2.1.1.length := fun k v => by
        show _ < ((r.2.1.1 ++ [_]).set _ _).length
        rw [List.length_set, List.length_append]; show r.2.1.1.length < _ + 1; omega
      unfold apH
      split
      · exact J.st ⟨by decide, by decide⟩ (fun _ => by show _ < (r.2.1.1 ++ [_]).length; rw [List.length_append]; show r.2.1.1.length < _ + 1; omega)
      · exact (J.sd (by decide) (fun _ => by decide)).st ⟨by decide, by decide⟩ (fun _ => l0 5 0)
    · split at h
      · cases h
        have J := one I.bc
        have J2 : RDI (n + 1) (phF (bcF r) []) := ⟨⟨J.1.1, J.1.2.1, J.1.2.2.1, J.1.2.2.2.1, Nat.zero_le _, J.1.2.2.2.2.2⟩, J.2⟩
        exact J2.st ⟨by decide, by decide⟩ (fun y => absurd y (by decide))
      · cases h
  rw [if_neg c3] at h
  by_cases c4 : ntT bs s = 42
  · rw [if_pos c4] at h
    split at h
    · rename_i d1
      cases h
      have la := g.2.2.2 (by omega)
      exact (one (I.sd (by decide) (fun _ => by decide))).st ⟨by decide, by decide⟩ (fun _ => by show _ < (r.2.1.1.set _ _).length; rw [List.length_set]; exact la)
    · cases h
  rw [if_neg c4] at h
  by_cases c5 : ntT bs s = 126
  · rw [if_pos c5] at h
    split at h
    · rename_i d1
      cases h
      exact (one I).st ⟨by decide, by decide⟩ (fun _ => g.2.2.2 (by omega))
    · cases h
  rw [if_neg c5] at h
  by_cases c6 : ntT bs s = 94
  · rw [if_pos c6] at h
    split at h
    · rename_i d1
      cases h
      exact (one I).st ⟨by decide, by decide⟩ (fun _ => g.2.2.2 (by omega))
    · cases h
  rw [if_neg c6] at h
  by_cases c7 : ntT bs s = 58
  · rw [if_pos c7] at h
    split at h
    · cases h
      exact (one I).st ⟨by decide, by decide⟩ (fun y => absurd y (by decide))
    · cases h
  rw [if_neg c7] at h
  by_cases c8 : ntT bs s = 40
  · rw [if_pos c8] at h
    unfold tkO at h
    split at h
    · rename_i d1
      cases h
      have e := bcF_st r
      have J := I.bc.op (by rw [e.2]; exact d1.2)
      rw [e.2] at J
      exact J
    · cases h
  rw [if_neg c8] at h
  by_cases c9 : ntT bs s = 41
  · rw [if_pos c9] at h
    unfold tkC at h
    split at h
    · cases z : r.2.2.1.getLast? with
      | none => rw [z] at h; cases h
      | some m =>
        rw [z] at h
        have h := Option.some.inj h
        obtain ⟨t, t1, -⟩ := I.2.2.1 m (List.mem_of_getLast? z)
        have J := one I
        have J2 : RDI (n + 1) (r.1, r.2.1, r.2.2.1.dropLast, m, r.2.2.2.2) := ⟨⟨J.1.1, J.1.2.1, J.1.2.2.1, J.1.2.2.2.1, J.1.2.2.2.2.1, by show r.2.2.1.dropLast.length ≤ 4; rw [List.length_dropLast]; have := I.1.2.2.2.2.2; omega⟩, ⟨g.1, g.2.1, g.2.2.1, fun _ => (List.getElem?_eq_some_iff.mp t1).1⟩, fun x hx => J.2.2.1 x (List.dropLast_subset _ hx), J.2.2.2⟩
        rw [← h]
        exact J2.st ⟨by decide, by decide⟩ (fun _ => (List.getElem?_eq_some_iff.mp t1).1)
    · cases h
  rw [if_neg c9] at h
  cases h

end
