/-! ===== drf ===== -/
section
/-! a draft that was read: each part in one list, the lists in order, a question's part alone -/
def DJ (D : DR) : Prop := (∀ m : Nat, m < D.1.length → ∃ (q : Nat) (ns : List Nat), D.2[q]? = some ns ∧ m ∈ ns) ∧ (∀ ns ∈ D.2, ns.Pairwise (· < ·) ∧ ∀ m ∈ ns, m < D.1.length) ∧ (∀ (i : Nat) (t : PT), D.1[i]? = some t → t.1 5 = 3 → 1 ≤ t.1 10 ∧ t.1 10 < D.2.length) ∧ (∀ (i j : Nat) (t u : PT), D.1[i]? = some t → D.1[j]? = some u → t.1 5 = 3 → u.1 5 = 3 → t.1 10 = u.1 10 → i = j)
theorem apD_at {D : DR} {q : Nat} {t9 : PT} {i : Nat} {t : PT} (z9 : (apD D q t9).1[i]? = some t) : (D.1[i]? = some t ∧ i < D.1.length) ∨ (i = D.1.length ∧ t = t9) := by
  have z : (D.1 ++ [t9])[i]? = some t := z9
  clear z9
  by_cases y : i < D.1.length
  · rw [List.getElem?_append_left y] at z
    exact Or.inl ⟨z, y⟩
  · have hl := (List.getElem?_eq_some_iff.mp z).1
    rw [List.length_append] at hl
    have hl : i < D.1.length + 1 := hl
    have ei : i = D.1.length := by omega
    subst ei
    rw [List.getElem?_append_right (Nat.le_refl _), Nat.sub_self] at z
    exact Or.inr ⟨rfl, (Option.some.inj z).symm⟩
theorem apD_ls {D : DR} {q : Nat} {t9 : PT} (hq : q < D.2.length) : (apD D q t9).2[q]? = some (D.2[q] ++ [D.1.length]) ∧ ∀ p, p ≠ q → (apD D q t9).2[p]? = D.2[p]? := by
  have e : (apD D q t9).2 = D.2.set q (D.2[q] ++ [D.1.length]) := by
    show D.2.set q (((D.2[q]?).getD []) ++ [D.1.length]) = _
    rw [List.getElem?_eq_getElem hq]; rfl
  rw [e]
  refine ⟨?_, fun p hp => ?_⟩
  · rw [List.getElem?_set, if_pos rfl, if_pos hq]
  · rw [List.getElem?_set, if_neg (fun y => hp y.symm)]
theorem apD_mem {D : DR} {q : Nat} {t9 : PT} (hq : q < D.2.length) {ns : List Nat} (h : ns ∈ (apD D q t9).2) : ns ∈ D.2 ∨ ns = D.2[q] ++ [D.1.length] := by
  obtain ⟨p, hp⟩ := List.mem_iff_getElem?.mp h
  obtain ⟨a, b⟩ := apD_ls (t9 := t9) hq
  by_cases z : p = q
  · rw [z, a] at hp
    exact Or.inr (Option.some.inj hp).symm
  · rw [b p z] at hp
    exact Or.inl (List.mem_of_getElem? hp)
theorem DJ.ap1 {D : DR} {q : Nat} {t9 : PT} (J : DJ D) (hq : q < D.2.length) : (∀ m : Nat, m < (apD D q t9).1.length → ∃ (q' : Nat) (ns : List Nat), (apD D q t9).2[q']? = some ns ∧ m ∈ ns) ∧ (∀ ns ∈ (apD D q t9).2, ns.Pairwise (· < ·) ∧ ∀ m ∈ ns, m < (apD D q t9).1.length) ∧ (apD D q t9).1.length = D.1.length + 1 ∧ (apD D q t9).2.length = D.2.length := by
  obtain ⟨j1, j2, j3, j4⟩ := J
  have ln : (apD D q t9).1.length = D.1.length + 1 := by show (D.1 ++ [t9]).length = _; rw [List.length_append]; rfl
  have ln2 : (apD D q t9).2.length = D.2.length := List.length_set
  obtain ⟨a, b⟩ := apD_ls (t9 := t9) hq
  refine ⟨fun m hm => ?_, fun ns hn => ?_, ln, ln2⟩
  · rw [ln] at hm
    by_cases z : m = D.1.length
    · exact ⟨q, _, a, by rw [z]; exact List.mem_append_right _ (List.mem_singleton.mpr rfl)⟩
    · obtain ⟨p, ns, p1, p2⟩ := j1 m (by omega)
      by_cases y : p = q
      · subst y
        rw [List.getElem?_eq_getElem hq] at p1
        exact ⟨p, _, a, List.mem_append_left _ (by rw [Option.some.inj p1]; exact p2)⟩
      · exact ⟨p, ns, (b p y).trans p1, p2⟩
  · rw [ln]
    rcases apD_mem hq hn with z | z
    · obtain ⟨x, y⟩ := j2 ns z
      exact ⟨x, fun m hm => by have := y m hm; omega⟩
    · obtain ⟨x, y⟩ := j2 D.2[q] (List.getElem_mem hq)
      rw [z]
      refine ⟨List.pairwise_append.mpr ⟨x, List.pairwise_singleton _ _, fun a ha b hb => ?_⟩, fun m hm => ?_⟩
      · rw [List.mem_singleton] at hb
        rw [hb]; exact y a ha
      · rcases List.mem_append.mp hm with w | w
        · have := y m w; omega
        · rw [List.mem_singleton] at w; omega
theorem DJ.ap {D : DR} {q : Nat} {t9 : PT} (J : DJ D) (hq : q < D.2.length) (k : t9.1 5 ≠ 3) : DJ (apD D q t9) := by
  obtain ⟨a, b, ln, ln2⟩ := J.ap1 (t9 := t9) hq
  obtain ⟨j1, j2, j3, j4⟩ := J
  refine ⟨a, b, fun i t z h5 => ?_, fun i j t u z1 z2 h5 g5 e => ?_⟩
  · rw [ln2]
    rcases apD_at z with ⟨z, -⟩ | ⟨-, z⟩
    · exact j3 i t z h5
    · rw [z] at h5; exact absurd h5 k
  · rcases apD_at z1 with ⟨z1, -⟩ | ⟨-, z1⟩
    · rcases apD_at z2 with ⟨z2, -⟩ | ⟨-, z2⟩
      · exact j4 i j t u z1 z2 h5 g5 e
      · rw [z2] at g5; exact absurd g5 k
    · rw [z1] at h5; exact absurd h5 k
theorem DJ.op {D : DR} {q : Nat} {t9 : PT} (J : DJ D) (hq : q < D.2.length) (k : t9.1 10 = D.2.length) : DJ (adQ (apD D q t9)) := by
  obtain ⟨a, b, ln, ln2⟩ := J.ap1 (t9 := t9) hq
  obtain ⟨j1, j2, j3, j4⟩ := J
  have l2 : (adQ (apD D q t9)).2.length = D.2.length + 1 := by
    show ((apD D q t9).2 ++ [[]]).length = _
    rw [List.length_append, ln2]; rfl
  refine ⟨fun m hm => ?_, fun ns hn => ?_, fun i t z h5 => ?_, fun i j t u z1 z2 h5 g5 e => ?_⟩
  · obtain ⟨p, ns, p1, p2⟩ := a m hm
    refine ⟨p, ns, ?_, p2⟩
    show ((apD D q t9).2 ++ [[]])[p]? = some ns
    rw [List.getElem?_append_left (List.getElem?_eq_some_iff.mp p1).1]; exact p1
  · have hn : ns ∈ (apD D q t9).2 ++ [[]] := hn
    rcases List.mem_append.mp hn with z | z
    · exact b ns z
    · rw [List.mem_singleton] at z
      rw [z]
      exact ⟨List.Pairwise.nil, fun m hm => by cases hm⟩
  · rw [l2]
    have z : (apD D q t9).1[i]? = some t := z
    rcases apD_at z with ⟨z, -⟩ | ⟨-, z⟩
    · have := j3 i t z h5; omega
    · rw [z, k]; omega
  · have z1 : (apD D q t9).1[i]? = some t := z1
    have z2 : (apD D q t9).1[j]? = some u := z2
    rcases apD_at z1 with ⟨z1, -⟩ | ⟨y1, z1⟩
    · rcases apD_at z2 with ⟨z2, -⟩ | ⟨y2, z2⟩
      · exact j4 i j t u z1 z2 h5 g5 e
      · have := j3 i t z1 h5
        rw [e, z2, k] at this; omega
    · rcases apD_at z2 with ⟨z2, -⟩ | ⟨y2, z2⟩
      · have := j3 j u z2 g5
        rw [← e, z1, k] at this; omega
      · omega
theorem DJ.se {D : DR} {m : Nat} {k v : Int} (J : DJ D) (hk : k ≠ 10) (h5 : k = 5 → v ≠ 3) : DJ (seD D m k v) := by
  obtain ⟨j1, j2, j3, j4⟩ := J
  have ln : (seD D m k v).1.length = D.1.length := List.length_set
  have at_ : ∀ (i : Nat) (t : PT), (seD D m k v).1[i]? = some t → t.1 5 = 3 → ∃ t0, D.1[i]? = some t0 ∧ t0.1 5 = 3 ∧ t.1 10 = t0.1 10 := fun i t z y => by
    by_cases lt : m < D.1.length
    · obtain ⟨t0, z0, w⟩ := seD_at lt z
      rcases w with ⟨-, w⟩ | ⟨-, w⟩
      · refine ⟨t0, z0, ?_, ?_⟩
        · rw [w] at y
          have y : (if (5 : Int) = k then v else t0.1 5) = 3 := y
          by_cases x : (5 : Int) = k
          · rw [if_pos x] at y; exact absurd y (h5 x.symm)
          · rw [if_neg x] at y; exact y
        · rw [w]
          show (if (10 : Int) = k then v else t0.1 10) = _
          rw [if_neg (fun x => hk x.symm)]
      · exact ⟨t0, z0, by rw [← w]; exact y, by rw [w]⟩
    · have z : (D.1.set m (upP ((D.1[m]?).getD (mkP 0 0 0 0 0 [])) k v))[i]? = some t := z
      rw [List.set_eq_of_length_le (by omega)] at z
      exact ⟨t, z, y, rfl⟩
  refine ⟨fun i hi => j1 i (by rw [ln] at hi; exact hi), fun ns hn => by rw [ln]; exact j2 ns hn, fun i t z y => ?_, fun i j t u z1 z2 y1 y2 e => ?_⟩
  · obtain ⟨t0, a, b, c⟩ := at_ i t z y
    rw [c]; exact j3 i t0 a b
  · obtain ⟨t0, a, b, c⟩ := at_ i t z1 y1
    obtain ⟨u0, a', b', c'⟩ := at_ j u z2 y2
    exact j4 i j t0 u0 a a' b b' (by rw [← c, ← c', e])
theorem DJ.tk {bs : List Int} {s : Int} {n : Nat} {r r' : RS} (J : DJ r.2.1) (I : RDI n r) (h : tkF bs s r = some r') : DJ r'.2.1 := by
  have ar := arF_rng I
  have hq : quN r < r.2.1.2.length := by
    unfold quN
    have := ar.2
    omega
  have apx : ∀ (k : Int) (ws : List Int), k ≠ 3 → DJ (apF r k ws).2.1 := fun k ws hk => J.ap (q := quN r) (t9 := npT r k ws) hq hk
  have apb : ∀ (k : Int) (ws : List Int), k ≠ 3 → DJ (apF (bcF r) k ws).2.1 := fun k ws hk => by
    rw [apF_bc]
    exact J.ap (q := quN r) (t9 := npT (bcF r) k ws) hq hk
  have bc : (bcF r).2.1 = r.2.1 := by rw [(bcF_st r).2]
  unfold tkF at h
  by_cases c0 : ntT bs s = 0
  · rw [if_pos c0] at h
    split at h <;> cases h
    exact J
  rw [if_neg c0] at h
  by_cases c1 : ntT bs s = 1
  · rw [if_pos c1] at h
    unfold tkR at h
    by_cases d1 : r.1.1 = 4 ∨ r.1.1 = 5
    · rw [if_pos d1] at h
      cases h
      exact J
    · rw [if_neg d1] at h
      by_cases d2 : r.1.1 = 6 ∨ r.1.1 = 7
      · rw [if_pos d2] at h
        cases z : nuR bs s (ntA bs s) with
        | none => rw [z] at h; cases h
        | some v =>
          rw [z] at h
          have h := Option.some.inj h
          rw [← h]
          split
          · exact J.se (m := r.2.2.2.1) (k := 7) (v := v) (by decide) (fun y => absurd y (by decide))
          · exact J.se (m := r.2.2.2.1) (k := 6) (v := v) (by decide) (fun y => absurd y (by decide))
      · rw [if_neg d2] at h
        by_cases d3 : ccb r.1.1 = true
        · rw [if_pos d3] at h
          split at h
          · cases h
            show DJ (bcF r).2.1
            rw [bc]; exact J
          · cases h
            exact ((apb 0 [ntW bs s 0] (by decide)).se (k := 8) (by decide) (fun y => absurd y (by decide))).se (k := 9) (by decide) (fun y => absurd y (by decide))
        · rw [if_neg d3] at h; cases h
  rw [if_neg c1] at h
  by_cases c2 : ntT bs s = 43 ∨ ntT bs s = 45
  · rw [if_pos c2] at h
    unfold tkS at h
    split at h <;> cases h
    exact J
  rw [if_neg c2] at h
  by_cases c3 : ntT bs s = 34
  · rw [if_pos c3] at h
    unfold tkQ at h
    split at h
    · cases h
      unfold apH
      split
      · exact apx 2 _ (by decide)
      · exact (apx 2 _ (by decide)).se (k := 5) (v := 0) (by decide) (fun _ => by decide)
    · split at h <;> cases h
      show DJ (bcF r).2.1
      rw [bc]; exact J
  rw [if_neg c3] at h
  by_cases c4 : ntT bs s = 42
  · rw [if_pos c4] at h
    split at h <;> cases h
    exact J.se (m := r.2.2.2.1) (k := 5) (v := 1) (by decide) (fun _ => by decide)
  rw [if_neg c4] at h
  by_cases c5 : ntT bs s = 126
  · rw [if_pos c5] at h
    split at h <;> cases h
    exact J
  rw [if_neg c5] at h
  by_cases c6 : ntT bs s = 94
  · rw [if_pos c6] at h
    split at h <;> cases h
    exact J
  rw [if_neg c6] at h
  by_cases c7 : ntT bs s = 58
  · rw [if_pos c7] at h
    split at h <;> cases h
    exact J
  rw [if_neg c7] at h
  by_cases c8 : ntT bs s = 40
  · rw [if_pos c8] at h
    unfold tkO at h
    split at h
    · rw [apF_bc] at h
      cases h
      show DJ (adQ (seD (apD r.2.1 (quN r) (npT (bcF r) 3 [])) r.2.1.1.length 10 r.2.1.2.length))
      rw [seD_ap]
      exact J.op hq rfl
    · cases h
  rw [if_neg c8] at h
  by_cases c9 : ntT bs s = 41
  · rw [if_pos c9] at h
    unfold tkC at h
    split at h
    · cases z : r.2.2.1.getLast? with
      | none => rw [z] at h; cases h
      | some m => rw [z] at h; cases h; exact J
    · cases h
  rw [if_neg c9] at h; cases h
theorem DJ.rd {bs : List Int} : ∀ (m : Nat) (p : Int) (r : RS) (n : Nat), RDI n r → DJ r.2.1 → DJ (rdF bs m p r).2.2.1
  | 0, p, r, n, I, J => by
    show DJ (if ntT bs (sb bs p) = 0 then (match tkF bs (sb bs p) r with | none => (sb bs p, r) | some r' => (-1, r')) else (sb bs p, r)).2.2.1
    by_cases z : ntT bs (sb bs p) = 0
    · rw [if_pos z]
      cases y : tkF bs (sb bs p) r with
      | none => exact J
      | some r' => exact J.tk I y
    · rw [if_neg z]; exact J
  | m + 1, p, r, n, I, J => by
    show DJ (match tkF bs (sb bs p) r with | none => (sb bs p, r) | some r' => if ntT bs (sb bs p) = 0 then (-1, r') else rdF bs m (ntA bs (sb bs p)) r').2.2.1
    cases y : tkF bs (sb bs p) r with
    | none => exact J
    | some r' =>
      show DJ (if ntT bs (sb bs p) = 0 then ((-1 : Int), r') else rdF bs m (ntA bs (sb bs p)) r').2.2.1
      by_cases z : ntT bs (sb bs p) = 0
      · rw [if_pos z]; exact J.tk I y
      · rw [if_neg z]
        exact DJ.rd m _ r' (n + 1) (I.tk z y) (J.tk I y)
theorem rdA_DJ (s : CS) : DJ (rdA s).2.2.1 := by
  refine DJ.rd 40 0 r00 0 r00I ⟨fun m hm => absurd hm (Nat.not_lt_zero m), fun ns hn => ?_, fun i t z => (by cases z), fun i j t u z => (by cases z)⟩
  have hn : ns ∈ ([[]] : List (List Nat)) := hn
  rw [List.mem_singleton] at hn
  rw [hn]
  exact ⟨List.Pairwise.nil, fun m hm => by cases hm⟩
/-- the members of a question's list, by the picture -/
theorem PIC.mem {h : XH} {q n : Int} {D : DR} (C : PIC h q D n) (J : DJ D) {qi : Nat} {ns : List Nat} (z : D.2[qi]? = some ns) {m : Nat} (hm : m < D.1.length) : m ∈ ns ↔ (qi = 0 ∧ xpl h (q + 1) m = -1) ∨ ∃ (o : Nat) (to : PT), D.1[o]? = some to ∧ to.1 5 = 3 ∧ to.1 10 = qi ∧ xpl h (q + 1) m = o := by
  obtain ⟨j1, j2, j3, j4⟩ := J
  obtain ⟨c1, c2, c3, c4⟩ := C
  constructor
  · intro y
    obtain ⟨-, r⟩ := c3 qi ns m z y
    rcases r with r | ⟨o, to, r1, r2, r3, r4, r5⟩
    · exact Or.inl r
    · exact Or.inr ⟨o, to, r1, r2, r3, r5⟩
  · intro y
    obtain ⟨p, ms, p1, p2⟩ := j1 m hm
    obtain ⟨-, r⟩ := c3 p ms m p1 p2
    have ep : p = qi := by
      rcases y with ⟨y1, y2⟩ | ⟨o, to, y1, y2, y3, y4⟩ <;> rcases r with ⟨r1, r2⟩ | ⟨o', to', r1, r2, r3, r4, r5⟩
      · omega
      · omega
      · omega
      · have eo : o = o' := by omega
        rw [eo] at y1
        rw [y1] at r1
        cases r1
        omega
    rw [ep, z] at p1
    rw [Option.some.inj p1]; exact p2

end
