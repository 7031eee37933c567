/-! ===== den ===== -/
section
/-! what is denied: a part with -, or in the brackets of one that is -/
def DEN (D : DR) : Prop := (∀ (i : Nat) (t : PT), D.1[i]? = some t → (0 ≤ t.1 10 ∧ t.1 10 < D.2.length) ∧ (t.1 3 = 0 ∨ t.1 3 = 1)) ∧ (∀ (i j : Nat) (t u : PT), D.1[i]? = some t → D.1[j]? = some u → 1 ≤ t.1 10 → t.1 10 = u.1 10 → i = j) ∧
  ∀ (q : Nat) (ns : List Nat) (m : Nat) (t : PT), D.2[q]? = some ns → m ∈ ns → D.1[m]? = some t → (q = 0 → (t.1 3 = 1 ↔ t.1 1 = 45)) ∧ ∀ (o : Nat) (to : PT), D.1[o]? = some to → 1 ≤ to.1 10 → to.1 10 = q → (t.1 3 = 1 ↔ t.1 1 = 45 ∨ to.1 3 = 1)
/-- the parts whose ( is open have a question's number -/
def OPN (D : DR) (op : List Nat) : Prop := ∀ m ∈ op, ∃ t, D.1[m]? = some t ∧ 1 ≤ t.1 10
theorem DEN.ap0 {D : DR} {q : Nat} {t9 : PT} (E : DEN D) (lt : ∀ ns ∈ D.2, ∀ m ∈ ns, m < D.1.length) (hq : q < D.2.length) (k3 : t9.1 3 = 0 ∨ t9.1 3 = 1) (h0 : q = 0 → (t9.1 3 = 1 ↔ t9.1 1 = 45)) (ho : ∀ (o : Nat) (to : PT), D.1[o]? = some to → 1 ≤ to.1 10 → to.1 10 = q → (t9.1 3 = 1 ↔ t9.1 1 = 45 ∨ to.1 3 = 1)) :
    ∀ (p : Nat) (ns : List Nat) (m : Nat) (t : PT), (apD D q t9).2[p]? = some ns → m ∈ ns → (apD D q t9).1[m]? = some t → (p = 0 → (t.1 3 = 1 ↔ t.1 1 = 45)) ∧ ∀ (o : Nat) (to : PT), D.1[o]? = some to → 1 ≤ to.1 10 → to.1 10 = p → (t.1 3 = 1 ↔ t.1 1 = 45 ∨ to.1 3 = 1) := by
  intro p ns m t hp hm ht
  obtain ⟨e1, e2, e3⟩ := E
  obtain ⟨a, b⟩ := apD_ls (t9 := t9) hq
  rcases apD_at ht with ⟨g, hlt⟩ | ⟨hm2, g⟩
  · by_cases z : p = q
    · subst z
      rw [a] at hp
      have hp := Option.some.inj hp
      rw [← hp] at hm
      rcases List.mem_append.mp hm with y | y
      · exact e3 p _ m t (List.getElem?_eq_getElem hq) y g
      · rw [List.mem_singleton] at y; omega
    · rw [b p z] at hp
      exact e3 p ns m t hp hm g
  · have pq : p = q := by
      by_cases z : p = q
      · exact z
      · rw [b p z] at hp
        have := lt ns (List.mem_of_getElem? hp) m hm
        omega
    subst pq
    rw [g]
    exact ⟨h0, ho⟩
theorem DEN.ap {D : DR} {q : Nat} {t9 : PT} (E : DEN D) (lt : ∀ ns ∈ D.2, ∀ m ∈ ns, m < D.1.length) (hq : q < D.2.length) (k3 : t9.1 3 = 0 ∨ t9.1 3 = 1) (k10 : t9.1 10 = 0) (h0 : q = 0 → (t9.1 3 = 1 ↔ t9.1 1 = 45)) (ho : ∀ (o : Nat) (to : PT), D.1[o]? = some to → 1 ≤ to.1 10 → to.1 10 = q → (t9.1 3 = 1 ↔ t9.1 1 = 45 ∨ to.1 3 = 1)) : DEN (apD D q t9) := by
  have c := E.ap0 lt hq k3 h0 ho
  obtain ⟨e1, e2, e3⟩ := E
  have ln2 : (apD D q t9).2.length = D.2.length := List.length_set
  refine ⟨fun i t h => ?_, fun i j t u h1 h2 h3 h4 => ?_, fun p ns m t hp hm ht => ⟨(c p ns m t hp hm ht).1, fun o to h1 h2 h3 => ?_⟩⟩
  · rw [ln2]
    rcases apD_at h with ⟨h, -⟩ | ⟨-, h⟩
    · exact e1 i t h
    · rw [h, k10]; exact ⟨by omega, k3⟩
  · rcases apD_at h1 with ⟨h1, -⟩ | ⟨-, h1⟩
    · rcases apD_at h2 with ⟨h2, -⟩ | ⟨-, h2⟩
      · exact e2 i j t u h1 h2 h3 h4
      · rw [h2, k10] at h4; omega
    · rw [h1, k10] at h3; omega
  · rcases apD_at h1 with ⟨h1, -⟩ | ⟨-, h1⟩
    · exact (c p ns m t hp hm ht).2 o to h1 h2 h3
    · rw [h1, k10] at h2; omega
theorem DEN.op {D : DR} {q : Nat} {t9 : PT} (E : DEN D) (lt : ∀ ns ∈ D.2, ∀ m ∈ ns, m < D.1.length) (hq : q < D.2.length) (k3 : t9.1 3 = 0 ∨ t9.1 3 = 1) (k10 : t9.1 10 = D.2.length) (h0 : q = 0 → (t9.1 3 = 1 ↔ t9.1 1 = 45)) (ho : ∀ (o : Nat) (to : PT), D.1[o]? = some to → 1 ≤ to.1 10 → to.1 10 = q → (t9.1 3 = 1 ↔ t9.1 1 = 45 ∨ to.1 3 = 1)) : DEN (adQ (apD D q t9)) := by
  have c := E.ap0 lt hq k3 h0 ho
  obtain ⟨e1, e2, e3⟩ := E
  have ln2 : (apD D q t9).2.length = D.2.length := List.length_set
  have lnq : (adQ (apD D q t9)).2.length = D.2.length + 1 := by show ((apD D q t9).2 ++ [[]]).length = _; rw [List.length_append, ln2]; rfl
  have at_ : ∀ (i : Nat) (t : PT), (adQ (apD D q t9)).1[i]? = some t → (D.1[i]? = some t ∧ i < D.1.length) ∨ (i = D.1.length ∧ t = t9) := fun i t h => apD_at (q := q) h
  refine ⟨fun i t h => ?_, fun i j t u h1 h2 h3 h4 => ?_, fun p ns m t hp hm ht => ?_⟩
  · rw [lnq]
    rcases at_ i t h with ⟨h, -⟩ | ⟨-, h⟩
    · obtain ⟨a, b⟩ := e1 i t h
      exact ⟨by omega, b⟩
    · rw [h, k10]; exact ⟨by omega, k3⟩
  · rcases at_ i t h1 with ⟨h1, -⟩ | ⟨y1, h1⟩
    · rcases at_ j u h2 with ⟨h2, -⟩ | ⟨-, h2⟩
      · exact e2 i j t u h1 h2 h3 h4
      · have := (e1 i t h1).1
        rw [h2, k10] at h4; omega
    · rcases at_ j u h2 with ⟨h2, -⟩ | ⟨y2, h2⟩
      · have := (e1 j u h2).1
        rw [h1, k10] at h4; omega
      · omega
  · have hp : ((apD D q t9).2 ++ [[]])[p]? = some ns := hp
    by_cases z : p < (apD D q t9).2.length
    · rw [List.getElem?_append_left z] at hp
      refine ⟨(c p ns m t hp hm ht).1, fun o to h1 h2 h3 => ?_⟩
      rcases at_ o to h1 with ⟨h1, -⟩ | ⟨-, h1⟩
      · exact (c p ns m t hp hm ht).2 o to h1 h2 h3
      · rw [h1, k10] at h3; omega
    · rw [List.getElem?_append_right (by omega)] at hp
      have := List.mem_of_getElem? hp
      rw [List.mem_singleton] at this
      rw [this] at hm
      cases hm
theorem seD_get {D : DR} {m : Nat} {k v : Int} {i : Nat} {t : PT} (z : (seD D m k v).1[i]? = some t) : ∃ t0, D.1[i]? = some t0 ∧ ∀ j : Int, j ≠ k → t.1 j = t0.1 j := by
  by_cases lt : m < D.1.length
  · obtain ⟨t0, z0, w⟩ := seD_at lt z
    refine ⟨t0, z0, fun j hj => ?_⟩
    rcases w with ⟨-, w⟩ | ⟨-, w⟩
    · rw [w]
      show (if j = k then v else t0.1 j) = _
      rw [if_neg hj]
    · rw [w]
  · have z : (D.1.set m (upP ((D.1[m]?).getD (mkP 0 0 0 0 0 [])) k v))[i]? = some t := z
    rw [List.set_eq_of_length_le (by omega)] at z
    exact ⟨t, z, fun _ _ => rfl⟩
theorem DEN.se {D : DR} {m : Nat} {k v : Int} (E : DEN D) (h1 : k ≠ 1) (h3 : k ≠ 3) (h10 : k ≠ 10) : DEN (seD D m k v) := by
  obtain ⟨e1, e2, e3⟩ := E
  refine ⟨fun i t h => ?_, fun i j t u g1 g2 g3 g4 => ?_, fun p ns m' t hp hm ht => ?_⟩
  · obtain ⟨t0, a, b⟩ := seD_get h
    rw [b 10 (fun y => h10 y.symm), b 3 (fun y => h3 y.symm)]; exact e1 i t0 a
  · obtain ⟨t0, a, b⟩ := seD_get g1
    obtain ⟨u0, a', b'⟩ := seD_get g2
    rw [b 10 (fun y => h10 y.symm)] at g3 g4
    rw [b' 10 (fun y => h10 y.symm)] at g4
    exact e2 i j t0 u0 a a' g3 g4
  · obtain ⟨t0, a, b⟩ := seD_get ht
    rw [b 3 (fun y => h3 y.symm), b 1 (fun y => h1 y.symm)]
    obtain ⟨c1, c2⟩ := e3 p ns m' t0 hp hm a
    refine ⟨c1, fun o to g1 g2 g3 => ?_⟩
    obtain ⟨o0, x, y⟩ := seD_get g1
    rw [y 10 (fun w => h10 w.symm)] at g2 g3
    rw [y 3 (fun w => h3 w.symm)]
    exact c2 o o0 x g2 g3
theorem OPN.se {D : DR} {m : Nat} {k v : Int} {op : List Nat} (E : OPN D op) (h10 : k ≠ 10) : OPN (seD D m k v) op := fun n hn => by
  obtain ⟨t, t1, t2⟩ := E n hn
  have ln : (seD D m k v).1.length = D.1.length := List.length_set
  have lt := (List.getElem?_eq_some_iff.mp t1).1
  have z : (seD D m k v).1[n]? = some ((seD D m k v).1[n]'(by omega)) := List.getElem?_eq_getElem (by omega)
  obtain ⟨t0, a, b⟩ := seD_get z
  rw [t1] at a
  cases a
  exact ⟨_, z, by rw [b 10 (fun y => h10 y.symm)]; exact t2⟩
theorem OPN.ap {D : DR} {q : Nat} {t9 : PT} {op : List Nat} (E : OPN D op) : OPN (apD D q t9) op := fun n hn => by
  obtain ⟨t, t1, t2⟩ := E n hn
  refine ⟨t, ?_, t2⟩
  show (D.1 ++ [t9])[n]? = some t
  rw [List.getElem?_append_left (List.getElem?_eq_some_iff.mp t1).1]; exact t1
/-- a new part's denial -/
theorem DEN.new {r : RS} {sg : Int} {t9 : PT} (E : DEN r.2.1) (O : OPN r.2.1 r.2.2.1) (h1 : t9.1 1 = sg) (h3 : t9.1 3 = if (arF r.2.1 r.2.2.1).2.1 = 0 ∧ sg ≠ 45 then 0 else 1) : (t9.1 3 = 0 ∨ t9.1 3 = 1) ∧ (quN r = 0 → (t9.1 3 = 1 ↔ t9.1 1 = 45)) ∧ ∀ (o : Nat) (to : PT), r.2.1.1[o]? = some to → 1 ≤ to.1 10 → to.1 10 = quN r → (t9.1 3 = 1 ↔ t9.1 1 = 45 ∨ to.1 3 = 1) := by
  obtain ⟨e1, e2, e3⟩ := E
  have k : t9.1 3 = 0 ∨ t9.1 3 = 1 := by rw [h3]; split <;> omega
  refine ⟨k, ?_⟩
  unfold quN
  rw [h1]
  cases z : r.2.2.1.getLast? with
  | none =>
    have ea : arF r.2.1 r.2.2.1 = (2, 0, 0) := by unfold arF; rw [z]
    rw [ea] at h3 ⊢
    have h3 : t9.1 3 = if (0 : Int) = 0 ∧ sg ≠ 45 then 0 else 1 := h3
    refine ⟨fun _ => ?_, fun o to g1 g2 g3 => ?_⟩
    · rw [h3]
      by_cases y : sg = 45
      · rw [if_neg (by omega)]; omega
      · rw [if_pos ⟨rfl, y⟩]; omega
    · have g3 : to.1 10 = (((0 : Int).toNat : Nat) : Int) := g3
      have : ((0 : Int).toNat : Int) = 0 := rfl
      omega
  | some m =>
    obtain ⟨t, t1, t2⟩ := O m (List.mem_of_getLast? z)
    have ea : arF r.2.1 r.2.2.1 = (t.1 2, t.1 3, t.1 10) := by
      unfold arF
      rw [z]
      show arT r.2.1.1[m]? = _
      rw [t1]; rfl
    rw [ea] at h3 ⊢
    have h3 : t9.1 3 = if t.1 3 = 0 ∧ sg ≠ 45 then 0 else 1 := h3
    have b := (e1 m t t1).2
    refine ⟨fun y => ?_, fun o to g1 g2 g3 => ?_⟩
    · have y : (t.1 10).toNat = 0 := y
      omega
    · have g3 : to.1 10 = (((t.1 10).toNat : Nat) : Int) := g3
      have eo := e2 o m to t g1 t1 g2 (by omega)
      subst eo
      rw [t1] at g1
      cases g1
      rw [h3]
      by_cases y : sg = 45
      · rw [if_neg (by omega)]; omega
      · by_cases x : t.1 3 = 0
        · rw [if_pos ⟨x, y⟩]; omega
        · rw [if_neg (by omega)]; omega
theorem OPN.drop {D : DR} {op : List Nat} (E : OPN D op) : OPN D op.dropLast := fun n hn => by
  rw [List.dropLast_eq_take] at hn
  exact E n (List.mem_of_mem_take hn)
theorem DEN.tk {bs : List Int} {s : Int} {n : Nat} {r r' : RS} (E : DEN r.2.1) (O : OPN r.2.1 r.2.2.1) (I : RDI n r) (h : tkF bs s r = some r') : DEN r'.2.1 ∧ OPN r'.2.1 r'.2.2.1 := by
  have ar := arF_rng I
  have hq : quN r < r.2.1.2.length := by
    unfold quN
    have := ar.2
    omega
  have lt : ∀ ns ∈ r.2.1.2, ∀ m ∈ ns, m < r.2.1.1.length := I.2.2.2.2.1
  have apx : ∀ (k : Int) (ws : List Int), DEN (apF r k ws).2.1 ∧ OPN (apF r k ws).2.1 r.2.2.1 := fun k ws => by
    obtain ⟨a, b, c⟩ := DEN.new (sg := r.1.2.1) (t9 := npT r k ws) E O rfl rfl
    exact ⟨E.ap (q := quN r) (t9 := npT r k ws) lt hq a rfl b c, O.ap⟩
  have e2 := (bcF_st r).2
  have npb : ∀ (k : Int) (ws : List Int), (npT (bcF r) k ws).1 3 = if (arF r.2.1 r.2.2.1).2.1 = 0 ∧ (bcF r).1.2.1 ≠ 45 then 0 else 1 := fun k ws => by
    show (if (arF (bcF r).2.1 (bcF r).2.2.1).2.1 = 0 ∧ (bcF r).1.2.1 ≠ 45 then (0 : Int) else 1) = _
    rw [e2]
  have apb : ∀ (k : Int) (ws : List Int), DEN (apF (bcF r) k ws).2.1 ∧ OPN (apF (bcF r) k ws).2.1 r.2.2.1 := fun k ws => by
    rw [apF_bc]
    obtain ⟨a, b, c⟩ := DEN.new (sg := (bcF r).1.2.1) (t9 := npT (bcF r) k ws) E O rfl (npb k ws)
    exact ⟨E.ap (q := quN r) (t9 := npT (bcF r) k ws) lt hq a rfl b c, O.ap⟩
  have bc : DEN (bcF r).2.1 ∧ OPN (bcF r).2.1 (bcF r).2.2.1 := by rw [e2]; exact ⟨E, O⟩
  unfold tkF at h
  by_cases c0 : ntT bs s = 0
  · rw [if_pos c0] at h
    split at h <;> cases h
    exact ⟨E, O⟩
  rw [if_neg c0] at h
  by_cases c1 : ntT bs s = 1
  · rw [if_pos c1] at h
    unfold tkR at h
    by_cases d1 : r.1.1 = 4 ∨ r.1.1 = 5
    · rw [if_pos d1] at h
      cases h
      exact ⟨E, O⟩
    · rw [if_neg d1] at h
      by_cases d2 : r.1.1 = 6 ∨ r.1.1 = 7
      · rw [if_pos d2] at h
        cases z : nuR bs s (ntA bs s) with
        | none => rw [z] at h; cases h
        | some v =>
          rw [z] at h
          have h := Option.some.inj h
          rw [← h]
          split
          · exact ⟨E.se (m := r.2.2.2.1) (k := 7) (v := v) (by decide) (by decide) (by decide), O.se (m := r.2.2.2.1) (k := 7) (v := v) (by decide)⟩
          · exact ⟨E.se (m := r.2.2.2.1) (k := 6) (v := v) (by decide) (by decide) (by decide), O.se (m := r.2.2.2.1) (k := 6) (v := v) (by decide)⟩
      · rw [if_neg d2] at h
        by_cases d3 : ccb r.1.1 = true
        · rw [if_pos d3] at h
          split at h
          · cases h
            exact bc
          · cases h
            have w := apb 0 [ntW bs s 0]
            have e3 : (bcF r).2.2.1 = r.2.2.1 := by rw [e2]
            refine ⟨(w.1.se (k := 8) (by decide) (by decide) (by decide)).se (k := 9) (by decide) (by decide) (by decide), ?_⟩
            show OPN _ (bcF r).2.2.1
            rw [e3]
            exact (w.2.se (k := 8) (by decide)).se (k := 9) (by decide)
        · rw [if_neg d3] at h; cases h
  rw [if_neg c1] at h
  by_cases c2 : ntT bs s = 43 ∨ ntT bs s = 45
  · rw [if_pos c2] at h
    unfold tkS at h
    split at h <;> cases h
    exact ⟨E, O⟩
  rw [if_neg c2] at h
  by_cases c3 : ntT bs s = 34
  · rw [if_pos c3] at h
    unfold tkQ at h
    split at h
    · cases h
      unfold apH
      split
      · exact apx 2 _
      · exact ⟨(apx 2 _).1.se (k := 5) (v := 0) (by decide) (by decide) (by decide), (apx 2 _).2.se (k := 5) (v := 0) (by decide)⟩
    · split at h <;> cases h
      exact bc
  rw [if_neg c3] at h
  by_cases c4 : ntT bs s = 42
  · rw [if_pos c4] at h
    split at h <;> cases h
    exact ⟨E.se (m := r.2.2.2.1) (k := 5) (v := 1) (by decide) (by decide) (by decide), O.se (m := r.2.2.2.1) (k := 5) (v := 1) (by decide)⟩
  rw [if_neg c4] at h
  by_cases c5 : ntT bs s = 126
  · rw [if_pos c5] at h
    split at h <;> cases h
    exact ⟨E, O⟩
  rw [if_neg c5] at h
  by_cases c6 : ntT bs s = 94
  · rw [if_pos c6] at h
    split at h <;> cases h
    exact ⟨E, O⟩
  rw [if_neg c6] at h
  by_cases c7 : ntT bs s = 58
  · rw [if_pos c7] at h
    split at h <;> cases h
    exact ⟨E, O⟩
  rw [if_neg c7] at h
  by_cases c8 : ntT bs s = 40
  · rw [if_pos c8] at h
    unfold tkO at h
    split at h
    · rw [apF_bc] at h
      cases h
      obtain ⟨a, b, c⟩ := DEN.new (sg := (bcF r).1.2.1) (t9 := upP (npT (bcF r) 3 []) 10 r.2.1.2.length) E O rfl (npb 3 [])
      have eD : adQ (seD (apD r.2.1 (quN r) (npT (bcF r) 3 [])) r.2.1.1.length 10 r.2.1.2.length) = adQ (apD r.2.1 (quN r) (upP (npT (bcF r) 3 []) 10 r.2.1.2.length)) := by rw [seD_ap]
      refine ⟨?_, ?_⟩
      · show DEN (adQ (seD (apD r.2.1 (quN r) (npT (bcF r) 3 [])) r.2.1.1.length 10 r.2.1.2.length))
        rw [eD]
        exact E.op lt hq a rfl b c
      · show OPN (adQ (seD (apD r.2.1 (quN r) (npT (bcF r) 3 [])) r.2.1.1.length 10 r.2.1.2.length)) (r.2.2.1 ++ [r.2.1.1.length])
        rw [eD]
        intro m hm
        rcases List.mem_append.mp hm with y | y
        · obtain ⟨t, t1, t2⟩ := O.ap (q := quN r) (t9 := upP (npT (bcF r) 3 []) 10 r.2.1.2.length) m y
          exact ⟨t, t1, t2⟩
        · rw [List.mem_singleton] at y
          refine ⟨upP (npT (bcF r) 3 []) 10 r.2.1.2.length, ?_, ?_⟩
          · show (r.2.1.1 ++ [upP (npT (bcF r) 3 []) 10 r.2.1.2.length])[m]? = _
            rw [y, List.getElem?_append_right (Nat.le_refl _), Nat.sub_self]; rfl
          · show (1 : Int) ≤ (r.2.1.2.length : Nat)
            omega
    · cases h
  rw [if_neg c8] at h
  by_cases c9 : ntT bs s = 41
  · rw [if_pos c9] at h
    unfold tkC at h
    split at h
    · cases z : r.2.2.1.getLast? with
      | none => rw [z] at h; cases h
      | some m => rw [z] at h; cases h; exact ⟨E, O.drop⟩
    · cases h
  rw [if_neg c9] at h; cases h
theorem DEN.rd {bs : List Int} : ∀ (m : Nat) (p : Int) (r : RS) (n : Nat), RDI n r → DEN r.2.1 → OPN r.2.1 r.2.2.1 → DEN (rdF bs m p r).2.2.1
  | 0, p, r, n, I, E, O => by
    show DEN (if ntT bs (sb bs p) = 0 then (match tkF bs (sb bs p) r with | none => (sb bs p, r) | some r' => (-1, r')) else (sb bs p, r)).2.2.1
    by_cases z : ntT bs (sb bs p) = 0
    · rw [if_pos z]
      cases y : tkF bs (sb bs p) r with
      | none => exact E
      | some r' => exact (E.tk O I y).1
    · rw [if_neg z]; exact E
  | m + 1, p, r, n, I, E, O => by
    show DEN (match tkF bs (sb bs p) r with | none => (sb bs p, r) | some r' => if ntT bs (sb bs p) = 0 then (-1, r') else rdF bs m (ntA bs (sb bs p)) r').2.2.1
    cases y : tkF bs (sb bs p) r with
    | none => exact E
    | some r' =>
      show DEN (if ntT bs (sb bs p) = 0 then ((-1 : Int), r') else rdF bs m (ntA bs (sb bs p)) r').2.2.1
      have k := E.tk O I y
      by_cases z : ntT bs (sb bs p) = 0
      · rw [if_pos z]; exact k.1
      · rw [if_neg z]
        exact DEN.rd m _ r' (n + 1) (I.tk z y) k.1 k.2
theorem rdA_DEN (s : CS) : DEN (rdA s).2.2.1 := by
  refine DEN.rd 40 0 r00 0 r00I ⟨fun i t z => (by cases z), fun i j t u z => (by cases z), fun q ns m t h1 h2 h3 => (by cases h3)⟩ (fun m hm => by cases hm)

end
