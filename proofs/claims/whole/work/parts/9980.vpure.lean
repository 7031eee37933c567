/-! ===== vpure ===== -/
section
/-! tables of words: what stands in them, and how often -/
theorem SortV.uniq {V : List VE} (S : SortV V) {a b : VE} (ha : a ∈ V) (hb : b ∈ V) (e : a.1 = b.1) : a = b := by
  obtain ⟨i, hi⟩ := List.mem_iff_getElem?.mp ha
  obtain ⟨j, hj⟩ := List.mem_iff_getElem?.mp hb
  rcases Nat.lt_trichotomy i j with z | z | z
  · have := S i j a b z hi hj; omega
  · rw [z, hj] at hi; exact (Option.some.inj hi).symm
  · have := S j i b a z hj hi; omega
theorem SortV.ne {V : List VE} (S : SortV V) {w : Int} (h : ∀ e, V[lbV V w]? = some e → e.1 ≠ w) : ∀ e ∈ V, e.1 ≠ w := by
  obtain ⟨b1, b2⟩ := S.lb w
  intro e he
  obtain ⟨i, hi⟩ := List.mem_iff_getElem?.mp he
  by_cases z : i < lbV V w
  · have := b1 i e hi z; omega
  · have n := b2 i e hi (by omega)
    by_cases y : i = lbV V w
    · rw [y] at hi; exact h e hi
    · obtain ⟨e0, he0⟩ : ∃ e0, V[lbV V w]? = some e0 := ⟨_, List.getElem?_eq_getElem (by have := (List.getElem?_eq_some_iff.mp hi).1; omega)⟩
      have a := S _ _ e0 e (by omega) he0 hi
      have b := b2 _ e0 he0 (Nat.le_refl _)
      omega
theorem insV_mem {V : List VE} {w t : Int} {e : VE} : e ∈ insV V w t ↔ e ∈ V ∨ e = (w, 1, t) := by
  unfold insV
  rw [List.mem_append, List.mem_cons]
  conv => rhs; rw [← List.take_append_drop (lbV V w) V, List.mem_append]
  constructor
  · rintro (h | h | h)
    · exact Or.inl (Or.inl h)
    · exact Or.inr h
    · exact Or.inl (Or.inr h)
  · rintro ((h | h) | h)
    · exact Or.inl h
    · exact Or.inr (Or.inr h)
    · exact Or.inr (Or.inl h)
theorem noteV_mem {V : List VE} (S : SortV V) {w t : Int} {e : VE} : e ∈ noteV V w t ↔ (e ∈ V ∧ e.1 ≠ w) ∨ (e.1 = w ∧ e.2.2 = t ∧ ((∃ e0 ∈ V, e0.1 = w ∧ e.2.1 = (if e0.2.2 = t then e0.2.1 else e0.2.1 + 1)) ∨ ((∀ e0 ∈ V, e0.1 ≠ w) ∧ e.2.1 = 1))) := by
  have ins : (∀ e0 ∈ V, e0.1 ≠ w) → (e ∈ insV V w t ↔ (e ∈ V ∧ e.1 ≠ w) ∨ (e.1 = w ∧ e.2.2 = t ∧ ((∃ e0 ∈ V, e0.1 = w ∧ e.2.1 = (if e0.2.2 = t then e0.2.1 else e0.2.1 + 1)) ∨ ((∀ e0 ∈ V, e0.1 ≠ w) ∧ e.2.1 = 1)))) := fun hne => by
    rw [insV_mem]
    constructor
    · rintro (h | h)
      · exact Or.inl ⟨h, hne e h⟩
      · rw [h]; exact Or.inr ⟨rfl, rfl, Or.inr ⟨hne, rfl⟩⟩
    · rintro (⟨h, -⟩ | ⟨h1, h2, ⟨e0, a, b, -⟩ | ⟨-, c⟩⟩)
      · exact Or.inl h
      · exact absurd b (hne e0 a)
      · exact Or.inr (Prod.ext h1 (Prod.ext c h2))
  cases hk : V[lbV V w]? with
  | none =>
    have e9 : noteV V w t = insV V w t := by unfold noteV; rw [hk]
    rw [e9]
    exact ins (S.ne (fun e0 h0 => by rw [hk] at h0; cases h0))
  | some e0 =>
    have m0 : e0 ∈ V := List.mem_of_getElem? hk
    by_cases z : e0.1 = w
    · by_cases y : e0.2.2 = t
      · have e9 : noteV V w t = V := by unfold noteV; rw [hk]; show (if e0.1 = w then (if e0.2.2 = t then V else _) else _) = V; rw [if_pos z, if_pos y]
        rw [e9]
        constructor
        · intro h
          by_cases x : e.1 = w
          · have q := S.uniq h m0 (x.trans z.symm)
            rw [q]; exact Or.inr ⟨z, y, Or.inl ⟨e0, m0, z, by rw [if_pos y]⟩⟩
          · exact Or.inl ⟨h, x⟩
        · rintro (⟨h, -⟩ | ⟨h1, h2, ⟨e1, a, b, c⟩ | ⟨a, -⟩⟩)
          · exact h
          · have q := S.uniq a m0 (b.trans z.symm)
            rw [q, if_pos y] at c
            have : e = e0 := Prod.ext (h1.trans z.symm) (Prod.ext c (h2.trans y.symm))
            rw [this]; exact m0
          · exact absurd z (a e0 m0)
      · have e9 : noteV V w t = V.set (lbV V w) (w, e0.2.1 + 1, t) := by unfold noteV; rw [hk]; show (if e0.1 = w then (if e0.2.2 = t then V else V.set (lbV V w) (w, e0.2.1 + 1, t)) else _) = _; rw [if_pos z, if_neg y]
        have hl := (List.getElem?_eq_some_iff.mp hk).1
        rw [e9]
        constructor
        · intro h
          obtain ⟨i, hi⟩ := List.mem_iff_getElem?.mp h
          rw [List.getElem?_set] at hi
          by_cases x : lbV V w = i
          · rw [if_pos x, if_pos hl] at hi
            rw [← Option.some.inj hi]
            exact Or.inr ⟨rfl, rfl, Or.inl ⟨e0, m0, z, by show e0.2.1 + 1 = _; rw [if_neg y]⟩⟩
          · rw [if_neg x] at hi
            refine Or.inl ⟨List.mem_of_getElem? hi, fun q => ?_⟩
            rcases Nat.lt_trichotomy i (lbV V w) with r | r | r
            · have := S i _ e e0 r hi hk; omega
            · exact x r.symm
            · have := S _ i e0 e r hk hi; omega
        · rintro (⟨h, hn⟩ | ⟨h1, h2, ⟨e1, a, b, c⟩ | ⟨a, -⟩⟩)
          · obtain ⟨i, hi⟩ := List.mem_iff_getElem?.mp h
            refine List.mem_iff_getElem?.mpr ⟨i, ?_⟩
            rw [List.getElem?_set]
            by_cases x : lbV V w = i
            · rw [← x, hk] at hi
              rw [← Option.some.inj hi] at hn
              exact absurd z hn
            · rw [if_neg x]; exact hi
          · have q := S.uniq a m0 (b.trans z.symm)
            rw [q, if_neg y] at c
            have : e = (w, e0.2.1 + 1, t) := Prod.ext h1 (Prod.ext c h2)
            rw [this]
            exact List.mem_iff_getElem?.mpr ⟨lbV V w, by rw [List.getElem?_set, if_pos rfl, if_pos hl]⟩
          · exact absurd z (a e0 m0)
    · have e9 : noteV V w t = insV V w t := by unfold noteV; rw [hk]; show (if e0.1 = w then _ else insV V w t) = _; rw [if_neg z]
      rw [e9]
      exact ins (S.ne (fun e1 h1 => by rw [hk] at h1; rw [← Option.some.inj h1]; exact z))
/-- the words of a row that aren't small -/
def nz (ws : List Int) : List Int := ws.filter (fun w => decide (w ≠ -1))
theorem nz_cons (w : Int) (ws : List Int) : nz (w :: ws) = if w = -1 then nz ws else w :: nz ws := by
  unfold nz
  by_cases z : w = -1
  · rw [List.filter_cons_of_neg (by simpa using z), if_pos z]
  · rw [List.filter_cons_of_pos (by simpa using z), if_neg z]
theorem nz_app (a b : List Int) : nz (a ++ b) = nz a ++ nz b := List.filter_append ..
theorem nz_len (ws : List Int) : (nz ws).length ≤ ws.length := List.length_filter_le _ _
/-- the table behind texts whose words stand c times, with the words D of text k besides -/
def NV (V : List VE) (c : Int → Int) (D : List Int) (k : Int) : Prop := SortV V ∧ (∀ w, 0 ≤ c w) ∧ (∀ w, (∃ e ∈ V, e.1 = w) ↔ (0 < c w ∨ w ∈ D)) ∧ ∀ e ∈ V, e.2.1 = c e.1 + (if e.1 ∈ D then 1 else 0) ∧ (e.1 ∈ D → e.2.2 = k) ∧ (¬ e.1 ∈ D → e.2.2 < k)
theorem NV.note {V : List VE} {c : Int → Int} {D : List Int} {k : Int} (N : NV V c D k) (w : Int) : NV (noteV V w k) c (D ++ [w]) k := by
  obtain ⟨S, c0, m, h⟩ := N
  have dm : ∀ x, x ∈ D ++ [w] ↔ x ∈ D ∨ x = w := fun x => by rw [List.mem_append, List.mem_singleton]
  have val : ∀ e ∈ noteV V w k, e.2.1 = c e.1 + (if e.1 ∈ D ++ [w] then 1 else 0) ∧ (e.1 ∈ D ++ [w] → e.2.2 = k) ∧ (¬ e.1 ∈ D ++ [w] → e.2.2 < k) := fun e he => by
    rcases (noteV_mem S).mp he with ⟨a, b⟩ | ⟨a, b, x⟩
    · obtain ⟨h1, h2, h3⟩ := h e a
      have eq : (e.1 ∈ D ++ [w]) ↔ e.1 ∈ D := by rw [dm]; exact ⟨fun y => y.resolve_right b, Or.inl⟩
      refine ⟨?_, fun y => h2 (eq.mp y), fun y => h3 (fun q => y (eq.mpr q))⟩
      rw [h1]
      by_cases z : e.1 ∈ D
      · rw [if_pos z, if_pos (eq.mpr z)]
      · rw [if_neg z, if_neg (fun q => z (eq.mp q))]
    · have hin : e.1 ∈ D ++ [w] := (dm _).mpr (Or.inr a)
      refine ⟨?_, fun _ => b, fun y => absurd hin y⟩
      rw [if_pos hin, a]
      rcases x with ⟨e0, x1, x2, x3⟩ | ⟨x1, x2⟩
      · obtain ⟨h1, h2, h3⟩ := h e0 x1
        rw [x2] at h1 h2 h3
        by_cases z : w ∈ D
        · rw [if_pos z] at h1
          rw [h2 z, if_pos rfl] at x3
          omega
        · rw [if_neg z] at h1
          have := h3 z
          rw [if_neg (by omega)] at x3
          omega
      · have nw : ¬ (0 < c w ∨ w ∈ D) := fun y => by
          obtain ⟨e0, y1, y2⟩ := (m w).mpr y
          exact x1 e0 y1 y2
        have := c0 w
        have : ¬ 0 < c w := fun y => nw (Or.inl y)
        omega
  refine ⟨S.note w k, c0, fun x => ?_, val⟩
  rw [dm]
  constructor
  · rintro ⟨e, he, ex⟩
    rcases (noteV_mem S).mp he with ⟨a, b⟩ | ⟨a, b, -⟩
    · rcases (m x).mp ⟨e, a, ex⟩ with y | y
      · exact Or.inl y
      · exact Or.inr (Or.inl y)
    · exact Or.inr (Or.inr (ex.symm.trans a))
  · intro hx
    by_cases z : x = w
    · by_cases y : ∃ e0 ∈ V, e0.1 = w
      · obtain ⟨e0, y1, y2⟩ := y
        exact ⟨(w, if e0.2.2 = k then e0.2.1 else e0.2.1 + 1, k), (noteV_mem S).mpr (Or.inr ⟨rfl, rfl, Or.inl ⟨e0, y1, y2, rfl⟩⟩), z.symm⟩
      · exact ⟨(w, 1, k), (noteV_mem S).mpr (Or.inr ⟨rfl, rfl, Or.inr ⟨fun e0 y1 y2 => y ⟨e0, y1, y2⟩, rfl⟩⟩), z.symm⟩
    · have : 0 < c x ∨ x ∈ D := by
        rcases hx with y | y | y
        · exact Or.inl y
        · exact Or.inr y
        · exact absurd y z
      obtain ⟨e, y1, y2⟩ := (m x).mpr this
      exact ⟨e, (noteV_mem S).mpr (Or.inl ⟨y1, by rw [y2]; exact z⟩), y2⟩
theorem NV.row : ∀ (ws : List Int) {V : List VE} {c : Int → Int} {D : List Int} {k : Int}, NV V c D k → NV (noteRowV V ws k) c (D ++ nz ws) k
  | [], V, c, D, k, N => by
    show NV V c (D ++ []) k
    rw [List.append_nil]; exact N
  | w :: ws, V, c, D, k, N => by
    have e : noteRowV V (w :: ws) k = noteRowV (if w = -1 then V else noteV V w k) ws k := rfl
    rw [e, nz_cons]
    by_cases z : w = -1
    · rw [if_pos z, if_pos z]; exact NV.row ws N
    · rw [if_neg z, if_neg z, show D ++ w :: nz ws = (D ++ [w]) ++ nz ws by rw [List.append_assoc]; rfl]
      exact NV.row ws (N.note w)
theorem NV.next {V : List VE} {c : Int → Int} {D : List Int} {k : Int} (N : NV V c D k) : NV V (fun w => c w + if w ∈ D then 1 else 0) [] (k + 1) := by
  obtain ⟨S, c0, m, h⟩ := N
  refine ⟨S, fun w => ?_, fun w => ?_, fun e he => ?_⟩
  · show 0 ≤ c w + if w ∈ D then 1 else 0
    have := c0 w
    split <;> omega
  · rw [m w]
    have := c0 w
    show _ ↔ (0 < c w + (if w ∈ D then 1 else 0) ∨ w ∈ [])
    by_cases z : w ∈ D
    · rw [if_pos z]; exact ⟨fun _ => Or.inl (by omega), fun _ => Or.inr z⟩
    · rw [if_neg z]
      refine ⟨fun y => Or.inl (y.elim (fun q => by omega) (fun q => absurd q z)), fun y => Or.inl ?_⟩
      rcases y with y | y
      · omega
      · exact absurd y List.not_mem_nil
  · obtain ⟨h1, h2, h3⟩ := h e he
    refine ⟨by rw [if_neg List.not_mem_nil]; show e.2.1 = c e.1 + (if e.1 ∈ D then 1 else 0) + 0; omega, fun y => absurd y List.not_mem_nil, fun _ => ?_⟩
    by_cases z : e.1 ∈ D
    · have := h2 z; omega
    · have := h3 z; omega
theorem NV.nil (k : Int) : NV [] (fun _ => 0) [] k := ⟨fun i j a b _ ha _ => by simp at ha, fun _ => Int.le_refl _, fun w => ⟨fun ⟨e, he, _⟩ => absurd he List.not_mem_nil, fun y => y.elim (fun q => absurd q (by show ¬ (0 : Int) < 0; decide)) (fun q => absurd q List.not_mem_nil)⟩, fun e he => absurd he List.not_mem_nil⟩
/-- all words of a text -/
def twT (t : Txt) : List Int := nz (rwT t 0) ++ nz (rwT t 1)
/-- in how many of the first k texts a word stands -/
def nuT (f : List (Txt × Bool)) (w : Int) : Nat → Int
  | 0 => 0
  | k + 1 => nuT f w k + (if w ∈ twT ((f[k]?).getD ((0, 0, 0, [], []), false)).1 then 1 else 0)
theorem nvs_NV (s : CS) : ∀ k : Nat, NV (nvs s k) (fun w => nuT (fC s) w k) [] k
  | 0 => NV.nil 0
  | k + 1 => by
    have a := NV.row (rwT (fA s k).1 1) (NV.row (rwT (fA s k).1 0) (nvs_NV s k))
    have b := a.next
    have e : (fun w => (fun w => nuT (fC s) w k) w + if w ∈ ([] : List Int) ++ nz (rwT (fA s k).1 0) ++ nz (rwT (fA s k).1 1) then 1 else 0) = fun w => nuT (fC s) w (k + 1) := by
      funext w
      rw [List.nil_append]
      show nuT (fC s) w k + _ = nuT (fC s) w k + _
      have e2 : fA s k = ((fC s)[k]?).getD ((0, 0, 0, [], []), false) := by unfold fA; rw [Int.toNat_natCast]
      unfold twT
      rw [e2]
    rw [e] at b
    exact b
/-- the words of some texts' rows -/
def rwsW (s : CS) (fl st : Int) : Nat → List Int
  | 0 => []
  | k + 1 => rwsW s fl st k ++ nz (rwT (fA s (st + k)).1 fl)
theorem wvs_in (s : CS) (fl st : Int) : ∀ k : Nat, SortV (wvs s fl st k) ∧ ∀ w, (∃ e ∈ wvs s fl st k, e.1 = w) ↔ w ∈ rwsW s fl st k := by
  have key : ∀ k : Nat, ∃ c, NV (wvs s fl st k) c [] k ∧ ∀ w, 0 < c w ↔ w ∈ rwsW s fl st k := by
    intro k
    induction k with
    | zero => exact ⟨fun _ => 0, NV.nil 0, fun w => ⟨fun y => absurd y (by show ¬ (0 : Int) < 0; decide), fun y => absurd y List.not_mem_nil⟩⟩
    | succ k ih =>
      obtain ⟨c, N, hc⟩ := ih
      have b := (NV.row (rwT (fA s (st + k)).1 fl) N).next
      refine ⟨_, b, fun w => ?_⟩
      show 0 < c w + (if w ∈ [] ++ nz (rwT (fA s (st + k)).1 fl) then 1 else 0) ↔ w ∈ rwsW s fl st k ++ nz (rwT (fA s (st + k)).1 fl)
      have c0 := N.2.1 w
      rw [List.nil_append, List.mem_append, ← hc w]
      by_cases z : w ∈ nz (rwT (fA s (st + k)).1 fl)
      · rw [if_pos z]; exact ⟨fun _ => Or.inr z, fun _ => by omega⟩
      · rw [if_neg z]; exact ⟨fun y => Or.inl (by omega), fun y => y.elim (fun q => by omega) (fun q => absurd q z)⟩
  intro k
  obtain ⟨c, N, hc⟩ := key k
  refine ⟨N.1, fun w => ?_⟩
  rw [N.2.2.1 w, ← hc w]
  exact ⟨fun y => y.elim (fun q => q) (fun q => absurd q List.not_mem_nil), Or.inl⟩
/-- a stretch that rises strictly, with a table's words, is as long as the table -/
theorem strict_len {g : Int → Int} {fr to : Int} {V : List VE} (S : SortV V) (h0 : fr ≤ to) (hg : ∀ i j, fr ≤ i → i < j → j < to → g i < g j) (hm : ∀ w, (∃ i, fr ≤ i ∧ i < to ∧ g i = w) ↔ ∃ e ∈ V, e.1 = w) : to - fr = V.length := by
  have A : ((List.range (to - fr).toNat).map (fun (k : Nat) => g (fr + (k : Int)))).Nodup := by
    rw [List.nodup_iff_pairwise_ne, List.pairwise_map]
    refine List.Pairwise.imp_of_mem (fun {a b} ha hb hab => ?_) List.pairwise_lt_range
    have := List.mem_range.mp hb
    have := hg (fr + a) (fr + b) (by omega) (by omega) (by omega)
    omega
  have B : (V.map (fun e => e.1)).Nodup := by
    rw [List.nodup_iff_pairwise_ne, List.pairwise_map]
    rw [List.pairwise_iff_getElem]
    intro i j hi hj hij
    have := S i j _ _ hij (List.getElem?_eq_getElem hi) (List.getElem?_eq_getElem hj)
    omega
  have p := (List.perm_ext_iff_of_nodup A B).mpr (fun w => by
    rw [List.mem_map, List.mem_map]
    constructor
    · rintro ⟨k, hk, ek⟩
      have := List.mem_range.mp hk
      obtain ⟨e, he, e2⟩ := (hm w).mp ⟨fr + k, by omega, by omega, ek⟩
      exact ⟨e, he, e2⟩
    · rintro ⟨e, he, e2⟩
      obtain ⟨i, i0, i1, i2⟩ := (hm w).mpr ⟨e, he, e2⟩
      exact ⟨(i - fr).toNat, List.mem_range.mpr (by omega), by rw [show fr + (((i - fr).toNat : Nat) : Int) = i by omega]; exact i2⟩)
  have l := p.length_eq
  rw [List.length_map, List.length_map, List.length_range] at l
  omega

end
