/-! ===== draft ===== -/
section
/-- a question and those in it: all its parts in their order, and the numbers of the parts of each -/
abbrev DR : Type := List PT × List (List Nat)
def DraR (h : XH) (a : Int) (qa pa : List Int) (D : DR) : Prop :=
  (ALr h a qa ∧ 52 ≤ a ∧ qa.length = D.2.length ∧ D.2.length ≤ 41) ∧ (pa.length = D.1.length ∧ D.1.length ≤ 40 ∧ qa.Nodup ∧ pa.Nodup) ∧
  (∀ (i : Nat) q ns, qa[i]? = some q → D.2[i]? = some ns → (93 ≤ q ∧ q < xnx h ∧ xtg h q = 5) ∧ 93 ≤ xpl h q 0 ∧ ALr h (xpl h q 0) (ns.map (fun n => (pa[n]?).getD 0)) ∧ (∀ n ∈ ns, n < D.1.length) ∧ ns.length ≤ 40) ∧
  ∀ (n : Nat) p t, pa[n]? = some p → D.1[n]? = some t → PartR h p t ∧ PTok t ∧ t.1 0 = n
/-- the cells of questions that their own fields' writing leaves -/
def DRC (h : XH) : Int → Prop := fun c => (xtg h c = 13 ∧ 52 ≤ c) ∨ (xtg h c = 110 ∧ 52 ≤ xpl h c (-1)) ∨ (xtg h c = 101 ∧ xpl h c (-1) = 0 ∧ 93 ≤ c)
theorem DraR.frame {C : Int → Prop} {h h' : XH} {a : Int} {qa pa : List Int} {D : DR} (R : DraR h a qa pa D) (F : xFix h) (e : xsm C h h') (hC : ∀ c, DRC h c → ¬ C c)
    (h5 : ∀ c, 93 ≤ c → c < xnx h → xtg h c = 5 → xpl h' c 0 = xpl h c 0) (h4 : ∀ c k, 93 ≤ c → c < xnx h → xtg h c = 4 → k ≤ 10 → xpl h' c k = xpl h c k) : DraR h' a qa pa D := by
  obtain ⟨⟨r1, r2, r3, r4⟩, s, t, u⟩ := R
  have al : ∀ a es, 52 ≤ a → ALr h a es → ALr h' a es := fun a es ha r => r.frame F e (fun c w => hC c (by
    rcases w with w | ⟨w1, w2⟩
    · exact Or.inl ⟨by rw [w]; exact r.1.2.2.1, by omega⟩
    · exact Or.inr (Or.inl ⟨w1, by omega⟩)))
  refine ⟨⟨al _ _ r2 r1, r2, r3, r4⟩, s, fun i q ns hq hn => ?_, fun n p pt hp ht => ?_⟩
  · obtain ⟨⟨q1, q2, q3⟩, q4, q5, q6⟩ := t i q ns hq hn
    have e0 := h5 q q1 q2 q3
    refine ⟨⟨q1, by have := e.nx; omega, by rw [e.tg q2]; exact q3⟩, by rw [e0]; exact q4, ?_, q6⟩
    rw [e0]
    exact al _ _ (by omega) q5
  · obtain ⟨v1, v2⟩ := u n p pt hp ht
    exact ⟨v1.frame e (fun k _ k1 => h4 p k v1.1.1 v1.1.2.1 v1.1.2.2 k1) (fun r x y z => hC r (Or.inr (Or.inr ⟨x, y, z⟩))), v2⟩
theorem DraR.q {h : XH} {a : Int} {qa pa : List Int} {D : DR} (R : DraR h a qa pa D) {i : Nat} (hi : i < D.2.length) : ∃ ns, D.2[i]? = some ns ∧ qa[i]? = some (alg h a i) ∧ (93 ≤ alg h a i ∧ alg h a i < xnx h ∧ xtg h (alg h a i) = 5) ∧ 93 ≤ xpl h (alg h a i) 0 ∧ ALr h (xpl h (alg h a i) 0) (ns.map (fun n => (pa[n]?).getD 0)) ∧ (∀ n ∈ ns, n < D.1.length) ∧ ns.length ≤ 40 := by
  have h1 := R.1.1.at (i := i) (by have := R.1.2.2.1; omega)
  have h2 : D.2[i]? = some D.2[i] := List.getElem?_eq_getElem hi
  exact ⟨D.2[i], h2, h1, R.2.2.1 i _ _ h1 h2⟩
theorem DraR.p {h : XH} {a : Int} {qa pa : List Int} {D : DR} (R : DraR h a qa pa D) {l : Int} {ns : List Nat} (L : ALr h l (ns.map (fun n => (pa[n]?).getD 0))) (hn : ∀ n ∈ ns, n < D.1.length) {k : Nat} (hk : k < ns.length) :
    ∃ n t, ns[k]? = some n ∧ pa[n]? = some (alg h l k) ∧ D.1[n]? = some t ∧ PartR h (alg h l k) t ∧ PTok t ∧ t.1 0 = n := by
  have h1 : ns[k]? = some ns[k] := List.getElem?_eq_getElem hk
  have h2 := hn ns[k] (List.getElem_mem hk)
  have h3 : D.1[ns[k]]? = some D.1[ns[k]] := List.getElem?_eq_getElem h2
  have h4 : pa[ns[k]]? = some (pa[ns[k]]'(by have := R.2.1.1; omega)) := List.getElem?_eq_getElem (by have := R.2.1.1; omega)
  have h5 := L.at (i := k) (by rw [List.length_map]; exact hk)
  rw [List.getElem?_map, h1] at h5
  have h6 : (pa[ns[k]]?).getD 0 = alg h l k := Option.some.inj h5
  rw [h4] at h6
  have h7 : pa[ns[k]]'(by have := R.2.1.1; omega) = alg h l k := h6
  rw [h7] at h4
  exact ⟨ns[k], D.1[ns[k]], h1, h4, h3, R.2.2.2 _ _ _ h4 h3⟩
/-- a part's tables and rarities, filled in -/
def PFit (h : XH) (p : Int) (t : PT) (f : List (Txt × Bool)) : Prop :=
  (∀ (i : Nat) x, f[i]? = some x → tabA h (t.1 0) i 0 (fitF t 0 (rwT x.1 0)) ∧ tabA h (t.1 0) i 1 (fitF t 1 (rwT x.1 1))) ∧ xpl h p 11 = rrF f.length (hoF t 0 f) ∧ xpl h p 12 = rrF f.length (hoF t 1 f)
def FitsR (h : XH) (pa : List Int) (D : DR) (f : List (Txt × Bool)) : Prop :=
  (xpl h 44 0 = mlF f 0 ∧ xpl h 44 1 = mlF f 1) ∧ ∀ (i : Nat) ns n p t, D.2[i]? = some ns → n ∈ ns → pa[n]? = some p → D.1[n]? = some t → PFit h p t f
/-- what filling in writes: of a part the rarities alone -/
def FIW (h : XH) : Int → Prop := fun c => (41 ≤ c ∧ c ≤ 47) ∨ (xtg h c = 4 ∧ 93 ≤ c)
theorem slF_ne {n m i j : Int} (hn : 0 ≤ n ∧ n < 40) (hm : 0 ≤ m ∧ m < 40) (h : n ≠ m) (hi : 0 ≤ i ∧ i < 60) (hj : 0 ≤ j ∧ j < 60) {a b : Int} (ha : a = 0 ∨ a = 1) (hb : b = 0 ∨ b = 1) : slF n i * 2 + a ≠ slF m j * 2 + b := by
  unfold slF
  rw [if_pos ⟨hn.1, hn.2, hi.1, hi.2⟩, if_pos ⟨hm.1, hm.2, hj.1, hj.2⟩]
  omega
theorem slF_ne2 {n i j : Int} {a b : Int} (ha : a = 0 ∨ a = 1) (hb : b = 0 ∨ b = 1) (h : a ≠ b) : slF n i * 2 + a ≠ slF n j * 2 + b := by omega
theorem FIW.back {C : Int → Prop} {h h1 : XH} {c : Int} (a : xsm C h h1) (hc : c < xnx h) (w : FIW h1 c) : FIW h c := by
  unfold FIW at *
  rwa [a.tg hc] at w
theorem FPW.fi {h h1 h' : XH} (e : xsm FPW h1 h') : xsm (FIW h) h1 h' := e.mono (fun c _ w => Or.inl (by have := w.hi; omega))
theorem FilR.fi {h h' : XH} {fp : List Int} {f : List (Txt × Bool)} (R : FilR h fp f) (F : xFix h) (e : xsm (FIW h) h h') : FilR h' fp f := by
  refine R.frame F e (fun c w v => ?_)
  rcases v with v | ⟨v, v2⟩
  · have t13 : ∀ k : Int, k ≠ 7 → 41 ≤ k → k ≤ 47 → xtg h k ≠ 110 ∧ xtg h k ≠ 9 := fun k _ k1 k2 => by
      have : k = 41 ∨ k = 42 ∨ k = 43 ∨ k = 44 ∨ k = 45 ∨ k = 46 ∨ k = 47 := by omega
      rcases this with e | e | e | e | e | e | e <;> rw [e]
      · rw [ft_41 F]; decide
      · rw [ft_42 F]; decide
      · rw [ft_43 F]; decide
      · rw [ft_44 F]; decide
      · rw [ft_45 F]; decide
      · rw [ft_46 F]; decide
      · rw [ft_47 F]; decide
    have := t13 c (by omega) v.1 v.2
    rcases w with (w | ⟨w, -⟩) | w | ⟨-, -, w⟩
    · omega
    · exact this.1 w
    · exact this.2 w
    · omega
  · rcases w with (w | ⟨w, -⟩) | w | ⟨w, -⟩
    · omega
    · rw [v] at w; cases w
    · rw [v] at w; cases w
    · rw [v] at w; cases w

end
