/-! ===== rdheap ===== -/
section
/-! the draft grows: the heap's side -/
def LOWC (h : XH) : Int → Prop := fun c => (c = 32 ∨ c = 33 ∨ c = 34 ∨ TPC c) ∨ (xtg h c = 110 ∧ xpl h c (-1) = 34)
theorem LOWC.nd {h : XH} {c : Int} (F : xFix h) (w : LOWC h c) : ¬ DRC h c := by
  intro v
  have hT : ∀ k : Int, k = 32 ∨ k = 33 ∨ k = 34 ∨ TPC k → k < 52 ∧ xtg h k ≠ 110 := by
    intro k hk
    unfold TPC at hk
    rcases hk with e | e | e | e | e | e | e <;> rw [e]
    · rw [ft_32 F]; exact ⟨by decide, by decide⟩
    · rw [ft_33 F]; exact ⟨by decide, by decide⟩
    · rw [ft_34 F]; exact ⟨by decide, by decide⟩
    · rw [ft_1 F]; exact ⟨by decide, by decide⟩
    · rw [ft_2 F]; exact ⟨by decide, by decide⟩
    · rw [ft_3 F]; exact ⟨by decide, by decide⟩
    · rw [ft_4 F]; exact ⟨by decide, by decide⟩
  unfold DRC at v
  rcases w with w | ⟨w1, w2⟩
  · have := hT c w
    rcases v with v | v | v
    · omega
    · exact this.2 v.1
    · omega
  · rcases v with v | v | v
    · rw [w1] at v; exact absurd v.1 (by decide)
    · omega
    · rw [w1] at v; exact absurd v.1 (by decide)
theorem LOWC.hi {h : XH} {c : Int} (w : LOWC h c) (hc : 52 ≤ c) : xtg h c = 110 := by
  unfold LOWC TPC at w
  rcases w with w | w
  · omega
  · exact w.1
def DFr (h0 h : XH) (a : Int) (qa pa : List Int) : Prop := xnx h0 ≤ a ∧ (∀ q ∈ qa, xnx h0 ≤ q ∧ xnx h0 ≤ xpl h q 0 ∧ xpl h q 0 ≠ a) ∧ (∀ p ∈ pa, xnx h0 ≤ p) ∧ ∀ (i j : Nat) q q', qa[i]? = some q → qa[j]? = some q' → i ≠ j → xpl h q 0 ≠ xpl h q' 0
theorem DFr.keep {h0 h h' : XH} {a : Int} {qa pa : List Int} (R : DFr h0 h a qa pa) (e : ∀ q ∈ qa, xpl h' q 0 = xpl h q 0) : DFr h0 h' a qa pa := by
  obtain ⟨r1, r2, r3, r4⟩ := R
  refine ⟨r1, fun q hq => by rw [e q hq]; exact r2 q hq, r3, fun i j q q' hi hj hne => ?_⟩
  rw [e q (List.mem_of_getElem? hi), e q' (List.mem_of_getElem? hj)]
  exact r4 i j q q' hi hj hne
theorem DraR.qm {h : XH} {a : Int} {qa pa : List Int} {D : DR} (R : DraR h a qa pa D) {q : Int} (hq : q ∈ qa) : (93 ≤ q ∧ q < xnx h ∧ xtg h q = 5) ∧ 93 ≤ xpl h q 0 := by
  obtain ⟨i, hi⟩ := List.mem_iff_getElem?.mp hq
  have hl := (List.getElem?_eq_some_iff.mp hi).1
  have h2 : D.2[i]? = some (D.2[i]'(by have := R.1.2.2.1; omega)) := List.getElem?_eq_getElem _
  have := R.2.2.1 i q _ hi h2
  exact ⟨this.1, this.2.1⟩
theorem DraR.pm {h : XH} {a : Int} {qa pa : List Int} {D : DR} (R : DraR h a qa pa D) {p : Int} (hp : p ∈ pa) : 93 ≤ p ∧ p < xnx h ∧ xtg h p = 4 := by
  obtain ⟨i, hi⟩ := List.mem_iff_getElem?.mp hp
  have hl := (List.getElem?_eq_some_iff.mp hi).1
  have h2 : D.1[i]? = some (D.1[i]'(by have := R.2.1.1; omega)) := List.getElem?_eq_getElem _
  exact (R.2.2.2 i p _ hi h2).1.1
theorem DraR.low {h h' : XH} {a : Int} {qa pa : List Int} {D : DR} (R : DraR h a qa pa D) (F : xFix h) (e : xsm (LOWC h) h h') : DraR h' a qa pa D :=
  R.frame F e (fun _ w y => LOWC.nd F y w) (fun c c1 c2 c3 => e.pl c2 (fun w => by have := w.hi (by omega); rw [c3] at this; cases this) 0) (fun c k c1 c2 c3 _ => e.pl c2 (fun w => by have := w.hi (by omega); rw [c3] at this; cases this) k)
theorem DraR.alm {h : XH} {a : Int} {qa pa : List Int} {D : DR} (R : DraR h a qa pa D) {i : Nat} {q : Int} {ns : List Nat} (hq : qa[i]? = some q) (hn : D.2[i]? = some ns) : ALr h (xpl h q 0) (ns.map (fun n => (pa[n]?).getD 0)) ∧ (∀ n ∈ ns, n < D.1.length) ∧ ns.length ≤ 40 := by
  have := R.2.2.1 i q ns hq hn
  exact this.2.2
theorem ALC_ne {h : XH} {x y c : Int} (hx : xtg h x = 13) (hy : xtg h y = 13) (hne : x ≠ y) (w : ALC h x c) : ¬ ALC h y c := by
  intro v
  unfold ALC at w v
  rcases w with w | w <;> rcases v with v | v
  · omega
  · rw [w] at v; rw [hx] at v; exact absurd v.1 (by decide)
  · rw [v] at w; rw [hy] at w; exact absurd w.1 (by decide)
  · omega
theorem map_paApp {pa : List Int} {p : Int} {ns : List Nat} (h : ∀ n ∈ ns, n < pa.length) : ns.map (fun n => ((pa ++ [p])[n]?).getD 0) = ns.map (fun n => (pa[n]?).getD 0) := by
  apply List.map_congr_left
  intro n hn
  rw [List.getElem?_append_left (h n hn)]
/-- a part at the end of a question's list -/
theorem DraR.apd {H h2 : XH} {a p : Int} {qa pa : List Int} {D : DR} {t : PT} {q0 : Nat} {q : Int} {n0 : List Nat} (R : DraR H a qa pa D) (h0 : XH) (Fr : DFr h0 H a qa pa) (F : xFix H) (hq : qa[q0]? = some q) (hn : D.2[q0]? = some n0) (e : xsm (ALC H (xpl H q 0)) H h2) (L : ALr h2 (xpl H q 0) (n0.map (fun n => (pa[n]?).getD 0) ++ [p])) (PR : PartR H p t) (ok : PTok t) (hp : p ∉ pa) (ht : t.1 0 = D.1.length) (hl : D.1.length < 40) (hl2 : n0.length < 40) :
    DraR h2 a qa (pa ++ [p]) (apD D q0 t) ∧ ∀ c, c ∈ qa ∨ xtg H c = 4 → c < xnx H → ∀ k, xpl h2 c k = xpl H c k := by
  obtain ⟨⟨r1, r2, r3, r4⟩, ⟨s1, s2, s3, s4⟩, tq, tp⟩ := R
  have R : DraR H a qa pa D := ⟨⟨r1, r2, r3, r4⟩, ⟨s1, s2, s3, s4⟩, tq, tp⟩
  obtain ⟨l, hl9⟩ : ∃ l, l = xpl H q 0 := ⟨_, rfl⟩
  rw [← hl9] at e L
  have hL13 : xtg H l = 13 := by rw [hl9]; exact (R.alm hq hn).1.1.2.2.1
  have hal : l ≠ a := by rw [hl9]; exact (Fr.2.1 q (List.mem_of_getElem? hq)).2.2
  have nC : ∀ c, xtg H c ≠ 13 → xtg H c ≠ 110 → ¬ ALC H l c := fun c c1 c2 w => by
    rcases w with w | w
    · rw [w] at c1; exact c1 hL13
    · exact c2 w.1
  have hkeep : ∀ c, c ∈ qa ∨ xtg H c = 4 → c < xnx H → ∀ k, xpl h2 c k = xpl H c k := fun c hc hcn k => by
    refine e.pl hcn (nC c ?_ ?_) k
    · rcases hc with w | w
      · rw [(R.qm w).1.2.2]; decide
      · rw [w]; decide
    · rcases hc with w | w
      · rw [(R.qm w).1.2.2]; decide
      · rw [w]; decide
  have hqlt : ∀ x ∈ qa, x < xnx H := fun x hx => (R.qm hx).1.2.1
  have ln2 : (apD D q0 t).2.length = D.2.length := List.length_set
  have ln1 : (apD D q0 t).1.length = D.1.length + 1 := by show (D.1 ++ [t]).length = _; rw [List.length_append]; rfl
  have hpl : p < xnx H := PR.1.2.1
  have q0l := (List.getElem?_eq_some_iff.mp hn).1
  refine ⟨⟨⟨r1.frame F e (fun c w => ALC_ne r1.1.2.2.1 hL13 (fun z => hal z.symm) w), r2, by rw [ln2]; exact r3, by rw [ln2]; exact r4⟩, ⟨by rw [ln1, List.length_append, s1]; rfl, by rw [ln1]; omega, s3, ?_⟩, fun i q' ns h1 h3 => ?_, fun n p' t' h1 h3 => ?_⟩, hkeep⟩
  · rw [List.nodup_append]
    exact ⟨s4, by simp, fun x hx y hy => by rw [List.mem_singleton] at hy; rintro rfl; rw [hy] at hx; exact hp hx⟩
  · have hm := List.mem_of_getElem? h1
    have hQ := R.qm hm
    have e0 : xpl h2 q' 0 = xpl H q' 0 := hkeep q' (Or.inl hm) hQ.1.2.1 0
    refine ⟨⟨hQ.1.1, by have := e.1; omega, by rw [e.tg hQ.1.2.1]; exact hQ.1.2.2⟩, by rw [e0]; exact hQ.2, ?_⟩
    rw [e0]
    replace h3 : (D.2.set q0 (((D.2[q0]?).getD []) ++ [D.1.length]))[i]? = some ns := h3
    rw [List.getElem?_set, hn] at h3
    by_cases z : q0 = i
    · rw [if_pos z, if_pos q0l] at h3
      replace h3 : n0 ++ [D.1.length] = ns := Option.some.inj h3
      subst z
      rw [hq] at h1
      cases h1
      have old := R.alm hq hn
      rw [← h3, ← hl9]
      refine ⟨?_, fun n hn' => ?_, by rw [List.length_append]; show n0.length + 1 ≤ 40; omega⟩
      · rw [List.map_append, map_paApp (fun n hn' => by rw [s1]; exact old.2.1 n hn')]
        show ALr h2 l (_ ++ [((pa ++ [p])[D.1.length]?).getD 0])
        rw [← s1, List.getElem?_append_right (Nat.le_refl _), Nat.sub_self]
        exact L
      · rw [ln1]
        rcases List.mem_append.mp hn' with w | w
        · have := old.2.1 n w; omega
        · rw [List.mem_singleton] at w; omega
    · rw [if_neg z] at h3
      have old := R.alm h1 h3
      refine ⟨?_, fun n hn' => by rw [ln1]; have := old.2.1 n hn'; omega, old.2.2⟩
      rw [map_paApp (fun n hn' => by rw [s1]; exact old.2.1 n hn')]
      refine old.1.frame F e (fun c w => ALC_ne old.1.1.2.2.1 hL13 ?_ w)
      rw [hl9]
      exact Fr.2.2.2 i q0 q' q h1 hq (fun y => z y.symm)
  · have hrow : ∀ r, xtg H r = 101 → xpl H r (-1) = 0 → 93 ≤ r → ¬ ALC H l r := fun r y _ _ => nC r (by rw [y]; decide) (by rw [y]; decide)
    by_cases z : n < D.1.length
    · rw [List.getElem?_append_left (by omega)] at h1
      have h3 : (D.1 ++ [t])[n]? = some t' := h3
      rw [List.getElem?_append_left z] at h3
      obtain ⟨v1, v2⟩ := tp n p' t' h1 h3
      exact ⟨v1.frame e (fun k _ _ => hkeep p' (Or.inr v1.1.2.2) v1.1.2.1 k) hrow, v2⟩
    · have hb := (List.getElem?_eq_some_iff.mp h1).1
      rw [List.length_append] at hb
      have hb : n < pa.length + 1 := hb
      have en : n = D.1.length := by omega
      rw [List.getElem?_append_right (by omega)] at h1
      have h3 : (D.1 ++ [t])[n]? = some t' := h3
      rw [List.getElem?_append_right (by omega)] at h3
      rw [show n - pa.length = 0 by omega] at h1
      rw [show n - D.1.length = 0 by omega] at h3
      have h1 := Option.some.inj h1
      have h3 := Option.some.inj h3
      have h1 : p = p' := h1
      have h3 : t = t' := h3
      subst h1
      subst h3
      exact ⟨PR.frame e (fun k _ _ => hkeep p (Or.inr PR.1.2.2) PR.1.2.1 k) hrow, ok, by rw [ht, en]⟩
/-- a question at the end of the draft -/
theorem DraR.adq {H h2 : XH} {a q l : Int} {qa pa : List Int} {D : DR} (R : DraR H a qa pa D) (h0 : XH) (Fr : DFr h0 H a qa pa) (F : xFix H) (e : xsm (ALC H a) H h2) (L : ALr h2 a (qa ++ [q])) (hq : 93 ≤ q ∧ q < xnx H ∧ xtg H q = 5) (hl : xpl H q 0 = l) (hl0 : 93 ≤ l) (hla : l ≠ a) (AL : ALr H l []) (hqa : q ∉ qa) (hlen : D.2.length ≤ 40) :
    DraR h2 a (qa ++ [q]) pa (adQ D) ∧ (∀ c, c ∈ qa ∨ c = q ∨ xtg H c = 4 → c < xnx H → ∀ k, xpl h2 c k = xpl H c k) := by
  obtain ⟨⟨r1, r2, r3, r4⟩, ⟨s1, s2, s3, s4⟩, tq, tp⟩ := R
  have R : DraR H a qa pa D := ⟨⟨r1, r2, r3, r4⟩, ⟨s1, s2, s3, s4⟩, tq, tp⟩
  have a13 := r1.1.2.2.1
  have nC : ∀ c, xtg H c ≠ 13 → xtg H c ≠ 110 → ¬ ALC H a c := fun c c1 c2 w => by
    rcases w with w | w
    · rw [w] at c1; exact c1 a13
    · exact c2 w.1
  have t5 : ∀ c, c ∈ qa ∨ c = q ∨ xtg H c = 4 → xtg H c ≠ 13 ∧ xtg H c ≠ 110 := fun c hc => by
    rcases hc with w | w | w
    · rw [(R.qm w).1.2.2]; exact ⟨by decide, by decide⟩
    · rw [w, hq.2.2]; exact ⟨by decide, by decide⟩
    · rw [w]; exact ⟨by decide, by decide⟩
  have hkeep : ∀ c, c ∈ qa ∨ c = q ∨ xtg H c = 4 → c < xnx H → ∀ k, xpl h2 c k = xpl H c k := fun c hc hcn k => e.pl hcn (nC c (t5 c hc).1 (t5 c hc).2) k
  have ln2 : (adQ D).2.length = D.2.length + 1 := by show (D.2 ++ [[]]).length = _; rw [List.length_append]; rfl
  refine ⟨⟨⟨L, r2, by rw [ln2, List.length_append, r3]; rfl, by rw [ln2]; omega⟩, ⟨s1, s2, ?_, s4⟩, fun i q' ns h1 h3 => ?_, fun n p' t' h1 h3 => ?_⟩, hkeep⟩
  · rw [List.nodup_append]
    exact ⟨s3, by simp, fun x hx y hy => by rw [List.mem_singleton] at hy; rintro rfl; rw [hy] at hx; exact hqa hx⟩
  · by_cases z : i < D.2.length
    · rw [List.getElem?_append_left (by omega)] at h1
      have h3 : (D.2 ++ [[]])[i]? = some ns := h3
      rw [List.getElem?_append_left z] at h3
      have hm := List.mem_of_getElem? h1
      have hQ := R.qm hm
      have e0 : xpl h2 q' 0 = xpl H q' 0 := hkeep q' (Or.inl hm) hQ.1.2.1 0
      have old := R.alm h1 h3
      refine ⟨⟨hQ.1.1, by have := e.1; omega, by rw [e.tg hQ.1.2.1]; exact hQ.1.2.2⟩, by rw [e0]; exact hQ.2, ?_, old.2⟩
      rw [e0]
      exact old.1.frame F e (fun c w => ALC_ne old.1.1.2.2.1 a13 (Fr.2.1 q' hm).2.2 w)
    · have hb := (List.getElem?_eq_some_iff.mp h1).1
      rw [List.length_append] at hb
      have hb : i < qa.length + 1 := hb
      rw [List.getElem?_append_right (by omega), show i - qa.length = 0 by omega] at h1
      have h3 : (D.2 ++ [[]])[i]? = some ns := h3
      rw [List.getElem?_append_right (by omega), show i - D.2.length = 0 by omega] at h3
      have h1 := Option.some.inj h1
      have h3 := Option.some.inj h3
      have h1 : q = q' := h1
      have h3 : [] = ns := h3
      subst h1
      subst h3
      have e0 : xpl h2 q 0 = l := (hkeep q (Or.inr (Or.inl rfl)) hq.2.1 0).trans hl
      refine ⟨⟨hq.1, by have := e.1; omega, by rw [e.tg hq.2.1]; exact hq.2.2⟩, by rw [e0]; exact hl0, ?_, fun n hn => absurd hn List.not_mem_nil, by show 0 ≤ 40; decide⟩
      rw [e0]
      exact AL.frame F e (fun c w => ALC_ne AL.1.2.2.1 a13 hla w)
  · obtain ⟨v1, v2⟩ := tp n p' t' h1 h3
    exact ⟨v1.frame e (fun k _ _ => hkeep p' (Or.inr (Or.inr v1.1.2.2)) v1.1.2.1 k) (fun r y _ _ => nC r (by rw [y]; decide) (by rw [y]; decide)), v2⟩
/-- a field of a part is written -/
theorem DraR.sed {h : XH} {a p k v : Int} {qa pa : List Int} {D : DR} {m : Nat} (R : DraR h a qa pa D) (F : xFix h) (hp : pa[m]? = some p) (k0 : 5 ≤ k) (k1 : k ≤ 10) (ok : ∀ t, D.1[m]? = some t → PTok (upP t k v)) : DraR (xst h p k v) a qa pa (seD D m k v) := by
  obtain ⟨⟨r1, r2, r3, r4⟩, ⟨s1, s2, s3, s4⟩, tq, tp⟩ := R
  have R : DraR h a qa pa D := ⟨⟨r1, r2, r3, r4⟩, ⟨s1, s2, s3, s4⟩, tq, tp⟩
  have hpm := R.pm (List.mem_of_getElem? hp)
  have e : xsm (fun c => c = p) h (xst h p k v) := (xsm.refl h).st (by omega) (Or.inl rfl)
  have alF : ∀ x es, ALr h x es → ALr (xst h p k v) x es := fun x es A => A.frame F e (fun c w y => by
    have y : c = p := y
    rcases w with w | w
    · rw [y] at w; have A13 := A.1.2.2.1; rw [← w, hpm.2.2] at A13; exact absurd A13 (by decide)
    · rw [y, hpm.2.2] at w; exact absurd w.1 (by decide))
  have ml := (List.getElem?_eq_some_iff.mp hp).1
  have ln1 : (seD D m k v).1.length = D.1.length := List.length_set
  refine ⟨⟨alF _ _ r1, r2, r3, r4⟩, ⟨by rw [ln1]; exact s1, by rw [ln1]; exact s2, s3, s4⟩, fun i q ns h1 h3 => ?_, fun n p' t' h1 h3 => ?_⟩
  · obtain ⟨q1, q2, q3, q4, q5⟩ := tq i q ns h1 h3
    have e0 : xpl (xst h p k v) q 0 = xpl h q 0 := by rw [xpl_st, if_neg (by omega)]
    refine ⟨q1, by rw [e0]; exact q2, by rw [e0]; exact alF _ _ q3, fun n hn => by rw [ln1]; exact q4 n hn, q5⟩
  · have h3 : (D.1.set m (upP ((D.1[m]?).getD (mkP 0 0 0 0 0 [])) k v))[n]? = some t' := h3
    rw [List.getElem?_set] at h3
    have hrow : ∀ r, xtg h r = 101 → xpl h r (-1) = 0 → 93 ≤ r → ¬ (fun c => c = p) r := fun r y _ _ z => by
      have z : r = p := z
      rw [z, hpm.2.2] at y; cases y
    by_cases z : m = n
    · subst z
      rw [if_pos rfl, if_pos (by omega)] at h3
      rw [hp] at h1
      cases h1
      have hd : D.1[m]? = some (D.1[m]'(by omega)) := List.getElem?_eq_getElem _
      rw [hd] at h3
      have h3 : upP (D.1[m]'(by omega)) k v = t' := Option.some.inj h3
      obtain ⟨⟨⟨a1, a2, a3⟩, b, c⟩, w2, w3⟩ := tp m p _ hp hd
      rw [← h3]
      refine ⟨⟨⟨a1, a2, a3⟩, fun j j0 j1 j4 => ?_, ?_⟩, ok _ hd, ?_⟩
      · show _ = if j = k then v else _
        rw [xpl_st]
        by_cases y : j = k
        · rw [if_pos ⟨rfl, y⟩, if_pos y]
        · rw [if_neg (fun w => y w.2), if_neg y]; exact b j j0 j1 j4
      · rw [xpl_st, if_neg (by omega)]
        exact c.frame e (hrow _)
      · show (if (0 : Int) = k then v else _) = _
        rw [if_neg (by omega)]; exact w3
    · rw [if_neg z] at h3
      obtain ⟨v1, v2⟩ := tp n p' t' h1 h3
      have hne : p' ≠ p := fun y => by
        rw [y] at h1
        have e1 := (List.getElem?_eq_some_iff.mp h1)
        have e2 := (List.getElem?_eq_some_iff.mp hp)
        exact z ((List.getElem_inj s4).mp (e2.2.trans e1.2.symm))
      exact ⟨v1.frame e (fun j _ _ => by rw [xpl_st, if_neg (fun y => hne y.1)]) hrow, v2⟩
def RDW (h0 : XH) : Int → Prop := fun c => (c = 32 ∨ c = 33 ∨ c = 34 ∨ TPC c) ∨ (xtg h0 c = 110 ∧ (xpl h0 c (-1) = 34 ∨ xnx h0 ≤ xpl h0 c (-1)))
/-- all of the reader's heap but its own fields -/
def RdB (h0 h : XH) (bs : List Int) (a : Int) (qa pa : List Int) (D : DR) (op : List Nat) : Prop :=
  (xFix h ∧ xsm (RDW h0) h0 h ∧ TapeR h bs ∧ 93 ≤ xnx h0) ∧ (ALr h 34 (35 :: op.map (fun n => (pa[n]?).getD 0)) ∧ xpl h 35 10 = 0) ∧ DraR h a qa pa D ∧ DFr h0 h a qa pa
def RdX (h : XH) (r : RS) : Prop := xpl h 32 13 = r.1.2.1 ∧ xpl h 32 14 = r.1.2.2
def RdP (h : XH) (r : RS) : Prop := xpl h 32 1 = r.2.2.2.2.length ∧ ∀ i : Nat, i < r.2.2.2.2.length → r.2.2.2.2[i]? = some (xpl h 33 i)
/-- its own fields, as far as they matter in the state -/
def RdF (h : XH) (a : Int) (pa : List Int) (r : RS) : Prop := (xpl h 32 12 = r.1.1 ∧ (1 ≤ r.1.1 → r.1.1 ≤ 5 → RdX h r)) ∧ (xpl h 32 5 = a ∧ xpl h 32 6 = r.2.1.1.length ∧ (r.2.2.2.1 < r.2.1.1.length → pa[r.2.2.2.1]? = some (xpl h 32 7))) ∧ (r.1.1 = 4 ∨ r.1.1 = 5 → RdP h r)
theorem RDW.low {h0 h : XH} (e : xsm (RDW h0) h0 h) {c : Int} (hc : c < xnx h0) (w : LOWC h c) : RDW h0 c := by
  rcases w with w | ⟨w1, w2⟩
  · exact Or.inl w
  · rw [e.tg hc] at w1
    rw [e.mkd hc] at w2
    exact Or.inr ⟨w1, Or.inl w2⟩
theorem RdB.low {h0 h h' : XH} {bs : List Int} {a : Int} {qa pa : List Int} {D : DR} {op : List Nat} (R : RdB h0 h bs a qa pa D op) (F : xFix h') (e : xsm (LOWC h) h h') (hT : TapeR h' bs) (hA : ALr h' 34 (35 :: op.map (fun n => (pa[n]?).getD 0))) : RdB h0 h' bs a qa pa D op := by
  obtain ⟨⟨r1, r2, r3, r0⟩, ⟨s1, s2⟩, t, u⟩ := R
  have hn := r1.nx
  refine ⟨⟨F, r2.then e (fun c hc w => RDW.low r2 hc w), hT, r0⟩, ⟨hA, ?_⟩, t.low r1 e, u.keep (fun q hq => ?_)⟩
  · rw [e.pl (by omega) (fun w => ?_)]; exact s2
    unfold LOWC TPC at w
    rcases w with w | w
    · omega
    · rw [ft_35 r1] at w; exact absurd w.1 (by decide)
  · have := t.qm hq
    exact e.pl this.1.2.1 (fun w => by have := w.hi (by omega); rw [(t.qm hq).1.2.2] at this; cases this) 0
theorem RdB.f32 {h0 h h' : XH} {bs : List Int} {a : Int} {qa pa : List Int} {D : DR} {op : List Nat} (R : RdB h0 h bs a qa pa D op) (F : xFix h') (e : xsm (fun c => c = 32 ∨ c = 33) h h') : RdB h0 h' bs a qa pa D op := by
  have hn := R.1.1.nx
  refine R.low F (e.mono (fun c _ w => Or.inl (by omega))) (R.1.2.2.1.keep (e.pl (by omega) (by omega) 3) (fun k => e.pl (by omega) (by omega) k)) (R.2.1.1.frame R.1.1 e (fun c w y => ?_))
  rcases w with w | w
  · omega
  · rcases y with y | y <;> rw [y] at w
    · rw [ft_32 R.1.1] at w; exact absurd w.1 (by decide)
    · rw [ft_33 R.1.1] at w; exact absurd w.1 (by decide)
theorem x32 {h : XH} {k v : Int} (hk : 0 ≤ k) : xsm (fun c => c = 32 ∨ c = 33) h (xst h 32 k v) := (xsm.refl h).st hk (Or.inl (Or.inl rfl))

end
