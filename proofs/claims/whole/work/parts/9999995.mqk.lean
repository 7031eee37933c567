/-! ===== mqk ===== -/
section
/-! the question's part of the state over the model's other calls -/
theorem rdF_pos {bs : List Int} : ∀ (m : Nat) (p : Int) (r : RS) (n : Nat), RDI n r → 0 < (rdF bs m p r).2.2.1.2.length
  | 0, p, r, n, I => by
    show 0 < (if ntT bs (sb bs p) = 0 then (match tkF bs (sb bs p) r with | none => (sb bs p, r) | some r' => (-1, r')) else (sb bs p, r)).2.2.1.2.length
    by_cases z : ntT bs (sb bs p) = 0
    · rw [if_pos z]
      cases y : tkF bs (sb bs p) r with
      | none => exact I.1.2.2.1
      | some r' =>
        unfold tkF at y
        rw [if_pos z] at y
        split at y <;> cases y
        exact I.1.2.2.1
    · rw [if_neg z]; exact I.1.2.2.1
  | m + 1, p, r, n, I => by
    show 0 < (match tkF bs (sb bs p) r with | none => (sb bs p, r) | some r' => if ntT bs (sb bs p) = 0 then (-1, r') else rdF bs m (ntA bs (sb bs p)) r').2.2.1.2.length
    cases y : tkF bs (sb bs p) r with
    | none => exact I.1.2.2.1
    | some r' =>
      show 0 < (if ntT bs (sb bs p) = 0 then ((-1 : Int), r') else rdF bs m (ntA bs (sb bs p)) r').2.2.1.2.length
      by_cases z : ntT bs (sb bs p) = 0
      · rw [if_pos z]
        unfold tkF at y
        rw [if_pos z] at y
        split at y <;> cases y
        exact I.1.2.2.1
      · rw [if_neg z]
        exact rdF_pos m _ r' (n + 1) (I.tk z y)
theorem rdA_pos (s : CS) : 0 < (rdA s).2.2.1.2.length := rdF_pos 40 0 r00 0 r00I
theorem DJO_of {D : DR} (J : DJ D) (W : DRw D) : DJO D := fun q ns n t h1 h2 h3 h4 => ⟨W.1 q ns n t h1 h2 h3 h4, (J.2.2.1 n t h3 h4).2⟩
/-- a call that asks nothing keeps the question -/
theorem MQX.mat {h h' : XH} {s s' : CS} (F : xFix h) (I : MQX h s) (S : xsm MWW h h') (P : MKP h h') (e26 : xpl h' 53 26 = 0 ∨ (xpl h' 53 26 = xpl h 53 26 ∧ fC s' = fC s)) (ed : dC s' = dC s) : MQX h' s' := by
  have nx := F.nx
  have p18 := P 18 (by decide) (by decide) (by decide) (by decide) (by decide) (by decide) (by decide)
  have p19 := P 19 (by decide) (by decide) (by decide) (by decide) (by decide) (by decide) (by decide)
  rcases I with ⟨a, b⟩ | ⟨a, q, c, d, e, f, g, i⟩
  · exact Or.inl ⟨p18.trans a, by rw [ed]; exact b⟩
  · have c2 := c.2.1.1.2.1
    refine Or.inr ⟨p18.trans a, q, ?_, by rw [ed]; exact d, by rw [ed]; exact e, fun y => ?_, g, fun j j1 j2 => ?_⟩
    · rw [ed]
      exact c.of S p19 (fun x x1 x2 w => by have w : 53 ≤ x ∧ x ≤ 65 := w; omega)
    · rcases e26 with w | ⟨w1, w2⟩
      · exact absurd w y
      · rw [ed, w2]
        rw [w1] at y
        exact (f y).of2 (fun x k w => S.pl (by omega) (fun v => by have v : 53 ≤ x ∧ x ≤ 65 := v; omega) k)
    · rw [S.pl (by omega) (fun v => by have v : 53 ≤ q + j ∧ q + j ≤ 65 := v; omega)]
      exact i j j1 j2
/-- and so does what others write -/
theorem MQX.cl {C : Int → Prop} {h h' : XH} {s s' : CS} (F : xFix h) (I : MQX h s) (S : xsm C h h') (hC : ∀ c, (53 ≤ c ∧ c < 93) ∨ (93 ≤ c ∧ c < xnx h ∧ (xtg h c = 12 ∨ ((xtg h c = 100 ∨ xtg h c = 101) ∧ xpl h c (-1) = -20))) → ¬ C c) (ef : fC s' = fC s) (ed : dC s' = dC s) : MQX h' s' := by
  have nx := F.nx
  have p : ∀ x k : Int, 53 ≤ x → x < 93 → xpl h' x k = xpl h x k := fun x k x0 x1 => S.pl (by omega) (hC x (Or.inl ⟨x0, x1⟩)) k
  rcases I with ⟨a, b⟩ | ⟨a, q, c, d, e, f, g, i⟩
  · exact Or.inl ⟨(p 53 18 (by decide) (by decide)).trans a, by rw [ed]; exact b⟩
  · obtain ⟨c1, c2, -⟩ := id c
    have q1 := c2.1.2.1
    have no : ∀ x, q ≤ x → x ≤ q + 11 → ¬ C x := fun x x1 x2 => by
      refine hC x (Or.inr ⟨by omega, by omega, ?_⟩)
      by_cases z : x = q
      · rw [z]; exact Or.inl c2.2.1
      · refine Or.inr ⟨?_, ?_⟩
        · by_cases z1 : x ≤ q + 9
          · have := (c2.2.2.1 (x - q) (by omega) (by omega)).2.1
            rw [show q + (x - q) = x by omega] at this
            exact Or.inl this
          · by_cases z2 : x = q + 10
            · rw [z2]; exact Or.inr c2.2.2.2.1.2.1
            · rw [show x = q + 11 by omega]; exact Or.inl c2.2.2.2.2.2.1
        · have := i (x - q) (by omega) (by omega)
          rw [show q + (x - q) = x by omega] at this
          exact this
    refine Or.inr ⟨(p 53 18 (by decide) (by decide)).trans a, q, ?_, by rw [ed]; exact d, by rw [ed]; exact e, fun y => ?_, g, fun j j1 j2 => ?_⟩
    · rw [ed]
      exact c.of S (p 53 19 (by decide) (by decide)) no
    · rw [ed, ef]
      rw [p 53 26 (by decide) (by decide)] at y
      exact (f y).of2 (fun x k w => p x k (by omega) (by omega))
    · rw [S.pl (by omega) (no _ (by omega) (by omega))]
      exact i j j1 j2
/-- what the class's call leaves of a reader's draft -/
theorem CIR.ptok {h : XH} {s : CS} (R : CIR h s) : ∀ (n : Nat) t, (dC s).1[n]? = some t → PTok t := by
  obtain ⟨-, -, -, -, qa, pa, W, -⟩ := R.q
  exact fun n t ht => (W.2.2.2 n _ t (List.getElem?_eq_getElem (by
    have := W.2.1.1
    have := (List.getElem?_eq_some_iff.mp ht).1
    omega)) ht).2.1
/-- a call of the model's: answer, number and state -/
def MAM (Q : XV → XH → Prop) (mk : Int → XV) (h : XH) (l : List Int) (R : (Int × Int) × CS) (n9 s9 : Int) : Prop :=
  ∀ h', xFix h' → MIR h' R.2 → xsm (fun c => 53 ≤ c ∧ c ≤ 92) h h' → xpl h' 53 0 = thr l R.1.1 → xnx h' ≤ xnx h + n9 → xsl h' ≤ xsl h + s9 → Q (mk R.1.2) h'
theorem MAM.mat {Q : XV → XH → Prop} {mk : Int → XV} {h : XH} {s : CS} {l : List Int} {R : (Int × Int) × CS} {n9 s9 : Int} (q : MAM Q mk h l R n9 s9) (F : xFix h) (I : MIR h s) (ed : dC R.2 = dC s) : MAT Q mk h (fC s) l R n9 s9 := fun h' F' T S P e26 e0 n l9 =>
  q h' F' ⟨T, I.2.mat F S P e26 ed⟩ (S.mono (fun c _ w => by have w : 53 ≤ c ∧ c ≤ 65 := w; omega)) e0 n l9
theorem MAM.maq {Q : XV → XH → Prop} {mk : Int → XV} {h : XH} {s : CS} {l : List Int} {R : Int × Int} {n9 s9 : Int} (q : MAM Q mk h l (R, s) n9 s9) (hn : 0 ≤ n9) (hs : 0 ≤ s9) : MAQ Q mk h s l R := fun h' F' K I e0 =>
  q h' F' I (K.1.mono (fun c _ w => by omega)) e0 (by rw [K.2.2.1]; omega) (by rw [K.2.2.2]; omega)
theorem MAM.rd {Q : XV → XH → Prop} {mk : Int → XV} {h : XH} {s : CS} {l : List Int} {r : Int × Int} {n9 s9 : Int} (q : MAM Q mk h l (r, s) n9 s9) (I : MIR h s) (hn : 0 ≤ n9) (hs : 0 ≤ s9) : MRd Q mk h l r := fun F9 =>
  q _ F9 I.th ((xsm.refl h).st (by decide) (Or.inl (by decide))) (xpl_hit _ _ _ _) (by show xnx h ≤ _; omega) (by show xsl h ≤ _; omega)
theorem s_M_askw {G : XG} {d : Nat} {h : XH} {Q : XV → XH → Prop} {X : Nat → XH → Prop} {s : CS} {n9 s9 : Int} (F : xFix h) (I : MIR h s) (W : CWF (cAsk s).2) (ok : ∀ (n : Nat) t, (dC (cAsk s).2).1[n]? = some t → PTok t) (hc : xnx h + 12 ≤ xKC) (hs : xsl h + 480 ≤ xKS) (hn9 : 12 ≤ n9) (hs9 : 480 ≤ s9) (hq : MAM Q xI h [] (cAsk s) n9 s9) : xwp G m_M_ask (d + 24) 0 [xR 53, xZ] [] h Q X := by
  have nx := F.nx
  have fr : ∀ h', xFix h' → AF h h' → MTR h' [] ∧ MSR h' (fbF (fC s) (bC s)) (zC s) (mC s) ∧ xpl h' 53 14 = wC s ∧ xsm (fun c => 53 ≤ c ∧ c ≤ 92) h h' := fun h' F' A => by
    obtain ⟨A1, A2, A3, A4, A5, A6⟩ := A
    refine ⟨⟨A4, by show 0 ≤ 400; decide, fun i hi => absurd hi (Nat.not_lt_zero i), fun b hb => by cases hb⟩, I.1.2.1.keep (fun k w => A2 k (by omega) (by omega) (by omega) (by omega) (by omega) (by omega) (by omega) (by omega) (by omega)) (fun c k c1 c2 => A1.pl (by omega) (by omega) k), (A2 14 (by decide) (by decide) (by decide) (by decide) (by decide) (by decide) (by decide) (by decide) (by decide)).trans I.1.2.2, A1.mono (fun c _ w => by omega)⟩
  unfold cAsk at hq W ok
  refine s_M_ask F I.1 hc hs (fun y h' F' A p => ?_) (fun y h' q F' A e19 qn C mk P ln e18 e26 => ?_)
  · rw [if_neg y] at hq W ok
    obtain ⟨f1, f2, f3, f4⟩ := fr h' F' A
    refine hq h' F' ⟨⟨f1, f2, f3⟩, ?_⟩ f4 A.2.2.1 (by have := A.2.2.2.2.1; omega) (by have := A.2.2.2.2.2; omega)
    rcases I.2 with ⟨a, b⟩ | ⟨a, q, c, d, e, f, g, i⟩
    · exact Or.inl ⟨(p 18 (Or.inl rfl)).trans a, b⟩
    · have q1 := c.2.1.1.2.1
      refine Or.inr ⟨(p 18 (Or.inl rfl)).trans a, q, c.of A.1 (p 19 (Or.inr (Or.inl rfl))) (fun x x1 x2 w => by omega), d, e, fun y => ?_, g, fun j j1 j2 => ?_⟩
      · rw [p 26 (Or.inr (Or.inr rfl))] at y
        exact (f y).of2 (fun x k w => A.1.pl (by omega) (by omega) k)
      · rw [A.1.pl (by omega) (by omega)]
        exact i j j1 j2
  · rw [if_pos y] at hq W ok
    obtain ⟨f1, f2, f3, f4⟩ := fr h' F' A
    refine hq h' F' ⟨⟨f1, f2, f3⟩, Or.inr ⟨e18, q, ⟨e19, C, P, ln.1, by have := ln.2; omega⟩, ⟨rdA_DJ s, DJO_of (rdA_DJ s) W.2.2.1, ok, rdA_pos s⟩, rdA_DEN s, fun z => absurd e26 z, by omega, mk⟩⟩ f4 A.2.2.1 (by have := A.2.2.2.2.1; omega) (by have := A.2.2.2.2.2; omega)

end
