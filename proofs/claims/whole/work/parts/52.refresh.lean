/-! ===== refresh ===== -/
section
theorem t40 {h : XH} (F : xFix h) {c : Int} (hc : 40 ≤ c ∧ c ≤ 51) : xtg h c ≠ 110 ∧ xtg h c ≠ 9 ∧ xtg h c ≠ 13 := by
  have : c = 40 ∨ c = 41 ∨ c = 42 ∨ c = 43 ∨ c = 44 ∨ c = 45 ∨ c = 46 ∨ c = 47 ∨ c = 48 ∨ c = 49 ∨ c = 50 ∨ c = 51 := by omega
  rcases this with e | e | e | e | e | e | e | e | e | e | e | e <;> rw [e]
  · rw [ft_40 F]; decide
  · rw [ft_41 F]; decide
  · rw [ft_42 F]; decide
  · rw [ft_43 F]; decide
  · rw [ft_44 F]; decide
  · rw [ft_45 F]; decide
  · rw [ft_46 F]; decide
  · rw [ft_47 F]; decide
  · rw [ft_48 F]; decide
  · rw [ft_49 F]; decide
  · rw [ft_50 F]; decide
  · rw [ft_51 F]; decide
/-- what looking the question up anew writes -/
def RFW (h : XH) : Int → Prop := fun c => (40 ≤ c ∧ c ≤ 51) ∨ (93 ≤ c ∧ (xtg h c = 4 ∨ xtg h c = 5))
theorem RFW.back {C : Int → Prop} {h h1 : XH} {c : Int} (a : xsm C h h1) (hc : c < xnx h) (w : RFW h1 c) : RFW h c := by
  unfold RFW at *
  rwa [a.tg hc] at w
def Q0 (h h' : XH) : Prop := ∀ c, 93 ≤ c → c < xnx h → xtg h c = 5 → xpl h' c 0 = xpl h c 0
def RB (h h' : XH) : Prop := xsm (RFW h) h h' ∧ P10 h h' ∧ Q0 h h' ∧ xnx h' = xnx h ∧ xsl h' = xsl h
theorem RB.refl (h : XH) : RB h h := ⟨xsm.refl h, fun _ _ _ _ _ _ => rfl, fun _ _ _ _ => rfl, rfl, rfl⟩
theorem RB.trans {h h1 h2 : XH} (a : RB h h1) (b : RB h1 h2) : RB h h2 := by
  obtain ⟨a1, a2, a3, a4, a5⟩ := a
  obtain ⟨b1, b2, b3, b4, b5⟩ := b
  exact ⟨a1.then b1 (fun c hc w => RFW.back a1 hc w), fun c k c1 c2 c3 c4 => (b2 c k c1 (by omega) (by rw [a1.tg c2]; exact c3) c4).trans (a2 c k c1 c2 c3 c4), fun c c1 c2 c3 => (b3 c c1 (by omega) (by rw [a1.tg c2]; exact c3)).trans (a3 c c1 c2 c3), b4.trans a4, b5.trans a5⟩
/-- a writing of the findings' own cells -/
theorem RB.low {h h' : XH} {C : Int → Prop} (e : xsm C h h') (F : xFix h) (hC : ∀ c, C c → 40 ≤ c ∧ c ≤ 51) (n : xnx h' = xnx h) (l : xsl h' = xsl h) : RB h h' :=
  ⟨e.mono (fun c _ w => Or.inl (hC c w)), fun c k c1 c2 _ _ => e.pl c2 (fun w => by have := hC c w; omega) k, fun c c1 c2 _ => e.pl c2 (fun w => by have := hC c w; omega) 0, n, l⟩
theorem DraR.rf {h h' : XH} {a : Int} {qa pa : List Int} {D : DR} (W : DraR h a qa pa D) (F : xFix h) (B : RB h h') : DraR h' a qa pa D := by
  refine W.frame F B.1 (fun c w v => ?_) B.2.2.1 B.2.1
  rcases v with v | ⟨v, v2⟩
  · have := t40 F v
    rcases w with ⟨w, -⟩ | ⟨w, -⟩ | ⟨-, -, w⟩
    · exact this.2.2 w
    · exact this.1 w
    · omega
  · rcases w with ⟨w, -⟩ | ⟨w, -⟩ | ⟨w, -⟩ <;> rcases v2 with v2 | v2 <;> (rw [w] at v2; cases v2)
theorem FilR.rf {h h' : XH} {fp : List Int} {f : List (Txt × Bool)} (R : FilR h fp f) (F : xFix h) (B : RB h h') : FilR h' fp f := by
  refine R.frame F B.1 (fun c w v => ?_)
  rcases v with v | ⟨v, v2⟩
  · have := t40 F v
    rcases w with (w | ⟨w, -⟩) | w | ⟨-, -, w⟩
    · omega
    · exact this.1 w
    · exact this.2.1 w
    · omega
  · rcases w with (w | ⟨w, -⟩) | w | ⟨w, -⟩
    · omega
    · rcases v2 with v2 | v2 <;> (rw [w] at v2; cases v2)
    · rcases v2 with v2 | v2 <;> (rw [w] at v2; cases v2)
    · rcases v2 with v2 | v2 <;> (rw [w] at v2; cases v2)
/-- a question in another one is behind it, and a part is in one question -/
def DRw (D : DR) : Prop := (∀ (q : Nat) ns n t, D.2[q]? = some ns → n ∈ ns → D.1[n]? = some t → t.1 5 = 3 → (q : Int) < t.1 10) ∧ (∀ (q q' : Nat) ns ns' n, D.2[q]? = some ns → D.2[q']? = some ns' → n ∈ ns → n ∈ ns' → q = q')
def js0 (D : DR) (f : List (Txt × Bool)) (x : Txt) : JS := ((jdL D f x 0 D.2)[0]?).getD q000
def wtF (D : DR) (f : List (Txt × Bool)) (i : Nat) : Int := match f[i]? with
  | some x => qwif (js0 D f x.1)
  | none => 0
def orF (D : DR) (f : List (Txt × Bool)) : Nat → List Nat
  | 0 => []
  | n + 1 => match f[n]? with
    | some x => if x.2 = false ∧ qfin (js0 D f x.1) = true then insO (ahF f (wtF D f)) (orF D f n) n else orF D f n
    | none => orF D f n
theorem orF_mem (D : DR) (f : List (Txt × Bool)) : ∀ (n : Nat) o, o ∈ orF D f n → o < n ∧ ∃ x, f[o]? = some x ∧ x.2 = false := by
  intro n
  induction n with
  | zero => intro o ho; exact absurd ho (by unfold orF; simp)
  | succ n ih =>
    intro o ho
    cases z : f[n]? with
    | none =>
      have e : orF D f (n + 1) = orF D f n := by
        show (match f[n]? with | some x => if x.2 = false ∧ qfin (js0 D f x.1) = true then insO (ahF f (wtF D f)) (orF D f n) n else orF D f n | none => orF D f n) = _
        rw [z]
      rw [e] at ho
      exact ⟨by have := (ih o ho).1; omega, (ih o ho).2⟩
    | some x =>
      have e : orF D f (n + 1) = if x.2 = false ∧ qfin (js0 D f x.1) = true then insO (ahF f (wtF D f)) (orF D f n) n else orF D f n := by
        show (match f[n]? with | some x => if x.2 = false ∧ qfin (js0 D f x.1) = true then insO (ahF f (wtF D f)) (orF D f n) n else orF D f n | none => orF D f n) = _
        rw [z]
      rw [e] at ho
      split at ho
      · rename_i hc
        rcases insO_mem ho with w | w
        · subst w; exact ⟨by omega, x, z, hc.1⟩
        · exact ⟨by have := (ih o w).1; omega, (ih o w).2⟩
      · exact ⟨by have := (ih o ho).1; omega, (ih o ho).2⟩
theorem orF_len (D : DR) (f : List (Txt × Bool)) : ∀ n : Nat, (orF D f n).length ≤ n := by
  intro n
  induction n with
  | zero => exact Nat.le_refl _
  | succ n ih =>
    cases z : f[n]? with
    | none =>
      have e : orF D f (n + 1) = orF D f n := by
        show (match f[n]? with | some x => if x.2 = false ∧ qfin (js0 D f x.1) = true then insO (ahF f (wtF D f)) (orF D f n) n else orF D f n | none => orF D f n) = _
        rw [z]
      rw [e]; omega
    | some x =>
      have e : orF D f (n + 1) = if x.2 = false ∧ qfin (js0 D f x.1) = true then insO (ahF f (wtF D f)) (orF D f n) n else orF D f n := by
        show (match f[n]? with | some x => if x.2 = false ∧ qfin (js0 D f x.1) = true then insO (ahF f (wtF D f)) (orF D f n) n else orF D f n | none => orF D f n) = _
        rw [z]
      rw [e]
      split
      · rw [insO_len]; omega
      · omega
/-- the tables of a text, from the question m on -/
def TabT (h : XH) (D : DR) (f : List (Txt × Bool)) (i : Nat) (x : Txt) (m : Nat) : Prop := ∀ (q : Nat) ns n t, m ≤ q → D.2[q]? = some ns → n ∈ ns → D.1[n]? = some t → tabJ h n i (jdP f x q (jdL D f x (q + 1) (D.2.drop (q + 1))) D.2.length t)
/-- what is known of the first n texts -/
def FndT (h : XH) (D : DR) (f : List (Txt × Bool)) (n : Nat) : Prop := OrdR h (orF D f n) ∧ ∀ (i : Nat) x, i < n → f[i]? = some x → x.2 = false → xpl h 50 i = wtF D f i ∧ TabT h D f i x.1 0

end
