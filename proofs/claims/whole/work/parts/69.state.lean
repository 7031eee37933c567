/-! ===== state ===== -/
section
/-! the whole class: its state, and the state's picture in the heap -/
abbrev CS : Type := (List Int × List Txt × List (Txt × Bool) × List Int × Int) × Int × DR
abbrev tC (s : CS) : List Int := s.1.1
abbrev bC (s : CS) : List Txt := s.1.2.1
abbrev fC (s : CS) : List (Txt × Bool) := s.1.2.2.1
abbrev zC (s : CS) : List Int := s.1.2.2.2.1
abbrev mC (s : CS) : Int := s.1.2.2.2.2
abbrev wC (s : CS) : Int := s.2.1
abbrev dC (s : CS) : DR := s.2.2
def WdOK (w : Int) : Prop := w = -1 ∨ (0 < w ∧ w < 6582952005840035281)
def TxW (t : Txt) : Prop := (0 ≤ t.1 ∧ t.1 < 100) ∧ (0 ≤ t.2.1 ∧ t.2.1 < 8) ∧ (0 ≤ t.2.2.1 ∧ t.2.2.1 < 1000) ∧ t.2.2.2.1.length + t.2.2.2.2.length ≤ 200 ∧ (∀ w ∈ t.2.2.2.1, WdOK w) ∧ ∀ w ∈ t.2.2.2.2, WdOK w
/-- what holds of the state by itself -/
def CWF (s : CS) : Prop := (Swf (zC s) (fC s) ∧ (bC s).length + (fC s).length ≤ 60) ∧ 0 ≤ mC s ∧ (DRw (dC s)) ∧ (0 ≤ wC s ∧ wC s < 6582952005840035281) ∧ (∀ t ∈ bC s, TxW t) ∧ ∀ t ∈ fC s, TxW t.1
/-- the prover's marks of the fixed cells, but for the words' table -/
def MKA (h : XH) : Prop := MK0 h ∧ ∀ c : Int, 0 ≤ c → c < 13 → xpl h c (-1) = 0
theorem MKA.frame {C : Int → Prop} {h h' : XH} (M : MKA h) (F : xFix h) (e : xsm C h h') : MKA h' := ⟨M.1.frame F e, fun c c0 c1 => by
  have := F.nx
  rw [e.mkd (by omega)]; exact M.2 c c0 c1⟩
theorem VOW.fx {h : XH} (M : MKA h) {c : Int} (w : VOW h c) : c < 0 ∨ (12 ≤ c ∧ c < 16) ∨ 93 ≤ c := by
  by_cases z : 93 ≤ c
  · exact Or.inr (Or.inr z)
  · by_cases z2 : 16 ≤ c
    · have := M.1 c z2 (by omega)
      unfold VOW at w
      omega
    · by_cases z3 : 12 ≤ c
      · exact Or.inr (Or.inl ⟨z3, by omega⟩)
      · by_cases z4 : c < 0
        · exact Or.inl z4
        · have := M.2 c (by omega) (by omega)
          unfold VOW at w
          omega
def QuR (h : XH) (a : Int) (qa pa : List Int) (D : DR) (f : List (Txt × Bool)) : Prop := xpl h 0 6 = a ∧ DraR h a qa pa D ∧ (D.2.length = 0 → xpl h 40 5 = 0) ∧ (0 < D.2.length → FitsR h pa D f ∧ FndT h D f f.length)
def CIR (h : XH) (s : CS) : Prop :=
  (xFix h ∧ MKA h) ∧ TapeR h (tC s) ∧ (∃ bp fp, StoreR h bp fp (bC s) (fC s) (zC s) (mC s)) ∧ (∃ V, VocR h V) ∧ xpl h 0 5 = wC s ∧ (∃ a qa pa, QuR h a qa pa (dC s) (fC s)) ∧ (∃ es, ALr h 34 es ∧ es.length ≤ 5) ∧ xpl h 35 10 = 0 ∧ CWF s
/-- the cells that are the model's own: its fixed ones, and its questions with their rows -/
def MOD (h : XH) : Int → Prop := fun c => (53 ≤ c ∧ c ≤ 92) ∨ (93 ≤ c ∧ (xtg h c = 12 ∨ ((xtg h c = 100 ∨ xtg h c = 101) ∧ xpl h c (-1) = -20)))
/-- all but these -/
def CLW (h : XH) : Int → Prop := fun c => ¬ MOD h c
/-- the class's own cells -/
def COW (h : XH) : Int → Prop := fun c => c < 53 ∨ (93 ≤ c ∧ (xtg h c = 4 ∨ xtg h c = 5 ∨ xtg h c = 9 ∨ xtg h c = 13 ∨ xtg h c = 110)) ∨ (xtg h c = 101 ∧ xpl h c (-1) = 0 ∧ 93 ≤ c) ∨ (93 ≤ c ∧ VOW h c)
theorem COW.nm {h : XH} {c : Int} (w : COW h c) : ¬ MOD h c := by
  intro v
  unfold COW VOW MOD at *
  rcases v with v | ⟨v1, v2⟩
  · omega
  · rcases v2 with v2 | ⟨v2, v3⟩
    · rw [v2] at w; omega
    · omega
theorem CLW.back {C : Int → Prop} {h h1 : XH} {c : Int} (a : xsm C h h1) (hc : c < xnx h) (w : CLW h1 c) : CLW h c := by
  unfold CLW MOD at *
  rwa [a.tg hc, a.mkd hc] at w
theorem CLW.trans {h h1 h2 : XH} (a : xsm (CLW h) h h1) (b : xsm (CLW h1) h1 h2) : xsm (CLW h) h h2 := a.then b (fun _ hc w => CLW.back a hc w)
theorem VocR.frame {C : Int → Prop} {h h' : XH} {V : List VE} (R : VocR h V) (e : xsm C h h') (hC : ∀ c, VOW h c → ¬ C c) (F : xFix h) : VocR h' V ∧ vlen h' = vlen h := by
  obtain ⟨p0, r1, r2⟩ := R
  have hnx := F.nx
  have e12 := e.pl (a := 12) (by omega) (hC 12 (Or.inl rfl))
  obtain ⟨w0, w1, w2⟩ := p0.w0
  have lt0 := p0.2.2.1.2
  have lt1 := p0.2.2.2.1.2
  have lt2 := p0.2.2.2.2.1.2
  have a0 := e.pl lt0 (hC _ w0)
  have a1 := e.pl lt1 (hC _ w1)
  have a2 := e.pl lt2 (hC _ w2)
  refine ⟨⟨p0.keep e.nx (fun k _ => e12 k) (fun k hk => ?_) (by rw [e12]; exact p0.2.2.2.2.2.2.1), by rw [e12]; exact r1, fun i x hx => by rw [e12, e12, e12, a0, a1, a2]; exact r2 i x hx⟩, ?_⟩
  · rcases hk with z | z | z <;> rw [z]
    · exact ⟨e.tg lt0, e.ln lt0, e.mkd lt0⟩
    · exact ⟨e.tg lt1, e.ln lt1, e.mkd lt1⟩
    · exact ⟨e.tg lt2, e.ln lt2, e.mkd lt2⟩
  · unfold vlen
    rw [e12, e.ln lt0]
/-- the questions' tables stay, where their cells and the parts stay -/
theorem QuR.frame {C : Int → Prop} {h h' : XH} {a : Int} {qa pa : List Int} {D : DR} {f : List (Txt × Bool)} (R : QuR h a qa pa D f) (F : xFix h) (e : xsm C h h') (h0 : ¬ C 0) (h4 : ∀ c, 40 ≤ c → c ≤ 51 → ¬ C c) (hp : ∀ c, 93 ≤ c → xtg h c = 4 ∨ xtg h c = 5 → ¬ C c) (hd : ∀ c, DRC h c → ¬ C c) : QuR h' a qa pa D f := by
  obtain ⟨r1, r2, r3, r4⟩ := R
  have hnx := F.nx
  have e4 : ∀ c k, 40 ≤ c → c ≤ 51 → xpl h' c k = xpl h c k := fun c k c1 c2 => e.pl (by omega) (h4 c c1 c2) k
  have ep : ∀ c k, 93 ≤ c → c < xnx h → xtg h c = 4 → xpl h' c k = xpl h c k := fun c k c1 c2 c3 => e.pl c2 (hp c c1 (Or.inl c3)) k
  refine ⟨(e.pl (by omega) h0 6).trans r1, r2.frame F e hd (fun c c1 c2 c3 => e.pl c2 (hp c c1 (Or.inr c3)) 0) (fun c k c1 c2 c3 _ => ep c k c1 c2 c3), fun y => (e4 40 5 (by decide) (by decide)).trans (r3 y), fun y => ?_⟩
  obtain ⟨g1, g2, g3⟩ := r4 y
  refine ⟨g1.lo r2 (fun c k c1 c2 => e4 c k (by omega) (by omega)) ep, g2.keep (e4 40 5 (by decide) (by decide)) (fun k => e4 51 k (by decide) (by decide)), fun i x hi hx hx2 => ?_⟩
  obtain ⟨b1, b2⟩ := g3 i x hi hx hx2
  exact ⟨(e4 50 i (by decide) (by decide)).trans b1, b2.keep (fun n _ => ⟨e4 48 _ (by decide) (by decide), e4 49 _ (by decide) (by decide)⟩)⟩
theorem fxTg {h : XH} (F : xFix h) {c : Int} (c0 : 0 ≤ c) (c1 : c < 93) : xtg h c = xfTg c := by
  have key : ∀ i : Fin 93, (xfT.find? (fun e => e.1 == (i.val : Int))).isSome = true := by decide +kernel
  have h1 := key ⟨c.toNat, by omega⟩
  have h1 : (xfT.find? (fun e => e.1 == ((c.toNat : Nat) : Int))).isSome = true := h1
  rw [show ((c.toNat : Nat) : Int) = c by omega] at h1
  unfold xfTg
  cases he : xfT.find? (fun e => e.1 == c) with
  | none => rw [he] at h1; cases h1
  | some e =>
    have h2 := List.mem_of_find?_eq_some he
    have h3 := List.find?_some he
    simp only [beq_iff_eq] at h3
    show _ = e.2.1
    rw [← h3]
    exact (F.1 e h2).1
/-- of the fixed cells -/
theorem fxT {h : XH} (F : xFix h) {c : Int} (c0 : 0 ≤ c) (c1 : c < 93) : xtg h c ≠ 110 ∧ (xtg h c = 9 → c = 9) ∧ (xtg h c = 13 → c < 53) ∧ (xtg h c = 4 → c = 35) ∧ (xtg h c = 5 → c = 37) := by
  rw [fxTg F c0 c1]
  have key : ∀ i : Fin 93, xfTg (i.val : Int) ≠ 110 ∧ (xfTg (i.val : Int) = 9 → (i.val : Int) = 9) ∧ (xfTg (i.val : Int) = 13 → (i.val : Int) < 53) ∧ (xfTg (i.val : Int) = 4 → (i.val : Int) = 35) ∧ (xfTg (i.val : Int) = 5 → (i.val : Int) = 37) := by decide +kernel
  have h1 := key ⟨c.toNat, by omega⟩
  have h1 : xfTg ((c.toNat : Nat) : Int) ≠ 110 ∧ (xfTg ((c.toNat : Nat) : Int) = 9 → ((c.toNat : Nat) : Int) = 9) ∧ (xfTg ((c.toNat : Nat) : Int) = 13 → ((c.toNat : Nat) : Int) < 53) ∧ (xfTg ((c.toNat : Nat) : Int) = 4 → ((c.toNat : Nat) : Int) = 35) ∧ (xfTg ((c.toNat : Nat) : Int) = 5 → ((c.toNat : Nat) : Int) = 37) := h1
  rwa [show ((c.toNat : Nat) : Int) = c by omega] at h1
/-- the store's cells and those of the draft are the class's -/
theorem tgs.cow {h : XH} (F : xFix h) {c : Int} (w : xtg h c = 110 ∨ xtg h c = 9 ∨ xtg h c = 13 ∨ xtg h c = 4 ∨ xtg h c = 5) : COW h c := by
  by_cases z : c < 53
  · exact Or.inl z
  · by_cases z2 : 93 ≤ c
    · exact Or.inr (Or.inl ⟨z2, by omega⟩)
    · have := fxT F (c := c) (by omega) (by omega)
      omega
theorem STF.cow {h : XH} (F : xFix h) {c : Int} (w : STF h c) : COW h c := by
  unfold STF ALC at w
  rcases w with w | w | (w | w) | (w | w) | w | w
  · exact Or.inl (by omega)
  · exact Or.inl (by omega)
  · exact Or.inl (by omega)
  · exact tgs.cow F (Or.inl w.1)
  · exact Or.inl (by omega)
  · exact tgs.cow F (Or.inl w.1)
  · exact tgs.cow F (Or.inr (Or.inl w))
  · exact Or.inr (Or.inr (Or.inl w))
theorem DRC.cow {h : XH} (F : xFix h) {c : Int} (w : DRC h c) : COW h c := by
  unfold DRC at w
  rcases w with w | w | w
  · exact tgs.cow F (Or.inr (Or.inr (Or.inl w.1)))
  · exact tgs.cow F (Or.inl w.1)
  · exact Or.inr (Or.inr (Or.inl w))
theorem VOW.cow {h : XH} {c : Int} (w : VOW h c) (hc : c < 53 ∨ 93 ≤ c) : COW h c := by
  rcases hc with z | z
  · exact Or.inl z
  · exact Or.inr (Or.inr (Or.inr ⟨z, w⟩))
/-- a fixed cell from 16 on has no mark -/
theorem VOW.far {h : XH} (M : MKA h) {c : Int} (w : VOW h c) : c < 53 ∨ 93 ≤ c := by have := VOW.fx M w; omega
/-- what another one writes leaves the class -/
theorem CIR.frame {C : Int → Prop} {h h' : XH} {s : CS} (R : CIR h s) (F' : xFix h') (e : xsm C h h') (hC : ∀ c, COW h c → ¬ C c) : CIR h' s := by
  obtain ⟨⟨F, M⟩, T, ⟨bp, fp, S⟩, ⟨V, VR⟩, w, ⟨a, qa, pa, QR⟩, ⟨es, A, hes⟩, z10, W⟩ := R
  have hnx := F.nx
  have lo : ∀ c k, 0 ≤ c → c < 53 → xpl h' c k = xpl h c k := fun c k _ c1 => e.pl (by omega) (hC c (Or.inl c1)) k
  refine ⟨⟨F', M.frame F e⟩, T.keep (lo 1 3 (by decide) (by decide)) (fun k => lo 2 k (by decide) (by decide)), ⟨bp, fp, S.frame F e (fun c v => hC c (STF.cow F v))⟩, ⟨V, (VR.frame e (fun c v => hC c (VOW.cow v (VOW.far M v))) F).1⟩, (lo 0 5 (by decide) (by decide)).trans w, ⟨a, qa, pa, QR.frame F e (hC 0 (Or.inl (by decide))) (fun c _ c2 => hC c (Or.inl (by omega))) (fun c _ c2 => hC c (tgs.cow F (by omega))) (fun c v => hC c (DRC.cow F v))⟩, ⟨es, A.frame F e (fun c v => hC c (by
    rcases v with v | v
    · exact Or.inl (by omega)
    · exact tgs.cow F (Or.inl v.1))), hes⟩, (lo 35 10 (by decide) (by decide)).trans z10, W⟩
theorem CIR.vl {C : Int → Prop} {h h' : XH} {s : CS} (R : CIR h s) (e : xsm C h h') (hC : ∀ c, COW h c → ¬ C c) : vlen h' = vlen h := by
  obtain ⟨⟨F, M⟩, T, -, ⟨V, VR⟩, -⟩ := R
  exact (VR.frame e (fun c v => hC c (VOW.cow v (VOW.far M v))) F).2
/-- room, less what the words' table has grown -/
def nxP (h : XH) : Int := xnx h - vlen h
def slP (h : XH) : Int := xsl h - 6 * vlen h
/-- .. and for an exception -/
def Room (h : XH) (n s : Int) : Prop := nxP h + n + 1 + 32768 ≤ xKC ∧ slP h + s + 6 + 196608 ≤ xKS
theorem Room.vo {h : XH} {n s : Int} (R : Room h n s) (hn : 0 ≤ n) (hs : 0 ≤ s) : VOroom h := by
  obtain ⟨r1, r2⟩ := R
  unfold nxP at r1
  unfold slP at r2
  exact ⟨by omega, by omega⟩
theorem CIR.room {h : XH} {s : CS} {n k : Int} (R : CIR h s) (M : Room h n k) : xnx h + n + 1 ≤ xKC ∧ xsl h + k + 6 ≤ xKS := by
  obtain ⟨r1, r2⟩ := M
  obtain ⟨-, -, -, ⟨V, VR⟩, -⟩ := R
  have h1 := VR.1.2.2.2.2.2.2.2.2
  unfold nxP at r1
  unfold slP at r2
  unfold vlen at r1 r2
  exact ⟨by omega, by omega⟩
/-- what a call of the class comes to: (0, its answer) or (1 + the exception's number, 0), and the state behind it -/
def CAN (Q : XV → XH → Prop) (X : Nat → XH → Prop) (mk : Int → XV) (h : XH) (R : (Int × Int) × CS) (n9 s9 : Int) : Prop :=
  (R.1.1 = 0 → ∀ h', CIR h' R.2 → xsm (CLW h) h h' → nxP h' ≤ nxP h + n9 → slP h' ≤ slP h + s9 → Q (mk R.1.2) h') ∧
  ∀ k : Nat, R.1.1 = k + 1 → ∀ h', CIR h' R.2 → xsm (CLW h) h h' → nxP h' ≤ nxP h + n9 + 1 → slP h' ≤ slP h + s9 + 6 → X k h'
/-- an answer that changes nothing -/
theorem CAN.ret {Q : XV → XH → Prop} {X : Nat → XH → Prop} {mk : Int → XV} {h : XH} {s : CS} {v n9 s9 : Int} (q : CAN Q X mk h ((0, v), s) n9 s9) (R : CIR h s) (hn : 0 ≤ n9) (hs : 0 ≤ s9) : Q (mk v) h :=
  q.1 rfl h R (xsm.refl h) (by omega) (by omega)
/-- an exception -/
theorem CAN.thr {Q : XV → XH → Prop} {X : Nat → XH → Prop} {mk : Int → XV} {h : XH} {s : CS} {k : Nat} {v n9 s9 : Int} (q : CAN Q X mk h (((k : Int) + 1, v), s) n9 s9) (R : CIR h s) (hn : 0 ≤ n9) (hs : 0 ≤ s9) (F9 : xFix (xmk h 300 6 (fun _ => 0))) : X k (xmk h 300 6 (fun _ => 0)) := by
  have e : xsm (fun _ => False) h (xmk h 300 6 (fun _ => 0)) := (xsm.refl h).mk (by decide)
  have ev := R.vl e (fun _ _ y => y)
  refine q.2 k rfl _ (R.frame F9 e (fun _ _ y => y)) (e.mono (fun _ _ y => y.elim)) ?_ ?_
  · unfold nxP; rw [ev, xnx_mk]; omega
  · unfold slP; rw [ev, xsl_mk]; omega

end
