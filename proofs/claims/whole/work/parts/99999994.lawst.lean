/-! ===== lawst ===== -/
section
/-! the law's invariant over a call of both -/
theorem MQX.cl2 {C : Int → Prop} {h h' : XH} {s : CS} (F : xFix h) (I : MQX h s) (S : xsm C h h') (hC : ∀ c, (53 ≤ c ∧ c ≤ 90) ∨ (93 ≤ c ∧ c < xnx h ∧ (xtg h c = 12 ∨ ((xtg h c = 100 ∨ xtg h c = 101) ∧ xpl h c (-1) = -20))) → ¬ C c) : MQX h' s := by
  have nx := F.nx
  have p : ∀ x k : Int, 53 ≤ x → x ≤ 90 → xpl h' x k = xpl h x k := fun x k x0 x1 => S.pl (by omega) (hC x (Or.inl ⟨x0, x1⟩)) k
  rcases I with ⟨a, b⟩ | ⟨a, q, c, d, e, f, g, i⟩
  · exact Or.inl ⟨(p 53 18 (by decide) (by decide)).trans a, b⟩
  · obtain ⟨c1, c2, -⟩ := id c
    have q1 := c2.1.2.1
    have no : ∀ x, q ≤ x → x ≤ q + 11 → ¬ C x := fun x x1 x2 => by
      refine hC x (Or.inr ⟨by omega, by omega, ?_⟩)
      by_cases z : x = q
      · rw [z]; exact Or.inl c2.2.1
      · refine Or.inr ⟨?_, ?_⟩
        · by_cases z1 : x ≤ q + 9
          · have := (c2.2.2.1 (x - q) (by omega) (by omega)).2.1
            rw [show q + (x - q) = x by omega] at this
            exact Or.inl this
          · by_cases z2 : x = q + 10
            · rw [z2]; exact Or.inr c2.2.2.2.1.2.1
            · rw [show x = q + 11 by omega]; exact Or.inl c2.2.2.2.2.2.1
        · have := i (x - q) (by omega) (by omega)
          rw [show q + (x - q) = x by omega] at this
          exact this
    refine Or.inr ⟨(p 53 18 (by decide) (by decide)).trans a, q, c.of S (p 53 19 (by decide) (by decide)) no, d, e, fun y => ?_, g, fun j j1 j2 => ?_⟩
    · rw [p 53 26 (by decide) (by decide)] at y
      exact (f y).of2 (fun x k w => p x k (by omega) (by omega))
    · rw [S.pl (by omega) (no _ (by omega) (by omega))]
      exact i j j1 j2
/-- what the class and the wrappers write leaves the model -/
def CLO (h : XH) : Int → Prop := fun c => CLW h c ∨ c = 91 ∨ c = 92
theorem MIR.cl {h h' : XH} {s : CS} (F : xFix h) (I : MIR h s) (S : xsm (CLO h) h h') : MIR h' s := by
  have nx := F.nx
  have no : ∀ c, (53 ≤ c ∧ c ≤ 90) ∨ (93 ≤ c ∧ c < xnx h ∧ (xtg h c = 12 ∨ ((xtg h c = 100 ∨ xtg h c = 101) ∧ xpl h c (-1) = -20))) → ¬ CLO h c := fun c w y => by
    rcases y with y | y | y
    · refine y ?_
      unfold MOD
      rcases w with w | ⟨w1, w2, w3⟩
      · exact Or.inl ⟨by omega, by omega⟩
      · exact Or.inr ⟨w1, w3⟩
    · omega
    · omega
  have p : ∀ x k : Int, 53 ≤ x → x ≤ 90 → xpl h' x k = xpl h x k := fun x k x0 x1 => S.pl (by omega) (no x (Or.inl ⟨x0, x1⟩)) k
  exact ⟨⟨I.1.1.keep (p 53 2 (by decide) (by decide)) (fun k => p 54 k (by decide) (by decide)), I.1.2.1.keep (fun k _ => p 53 k (by decide) (by decide)) (fun c k c1 c2 => p c k (by omega) (by omega)), (p 53 14 (by decide) (by decide)).trans I.1.2.2⟩, I.2.cl2 F S no⟩
/-- a call of the model's that leaves the answers' cells -/
def MAN (Q : XV → XH → Prop) (mk : Int → XV) (h : XH) (l : List Int) (R : (Int × Int) × CS) (n9 s9 : Int) : Prop :=
  ∀ h', xFix h' → MIR h' R.2 → xsm (fun c => 53 ≤ c ∧ c ≤ 90) h h' → xpl h' 53 0 = thr l R.1.1 → xnx h' ≤ xnx h + n9 → xsl h' ≤ xsl h + s9 → Q (mk R.1.2) h'
theorem MAN.mat {Q : XV → XH → Prop} {mk : Int → XV} {h : XH} {s : CS} {l : List Int} {R : (Int × Int) × CS} {n9 s9 : Int} (q : MAN Q mk h l R n9 s9) (F : xFix h) (I : MIR h s) (ed : dC R.2 = dC s) : MAT Q mk h (fC s) l R n9 s9 := fun h' F' T S P e26 e0 n l9 =>
  q h' F' ⟨T, I.2.mat F S P e26 ed⟩ (S.mono (fun c _ w => by have w : 53 ≤ c ∧ c ≤ 65 := w; omega)) e0 n l9
theorem MAN.maq {Q : XV → XH → Prop} {mk : Int → XV} {h : XH} {s : CS} {l : List Int} {R : (Int × Int) × CS} {n9 s9 : Int} (q : MAN Q mk h l R n9 s9) (es : R.2 = s) (hn : 0 ≤ n9) (hs : 0 ≤ s9) : MAQ Q mk h s l R.1 := fun h' F' K I e0 =>
  q h' F' (by rw [es]; exact I) (K.1.mono (fun c _ w => by omega)) e0 (by rw [K.2.2.1]; omega) (by rw [K.2.2.2]; omega)
theorem MAN.rd {Q : XV → XH → Prop} {mk : Int → XV} {h : XH} {s : CS} {l : List Int} {R : (Int × Int) × CS} {n9 s9 : Int} (q : MAN Q mk h l R n9 s9) (es : R.2 = s) (I : MIR h s) (hn : 0 ≤ n9) (hs : 0 ≤ s9) : MRd Q mk h l R.1 := fun F9 =>
  q _ F9 (by rw [es]; exact I.th) ((xsm.refl h).st (by decide) (Or.inl (by decide))) (xpl_hit _ _ _ _) (by show xnx h ≤ _; omega) (by show xsl h ≤ _; omega)
/-- the law's invariant: F feeds and N other calls have been made -/
def LI (h : XH) (s : CS) (F N M : Nat) : Prop := CIR h s ∧ MIR h s ∧ PIN s F ∧ mC s ≤ 60 * ((F : Int) + N) ∧ (M ≤ N ∧ (0 < M → 410 ≤ F)) ∧ nxP h + (bC s).length ≤ 200 + 520 * ((F : Int) + N) ∧ slP h + 130 * (bC s).length ≤ 60000 + 7100 * ((F : Int) + N) + 50 * ((F * N : Nat) : Int) + 8255 * M
theorem LI.rm {h : XH} {s : CS} {F N M : Nat} (L : LI h s F N M) (t : F + N ≤ 512) : nxP h + 300000 + 32768 ≤ xKC ∧ slP h + 120000 + 196608 ≤ xKS := by
  obtain ⟨-, -, -, -, ⟨m1, m2⟩, n, l⟩ := L
  unfold xKC xKS
  refine ⟨by omega, ?_⟩
  by_cases c : 0 < M
  · have := fn_bd2 F N t (m2 c)
    have := m2 c
    omega
  · have := fn_bd F N t
    omega
theorem LI.room {h : XH} {s : CS} {F N M : Nat} (L : LI h s F N M) (t : F + N ≤ 512) {a b : Int} (ha : a ≤ 10000) (hb : b ≤ 20000) : Room h a b := by
  have := L.rm t
  exact ⟨by omega, by omega⟩
/-- what a call may make: of the class's, with the exception, and of the model's -/
def BUD (b b' : Int) (F : Nat) (fd : Bool) (c9 d9 m9 e9 : Int) : Prop := c9 + 1 + b' + m9 ≤ b + 520 ∧ d9 + 6 + 130 * b' + e9 ≤ 130 * b + 7100 + (if fd = true then 0 else 50 * (F : Int) + (if 410 ≤ F then 8255 else 0))
/-- behind both calls -/
theorem LI.aft {h h1 h2 : XH} {s s' : CS} {F N M : Nat} {c9 d9 m9 e9 : Int} (fd : Bool) (L : LI h s F N M) (C1 : CIR h1 s') (n1 : nxP h1 ≤ nxP h + c9 + 1) (l1 : slP h1 ≤ slP h + d9 + 6) (F2 : xFix h2) (I2 : MIR h2 s') (S2 : xsm (fun c => 53 ≤ c ∧ c ≤ 92) h1 h2) (n2 : xnx h2 ≤ xnx h1 + m9) (l2 : xsl h2 ≤ xsl h1 + e9)
    (P : PIN s' (if fd = true then F + 1 else F)) (hm : mC s' ≤ mC s + 60) (B : BUD (bC s).length (bC s').length F fd c9 d9 m9 e9) : LI h2 s' (if fd = true then F + 1 else F) (if fd = true then N else N + 1) (if fd = true then M else if 410 ≤ F then M + 1 else M) := by
  obtain ⟨-, -, -, m0, ⟨m1, m2⟩, n, l⟩ := L
  obtain ⟨b1, b2⟩ := B
  have hC : ∀ c, COW h1 c → ¬ (53 ≤ c ∧ c ≤ 92) := fun c w y => COW.nm w (Or.inl y)
  have C2 : CIR h2 s' := C1.frame F2 S2 hC
  have ev := C1.vl S2 hC
  have n2' : nxP h2 ≤ nxP h1 + m9 := by unfold nxP; rw [ev]; omega
  have l2' : slP h2 ≤ slP h1 + e9 := by unfold slP; rw [ev]; omega
  cases fd with
  | true =>
    have P : PIN s' (F + 1) := P
    have b2 : d9 + 6 + 130 * ((bC s').length : Int) + e9 ≤ 130 * ((bC s).length : Int) + 7100 + 0 := b2
    show LI h2 s' (F + 1) N M
    have f1 : (F + 1) * N = F * N + N := by rw [Nat.add_mul, Nat.one_mul]
    exact ⟨C2, I2, P, by omega, ⟨m1, fun y => by have := m2 y; omega⟩, by omega, by rw [f1]; omega⟩
  | false =>
    have P : PIN s' F := P
    have b2 : d9 + 6 + 130 * ((bC s').length : Int) + e9 ≤ 130 * ((bC s).length : Int) + 7100 + (50 * (F : Int) + (if 410 ≤ F then 8255 else 0)) := b2
    show LI h2 s' F (N + 1) (if 410 ≤ F then M + 1 else M)
    have f1 : F * (N + 1) = F * N + F := Nat.mul_succ F N
    by_cases c : 410 ≤ F
    · rw [if_pos c] at b2 ⊢
      exact ⟨C2, I2, P, by omega, ⟨by omega, fun _ => c⟩, by omega, by rw [f1]; omega⟩
    · rw [if_neg c] at b2 ⊢
      exact ⟨C2, I2, P, by omega, ⟨by omega, m2⟩, by omega, by rw [f1]; omega⟩
theorem thr_0 {l : List Int} {c : Int} (h : thr l c = 0) (hc : c = 0 ∨ c ∈ l) : c = 0 := by
  rcases hc with y | y
  · exact y
  · exfalso
    have := idxI_mem (fun x => decide (x = c)) l c y (decide_eq_true rfl)
    have r := idxI_rng (fun x => decide (x = c)) l
    unfold thr at h
    omega

end
