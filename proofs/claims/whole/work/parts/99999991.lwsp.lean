/-! ===== lwsp ===== -/
section
/-! what the law's wrappers come to -/
/-- a wrapped call: the number of what was thrown, the answer in the cell o; the model's state beside it -/
def CAW (Q : XV → XH → Prop) (h : XH) (l : List Int) (o : Int) (R : (Int × Int) × CS) (f : Int → Int) (n9 s9 : Int) : Prop :=
  ∀ h', CIR h' R.2 → xsm (fun c => CLW h c ∨ c = o) h h' → nxP h' ≤ nxP h + n9 + 1 → slP h' ≤ slP h + s9 + 6 → (R.1.1 = 0 → xpl h' o 0 = f R.1.2) → Q (xI (thr l R.1.1)) h'
theorem CAW.ok {Q : XV → XH → Prop} {h h1 : XH} {l : List Int} {o v : Int} {R : (Int × Int) × CS} {f : Int → Int} {n9 s9 : Int} (q : CAW Q h l o R f n9 s9) (ho : o = 91 ∨ o = 92) (e : R.1.1 = 0) (el : thr l 0 = 0) (C1 : CIR h1 R.2) (S : xsm (CLW h) h h1) (n1 : nxP h1 ≤ nxP h + n9) (l1 : slP h1 ≤ slP h + s9) (ev : v = f R.1.2) (F2 : xFix (xst h1 o 0 v)) : Q (xI 0) (xst h1 o 0 v) := by
  have nx := C1.fx.nx
  have S2 : xsm (fun c => c = o) h1 (xst h1 o 0 v) := (xsm.refl h1).st (by omega) (Or.inl rfl)
  have hC : ∀ c, COW h1 c → ¬ (c = o) := fun c w y => by
    have := COW.nm w
    unfold MOD at this
    exact this (Or.inl (by omega))
  have ev2 := C1.vl S2 hC
  have g := q (xst h1 o 0 v) (C1.frame F2 S2 hC) (((S.mono (fun c _ w => Or.inl w)).st (by omega) (Or.inl (Or.inr rfl)))) (by unfold nxP at *; rw [ev2, xnx_st]; omega) (by unfold slP at *; rw [ev2, xsl_st]; omega) (fun _ => by rw [xpl_hit]; exact ev)
  rw [e, el] at g
  exact g
theorem CAW.ex {Q : XV → XH → Prop} {h h1 : XH} {l : List Int} {o v c : Int} {R : (Int × Int) × CS} {f : Int → Int} {n9 s9 : Int} (q : CAW Q h l o R f n9 s9) (e : R.1.1 = c) (c0 : c ≠ 0) (el : thr l c = v) (C1 : CIR h1 R.2) (S : xsm (CLW h) h h1) (n1 : nxP h1 ≤ nxP h + n9 + 1) (l1 : slP h1 ≤ slP h + s9 + 6) : Q (xI v) h1 := by
  have g := q h1 C1 (S.mono (fun c _ w => Or.inl w)) n1 l1 (fun y => absurd (e.symm.trans y) c0)
  rw [e, el] at g
  exact g
/-- a wrapped call behind an exception -/
def WFR (h h1 : XH) (R : (Int × Int) × CS) (n9 s9 : Int) : Prop := CIR h1 R.2 ∧ xsm (CLW h) h h1 ∧ nxP h1 ≤ nxP h + n9 + 1 ∧ slP h1 ≤ slP h + s9 + 6
/-- an answer as it stands, and one of yes or no -/
def idF (v : Int) : Int := v
def bfF (v : Int) : Int := if v = 0 then 0 else 1
theorem cod_feed {s : CS} {a b c i j : Int} : (cFeed s a b c i j).1.1 = 0 ∨ (cFeed s a b c i j).1.1 = 2 := by
  unfold cFeed
  repeat' (first | exact Or.inl rfl | exact Or.inr (rfl) | split)
theorem s_W_feed {G : XG} {d : Nat} {h : XH} {Q : XV → XH → Prop} {X : Nat → XH → Prop} {s : CS} {a b c i j : Int} {n9 s9 : Int} (R : CIR h s) (M : Room h n9 s9) (hn : 0 ≤ n9) (hs : 0 ≤ s9) (q : CAW Q h [2] 91 (cFeed s a b c i j) idF n9 s9) : xwp G m_W_feed (d + 8) 0 [xR 0, xI a, xI b, xI c, xI i, xI j, xR 91, xZ] [] h Q X := by
  refine v_W_feed_0 (X9 := fun j9 h1 => (cFeed s a b c i j).1.1 = (j9 : Int) + 1 ∧ WFR h h1 (cFeed s a b c i j) n9 s9) R.fx ⟨?_, fun k9 h9 _ hx => ⟨fun e => by subst e; have h1 := hx.1; have h2 := cod_feed (s := s) (a := a) (b := b) (c := c) (i := i) (j := j); omega, fun e => by subst e; exact q.ex hx.1 (by decide) rfl hx.2.1 hx.2.2.1 hx.2.2.2.1 hx.2.2.2.2, fun e => by subst e; have h1 := hx.1; have h2 := cod_feed (s := s) (a := a) (b := b) (c := c) (i := i) (j := j); omega⟩⟩
  exact s_B_feed R M hn hs ⟨fun e h1 C1 L1 n1 l1 => v_W_feed_14 C1.fx ⟨ft_91 C1.fx, by decide, by decide, by rw [fl_91 C1.fx]; decide, fun F2 => q.ok (Or.inl rfl) e rfl C1 L1 n1 l1 rfl F2⟩, fun j9 e h1 C1 L1 n1 l1 => ⟨e, C1, L1, n1, l1⟩⟩
theorem cod_trim {s : CS} {x : Int} : (cTrim s x).1.1 = 0 ∨ (cTrim s x).1.1 = 1 := by
  unfold cTrim
  repeat' (first | exact Or.inl rfl | exact Or.inr (rfl) | split)
theorem s_W_trim {G : XG} {d : Nat} {h : XH} {Q : XV → XH → Prop} {X : Nat → XH → Prop} {s : CS} {x : Int} {n9 s9 : Int} (R : CIR h s) (M : Room h n9 s9) (hn : 0 ≤ n9) (hs : 0 ≤ s9) (q : CAW Q h [1] 91 (cTrim s x) idF n9 s9) : xwp G m_W_trim (d + 8) 0 [xR 0, xI x, xR 91, xZ] [] h Q X := by
  refine v_W_trim_0 (X9 := fun j9 h1 => (cTrim s x).1.1 = (j9 : Int) + 1 ∧ WFR h h1 (cTrim s x) n9 s9) R.fx ⟨?_, fun k9 h9 _ hx => ⟨fun e => by subst e; exact q.ex hx.1 (by decide) rfl hx.2.1 hx.2.2.1 hx.2.2.2.1 hx.2.2.2.2, fun e => by subst e; have h1 := hx.1; have h2 := cod_trim (s := s) (x := x); omega, fun e => by subst e; have h1 := hx.1; have h2 := cod_trim (s := s) (x := x); omega⟩⟩
  exact s_B_trim R M hn hs ⟨fun e h1 C1 L1 n1 l1 => v_W_trim_7 C1.fx ⟨ft_91 C1.fx, by decide, by decide, by rw [fl_91 C1.fx]; decide, fun F2 => q.ok (Or.inl rfl) e rfl C1 L1 n1 l1 rfl F2⟩, fun j9 e h1 C1 L1 n1 l1 => ⟨e, C1, L1, n1, l1⟩⟩
theorem cod_add {s : CS} {k sh rk : Int} : (cAdd s k sh rk).1.1 = 0 ∨ (cAdd s k sh rk).1.1 = 1 ∨ (cAdd s k sh rk).1.1 = 2 := by
  unfold cAdd
  repeat' (first | exact Or.inl rfl | exact Or.inr (Or.inl rfl) | exact Or.inr (Or.inr (rfl)) | split)
theorem s_W_add {G : XG} {d : Nat} {h : XH} {Q : XV → XH → Prop} {X : Nat → XH → Prop} {s : CS} {k sh rk : Int} {n9 s9 : Int} (R : CIR h s) (M : Room h n9 s9) (hn : 5 ≤ n9) (hs : 600 ≤ s9) (q : CAW Q h [1, 2] 91 (cAdd s k sh rk) idF n9 s9) : xwp G m_W_add (d + 11) 0 [xR 0, xI k, xI sh, xI rk, xR 91, xZ] [] h Q X := by
  refine v_W_add_0 (X9 := fun j9 h1 => (cAdd s k sh rk).1.1 = (j9 : Int) + 1 ∧ WFR h h1 (cAdd s k sh rk) n9 s9) R.fx ⟨?_, fun k9 h9 _ hx => ⟨fun e => by subst e; exact q.ex hx.1 (by decide) rfl hx.2.1 hx.2.2.1 hx.2.2.2.1 hx.2.2.2.2, fun e => by subst e; exact q.ex hx.1 (by decide) rfl hx.2.1 hx.2.2.1 hx.2.2.2.1 hx.2.2.2.2, fun e => by subst e; have h1 := hx.1; have h2 := cod_add (s := s) (k := k) (sh := sh) (rk := rk); omega⟩⟩
  exact s_B_add R M hn hs ⟨fun e h1 C1 L1 n1 l1 => v_W_add_10 C1.fx ⟨ft_91 C1.fx, by decide, by decide, by rw [fl_91 C1.fx]; decide, fun F2 => q.ok (Or.inl rfl) e rfl C1 L1 n1 l1 rfl F2⟩, fun j9 e h1 C1 L1 n1 l1 => ⟨e, C1, L1, n1, l1⟩⟩
theorem cod_takeOut {s : CS} {k : Int} : (cTakeOut s k).1.1 = 0 ∨ (cTakeOut s k).1.1 = 1 ∨ (cTakeOut s k).1.1 = 2 := by
  unfold cTakeOut
  repeat' (first | exact Or.inl rfl | exact Or.inr (Or.inl rfl) | exact Or.inr (Or.inr (rfl)) | split)
theorem s_W_takeOut {G : XG} {d : Nat} {h : XH} {Q : XV → XH → Prop} {X : Nat → XH → Prop} {s : CS} {k : Int} {n9 s9 : Int} (R : CIR h s) (M : Room h n9 s9) (hn : 0 ≤ n9) (hs : 0 ≤ s9) (q : CAW Q h [1, 2] 91 (cTakeOut s k) bfF n9 s9) : xwp G m_W_takeOut (d + 9) 0 [xR 0, xI k, xR 91, xZ] [] h Q X := by
  refine v_W_takeOut_0 (X9 := fun j9 h1 => (cTakeOut s k).1.1 = (j9 : Int) + 1 ∧ WFR h h1 (cTakeOut s k) n9 s9) R.fx ⟨?_, fun k9 h9 _ hx => ⟨fun e => by subst e; exact q.ex hx.1 (by decide) rfl hx.2.1 hx.2.2.1 hx.2.2.2.1 hx.2.2.2.2, fun e => by subst e; exact q.ex hx.1 (by decide) rfl hx.2.1 hx.2.2.1 hx.2.2.2.1 hx.2.2.2.2, fun e => by subst e; have h1 := hx.1; have h2 := cod_takeOut (s := s) (k := k); omega⟩⟩
  exact s_B_takeOut R M hn hs ⟨fun e h1 C1 L1 n1 l1 => v_W_takeOut_7 C1.fx ⟨fun z => ⟨ft_91 C1.fx, by decide, by decide, by rw [fl_91 C1.fx]; decide, fun F2 => q.ok (Or.inl rfl) e rfl C1 L1 n1 l1 (by show _ = if _ = _ then _ else _; rw [if_pos z]) F2⟩, fun z => ⟨ft_91 C1.fx, by decide, by decide, by rw [fl_91 C1.fx]; decide, fun F2 => q.ok (Or.inl rfl) e rfl C1 L1 n1 l1 (by show _ = if _ = _ then _ else _; rw [if_neg z]) F2⟩⟩, fun j9 e h1 C1 L1 n1 l1 => ⟨e, C1, L1, n1, l1⟩⟩
theorem cod_textsIn {s : CS} {x : Int} : (cTextsIn s x).1.1 = 0 ∨ (cTextsIn s x).1.1 = 3 := by
  unfold cTextsIn
  repeat' (first | exact Or.inl rfl | exact Or.inr (rfl) | split)
theorem s_W_textsIn {G : XG} {d : Nat} {h : XH} {Q : XV → XH → Prop} {X : Nat → XH → Prop} {s : CS} {x : Int} {n9 s9 : Int} (R : CIR h s) (M : Room h n9 s9) (hn : 0 ≤ n9) (hs : 0 ≤ s9) (q : CAW Q h [3] 91 (cTextsIn s x) idF n9 s9) : xwp G m_W_textsIn (d + 9) 0 [xR 0, xI x, xR 91, xZ] [] h Q X := by
  refine v_W_textsIn_0 (X9 := fun j9 h1 => (cTextsIn s x).1.1 = (j9 : Int) + 1 ∧ WFR h h1 (cTextsIn s x) n9 s9) R.fx ⟨?_, fun k9 h9 _ hx => ⟨fun e => by subst e; have h1 := hx.1; have h2 := cod_textsIn (s := s) (x := x); omega, fun e => by subst e; have h1 := hx.1; have h2 := cod_textsIn (s := s) (x := x); omega, fun e => by subst e; exact q.ex hx.1 (by decide) rfl hx.2.1 hx.2.2.1 hx.2.2.2.1 hx.2.2.2.2⟩⟩
  exact s_B_textsIn R M hn hs ⟨fun e h1 C1 L1 n1 l1 => v_W_textsIn_7 C1.fx ⟨ft_91 C1.fx, by decide, by decide, by rw [fl_91 C1.fx]; decide, fun F2 => q.ok (Or.inl rfl) e rfl C1 L1 n1 l1 rfl F2⟩, fun j9 e h1 C1 L1 n1 l1 => ⟨e, C1, L1, n1, l1⟩⟩
theorem cod_markedIn {s : CS} {x : Int} : (cMarkedIn s x).1.1 = 0 ∨ (cMarkedIn s x).1.1 = 3 := by
  unfold cMarkedIn
  repeat' (first | exact Or.inl rfl | exact Or.inr (rfl) | split)
theorem s_W_markedIn {G : XG} {d : Nat} {h : XH} {Q : XV → XH → Prop} {X : Nat → XH → Prop} {s : CS} {x : Int} {n9 s9 : Int} (R : CIR h s) (M : Room h n9 s9) (hn : 0 ≤ n9) (hs : 0 ≤ s9) (q : CAW Q h [3] 91 (cMarkedIn s x) idF n9 s9) : xwp G m_W_markedIn (d + 9) 0 [xR 0, xI x, xR 91, xZ] [] h Q X := by
  refine v_W_markedIn_0 (X9 := fun j9 h1 => (cMarkedIn s x).1.1 = (j9 : Int) + 1 ∧ WFR h h1 (cMarkedIn s x) n9 s9) R.fx ⟨?_, fun k9 h9 _ hx => ⟨fun e => by subst e; have h1 := hx.1; have h2 := cod_markedIn (s := s) (x := x); omega, fun e => by subst e; have h1 := hx.1; have h2 := cod_markedIn (s := s) (x := x); omega, fun e => by subst e; exact q.ex hx.1 (by decide) rfl hx.2.1 hx.2.2.1 hx.2.2.2.1 hx.2.2.2.2⟩⟩
  exact s_B_markedIn R M hn hs ⟨fun e h1 C1 L1 n1 l1 => v_W_markedIn_7 C1.fx ⟨ft_91 C1.fx, by decide, by decide, by rw [fl_91 C1.fx]; decide, fun F2 => q.ok (Or.inl rfl) e rfl C1 L1 n1 l1 rfl F2⟩, fun j9 e h1 C1 L1 n1 l1 => ⟨e, C1, L1, n1, l1⟩⟩
theorem cod_levelOf {s : CS} {x : Int} : (cLevelOf s x).1.1 = 0 ∨ (cLevelOf s x).1.1 = 3 := by
  unfold cLevelOf
  repeat' (first | exact Or.inl rfl | exact Or.inr (rfl) | split)
theorem s_W_levelOf {G : XG} {d : Nat} {h : XH} {Q : XV → XH → Prop} {X : Nat → XH → Prop} {s : CS} {x : Int} {n9 s9 : Int} (R : CIR h s) (M : Room h n9 s9) (hn : 0 ≤ n9) (hs : 0 ≤ s9) (q : CAW Q h [3] 91 (cLevelOf s x) idF n9 s9) : xwp G m_W_levelOf (d + 9) 0 [xR 0, xI x, xR 91, xZ] [] h Q X := by
  refine v_W_levelOf_0 (X9 := fun j9 h1 => (cLevelOf s x).1.1 = (j9 : Int) + 1 ∧ WFR h h1 (cLevelOf s x) n9 s9) R.fx ⟨?_, fun k9 h9 _ hx => ⟨fun e => by subst e; have h1 := hx.1; have h2 := cod_levelOf (s := s) (x := x); omega, fun e => by subst e; have h1 := hx.1; have h2 := cod_levelOf (s := s) (x := x); omega, fun e => by subst e; exact q.ex hx.1 (by decide) rfl hx.2.1 hx.2.2.1 hx.2.2.2.1 hx.2.2.2.2⟩⟩
  exact s_B_levelOf R M hn hs ⟨fun e h1 C1 L1 n1 l1 => v_W_levelOf_7 C1.fx ⟨ft_91 C1.fx, by decide, by decide, by rw [fl_91 C1.fx]; decide, fun F2 => q.ok (Or.inl rfl) e rfl C1 L1 n1 l1 rfl F2⟩, fun j9 e h1 C1 L1 n1 l1 => ⟨e, C1, L1, n1, l1⟩⟩
theorem cod_wordsIn {s : CS} {x f : Int} : (cWordsIn s x f).1.1 = 0 ∨ (cWordsIn s x f).1.1 = 3 := by
  unfold cWordsIn
  repeat' (first | exact Or.inl rfl | exact Or.inr (rfl) | split)
theorem s_W_wordsIn {G : XG} {d : Nat} {h : XH} {Q : XV → XH → Prop} {X : Nat → XH → Prop} {s : CS} {x f : Int} {n9 s9 : Int} (R : CIR h s) (M : Room h n9 s9) (hn : 0 ≤ n9) (hs : 0 ≤ s9) (q : CAW Q h [3] 91 (cWordsIn s x f) idF n9 s9) : xwp G m_W_wordsIn (d + 9) 0 [xR 0, xI x, xI f, xR 91, xZ] [] h Q X := by
  refine v_W_wordsIn_0 (X9 := fun j9 h1 => (cWordsIn s x f).1.1 = (j9 : Int) + 1 ∧ WFR h h1 (cWordsIn s x f) n9 s9) R.fx ⟨?_, fun k9 h9 _ hx => ⟨fun e => by subst e; have h1 := hx.1; have h2 := cod_wordsIn (s := s) (x := x) (f := f); omega, fun e => by subst e; have h1 := hx.1; have h2 := cod_wordsIn (s := s) (x := x) (f := f); omega, fun e => by subst e; exact q.ex hx.1 (by decide) rfl hx.2.1 hx.2.2.1 hx.2.2.2.1 hx.2.2.2.2⟩⟩
  exact s_B_wordsIn R M hn hs ⟨fun e h1 C1 L1 n1 l1 => v_W_wordsIn_8 C1.fx ⟨ft_91 C1.fx, by decide, by decide, by rw [fl_91 C1.fx]; decide, fun F2 => q.ok (Or.inl rfl) e rfl C1 L1 n1 l1 rfl F2⟩, fun j9 e h1 C1 L1 n1 l1 => ⟨e, C1, L1, n1, l1⟩⟩
theorem cod_keyAt {s : CS} {x y : Int} : (cKeyAt s x y).1.1 = 0 ∨ (cKeyAt s x y).1.1 = 3 := by
  unfold cKeyAt
  repeat' (first | exact Or.inl rfl | exact Or.inr (rfl) | split)
theorem s_W_keyAt {G : XG} {d : Nat} {h : XH} {Q : XV → XH → Prop} {X : Nat → XH → Prop} {s : CS} {x y : Int} {n9 s9 : Int} (R : CIR h s) (M : Room h n9 s9) (hn : 0 ≤ n9) (hs : 0 ≤ s9) (q : CAW Q h [3] 91 (cKeyAt s x y) idF n9 s9) : xwp G m_W_keyAt (d + 10) 0 [xR 0, xI x, xI y, xR 91, xZ] [] h Q X := by
  refine v_W_keyAt_0 (X9 := fun j9 h1 => (cKeyAt s x y).1.1 = (j9 : Int) + 1 ∧ WFR h h1 (cKeyAt s x y) n9 s9) R.fx ⟨?_, fun k9 h9 _ hx => ⟨fun e => by subst e; have h1 := hx.1; have h2 := cod_keyAt (s := s) (x := x) (y := y); omega, fun e => by subst e; have h1 := hx.1; have h2 := cod_keyAt (s := s) (x := x) (y := y); omega, fun e => by subst e; exact q.ex hx.1 (by decide) rfl hx.2.1 hx.2.2.1 hx.2.2.2.1 hx.2.2.2.2⟩⟩
  exact s_B_keyAt R M hn hs ⟨fun e h1 C1 L1 n1 l1 => v_W_keyAt_8 C1.fx ⟨ft_91 C1.fx, by decide, by decide, by rw [fl_91 C1.fx]; decide, fun F2 => q.ok (Or.inl rfl) e rfl C1 L1 n1 l1 rfl F2⟩, fun j9 e h1 C1 L1 n1 l1 => ⟨e, C1, L1, n1, l1⟩⟩
theorem cod_isMarked {s : CS} {x y : Int} : (cIsMarked s x y).1.1 = 0 ∨ (cIsMarked s x y).1.1 = 3 := by
  unfold cIsMarked
  repeat' (first | exact Or.inl rfl | exact Or.inr (rfl) | split)
theorem s_W_isMarked {G : XG} {d : Nat} {h : XH} {Q : XV → XH → Prop} {X : Nat → XH → Prop} {s : CS} {x y : Int} {n9 s9 : Int} (R : CIR h s) (M : Room h n9 s9) (hn : 0 ≤ n9) (hs : 0 ≤ s9) (q : CAW Q h [3] 91 (cIsMarked s x y) bfF n9 s9) : xwp G m_W_isMarked (d + 10) 0 [xR 0, xI x, xI y, xR 91, xZ] [] h Q X := by
  refine v_W_isMarked_0 (X9 := fun j9 h1 => (cIsMarked s x y).1.1 = (j9 : Int) + 1 ∧ WFR h h1 (cIsMarked s x y) n9 s9) R.fx ⟨?_, fun k9 h9 _ hx => ⟨fun e => by subst e; have h1 := hx.1; have h2 := cod_isMarked (s := s) (x := x) (y := y); omega, fun e => by subst e; have h1 := hx.1; have h2 := cod_isMarked (s := s) (x := x) (y := y); omega, fun e => by subst e; exact q.ex hx.1 (by decide) rfl hx.2.1 hx.2.2.1 hx.2.2.2.1 hx.2.2.2.2⟩⟩
  exact s_B_isMarked R M hn hs ⟨fun e h1 C1 L1 n1 l1 => v_W_isMarked_8 C1.fx ⟨fun z => ⟨ft_91 C1.fx, by decide, by decide, by rw [fl_91 C1.fx]; decide, fun F2 => q.ok (Or.inl rfl) e rfl C1 L1 n1 l1 (by show _ = if _ = _ then _ else _; rw [if_pos z]) F2⟩, fun z => ⟨ft_91 C1.fx, by decide, by decide, by rw [fl_91 C1.fx]; decide, fun F2 => q.ok (Or.inl rfl) e rfl C1 L1 n1 l1 (by show _ = if _ = _ then _ else _; rw [if_neg z]) F2⟩⟩, fun j9 e h1 C1 L1 n1 l1 => ⟨e, C1, L1, n1, l1⟩⟩
theorem cod_lengthOf {s : CS} {x y f : Int} : (cLengthOf s x y f).1.1 = 0 ∨ (cLengthOf s x y f).1.1 = 3 := by
  unfold cLengthOf
  repeat' (first | exact Or.inl rfl | exact Or.inr (rfl) | split)
theorem s_W_lengthOf {G : XG} {d : Nat} {h : XH} {Q : XV → XH → Prop} {X : Nat → XH → Prop} {s : CS} {x y f : Int} {n9 s9 : Int} (R : CIR h s) (M : Room h n9 s9) (hn : 0 ≤ n9) (hs : 0 ≤ s9) (q : CAW Q h [3] 91 (cLengthOf s x y f) idF n9 s9) : xwp G m_W_lengthOf (d + 10) 0 [xR 0, xI x, xI y, xI f, xR 91, xZ] [] h Q X := by
  refine v_W_lengthOf_0 (X9 := fun j9 h1 => (cLengthOf s x y f).1.1 = (j9 : Int) + 1 ∧ WFR h h1 (cLengthOf s x y f) n9 s9) R.fx ⟨?_, fun k9 h9 _ hx => ⟨fun e => by subst e; have h1 := hx.1; have h2 := cod_lengthOf (s := s) (x := x) (y := y) (f := f); omega, fun e => by subst e; have h1 := hx.1; have h2 := cod_lengthOf (s := s) (x := x) (y := y) (f := f); omega, fun e => by subst e; exact q.ex hx.1 (by decide) rfl hx.2.1 hx.2.2.1 hx.2.2.2.1 hx.2.2.2.2⟩⟩
  exact s_B_lengthOf R M hn hs ⟨fun e h1 C1 L1 n1 l1 => v_W_lengthOf_10 C1.fx ⟨ft_91 C1.fx, by decide, by decide, by rw [fl_91 C1.fx]; decide, fun F2 => q.ok (Or.inl rfl) e rfl C1 L1 n1 l1 rfl F2⟩, fun j9 e h1 C1 L1 n1 l1 => ⟨e, C1, L1, n1, l1⟩⟩
theorem cod_segmentOf {s : CS} {k : Int} : (cSegmentOf s k).1.1 = 0 ∨ (cSegmentOf s k).1.1 = 1 := by
  unfold cSegmentOf
  repeat' (first | exact Or.inl rfl | exact Or.inr (rfl) | split)
theorem s_W_segmentOf {G : XG} {d : Nat} {h : XH} {Q : XV → XH → Prop} {X : Nat → XH → Prop} {s : CS} {k : Int} {n9 s9 : Int} (R : CIR h s) (M : Room h n9 s9) (hn : 0 ≤ n9) (hs : 0 ≤ s9) (q : CAW Q h [1] 91 (cSegmentOf s k) idF n9 s9) : xwp G m_W_segmentOf (d + 9) 0 [xR 0, xI k, xR 91, xZ] [] h Q X := by
  refine v_W_segmentOf_0 (X9 := fun j9 h1 => (cSegmentOf s k).1.1 = (j9 : Int) + 1 ∧ WFR h h1 (cSegmentOf s k) n9 s9) R.fx ⟨?_, fun k9 h9 _ hx => ⟨fun e => by subst e; exact q.ex hx.1 (by decide) rfl hx.2.1 hx.2.2.1 hx.2.2.2.1 hx.2.2.2.2, fun e => by subst e; have h1 := hx.1; have h2 := cod_segmentOf (s := s) (k := k); omega, fun e => by subst e; have h1 := hx.1; have h2 := cod_segmentOf (s := s) (k := k); omega⟩⟩
  exact s_B_segmentOf R M hn hs ⟨fun e h1 C1 L1 n1 l1 => v_W_segmentOf_7 C1.fx ⟨ft_91 C1.fx, by decide, by decide, by rw [fl_91 C1.fx]; decide, fun F2 => q.ok (Or.inl rfl) e rfl C1 L1 n1 l1 rfl F2⟩, fun j9 e h1 C1 L1 n1 l1 => ⟨e, C1, L1, n1, l1⟩⟩
theorem cod_shelfOf {s : CS} {k : Int} : (cShelfOf s k).1.1 = 0 ∨ (cShelfOf s k).1.1 = 1 := by
  unfold cShelfOf
  repeat' (first | exact Or.inl rfl | exact Or.inr (rfl) | split)
theorem s_W_shelfOf {G : XG} {d : Nat} {h : XH} {Q : XV → XH → Prop} {X : Nat → XH → Prop} {s : CS} {k : Int} {n9 s9 : Int} (R : CIR h s) (M : Room h n9 s9) (hn : 0 ≤ n9) (hs : 0 ≤ s9) (q : CAW Q h [1] 91 (cShelfOf s k) idF n9 s9) : xwp G m_W_shelfOf (d + 9) 0 [xR 0, xI k, xR 91, xZ] [] h Q X := by
  refine v_W_shelfOf_0 (X9 := fun j9 h1 => (cShelfOf s k).1.1 = (j9 : Int) + 1 ∧ WFR h h1 (cShelfOf s k) n9 s9) R.fx ⟨?_, fun k9 h9 _ hx => ⟨fun e => by subst e; exact q.ex hx.1 (by decide) rfl hx.2.1 hx.2.2.1 hx.2.2.2.1 hx.2.2.2.2, fun e => by subst e; have h1 := hx.1; have h2 := cod_shelfOf (s := s) (k := k); omega, fun e => by subst e; have h1 := hx.1; have h2 := cod_shelfOf (s := s) (k := k); omega⟩⟩
  exact s_B_shelfOf R M hn hs ⟨fun e h1 C1 L1 n1 l1 => v_W_shelfOf_7 C1.fx ⟨ft_91 C1.fx, by decide, by decide, by rw [fl_91 C1.fx]; decide, fun F2 => q.ok (Or.inl rfl) e rfl C1 L1 n1 l1 rfl F2⟩, fun j9 e h1 C1 L1 n1 l1 => ⟨e, C1, L1, n1, l1⟩⟩
theorem cod_wordByte {s : CS} {x : Int} : (cWordByte s x).1.1 = 0 ∨ (cWordByte s x).1.1 = 3 := by
  unfold cWordByte
  repeat' (first | exact Or.inl rfl | exact Or.inr (rfl) | split)
theorem s_W_wordByte {G : XG} {d : Nat} {h : XH} {Q : XV → XH → Prop} {X : Nat → XH → Prop} {s : CS} {x : Int} {n9 s9 : Int} (R : CIR h s) (M : Room h n9 s9) (hn : 0 ≤ n9) (hs : 0 ≤ s9) (q : CAW Q h [3] 91 (cWordByte s x) idF n9 s9) : xwp G m_W_wordByte (d + 8) 0 [xR 0, xI x, xR 91, xZ] [] h Q X := by
  refine v_W_wordByte_0 (X9 := fun j9 h1 => (cWordByte s x).1.1 = (j9 : Int) + 1 ∧ WFR h h1 (cWordByte s x) n9 s9) R.fx ⟨?_, fun k9 h9 _ hx => ⟨fun e => by subst e; have h1 := hx.1; have h2 := cod_wordByte (s := s) (x := x); omega, fun e => by subst e; have h1 := hx.1; have h2 := cod_wordByte (s := s) (x := x); omega, fun e => by subst e; exact q.ex hx.1 (by decide) rfl hx.2.1 hx.2.2.1 hx.2.2.2.1 hx.2.2.2.2⟩⟩
  exact s_B_wordByte R M hn hs ⟨fun e h1 C1 L1 n1 l1 => v_W_wordByte_7 C1.fx ⟨ft_91 C1.fx, by decide, by decide, by rw [fl_91 C1.fx]; decide, fun F2 => q.ok (Or.inl rfl) e rfl C1 L1 n1 l1 rfl F2⟩, fun j9 e h1 C1 L1 n1 l1 => ⟨e, C1, L1, n1, l1⟩⟩
theorem cod_textsWith {s : CS} {f : Int} : (cTextsWith s f).1.1 = 0 ∨ (cTextsWith s f).1.1 = 3 := by
  unfold cTextsWith
  repeat' (first | exact Or.inl rfl | exact Or.inr (rfl) | split)
theorem s_W_textsWith {G : XG} {d : Nat} {h : XH} {Q : XV → XH → Prop} {X : Nat → XH → Prop} {s : CS} {f : Int} {n9 s9 : Int} (R : CIR h s) (M : Room h n9 s9) (hn : 0 ≤ n9) (hs : 0 ≤ s9) (q : CAW Q h [3] 91 (cTextsWith s f) idF n9 s9) : xwp G m_W_textsWith (d + 9) 0 [xR 0, xI f, xR 91, xZ] [] h Q X := by
  refine v_W_textsWith_0 (X9 := fun j9 h1 => (cTextsWith s f).1.1 = (j9 : Int) + 1 ∧ WFR h h1 (cTextsWith s f) n9 s9) R.fx ⟨?_, fun k9 h9 _ hx => ⟨fun e => by subst e; have h1 := hx.1; have h2 := cod_textsWith (s := s) (f := f); omega, fun e => by subst e; have h1 := hx.1; have h2 := cod_textsWith (s := s) (f := f); omega, fun e => by subst e; exact q.ex hx.1 (by decide) rfl hx.2.1 hx.2.2.1 hx.2.2.2.1 hx.2.2.2.2⟩⟩
  exact s_B_textsWith R M hn hs ⟨fun e h1 C1 L1 n1 l1 => v_W_textsWith_7 C1.fx ⟨ft_91 C1.fx, by decide, by decide, by rw [fl_91 C1.fx]; decide, fun F2 => q.ok (Or.inl rfl) e rfl C1 L1 n1 l1 rfl F2⟩, fun j9 e h1 C1 L1 n1 l1 => ⟨e, C1, L1, n1, l1⟩⟩
theorem cod_timesIn {s : CS} {k f : Int} : (cTimesIn s k f).1.1 = 0 ∨ (cTimesIn s k f).1.1 = 1 ∨ (cTimesIn s k f).1.1 = 3 := by
  unfold cTimesIn
  repeat' (first | exact Or.inl rfl | exact Or.inr (Or.inl rfl) | exact Or.inr (Or.inr (rfl)) | split)
theorem s_W_timesIn {G : XG} {d : Nat} {h : XH} {Q : XV → XH → Prop} {X : Nat → XH → Prop} {s : CS} {k f : Int} {n9 s9 : Int} (R : CIR h s) (M : Room h n9 s9) (hn : 0 ≤ n9) (hs : 0 ≤ s9) (q : CAW Q h [1, 3] 91 (cTimesIn s k f) idF n9 s9) : xwp G m_W_timesIn (d + 9) 0 [xR 0, xI k, xI f, xR 91, xZ] [] h Q X := by
  refine v_W_timesIn_0 (X9 := fun j9 h1 => (cTimesIn s k f).1.1 = (j9 : Int) + 1 ∧ WFR h h1 (cTimesIn s k f) n9 s9) R.fx ⟨?_, fun k9 h9 _ hx => ⟨fun e => by subst e; exact q.ex hx.1 (by decide) rfl hx.2.1 hx.2.2.1 hx.2.2.2.1 hx.2.2.2.2, fun e => by subst e; have h1 := hx.1; have h2 := cod_timesIn (s := s) (k := k) (f := f); omega, fun e => by subst e; exact q.ex hx.1 (by decide) rfl hx.2.1 hx.2.2.1 hx.2.2.2.1 hx.2.2.2.2⟩⟩
  exact s_B_timesIn R M hn hs ⟨fun e h1 C1 L1 n1 l1 => v_W_timesIn_8 C1.fx ⟨ft_91 C1.fx, by decide, by decide, by rw [fl_91 C1.fx]; decide, fun F2 => q.ok (Or.inl rfl) e rfl C1 L1 n1 l1 rfl F2⟩, fun j9 e h1 C1 L1 n1 l1 => ⟨e, C1, L1, n1, l1⟩⟩
theorem cod_rarity {s : CS} {f : Int} : (cRarity s f).1.1 = 0 ∨ (cRarity s f).1.1 = 3 := by
  unfold cRarity
  repeat' (first | exact Or.inl rfl | exact Or.inr (rfl) | split)
theorem s_W_rarity {G : XG} {d : Nat} {h : XH} {Q : XV → XH → Prop} {X : Nat → XH → Prop} {s : CS} {f : Int} {n9 s9 : Int} (R : CIR h s) (M : Room h n9 s9) (hn : 0 ≤ n9) (hs : 0 ≤ s9) (q : CAW Q h [3] 91 (cRarity s f) idF n9 s9) : xwp G m_W_rarity (d + 10) 0 [xR 0, xI f, xR 91, xZ] [] h Q X := by
  refine v_W_rarity_0 (X9 := fun j9 h1 => (cRarity s f).1.1 = (j9 : Int) + 1 ∧ WFR h h1 (cRarity s f) n9 s9) R.fx ⟨?_, fun k9 h9 _ hx => ⟨fun e => by subst e; have h1 := hx.1; have h2 := cod_rarity (s := s) (f := f); omega, fun e => by subst e; have h1 := hx.1; have h2 := cod_rarity (s := s) (f := f); omega, fun e => by subst e; exact q.ex hx.1 (by decide) rfl hx.2.1 hx.2.2.1 hx.2.2.2.1 hx.2.2.2.2⟩⟩
  exact s_B_rarity R M hn hs ⟨fun e h1 C1 L1 n1 l1 => v_W_rarity_7 C1.fx ⟨ft_91 C1.fx, by decide, by decide, by rw [fl_91 C1.fx]; decide, fun F2 => q.ok (Or.inl rfl) e rfl C1 L1 n1 l1 rfl F2⟩, fun j9 e h1 C1 L1 n1 l1 => ⟨e, C1, L1, n1, l1⟩⟩
theorem cod_parts {s : CS} : (cParts s).1.1 = 0 ∨ (cParts s).1.1 = 2 := by
  unfold cParts
  repeat' (first | exact Or.inl rfl | exact Or.inr (rfl) | split)
theorem s_W_parts {G : XG} {d : Nat} {h : XH} {Q : XV → XH → Prop} {X : Nat → XH → Prop} {s : CS} {n9 s9 : Int} (R : CIR h s) (M : Room h n9 s9) (hn : 0 ≤ n9) (hs : 0 ≤ s9) (q : CAW Q h [2] 91 (cParts s) idF n9 s9) : xwp G m_W_parts (d + 9) 0 [xR 0, xR 91, xZ] [] h Q X := by
  refine v_W_parts_0 (X9 := fun j9 h1 => (cParts s).1.1 = (j9 : Int) + 1 ∧ WFR h h1 (cParts s) n9 s9) R.fx ⟨?_, fun k9 h9 _ hx => ⟨fun e => by subst e; have h1 := hx.1; have h2 := cod_parts (s := s); omega, fun e => by subst e; exact q.ex hx.1 (by decide) rfl hx.2.1 hx.2.2.1 hx.2.2.2.1 hx.2.2.2.2, fun e => by subst e; have h1 := hx.1; have h2 := cod_parts (s := s); omega⟩⟩
  exact s_B_parts R M hn hs ⟨fun e h1 C1 L1 n1 l1 => v_W_parts_6 C1.fx ⟨ft_91 C1.fx, by decide, by decide, by rw [fl_91 C1.fx]; decide, fun F2 => q.ok (Or.inl rfl) e rfl C1 L1 n1 l1 rfl F2⟩, fun j9 e h1 C1 L1 n1 l1 => ⟨e, C1, L1, n1, l1⟩⟩
theorem cod_found {s : CS} : (cFound s).1.1 = 0 ∨ (cFound s).1.1 = 2 := by
  unfold cFound
  repeat' (first | exact Or.inl rfl | exact Or.inr (rfl) | split)
theorem s_W_found {G : XG} {d : Nat} {h : XH} {Q : XV → XH → Prop} {X : Nat → XH → Prop} {s : CS} {n9 s9 : Int} (R : CIR h s) (M : Room h n9 s9) (hn : 0 ≤ n9) (hs : 0 ≤ s9) (q : CAW Q h [2] 91 (cFound s) idF n9 s9) : xwp G m_W_found (d + 9) 0 [xR 0, xR 91, xZ] [] h Q X := by
  refine v_W_found_0 (X9 := fun j9 h1 => (cFound s).1.1 = (j9 : Int) + 1 ∧ WFR h h1 (cFound s) n9 s9) R.fx ⟨?_, fun k9 h9 _ hx => ⟨fun e => by subst e; have h1 := hx.1; have h2 := cod_found (s := s); omega, fun e => by subst e; exact q.ex hx.1 (by decide) rfl hx.2.1 hx.2.2.1 hx.2.2.2.1 hx.2.2.2.2, fun e => by subst e; have h1 := hx.1; have h2 := cod_found (s := s); omega⟩⟩
  exact s_B_found R M hn hs ⟨fun e h1 C1 L1 n1 l1 => v_W_found_6 C1.fx ⟨ft_91 C1.fx, by decide, by decide, by rw [fl_91 C1.fx]; decide, fun F2 => q.ok (Or.inl rfl) e rfl C1 L1 n1 l1 rfl F2⟩, fun j9 e h1 C1 L1 n1 l1 => ⟨e, C1, L1, n1, l1⟩⟩
theorem cod_keyFound {s : CS} {p : Int} : (cKeyFound s p).1.1 = 0 ∨ (cKeyFound s p).1.1 = 2 ∨ (cKeyFound s p).1.1 = 3 := by
  unfold cKeyFound
  repeat' (first | exact Or.inl rfl | exact Or.inr (Or.inl rfl) | exact Or.inr (Or.inr (rfl)) | split)
theorem s_W_keyFound {G : XG} {d : Nat} {h : XH} {Q : XV → XH → Prop} {X : Nat → XH → Prop} {s : CS} {p : Int} {n9 s9 : Int} (R : CIR h s) (M : Room h n9 s9) (hn : 0 ≤ n9) (hs : 0 ≤ s9) (q : CAW Q h [2, 3] 91 (cKeyFound s p) idF n9 s9) : xwp G m_W_keyFound (d + 9) 0 [xR 0, xI p, xR 91, xZ] [] h Q X := by
  refine v_W_keyFound_0 (X9 := fun j9 h1 => (cKeyFound s p).1.1 = (j9 : Int) + 1 ∧ WFR h h1 (cKeyFound s p) n9 s9) R.fx ⟨?_, fun k9 h9 _ hx => ⟨fun e => by subst e; have h1 := hx.1; have h2 := cod_keyFound (s := s) (p := p); omega, fun e => by subst e; exact q.ex hx.1 (by decide) rfl hx.2.1 hx.2.2.1 hx.2.2.2.1 hx.2.2.2.2, fun e => by subst e; exact q.ex hx.1 (by decide) rfl hx.2.1 hx.2.2.1 hx.2.2.2.1 hx.2.2.2.2⟩⟩
  exact s_B_keyFound R M hn hs ⟨fun e h1 C1 L1 n1 l1 => v_W_keyFound_7 C1.fx ⟨ft_91 C1.fx, by decide, by decide, by rw [fl_91 C1.fx]; decide, fun F2 => q.ok (Or.inl rfl) e rfl C1 L1 n1 l1 rfl F2⟩, fun j9 e h1 C1 L1 n1 l1 => ⟨e, C1, L1, n1, l1⟩⟩
theorem cod_weightFound {s : CS} {p : Int} : (cWeightFound s p).1.1 = 0 ∨ (cWeightFound s p).1.1 = 2 ∨ (cWeightFound s p).1.1 = 3 := by
  unfold cWeightFound
  repeat' (first | exact Or.inl rfl | exact Or.inr (Or.inl rfl) | exact Or.inr (Or.inr (rfl)) | split)
theorem s_W_weightFound {G : XG} {d : Nat} {h : XH} {Q : XV → XH → Prop} {X : Nat → XH → Prop} {s : CS} {p : Int} {n9 s9 : Int} (R : CIR h s) (M : Room h n9 s9) (hn : 0 ≤ n9) (hs : 0 ≤ s9) (q : CAW Q h [2, 3] 91 (cWeightFound s p) idF n9 s9) : xwp G m_W_weightFound (d + 9) 0 [xR 0, xI p, xR 91, xZ] [] h Q X := by
  refine v_W_weightFound_0 (X9 := fun j9 h1 => (cWeightFound s p).1.1 = (j9 : Int) + 1 ∧ WFR h h1 (cWeightFound s p) n9 s9) R.fx ⟨?_, fun k9 h9 _ hx => ⟨fun e => by subst e; have h1 := hx.1; have h2 := cod_weightFound (s := s) (p := p); omega, fun e => by subst e; exact q.ex hx.1 (by decide) rfl hx.2.1 hx.2.2.1 hx.2.2.2.1 hx.2.2.2.2, fun e => by subst e; exact q.ex hx.1 (by decide) rfl hx.2.1 hx.2.2.1 hx.2.2.2.1 hx.2.2.2.2⟩⟩
  exact s_B_weightFound R M hn hs ⟨fun e h1 C1 L1 n1 l1 => v_W_weightFound_7 C1.fx ⟨ft_91 C1.fx, by decide, by decide, by rw [fl_91 C1.fx]; decide, fun F2 => q.ok (Or.inl rfl) e rfl C1 L1 n1 l1 rfl F2⟩, fun j9 e h1 C1 L1 n1 l1 => ⟨e, C1, L1, n1, l1⟩⟩
theorem cod_foundOn {s : CS} {sh : Int} : (cFoundOn s sh).1.1 = 0 ∨ (cFoundOn s sh).1.1 = 2 ∨ (cFoundOn s sh).1.1 = 3 := by
  unfold cFoundOn
  repeat' (first | exact Or.inl rfl | exact Or.inr (Or.inl rfl) | exact Or.inr (Or.inr (rfl)) | split)
theorem s_W_foundOn {G : XG} {d : Nat} {h : XH} {Q : XV → XH → Prop} {X : Nat → XH → Prop} {s : CS} {sh : Int} {n9 s9 : Int} (R : CIR h s) (M : Room h n9 s9) (hn : 0 ≤ n9) (hs : 0 ≤ s9) (q : CAW Q h [2, 3] 91 (cFoundOn s sh) idF n9 s9) : xwp G m_W_foundOn (d + 9) 0 [xR 0, xI sh, xR 91, xZ] [] h Q X := by
  refine v_W_foundOn_0 (X9 := fun j9 h1 => (cFoundOn s sh).1.1 = (j9 : Int) + 1 ∧ WFR h h1 (cFoundOn s sh) n9 s9) R.fx ⟨?_, fun k9 h9 _ hx => ⟨fun e => by subst e; have h1 := hx.1; have h2 := cod_foundOn (s := s) (sh := sh); omega, fun e => by subst e; exact q.ex hx.1 (by decide) rfl hx.2.1 hx.2.2.1 hx.2.2.2.1 hx.2.2.2.2, fun e => by subst e; exact q.ex hx.1 (by decide) rfl hx.2.1 hx.2.2.1 hx.2.2.2.1 hx.2.2.2.2⟩⟩
  exact s_B_foundOn R M hn hs ⟨fun e h1 C1 L1 n1 l1 => v_W_foundOn_7 C1.fx ⟨ft_91 C1.fx, by decide, by decide, by rw [fl_91 C1.fx]; decide, fun F2 => q.ok (Or.inl rfl) e rfl C1 L1 n1 l1 rfl F2⟩, fun j9 e h1 C1 L1 n1 l1 => ⟨e, C1, L1, n1, l1⟩⟩
theorem cod_placeOf {s : CS} {k : Int} : (cPlaceOf s k).1.1 = 0 ∨ (cPlaceOf s k).1.1 = 2 ∨ (cPlaceOf s k).1.1 = 1 := by
  unfold cPlaceOf
  repeat' (first | exact Or.inl rfl | exact Or.inr (Or.inl rfl) | exact Or.inr (Or.inr (rfl)) | split)
theorem s_W_placeOf {G : XG} {d : Nat} {h : XH} {Q : XV → XH → Prop} {X : Nat → XH → Prop} {s : CS} {k : Int} {n9 s9 : Int} (R : CIR h s) (M : Room h n9 s9) (hn : 0 ≤ n9) (hs : 0 ≤ s9) (q : CAW Q h [2, 1] 91 (cPlaceOf s k) idF n9 s9) : xwp G m_W_placeOf (d + 9) 0 [xR 0, xI k, xR 91, xZ] [] h Q X := by
  refine v_W_placeOf_0 (X9 := fun j9 h1 => (cPlaceOf s k).1.1 = (j9 : Int) + 1 ∧ WFR h h1 (cPlaceOf s k) n9 s9) R.fx ⟨?_, fun k9 h9 _ hx => ⟨fun e => by subst e; exact q.ex hx.1 (by decide) rfl hx.2.1 hx.2.2.1 hx.2.2.2.1 hx.2.2.2.2, fun e => by subst e; exact q.ex hx.1 (by decide) rfl hx.2.1 hx.2.2.1 hx.2.2.2.1 hx.2.2.2.2, fun e => by subst e; have h1 := hx.1; have h2 := cod_placeOf (s := s) (k := k); omega⟩⟩
  exact s_B_placeOf R M hn hs ⟨fun e h1 C1 L1 n1 l1 => v_W_placeOf_7 C1.fx ⟨ft_91 C1.fx, by decide, by decide, by rw [fl_91 C1.fx]; decide, fun F2 => q.ok (Or.inl rfl) e rfl C1 L1 n1 l1 rfl F2⟩, fun j9 e h1 C1 L1 n1 l1 => ⟨e, C1, L1, n1, l1⟩⟩
theorem cod_partWeight {s : CS} {k p : Int} : (cPartWeight s k p).1.1 = 0 ∨ (cPartWeight s k p).1.1 = 2 ∨ (cPartWeight s k p).1.1 = 1 ∨ (cPartWeight s k p).1.1 = 3 := by
  unfold cPartWeight
  repeat' (first | exact Or.inl rfl | exact Or.inr (Or.inl rfl) | exact Or.inr (Or.inr (Or.inl rfl)) | exact Or.inr (Or.inr (Or.inr (rfl))) | split)
theorem s_W_partWeight {G : XG} {d : Nat} {h : XH} {Q : XV → XH → Prop} {X : Nat → XH → Prop} {s : CS} {k p : Int} {n9 s9 : Int} (R : CIR h s) (M : Room h n9 s9) (hn : 0 ≤ n9) (hs : 0 ≤ s9) (q : CAW Q h [2, 1, 3] 91 (cPartWeight s k p) idF n9 s9) : xwp G m_W_partWeight (d + 9) 0 [xR 0, xI k, xI p, xR 91, xZ] [] h Q X := by
  refine v_W_partWeight_0 (X9 := fun j9 h1 => (cPartWeight s k p).1.1 = (j9 : Int) + 1 ∧ WFR h h1 (cPartWeight s k p) n9 s9) R.fx ⟨?_, fun k9 h9 _ hx => ⟨fun e => by subst e; exact q.ex hx.1 (by decide) rfl hx.2.1 hx.2.2.1 hx.2.2.2.1 hx.2.2.2.2, fun e => by subst e; exact q.ex hx.1 (by decide) rfl hx.2.1 hx.2.2.1 hx.2.2.2.1 hx.2.2.2.2, fun e => by subst e; exact q.ex hx.1 (by decide) rfl hx.2.1 hx.2.2.1 hx.2.2.2.1 hx.2.2.2.2⟩⟩
  exact s_B_partWeight R M hn hs ⟨fun e h1 C1 L1 n1 l1 => v_W_partWeight_8 C1.fx ⟨ft_91 C1.fx, by decide, by decide, by rw [fl_91 C1.fx]; decide, fun F2 => q.ok (Or.inl rfl) e rfl C1 L1 n1 l1 rfl F2⟩, fun j9 e h1 C1 L1 n1 l1 => ⟨e, C1, L1, n1, l1⟩⟩
theorem cod_foundWithout {s : CS} {p : Int} : (cFoundWithout s p).1.1 = 0 ∨ (cFoundWithout s p).1.1 = 2 ∨ (cFoundWithout s p).1.1 = 3 := by
  unfold cFoundWithout
  repeat' (first | exact Or.inl rfl | exact Or.inr (Or.inl rfl) | exact Or.inr (Or.inr (rfl)) | split)
theorem s_W_foundWithout {G : XG} {d : Nat} {h : XH} {Q : XV → XH → Prop} {X : Nat → XH → Prop} {s : CS} {p : Int} {n9 s9 : Int} (R : CIR h s) (M : Room h n9 s9) (hn : 0 ≤ n9) (hs : 0 ≤ s9) (q : CAW Q h [2, 3] 91 (cFoundWithout s p) idF n9 s9) : xwp G m_W_foundWithout (d + 9) 0 [xR 0, xI p, xR 91, xZ] [] h Q X := by
  refine v_W_foundWithout_0 (X9 := fun j9 h1 => (cFoundWithout s p).1.1 = (j9 : Int) + 1 ∧ WFR h h1 (cFoundWithout s p) n9 s9) R.fx ⟨?_, fun k9 h9 _ hx => ⟨fun e => by subst e; have h1 := hx.1; have h2 := cod_foundWithout (s := s) (p := p); omega, fun e => by subst e; exact q.ex hx.1 (by decide) rfl hx.2.1 hx.2.2.1 hx.2.2.2.1 hx.2.2.2.2, fun e => by subst e; exact q.ex hx.1 (by decide) rfl hx.2.1 hx.2.2.1 hx.2.2.2.1 hx.2.2.2.2⟩⟩
  exact s_B_foundWithout R M hn hs ⟨fun e h1 C1 L1 n1 l1 => v_W_foundWithout_7 C1.fx ⟨ft_91 C1.fx, by decide, by decide, by rw [fl_91 C1.fx]; decide, fun F2 => q.ok (Or.inl rfl) e rfl C1 L1 n1 l1 rfl F2⟩, fun j9 e h1 C1 L1 n1 l1 => ⟨e, C1, L1, n1, l1⟩⟩
theorem cod_firstFit {s : CS} {k f : Int} : (cFirstFit s k f).1.1 = 0 ∨ (cFirstFit s k f).1.1 = 2 ∨ (cFirstFit s k f).1.1 = 1 ∨ (cFirstFit s k f).1.1 = 3 := by
  unfold cFirstFit
  repeat' (first | exact Or.inl rfl | exact Or.inr (Or.inl rfl) | exact Or.inr (Or.inr (Or.inl rfl)) | exact Or.inr (Or.inr (Or.inr (rfl))) | split)
theorem s_W_firstFit {G : XG} {d : Nat} {h : XH} {Q : XV → XH → Prop} {X : Nat → XH → Prop} {s : CS} {k f : Int} {n9 s9 : Int} (R : CIR h s) (M : Room h n9 s9) (hn : 0 ≤ n9) (hs : 0 ≤ s9) (q : CAW Q h [2, 1, 3] 91 (cFirstFit s k f) idF n9 s9) : xwp G m_W_firstFit (d + 9) 0 [xR 0, xI k, xI f, xR 91, xZ] [] h Q X := by
  refine v_W_firstFit_0 (X9 := fun j9 h1 => (cFirstFit s k f).1.1 = (j9 : Int) + 1 ∧ WFR h h1 (cFirstFit s k f) n9 s9) R.fx ⟨?_, fun k9 h9 _ hx => ⟨fun e => by subst e; exact q.ex hx.1 (by decide) rfl hx.2.1 hx.2.2.1 hx.2.2.2.1 hx.2.2.2.2, fun e => by subst e; exact q.ex hx.1 (by decide) rfl hx.2.1 hx.2.2.1 hx.2.2.2.1 hx.2.2.2.2, fun e => by subst e; exact q.ex hx.1 (by decide) rfl hx.2.1 hx.2.2.1 hx.2.2.2.1 hx.2.2.2.2⟩⟩
  exact s_B_firstFit R M hn hs ⟨fun e h1 C1 L1 n1 l1 => v_W_firstFit_8 C1.fx ⟨ft_91 C1.fx, by decide, by decide, by rw [fl_91 C1.fx]; decide, fun F2 => q.ok (Or.inl rfl) e rfl C1 L1 n1 l1 rfl F2⟩, fun j9 e h1 C1 L1 n1 l1 => ⟨e, C1, L1, n1, l1⟩⟩
theorem cod_meanWeight {s : CS} : (cMeanWeight s).1.1 = 0 ∨ (cMeanWeight s).1.1 = 2 := by
  unfold cMeanWeight
  repeat' (first | exact Or.inl rfl | exact Or.inr (rfl) | split)
theorem s_W_meanWeight {G : XG} {d : Nat} {h : XH} {Q : XV → XH → Prop} {X : Nat → XH → Prop} {s : CS} {n9 s9 : Int} (R : CIR h s) (M : Room h n9 s9) (hn : 0 ≤ n9) (hs : 0 ≤ s9) (q : CAW Q h [2] 92 (cMeanWeight s) idF n9 s9) : xwp G m_W_meanWeight (d + 9) 0 [xR 0, xR 92, xZ] [] h Q X := by
  refine v_W_meanWeight_0 (X9 := fun j9 h1 => (cMeanWeight s).1.1 = (j9 : Int) + 1 ∧ WFR h h1 (cMeanWeight s) n9 s9) R.fx ⟨?_, fun k9 h9 _ hx => ⟨fun e => by subst e; have h1 := hx.1; have h2 := cod_meanWeight (s := s); omega, fun e => by subst e; exact q.ex hx.1 (by decide) rfl hx.2.1 hx.2.2.1 hx.2.2.2.1 hx.2.2.2.2, fun e => by subst e; have h1 := hx.1; have h2 := cod_meanWeight (s := s); omega⟩⟩
  exact s_B_meanWeight R M hn hs ⟨fun e h1 C1 L1 n1 l1 => v_W_meanWeight_6 C1.fx ⟨ft_92 C1.fx, by decide, by decide, by rw [fl_92 C1.fx]; decide, fun F2 => q.ok (Or.inr rfl) e rfl C1 L1 n1 l1 rfl F2⟩, fun j9 e h1 C1 L1 n1 l1 => ⟨e, C1, L1, n1, l1⟩⟩

end
